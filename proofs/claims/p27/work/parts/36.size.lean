/-! how many elements a set has -/
def pop (x : Nat) : Nat := ct (fun i => x.testBit i) 16
theorem bc_all : (List.range 4096).all (fun x => decide (pJ6_bitCount_0f7a4 (nI x) = some (nI (pop x)))) = true := by decide +kernel
theorem bc_eq {x : Nat} (h : x < 4096) : pJ6_bitCount_0f7a4 (nI x) = some (nI (pop x)) := co_dec (P := fun x => pJ6_bitCount_0f7a4 (nI x) = some (nI (pop x))) bc_all h
theorem pop_le (x : Nat) : pop x ≤ 16 := ct_le _ 16
theorem ct_top {x : Nat} : ∀ (d j : Nat), x / 2 ^ j = 0 → ct (fun i => x.testBit i) (j + d) = ct (fun i => x.testBit i) j
  | 0, _, _ => rfl
  | d + 1, j, h => by
    have hx : x < 2 ^ (j + d) := by
      have h1 : x < 2 ^ j := by
        rcases Nat.div_eq_zero_iff.mp h with q | q
        · exact absurd q (Nat.pos_iff_ne_zero.mp (Nat.two_pow_pos j))
        · exact q
      exact Nat.lt_of_lt_of_le h1 (Nat.pow_le_pow_right (by omega) (by omega))
    rw [← Nat.add_assoc, ct, Nat.testBit_lt_two_pow hx, ct_top d j h]
    rfl
theorem size_eq {x : Nat} (hx : x < 65536) : pX10_sizeOf (nI x) = some (nI (pop x)) := by
  unfold pX10_sizeOf
  have hl := lp_first (step := pX10_sizeOf_L4) (fun i => (nI (ct (fun j => x.testBit j) i), nI (x / 2 ^ i))) (fun i => x / 2 ^ i == 0) (fun i => nI (ct (fun j => x.testBit j) i)) (nI (pop x)) 16 (fun i hi => by
    unfold pX10_sizeOf_L4
    dsimp only
    have hb : x / 2 ^ i < 65536 := Nat.lt_of_le_of_lt (Nat.div_le_self _ _) hx
    by_cases hz : x / 2 ^ i = 0
    · rw [if_pos (by rw [hz]; decide)]
      simp [hz]
    · rw [if_neg (by rw [tI_0, nI_leI (by omega) (by omega)]; exact Nat.not_le.mpr (Nat.pos_of_ne_zero hz)), tI_1, tI_and, Nat.and_one_is_mod, tI_shr (by omega) (by omega), nI_add, Nat.div_div_eq_div_mul, ← Nat.pow_succ, ct, Nat.testBit_eq_decide_div_mod_eq]
      rcases Nat.mod_two_eq_zero_or_one (x / 2 ^ i) with q | q <;> simp [hz, q]) (by
    unfold pX10_sizeOf_L4
    dsimp only
    rw [show x / 2 ^ 16 = 0 from Nat.div_eq_of_lt (by omega), if_pos (by decide)]
    rfl)
  have e0 : x / 2 ^ 0 = x := by simp
  have hl : lp pX10_sizeOf_L4 (nI 0, nI (x / 2 ^ 0)) = _ := hl
  rw [e0] at hl
  have hl : lp pX10_sizeOf_L4 (0, nI x) = _ := hl
  rw [hl]
  cases hf : fst (fun i => x / 2 ^ i == 0) 16 with
  | none => rfl
  | some j =>
    obtain ⟨h1, h2, -⟩ := fst_some hf
    have h2 : x / 2 ^ j = 0 := by simpa using h2
    have := ct_top (16 - j) j h2
    rw [show j + (16 - j) = 16 by omega] at this
    show some (nI (ct (fun j => x.testBit j) j)) = some (nI (pop x))
    rw [← this]
    rfl
/-! the price of a set -/
def sm (f : Nat → Nat) : Nat → Nat
  | 0 => 0
  | n + 1 => sm f n + f n
theorem sm_le {f : Nat → Nat} {c : Nat} : ∀ {n : Nat}, (∀ i, i < n → f i ≤ c) → sm f n ≤ n * c
  | 0, _ => by simp [sm]
  | n + 1, h => by
    have h1 := sm_le (n := n) (fun i hi => h i (by omega))
    have h2 := h n (by omega)
    rw [sm, Nat.succ_mul]
    omega
def price (C : Nat → Nat) (n x : Nat) : Nat := sm (fun e => if x.testBit e then C e else 0) n
theorem price_le {C : Nat → Nat} {n x : Nat} (hn : n ≤ 10) (hC : ∀ e, e < 10 → C e ≤ 20) : price C n x ≤ 200 := by
  have := sm_le (f := fun e => if x.testBit e then C e else 0) (c := 20) (n := n) (fun i hi => by
    have := hC i (by omega)
    split <;> omega)
  unfold price
  omega
theorem price_eq {C : Nat → Nat} {n x : Nat} {cs : Nat → Int32} (hn : n ≤ 10) (hx : x < 1024) (hC : ∀ e, e < 10 → cs e = nI (C e)) : pX9_priceOf cs (nI n) (nI x) = some (nI (price C n x)) := by
  unfold pX9_priceOf
  have hl := lp_det (step := pX9_priceOf_L4 cs (nI n) (nI x)) (fun i => (nI (sm (fun e => if x.testBit e then C e else 0) i), nI i)) (nI (price C n x)) n (fun i hi => by
    unfold pX9_priceOf_L4
    dsimp only
    rw [if_neg (nI_ge hi (by omega)), has_eq (by omega) (by omega), Option.bind_some, if_bI, gd_t (vp_in_nI (by omega) (by omega)), nI_clamp (by omega), hC i (by omega), nI_1, sm, nI_add]
    cases x.testBit i <;> simp) (by
    unfold pX9_priceOf_L4
    dsimp only
    rw [if_pos (nI_le (Nat.le_refl n) (by omega))]
    rfl)
  have hl : lp (pX9_priceOf_L4 cs (nI n) (nI x)) (0, 0) = _ := hl
  rw [hl]
  rfl
theorem ycost_eq {C : Nat → Nat} {n x : Nat} {cs : Nat → Int32} (hn : n ≤ 10) (hx : x < 1024) (hC : ∀ e, e < 10 → cs e = nI (C e)) : pX10_costOf (nI n) cs (nI x) = some (nI (price C n x)) := by
  unfold pX10_costOf
  have hl := lp_det (step := pX10_costOf_L4 (nI n) cs (nI x)) (fun i => (nI (sm (fun e => if x.testBit e then C e else 0) i), nI i)) (nI (price C n x)) n (fun i hi => by
    unfold pX10_costOf_L4
    dsimp only
    rw [if_neg (nI_ge hi (by omega)), gd_t (vp_in_nI (by omega) (by omega)), nI_clamp (by omega), hC i (by omega), nI_1, sm]
    cases hb : x.testBit i with
    | true =>
      rw [if_pos ((tI_bit1 (by omega) (by omega)).mpr hb), Option.bind_some, nI_add]
      simp
    | false =>
      rw [if_neg (fun q => by rw [tI_bit1 (by omega) (by omega), hb] at q; cases q), Option.bind_some, tI_0, nI_add]
      simp) (by
    unfold pX10_costOf_L4
    dsimp only
    rw [if_pos (nI_le (Nat.le_refl n) (by omega))]
    rfl)
  have hl : lp (pX10_costOf_L4 (nI n) cs (nI x)) (0, 0) = _ := hl
  rw [hl]
  rfl
/-- what is least: 100 times the price (if w), and the size -/
def rk (w : Bool) (C : Nat → Nat) (n x : Nat) : Nat := (if w then 100 * price C n x else 0) + pop x
def pw (w : Bool) (C : Nat → Nat) (n x : Nat) : Nat := if w then price C n x else 0
theorem yrank_eq {C : Nat → Nat} {n x : Nat} {cs : Nat → Int32} (w : Bool) (hn : n ≤ 10) (hx : x < 1024) (hC : ∀ e, e < 10 → cs e = nI (C e)) : pX10_rank (nI n) cs (nI x) (bI w) = some (nI (rk w C n x)) := by
  unfold pX10_rank rk
  cases w with
  | true =>
    rw [if_pos bI_t, ycost_eq hn hx hC, Option.bind_some, Option.bind_some, size_eq (by omega), Option.bind_some, show (100 : Int32) = nI 100 from rfl, pk_mul, nI_add]
    rfl
  | false =>
    rw [if_neg (by decide), Option.bind_some, size_eq (by omega), Option.bind_some, tI_0, nI_add]
    rfl
/-- the best so far -/
def bs (M : Nat → Bool) (r : Nat → Nat) : Nat → Option Nat
  | 0 => none
  | i + 1 => match bs M r i with
    | none => if M i then some i else none
    | some j => if M i && decide (r i < r j) then some i else some j
theorem bs_lt {M : Nat → Bool} {r : Nat → Nat} : ∀ {i j : Nat}, bs M r i = some j → j < i
  | 0, j, h => by cases h
  | i + 1, j, h => by
    rw [bs] at h
    cases hb : bs M r i with
    | none =>
      rw [hb] at h
      dsimp only at h
      split at h
      · cases h; omega
      · cases h
    | some q =>
      rw [hb] at h
      dsimp only at h
      have := bs_lt hb
      split at h
      · cases h; omega
      · cases h; omega
