/-! star -/
theorem com_bit {A e : Nat} {S : Nat → Nat} {q : Nat → Bool} : ∀ {k : Nat}, (com A S q k).testBit e = (A.testBit e && allb (fun i => !q i || (S i).testBit e) k)
  | 0 => by simp [com, allb]
  | k + 1 => by
    have ih := com_bit (A := A) (e := e) (S := S) (q := q) (k := k)
    rw [com, allb]
    cases q k with
    | false => simp [ih]
    | true => rw [if_pos rfl, Nat.testBit_and, ih]; simp [Bool.and_assoc]
theorem cm_iff {n k x e : Nat} {S : Nat → Nat} : (cm n k S x).testBit e = true ↔ e < n ∧ ∀ i, i < k → x.testBit i = true → (S i).testBit e = true := by
  unfold cm
  rw [com_bit, Bool.and_eq_true, Nat.testBit_two_pow_sub_one, decide_eq_true_eq, allb_iff]
  constructor
  · rintro ⟨h1, h2⟩
    refine ⟨h1, fun i hi hb => ?_⟩
    have := h2 i hi
    rw [hb] at this
    simpa using this
  · rintro ⟨h1, h2⟩
    refine ⟨h1, fun i hi => ?_⟩
    cases hb : x.testBit i with
    | false => rfl
    | true => rw [h2 i hi hb]; rfl
def stB (n k : Nat) (S : Nat → Nat) (x : Nat) : Bool := sub (ag x S k) (cm n k S x)
theorem stB_iff {n k x : Nat} {S : Nat → Nat} (hS : ∀ i, i < k → S i < 2 ^ n) : stB n k S x = true ↔ ∀ e, 1 < hc x S e k → ∀ i, i < k → x.testBit i = true → (S i).testBit e = true := by
  unfold stB
  rw [sub_bits]
  constructor
  · intro h e he
    have := h e (by rw [ag_bit]; exact decide_eq_true he)
    exact (cm_iff.mp this).2
  · intro h e he
    rw [ag_bit, decide_eq_true_eq] at he
    refine cm_iff.mpr ⟨?_, h e he⟩
    rcases Nat.lt_or_ge e n with q | q
    · exact q
    · rw [hc_hi hS q] at he; omega
theorem hc_pop {x e k : Nat} {S : Nat → Nat} : hc x S e k ≤ ct (fun i => x.testBit i) k := by
  unfold hc
  refine ct_le_of (fun i _ hh => ?_)
  unfold hold at hh
  simp only [Bool.and_eq_true] at hh
  exact hh.1
theorem hc_full {x e k : Nat} {S : Nat → Nat} (h : ct (fun i => x.testBit i) k ≤ hc x S e k) : ∀ i, i < k → x.testBit i = true → (S i).testBit e = true := by
  intro i hi hb
  cases hs : (S i).testBit e with
  | true => rfl
  | false =>
    have := ct_lt_of (p := fun i => x.testBit i) (q := hold x S e) (n := k) (j := i) (fun j _ hh => by
      unfold hold at hh
      simp only [Bool.and_eq_true] at hh
      exact hh.1) hi hb (by unfold hold; rw [hs, Bool.and_false])
    unfold hc at h
    omega
theorem hc_all {x e k : Nat} {S : Nat → Nat} (h : ∀ i, i < k → x.testBit i = true → (S i).testBit e = true) : hc x S e k = ct (fun i => x.testBit i) k := by
  unfold hc
  refine ct_cong (fun i hi => ?_)
  unfold hold
  cases hb : x.testBit i with
  | false => rfl
  | true => rw [h i hi hb]; rfl
theorem pop_k {x k : Nat} (hk : k ≤ 16) (hx : x < 2 ^ k) : ct (fun i => x.testBit i) k = pop x := by
  unfold pop
  have := ct_top (x := x) (16 - k) k (Nat.div_eq_of_lt hx)
  rw [show k + (16 - k) = 16 by omega] at this
  exact this.symm
theorem st_small {n k x : Nat} {S : Nat → Nat} (hS : ∀ i, i < k → S i < 2 ^ n) (hk : k ≤ 16) (hx : x < 2 ^ k) (h : pop x ≤ 2) : stB n k S x = true := by
  rw [stB_iff hS]
  intro e he
  refine hc_full ?_
  rw [pop_k hk hx]
  omega
noncomputable def stK (n k : Nat) (S : Nat → Nat) (x : Nat) : Int32 := if pop x ≤ 1 then -1 else nI (cm n k S x)
theorem cm_lt {n k x : Nat} {S : Nat → Nat} : cm n k S x < 2 ^ n := by
  have := com_le (A := 2 ^ n - 1) (S := S) (q := fun i => x.testBit i) (k := k)
  have := tI_pp n
  unfold cm
  omega
theorem nI_m1 {j : Nat} (h : j < 2 ^ 31) : ¬ nI j = -1 := by
  intro q
  have := congrArg Int32.toInt q
  rw [nI_toInt h] at this
  have e1 : (-1 : Int32).toInt = -1 := rfl
  omega
theorem c_st {n k : Nat} {S : Nat → Nat} {rows : Nat → Int32} (hk : k ≤ 16) (hn : n ≤ 10) (hR : ∀ i, i < k → rows i = nI (S i) ∧ S i < 2 ^ n) (u v w : Int32) : pX3_findStar 16 (nI k) rows u v w = some (nI (scn (stB n k S) (stK n k S) 0 (2 ^ k) (0, 0, 1)).1, (scn (stB n k S) (stK n k S) 0 (2 ^ k) (0, 0, 1)).2.1, nI (scn (stB n k S) (stK n k S) 0 (2 ^ k) (0, 0, 1)).2.2) := by
  have hp := tI_p hn
  have hlt : ∀ i, i < k → S i < 1024 := fun i hi => by have := (hR i hi).2; omega
  have hS : ∀ i, i < k → S i < 2 ^ n := fun i hi => (hR i hi).2
  have hpw : ∀ i, 2 ^ (i + 1) = 2 ^ i * 2 := fun i => Nat.pow_succ 2 i
  have h := search_eq (rows := rows) (stB n k S) (stK n k S) hk (fun i hi => (hR i hi).1) hlt (fun i a hi ha hP => by
    have hpi := tI_pp i
    have hw := hpw i
    have hE : 2 ^ i * (2 * a) < 2 ^ k := by omega
    have hO : 2 ^ i * (2 * a + 1) < 2 ^ k := by rw [b_add]; omega
    have hpo := pop_odd (a := a) (show i < 16 by omega)
    by_cases q : pop (2 ^ i * (2 * a)) ≤ 1
    · have e1 : stK n k S (2 ^ i * (2 * a)) = -1 := if_pos q
      rw [st_small hS hk hO (by omega)]
      exact ⟨fun _ => rfl, fun _ => Or.inl e1⟩
    · have e1 : stK n k S (2 ^ i * (2 * a)) = nI (cm n k S (2 ^ i * (2 * a))) := if_neg q
      have hcl := cm_lt (n := n) (k := k) (S := S) (x := 2 ^ i * (2 * a))
      have hal : S i &&& on (2 ^ i * (2 * a)) S k < 1024 := Nat.lt_of_le_of_lt Nat.and_le_left (hlt i hi)
      have hpk := pop_k hk hE
      rw [e1, tI_and, nI_eq (by omega) (by omega)]
      rw [stB_iff hS] at hP ⊢
      constructor
      · rintro (h | h)
        · exact absurd h (nI_m1 (by omega))
        · intro e he j hj hb
          rw [hc_odd hi] at he
          have hbit := congrArg (fun z => z.testBit e) h
          simp only [Nat.testBit_and, on_bit] at hbit
          cases hs : (S i).testBit e with
          | true =>
            rw [hs, if_pos rfl] at he
            rw [hs, Bool.true_and, decide_eq_true (by omega)] at hbit
            have hcm := (cm_iff.mp hbit.symm).2
            rw [b_odd] at hb
            by_cases qj : i = j
            · subst qj; exact hs
            · rw [decide_eq_false qj, Bool.or_false] at hb
              exact hcm j hj hb
          | false =>
            rw [hs] at he
            simp only [Bool.false_eq_true, if_false, Nat.add_zero] at he
            have hall := hP e he
            have hen : e < n := by
              rcases Nat.lt_or_ge e n with c | c
              · exact c
              · rw [hc_hi hS c] at he; omega
            have := cm_iff.mpr ⟨hen, hall⟩
            rw [← hbit, hs] at this
            cases this
      · intro hO2
        right
        apply Nat.eq_of_testBit_eq
        intro e
        rw [Nat.testBit_and, on_bit, Bool.eq_iff_iff, Bool.and_eq_true, decide_eq_true_eq, cm_iff]
        constructor
        · rintro ⟨h1, h2⟩
          have hall := hO2 e (by rw [hc_odd hi, h1, if_pos rfl]; omega)
          refine ⟨?_, fun j hj hb => hall j hj (by rw [b_odd, hb]; rfl)⟩
          rcases Nat.lt_or_ge e n with c | c
          · exact c
          · rw [Nat.testBit_lt_two_pow (Nat.lt_of_lt_of_le (hS i hi) (Nat.pow_le_pow_right (by omega) c))] at h1
            cases h1
        · rintro ⟨h1, h2⟩
          have hq := hc_all h2
          rw [hpk] at hq
          have hall := hO2 e (by rw [hc_odd hi]; omega)
          exact ⟨hall i hi (by rw [b_odd]; simp), by omega⟩) (fun i a hi ha hP hP2 => by
    have hpi := tI_pp i
    have hw := hpw i
    have hE : 2 ^ i * (2 * a) < 2 ^ k := by omega
    have hO : 2 ^ i * (2 * a + 1) < 2 ^ k := by rw [b_add]; omega
    have hpo := pop_odd (a := a) (show i < 16 by omega)
    have hpkE := pop_k hk hE
    have hpkO := pop_k hk hO
    by_cases q : pop (2 ^ i * (2 * a)) ≤ 1
    · have e1 : stK n k S (2 ^ i * (2 * a)) = -1 := if_pos q
      by_cases q1 : pop (2 ^ i * (2 * a)) = 1
      · rw [if_pos ⟨e1, q1⟩]
        have e2 : stK n k S (2 ^ i * (2 * a + 1)) = nI (cm n k S (2 ^ i * (2 * a + 1))) := if_neg (by omega)
        rw [e2, tI_and]
        congr 1
        apply Nat.eq_of_testBit_eq
        intro e
        rw [Nat.testBit_and, on_bit, Bool.eq_iff_iff, Bool.and_eq_true, decide_eq_true_eq, cm_iff]
        constructor
        · rintro ⟨h1, h2⟩
          refine ⟨?_, hc_full (by rw [hpkO, hc_odd hi, h1, if_pos rfl]; omega)⟩
          rcases Nat.lt_or_ge e n with c | c
          · exact c
          · rw [Nat.testBit_lt_two_pow (Nat.lt_of_lt_of_le (hS i hi) (Nat.pow_le_pow_right (by omega) c))] at h1
            cases h1
        · rintro ⟨h1, h2⟩
          refine ⟨h2 i hi (by rw [b_odd]; simp), ?_⟩
          have hq := hc_all (S := S) (x := 2 ^ i * (2 * a)) (e := e) (k := k) (fun j hj hb => h2 j hj (by rw [b_odd, hb]; rfl))
          omega
      · rw [if_neg (fun h => q1 h.2), e1]
        exact (if_pos (by omega)).symm
    · have e1 : stK n k S (2 ^ i * (2 * a)) = nI (cm n k S (2 ^ i * (2 * a))) := if_neg q
      have e2 : stK n k S (2 ^ i * (2 * a + 1)) = nI (cm n k S (2 ^ i * (2 * a + 1))) := if_neg (by omega)
      rw [if_neg (fun h => q (by omega)), e1, e2]
      congr 1
      rw [stB_iff hS] at hP2
      apply Nat.eq_of_testBit_eq
      intro e
      rw [Bool.eq_iff_iff, cm_iff, cm_iff]
      constructor
      · rintro ⟨h1, h2⟩
        have hq := hc_all h2
        exact ⟨h1, hP2 e (by rw [hc_odd hi]; omega)⟩
      · rintro ⟨h1, h2⟩
        exact ⟨h1, fun j hj hb => h2 j hj (by rw [b_odd, hb]; rfl)⟩) (fun i a y hi h1 h2 hy => by
    rw [stB_iff hS] at hy ⊢
    intro e he j hj hb
    have := hc_sub (S := S) (e := e) (k := k) (fun j => low_bits (j := j) h1 h2)
    exact hy e (by omega) j hj (low_bits h1 h2 hb)) k 18 0 0 1 0 (by omega) (Nat.le_refl k) (by omega) (by
    rw [Nat.mul_zero]
    exact st_small hS hk (tI_pp k) (by decide)) (by omega) (by omega)
  rw [Nat.mul_zero] at h
  have e0 : on 0 S k = 0 := by
    clear h
    induction k with
    | zero => rfl
    | succ k ih => rw [on, Nat.zero_testBit]; exact ih (by omega) (fun i hi => hR i (by omega)) (fun i hi => hlt i (by omega)) (fun i hi => hS i (by omega))
  have e1 : stK n k S 0 = -1 := if_pos (by decide)
  rw [e0, e1, show pop 0 = 0 by decide] at h
  unfold pX3_findStar pX3_start
  have h : pX3_search 18 16 rows 0 0 1 (nI k) 0 0 0 (-1) = _ := h
  rw [h]
  rfl
theorem st_pop {P : Nat → Bool} {K : Nat → Int32} {d : Nat} : scn P K 0 d (0, 0, 1) = (0, 0, 1) ∨ ((scn P K 0 d (0, 0, 1)).2.2 = pop (scn P K 0 d (0, 0, 1)).1 ∧ 2 ≤ (scn P K 0 d (0, 0, 1)).2.2) := by
  induction d with
  | zero => exact Or.inl rfl
  | succ d ih =>
    rw [scn]
    split
    · rename_i hh
      simp only [Bool.and_eq_true, decide_eq_true_eq] at hh
      right
      refine ⟨rfl, ?_⟩
      show 2 ≤ pop (0 + d)
      rcases ih with q | q
      · rw [q] at hh
        have := hh.2
        show 1 < _
        exact this
      · omega
    · exact ih
set_option maxHeartbeats 1000000 in
theorem y_st2 {n k : Nat} {S : Nat → Nat} {ls : Nat → Int32} (h : YN n k S ls) : lp (pX10_star_L27 (nI n) (nI k) ls) (0, 1) = some (nI (scn (stB n k S) (stK n k S) 0 (2 ^ k) (0, 0, 1)).1) := by
  have hk := h.2.2.1
  have h16 : 2 ^ k ≤ 65536 := by
    have := Nat.pow_le_pow_right (n := 2) (by omega) hk
    simpa using this
  have hpk := tI_pp k
  have hl := lp_det (step := pX10_star_L27 (nI n) (nI k) ls) (fun i => (nI (scn (stB n k S) (stK n k S) 0 (i + 1) (0, 0, 1)).1, nI (i + 1))) (nI (scn (stB n k S) (stK n k S) 0 (2 ^ k) (0, 0, 1)).1) (2 ^ k - 1) (fun i hi => by
    unfold pX10_star_L27 pX10_star_J70_4
    dsimp only
    have hb := (scn_b (P := stB n k S) (K := stK n k S) (x := 0) (N := 65536) (s := (0, 0, 1)) (by show 0 < 65536; omega) (by show 1 ≤ 16; omega) (d := i + 1) (by omega)).1
    have hpp := st_pop (P := stB n k S) (K := stK n k S) (d := i + 1)
    have hp1 := pop_le (i + 1)
    have hp2 := pop_le (scn (stB n k S) (stK n k S) 0 (i + 1) (0, 0, 1)).1
    have hsc : scn (stB n k S) (stK n k S) 0 (i + 1 + 1) (0, 0, 1) = if stB n k S (i + 1) && decide ((scn (stB n k S) (stK n k S) 0 (i + 1) (0, 0, 1)).2.2 < pop (i + 1)) then (i + 1, stK n k S (i + 1), pop (i + 1)) else scn (stB n k S) (stK n k S) 0 (i + 1) (0, 0, 1) := by rw [scn, Nat.zero_add]
    have hcond : (scn (stB n k S) (stK n k S) 0 (i + 1) (0, 0, 1)).2.2 < pop (i + 1) ↔ 1 < pop (i + 1) ∧ pop (scn (stB n k S) (stK n k S) 0 (i + 1) (0, 0, 1)).1 < pop (i + 1) := by
      rcases hpp with q | q
      · rw [q]
        have e : pop 0 = 0 := by decide
        dsimp only
        omega
      · omega
    rw [tI_shl (by omega), if_neg (nI_ge (by omega) (by omega)), size_eq (by omega), Option.bind_some, size_eq hb, Option.bind_some, nI_1, hsc, yst h (by omega), Option.bind_some, if_bI]
    by_cases q1 : 1 < pop (i + 1)
    · rw [if_neg (by show ¬ _ ≤ nI 1; exact nI_ge q1 (by omega))]
      by_cases q : pop (scn (stB n k S) (stK n k S) 0 (i + 1) (0, 0, 1)).1 < pop (i + 1)
      · rw [if_neg (nI_ge q (by omega)), decide_eq_true (hcond.mpr ⟨q1, q⟩), Bool.and_true]
        show (if stB n k S (i + 1) = true then _ else _) = _
        cases stB n k S (i + 1) <;> rfl
      · rw [if_pos (nI_le (by omega) (by omega)), decide_eq_false (fun h => q (hcond.mp h).2), Bool.and_false]; rfl
    · rw [if_pos (by show _ ≤ nI 1; exact nI_le (by omega) (by omega)), decide_eq_false (fun h => q1 (hcond.mp h).1), Bool.and_false]; rfl) (by
    unfold pX10_star_L27
    dsimp only
    rw [tI_shl (by omega), if_pos (nI_le (by omega) (by omega)), show 2 ^ k - 1 + 1 = 2 ^ k by omega])
  have e1 : scn (stB n k S) (stK n k S) 0 (0 + 1) (0, 0, 1) = (0, 0, 1) := by
    refine scn_none (fun y _ h2 => Or.inr ?_)
    rw [show y = 0 by omega]; decide
  try dsimp only at hl
  rw [e1] at hl
  exact hl
/-- with two sets there is a star -/
theorem st_core {n k : Nat} {S : Nat → Nat} (hk2 : 2 ≤ k) (hk : k ≤ 16) (hS : ∀ i, i < k → S i < 2 ^ n) : (scn (stB n k S) (stK n k S) 0 (2 ^ k) (0, 0, 1)).2.1 = nI (cm n k S (scn (stB n k S) (stK n k S) 0 (2 ^ k) (0, 0, 1)).1) := by
  have h4 : 4 ≤ 2 ^ k := by
    have := Nat.pow_le_pow_right (n := 2) (by omega) hk2
    simpa using this
  have hge := scn_ge (P := stB n k S) (K := stK n k S) (x := 0) (s := (0, 0, 1)) (d := 2 ^ k) (y := 3) (by omega) (by omega) (st_small hS hk (by omega) (by decide))
  have e3 : pop 3 = 2 := by decide
  rcases scn_or (P := stB n k S) (K := stK n k S) (x := 0) (s := (0, 0, 1)) (d := 2 ^ k) with q | ⟨q1, q2, q3⟩
  · rw [q] at hge
    have : pop 3 ≤ 1 := hge
    omega
  · rw [q2]
    exact if_neg (by omega)
