def hx (L : Nat) (R : Nat → Nat) (k e : Nat) : Nat := (hl L R e k).toNatClampNeg
theorem hx_one {L k e : Nat} {R : Nat → Nat} (hk : k ≤ 16) (h : hc L R e k = 1) : hl L R e k = nI (hx L R k e) ∧ hx L R k e < k ∧ hold L R e (hx L R k e) = true ∧ ∀ i, i < k → hold L R e i = true → i = hx L R k e := by
  obtain ⟨s, h1, h2, h3, h4⟩ := hl_one h
  have e : hx L R k e = s := by unfold hx; rw [h3, nI_clamp (by omega)]
  rw [e]
  exact ⟨h3, h1, h2, h4⟩
theorem yel {L k n : Nat} {R : Nat → Nat} {rest : Nat → Int32} (m : Int32) (hk : k ≤ 16) (hn : n ≤ 10) (hL : L < 65536) (hR : ∀ i, i < k → rest i = nI (R i)) (hlt : ∀ i, i < k → R i < 1024) : lp (pX10_earsOf_L47_5 (nI n) (nI k) (nI L, m, rest)) (0, 0, rest) = some ((fst (fun e => hc L R e k == 1) n).elim (0, rest) (fun e => (1, upd rest (hx L R k e) (nI (R (hx L R k e) ^^^ 2 ^ e))))) := by
  refine lp_hit (step := pX10_earsOf_L47_5 (nI n) (nI k) (nI L, m, rest)) (fun e => ((0 : Int32), nI e, rest)) _ (fun e => (1, nI (e + 1), upd rest (hx L R k e) (nI (R (hx L R k e) ^^^ 2 ^ e)))) _ _ n (fun e he => ?_) (fun e he hp => ?_) ?_
  · unfold pX10_earsOf_L47_5
    dsimp only
    rw [if_neg (nI_ge he (by omega)), if_pos rfl, yhold hk (by omega) hL hR hlt, Option.bind_some, nI_1]
    by_cases h1 : hc L R e k = 1
    · obtain ⟨h2, h3, h4, h5⟩ := hx_one hk h1
      rw [if_pos h1, h2, if_neg (by
        intro h
        have := congrArg Int32.toInt h
        rw [nI_toInt (by omega)] at this
        have e1 : (-1 : Int32).toInt = -1 := rfl
        omega), gd_t (vp_in_nI (show hx L R k e < 16 by omega) (by omega)), gd_t (vp_in_nI (show hx L R k e < 16 by omega) (by omega)), nI_clamp (by omega), hR _ h3, tI_shl (by omega), tI_xor]
      simp [h1]
    · rw [if_neg h1, if_pos rfl]
      simp [h1]
  · unfold pX10_earsOf_L47_5
    dsimp only
    rcases Nat.lt_or_ge (e + 1) n with q | q
    · rw [if_neg (nI_ge q (by omega)), if_neg (by decide)]
    · rw [if_pos (nI_le q (by omega))]
  · unfold pX10_earsOf_L47_5
    dsimp only
    rw [if_pos (nI_le (Nat.le_refl n) (by omega))]
theorem yset {L k : Nat} {R : Nat → Nat} {rest : Nat → Int32} (m : Int32) (hk : k ≤ 16) (hL : L < 65536) (hR : ∀ i, i < k → rest i = nI (R i)) (hlt : ∀ i, i < k → R i < 1024) : lp (pX10_earsOf_L96_10 (nI k) (m, rest)) (nI L, 0, 0) = some ((fst (goB L R k) k).elim (nI L, 0) (fun i => (nI (L ^^^ 2 ^ i), 1))) := by
  refine lp_hit (step := pX10_earsOf_L96_10 (nI k) (m, rest)) (fun i => (nI L, (0 : Int32), nI i)) _ (fun i => (nI (L ^^^ 2 ^ i), 1, nI (i + 1))) _ _ k (fun i hi => ?_) (fun i hi hp => ?_) ?_
  · unfold pX10_earsOf_L96_10
    dsimp only
    rw [if_neg (nI_ge hi (by omega)), if_pos rfl, ylies hk hL hR hlt hi, Option.bind_some, nI_1, if_bI, goB]
    cases hLi : L.testBit i with
    | false =>
      rw [if_neg (by rw [tI_bit1 (by omega) (by omega), hLi]; decide)]
      simp
    | true =>
      rw [if_pos (by rw [tI_bit1 (by omega) (by omega), hLi]), tI_shl (by omega), tI_xor]
      cases (R i == 0) || liesB L R k i <;> simp
  · unfold pX10_earsOf_L96_10
    dsimp only
    rcases Nat.lt_or_ge (i + 1) k with q | q
    · rw [if_neg (nI_ge q (by omega)), if_neg (by decide)]
    · rw [if_pos (nI_le q (by omega))]
  · unfold pX10_earsOf_L96_10
    dsimp only
    rw [if_pos (nI_le (Nat.le_refl k) (by omega))]
theorem yset1 {L k : Nat} {e47 : Int32 × (Nat → Int32)} : lp (pX10_earsOf_L96_10 (nI k) e47) (nI L, 1, 0) = some (nI L, 1) := by
  refine lp_x ?_
  unfold pX10_earsOf_L96_10
  dsimp only
  by_cases h : nI k ≤ 0
  · rw [if_pos h]
  · rw [if_neg h, if_neg (by decide)]
/-! both together -/
def agr (L : Nat) (R R' : Nat → Nat) (k : Nat) : Prop := ∀ i, i < k → L.testBit i = true → R i = R' i
theorem hc_agr {L k e : Nat} {R R' : Nat → Nat} (h : agr L R R' k) : hc L R e k = hc L R' e k := by
  unfold hc
  refine ct_cong (fun i hi => ?_)
  unfold hold
  cases hL : L.testBit i with
  | false => rfl
  | true => rw [h i hi hL]
theorem go_agr {L k i : Nat} {R R' : Nat → Nat} (h : agr L R R' k) (hi : i < k) : goB L R k i = goB L R' k i := by
  unfold goB
  cases hL : L.testBit i with
  | false => rfl
  | true =>
    rw [h i hi hL]
    unfold liesB
    rw [h i hi hL]
    rw [exb_cong (q := fun j => (j != i) && (L.testBit j && sub (R' i) (R' j))) (fun j hj => ?_)]
    cases hLj : L.testBit j with
    | false => rfl
    | true => rw [h j hj hLj]
def clr (R : Nat → Nat) (b : Nat) : Nat → Nat := fun j => R j ^^^ (R j &&& b)
theorem clr_bit {R : Nat → Nat} {e e' j : Nat} : (clr R (2 ^ e) j).testBit e' = ((R j).testBit e' && decide (e ≠ e')) := by
  unfold clr
  rw [Nat.testBit_xor, Nat.testBit_and, Nat.testBit_two_pow]
  cases (R j).testBit e' <;> by_cases h : e = e' <;> simp [h]
theorem clr_0 {R : Nat → Nat} {j : Nat} : clr R 0 j = R j := by simp [clr]
theorem clr_lt {R : Nat → Nat} {b j n : Nat} (h : R j < 2 ^ n) : clr R b j < 2 ^ n := xor_lt h (Nat.lt_of_le_of_lt Nat.and_le_left h)
def put1 (R : Nat → Nat) (s v : Nat) : Nat → Nat := fun i => if i = s then v else R i
theorem agr_el {L k e : Nat} {R R' : Nat → Nat} (hk : k ≤ 16) (h : agr L R R' k) (h1 : hc L R' e k = 1) : agr L (clr R (2 ^ e)) (put1 R' (hx L R' k e) (R' (hx L R' k e) ^^^ 2 ^ e)) k := by
  intro i hi hL
  obtain ⟨h2, h3, h4, h5⟩ := hx_one hk h1
  apply Nat.eq_of_testBit_eq
  intro e'
  rw [clr_bit, h i hi hL]
  unfold put1
  by_cases hs : i = hx L R' k e
  · rw [if_pos hs, ← hs, Nat.testBit_xor, Nat.testBit_two_pow]
    rw [← hs] at h4
    unfold hold at h4
    simp only [Bool.and_eq_true] at h4
    by_cases q : e = e'
    · subst q; simp [h4.2]
    · simp [q]
  · rw [if_neg hs]
    by_cases q : e = e'
    · subst q
      cases hb : (R' i).testBit e with
      | false => simp
      | true => exact absurd (h5 i hi (by unfold hold; simp [hL, hb])) hs
    · simp [q]
def meas (L : Nat) (R : Nat → Nat) (n k : Nat) : Nat := ct (fun i => L.testBit i) k + ct (fun e => decide (0 < hc L R e k)) n
theorem meas_el {L k n e : Nat} {R : Nat → Nat} (he : e < n) (h1 : hc L R e k = 1) : meas L (clr R (2 ^ e)) n k < meas L R n k := by
  unfold meas
  have := ct_lt_of (p := fun e => decide (0 < hc L R e k)) (q := fun e' => decide (0 < hc L (clr R (2 ^ e)) e' k)) (n := n) (j := e) (fun e' he' h => by
    simp only [decide_eq_true_eq] at h ⊢
    refine Nat.lt_of_lt_of_le h (ct_le_of (fun i hi hh => ?_))
    unfold hold at hh ⊢
    rw [clr_bit] at hh
    simp only [Bool.and_eq_true] at hh ⊢
    exact ⟨hh.1, hh.2.1⟩) he (by simp [h1]) (by
    have : hc L (clr R (2 ^ e)) e k = 0 := by
      unfold hc
      rw [ct_0]
      cases hx : exb (hold L (clr R (2 ^ e)) e) k with
      | false => rfl
      | true =>
        obtain ⟨i, hi, hh⟩ := exb_iff.mp hx
        unfold hold at hh
        rw [clr_bit] at hh
        simp at hh
    simp [this])
  omega
theorem xor_bit {L i j : Nat} : (L ^^^ 2 ^ i).testBit j = (L.testBit j != decide (i = j)) := by
  rw [Nat.testBit_xor, Nat.testBit_two_pow]
theorem meas_set {L k n i : Nat} {R : Nat → Nat} (hi : i < k) (h1 : L.testBit i = true) : meas (L ^^^ 2 ^ i) R n k < meas L R n k := by
  unfold meas
  have hb : ∀ j, (L ^^^ 2 ^ i).testBit j = true → L.testBit j = true := by
    intro j hj
    rw [xor_bit] at hj
    by_cases q : i = j
    · subst q; exact h1
    · simpa [q] using hj
  have a1 := ct_lt_of (p := fun j => L.testBit j) (q := fun j => (L ^^^ 2 ^ i).testBit j) (n := k) (j := i) (fun j _ h => hb j h) hi h1 (by rw [xor_bit]; simp [h1])
  have a2 := ct_le_of (p := fun e => decide (0 < hc L R e k)) (q := fun e => decide (0 < hc (L ^^^ 2 ^ i) R e k)) (n := n) (fun e _ h => by
    simp only [decide_eq_true_eq] at h ⊢
    refine Nat.lt_of_lt_of_le h (ct_le_of (fun j hj hh => ?_))
    unfold hold at hh ⊢
    simp only [Bool.and_eq_true] at hh ⊢
    exact ⟨hb j hh.1, hh.2⟩)
  omega
theorem lb_none {L k : Nat} {R : Nat → Nat} (h : fst (fun e => hc L R e k == 1) 10 = none) : lb (lone L R k) = 0 := by rw [lb_lone, h]; rfl
theorem lb_some {L k e : Nat} {R : Nat → Nat} (h : fst (fun e => hc L R e k == 1) 10 = some e) : lb (lone L R k) = 2 ^ e := by rw [lb_lone, h]; rfl
def cl1 (R : Nat → Nat) (b k : Nat) (rest : Nat → Int32) : Nat → Int32 := fun j => if j < k then nI (clr R b j) else rest j
theorem cl1_i {R : Nat → Nat} {b k i : Nat} {rest : Nat → Int32} (hi : i < k) : cl1 R b k rest i = nI (clr R b i) := if_pos hi
theorem c_el {L k r e : Nat} {R : Nat → Nat} {rest : Nat → Int32} (hk : k ≤ 16) (hL : L < 65536) (hR : ∀ i, i < k → rest i = nI (R i)) (hl : ∀ i, i < k → R i < 1024) (hr : r < 26) (h : fst (fun e => hc L R e k == 1) 10 = some e) : pX2_whatIsLeft_L53 (nI k) (1, nI r, nI L, rest) = some (.inl (1, nI (r + 1), nI L, cl1 R (2 ^ e) k rest)) := by
  unfold pX2_whatIsLeft_L53 pX2_whatIsLeft_J77_6
  dsimp only
  have he := tI_pp e
  rw [if_neg (by show ¬ nI 26 ≤ nI r; exact nI_ge hr (by omega)), if_neg (by decide), celt hk hL hR hl, Option.bind_some, if_bI, lb_some h, if_pos (by simp), nI_1]
  rfl
theorem c_set {L k r i : Nat} {R : Nat → Nat} {rest : Nat → Int32} (hk : k ≤ 16) (hL : L < 65536) (hR : ∀ i, i < k → rest i = nI (R i)) (hl : ∀ i, i < k → R i < 1024) (hr : r < 26) (h : fst (fun e => hc L R e k == 1) 10 = none) (h2 : fst (goB L R k) k = some i) : pX2_whatIsLeft_L53 (nI k) (1, nI r, nI L, rest) = some (.inl (1, nI (r + 1), nI (L ^^^ 2 ^ i), cl1 R 0 k rest)) := by
  unfold pX2_whatIsLeft_L53 pX2_whatIsLeft_J77_6
  dsimp only
  have hq := csetg (rest := cl1 R 0 k rest) (R := R) hk hL (fun i hi => by rw [cl1_i hi, clr_0]) hl
  rw [h2] at hq
  rw [if_neg (by show ¬ nI 26 ≤ nI r; exact nI_ge hr (by omega)), if_neg (by decide), celt hk hL hR hl, Option.bind_some, if_bI, lb_none h, if_neg (by decide), nI_1]
  show Option.bind (pX2_setGoes (nI k) (nI L) (cl1 R 0 k rest)) _ = _
  rw [hq]
  rfl
theorem c_no {L k r : Nat} {R : Nat → Nat} {rest : Nat → Int32} (hk : k ≤ 16) (hL : L < 65536) (hR : ∀ i, i < k → rest i = nI (R i)) (hl : ∀ i, i < k → R i < 1024) (hr : r < 26) (h : fst (fun e => hc L R e k == 1) 10 = none) (h2 : fst (goB L R k) k = none) : pX2_whatIsLeft_L53 (nI k) (1, nI r, nI L, rest) = some (.inl (0, nI (r + 1), nI L, cl1 R 0 k rest)) := by
  unfold pX2_whatIsLeft_L53 pX2_whatIsLeft_J77_6
  dsimp only
  have hq := csetg (rest := cl1 R 0 k rest) (R := R) hk hL (fun i hi => by rw [cl1_i hi, clr_0]) hl
  rw [h2] at hq
  rw [if_neg (by show ¬ nI 26 ≤ nI r; exact nI_ge hr (by omega)), if_neg (by decide), celt hk hL hR hl, Option.bind_some, if_bI, lb_none h, if_neg (by decide), nI_1]
  show Option.bind (pX2_setGoes (nI k) (nI L) (cl1 R 0 k rest)) _ = _
  rw [hq]
  rfl
theorem c_x0 {k r : Nat} {L : Int32} {rest : Nat → Int32} : lp (pX2_whatIsLeft_L53 (nI k)) (0, nI r, L, rest) = some (L, rest) := by
  refine lp_x ?_
  unfold pX2_whatIsLeft_L53
  dsimp only
  by_cases h : (26 : Int32) ≤ nI r
  · rw [if_pos h]
  · rw [if_neg h, if_pos rfl]
theorem c_x26 {k : Nat} {w L : Int32} {rest : Nat → Int32} : lp (pX2_whatIsLeft_L53 (nI k)) (w, nI 26, L, rest) = some (L, rest) := by
  refine lp_x ?_
  unfold pX2_whatIsLeft_L53
  dsimp only
  rw [if_pos (by decide)]
theorem y_st {L k n : Nat} {R : Nat → Nat} {rest : Nat → Int32} (hk : k ≤ 16) (hn : n ≤ 10) (hL : L < 65536) (hR : ∀ i, i < k → rest i = nI (R i)) (hlt : ∀ i, i < k → R i < 1024) : pX10_earsOf_L39 (nI n) (nI k) (nI L, 1, rest) = some (.inl ((fst (fun e => hc L R e k == 1) n).elim ((fst (goB L R k) k).elim (nI L, 0, rest) (fun i => (nI (L ^^^ 2 ^ i), 1, rest))) (fun e => (nI L, 1, upd rest (hx L R k e) (nI (R (hx L R k e) ^^^ 2 ^ e)))))) := by
  unfold pX10_earsOf_L39
  dsimp only
  rw [if_neg (by decide), yel 1 hk hn hL hR hlt, Option.bind_some]
  cases hf : fst (fun e => hc L R e k == 1) n with
  | none =>
    show Option.bind (lp (pX10_earsOf_L96_10 (nI k) ((0 : Int32), rest)) (nI L, 0, 0)) _ = _
    rw [yset 0 hk hL hR hlt]
    cases hg : fst (goB L R k) k with
    | none => rfl
    | some i => rfl
  | some e =>
    show Option.bind (lp (pX10_earsOf_L96_10 (nI k) ((1 : Int32), upd rest (hx L R k e) (nI (R (hx L R k e) ^^^ 2 ^ e)))) (nI L, 1, 0)) _ = _
    rw [yset1]
    rfl
theorem y_x {n k : Nat} {L : Int32} {rest : Nat → Int32} : lp (pX10_earsOf_L39 (nI n) (nI k)) (L, 0, rest) = some (L, rest) := by
  refine lp_x ?_
  unfold pX10_earsOf_L39
  dsimp only
  rw [if_pos rfl]
theorem hc_hi {L k n e : Nat} {R : Nat → Nat} (hlt : ∀ i, i < k → R i < 2 ^ n) (he : n ≤ e) : hc L R e k = 0 := by
  unfold hc
  rw [ct_0]
  cases hx : exb (hold L R e) k with
  | false => rfl
  | true =>
    obtain ⟨i, hi, hh⟩ := exb_iff.mp hx
    unfold hold at hh
    rw [Nat.testBit_lt_two_pow (Nat.lt_of_lt_of_le (hlt i hi) (Nat.pow_le_pow_right (by omega) he))] at hh
    simp at hh
set_option maxHeartbeats 1000000 in
theorem ears_run {n k : Nat} (hk : k ≤ 16) (hn : n ≤ 10) : ∀ (m : Nat) (L r : Nat) (R R' : Nat → Nat) (rest rest' : Nat → Int32), meas L R n k < m → r + meas L R n k ≤ 26 → L < 2 ^ k → (∀ i, i < k → rest i = nI (R i)) → (∀ i, i < k → R i < 2 ^ n) → (∀ i, i < k → rest' i = nI (R' i)) → (∀ i, i < k → R' i < 2 ^ n) → agr L R R' k → ∃ (Lf : Nat) (z z' : Nat → Int32), lp (pX2_whatIsLeft_L53 (nI k)) (1, nI r, nI L, rest) = some (nI Lf, z) ∧ lp (pX10_earsOf_L39 (nI n) (nI k)) (nI L, 1, rest') = some (nI Lf, z') := by
  have h16 : 2 ^ k ≤ 65536 := by
    have := Nat.pow_le_pow_right (n := 2) (by omega) hk
    simpa using this
  have hp := tI_p hn
  intro m
  induction m with
  | zero => intro L r R R' rest rest' hm; omega
  | succ m ih =>
    intro L r R R' rest rest' hm hr hL hR hlt hR' hlt' ha
    have hl1 : ∀ i, i < k → R i < 1024 := fun i hi => by have := hlt i hi; omega
    have hl1' : ∀ i, i < k → R' i < 1024 := fun i hi => by have := hlt' i hi; omega
    have hs := y_st (rest := rest') (R := R') (L := L) hk hn (by omega) hR' hl1'
    have ef : fst (fun e => hc L R e k == 1) 10 = fst (fun e => hc L R' e k == 1) n := by
      rw [fst_ext hn (fun e h1 _ => by rw [hc_hi hlt h1]; rfl)]
      exact fst_cong (fun e _ => by rw [hc_agr ha])
    have eg : fst (goB L R k) k = fst (goB L R' k) k := fst_cong (fun i hi => go_agr ha hi)
    cases hf : fst (fun e => hc L R' e k == 1) n with
    | some e =>
      rw [hf] at ef hs
      obtain ⟨he1, he2, he3⟩ := fst_some hf
      have hc1' : hc L R' e k = 1 := by simpa using he2
      have hc1 : hc L R e k = 1 := by rw [hc_agr ha]; exact hc1'
      have hme := meas_el (R := R) (L := L) he1 hc1
      obtain ⟨q1, q2, q3, q4⟩ := hx_one hk hc1'
      rw [lp_c (c_el hk (by omega) hR hl1 (by omega) ef), lp_c hs]
      show ∃ (Lf : Nat) (z z' : Nat → Int32), _ ∧ lp (pX10_earsOf_L39 (nI n) (nI k)) (nI L, 1, upd rest' (hx L R' k e) (nI (R' (hx L R' k e) ^^^ 2 ^ e))) = some (nI Lf, z')
      refine ih L (r + 1) (clr R (2 ^ e)) (put1 R' (hx L R' k e) (R' (hx L R' k e) ^^^ 2 ^ e)) _ _ (by omega) (by omega) hL (fun i hi => cl1_i hi) (fun i hi => clr_lt (hlt i hi)) (fun i hi => ?_) (fun i hi => ?_) (agr_el hk ha hc1')
      · unfold upd put1
        by_cases q : i = hx L R' k e
        · rw [if_pos q, if_pos q]
        · rw [if_neg q, if_neg q]; exact hR' i hi
      · unfold put1
        by_cases q : i = hx L R' k e
        · rw [if_pos q]; exact xor_lt (hlt' _ q2) (tp_lt he1)
        · rw [if_neg q]; exact hlt' i hi
    | none =>
      rw [hf] at ef hs
      cases hg : fst (goB L R' k) k with
      | some i =>
        rw [hg] at eg hs
        obtain ⟨hi1, hi2, hi3⟩ := fst_some hg
        have hLi : L.testBit i = true := by
          unfold goB at hi2
          simp only [Bool.and_eq_true] at hi2
          exact hi2.1
        have hme := meas_set (R := R) (n := n) hi1 hLi
        rw [lp_c (c_set hk (by omega) hR hl1 (by omega) ef eg), lp_c hs]
        show ∃ (Lf : Nat) (z z' : Nat → Int32), _ ∧ lp (pX10_earsOf_L39 (nI n) (nI k)) (nI (L ^^^ 2 ^ i), 1, rest') = some (nI Lf, z')
        refine ih (L ^^^ 2 ^ i) (r + 1) R R' _ _ (by omega) (by omega) (xor_lt hL (tp_lt hi1)) (fun j hj => by rw [cl1_i hj, clr_0]) hlt hR' hlt' (fun j hj hb => ?_)
        refine ha j hj ?_
        rw [xor_bit] at hb
        by_cases q : i = j
        · subst q; exact hLi
        · simpa [q] using hb
      | none =>
        rw [hg] at eg hs
        refine ⟨L, ?_⟩
        rw [lp_c hs]
        show ∃ (z z' : Nat → Int32), _ ∧ lp (pX10_earsOf_L39 (nI n) (nI k)) (nI L, 0, rest') = some (nI L, z')
        rcases Nat.lt_or_ge r 26 with q | q
        · rw [lp_c (c_no hk (by omega) hR hl1 q ef eg), c_x0, y_x]
          exact ⟨_, _, rfl, rfl⟩
        · rw [show r = 26 by omega, c_x26, y_x]
          exact ⟨_, _, rfl, rfl⟩
theorem c_copy {k : Nat} {S : Nat → Nat} {rows : Nat → Int32} (hk : k ≤ 16) (hR : ∀ i, i < k → rows i = nI (S i)) (z : Nat → Int32) : lp (pX2_whatIsLeft_L2 16 (nI k) rows) (0, z) = some (fun j => if j < k then nI (S j) else z j) := by
  have key := lp_det (step := pX2_whatIsLeft_L2 16 (nI k) rows) (fun i => (nI i, fun j => if j < i then nI (S j) else z j)) (fun j => if j < k then nI (S j) else z j) k (fun i hi => by
    unfold pX2_whatIsLeft_L2
    dsimp only
    rw [if_neg (nI_ge hi (by omega)), gd_t (vp_in_nI (show i < 16 by omega) (by omega)), gd_t (vp_in_nI (show i < 16 by omega) (by omega)), nI_clamp (by omega), nI_1, hR i hi]
    congr 3
    funext j
    unfold upd
    by_cases h1 : j = i
    · subst h1; simp
    · by_cases h2 : j < i
      · simp [h1, h2, Nat.lt_succ_of_lt h2]
      · simp [h1, h2, show ¬ j < i + 1 by omega]) (by
    unfold pX2_whatIsLeft_L2
    dsimp only
    rw [if_pos (nI_le (Nat.le_refl k) (by omega))])
  have e0 : ((nI 0, fun j => if j < 0 then nI (S j) else z j) : Int32 × (Nat → Int32)) = (0, z) := by
    congr 1
  try dsimp only at key
  rw [e0] at key
  exact key
theorem y_copy {k : Nat} {S : Nat → Nat} {rows : Nat → Int32} (hk : k ≤ 16) (hR : ∀ i, i < k → rows i = nI (S i)) (z : Nat → Int32) : lp (pX10_earsOf_L11 (nI k) rows) (0, z) = some (fun j => if j < k then nI (S j) else z j) := by
  have key := lp_det (step := pX10_earsOf_L11 (nI k) rows) (fun i => (nI i, fun j => if j < i then nI (S j) else z j)) (fun j => if j < k then nI (S j) else z j) k (fun i hi => by
    unfold pX10_earsOf_L11
    dsimp only
    rw [if_neg (nI_ge hi (by omega)), gd_t (vp_in_nI (show i < 16 by omega) (by omega)), gd_t (vp_in_nI (show i < 16 by omega) (by omega)), nI_clamp (by omega), nI_1, hR i hi]
    congr 3
    funext j
    unfold upd
    by_cases h1 : j = i
    · subst h1; simp
    · by_cases h2 : j < i
      · simp [h1, h2, Nat.lt_succ_of_lt h2]
      · simp [h1, h2, show ¬ j < i + 1 by omega]) (by
    unfold pX10_earsOf_L11
    dsimp only
    rw [if_pos (nI_le (Nat.le_refl k) (by omega))])
  have e0 : ((nI 0, fun j => if j < 0 then nI (S j) else z j) : Int32 × (Nat → Int32)) = (0, z) := by
    congr 1
  try dsimp only at key
  rw [e0] at key
  exact key
theorem pow_k {k : Nat} (hk : k ≤ 16) : (1 <<< (nI k &&& 31) : Int32) - 1 = nI (2 ^ k - 1) := by
  rw [tI_shl (by omega), tI_1, pk_sub (tI_pp k)]
theorem ears_eq {n k : Nat} {S : Nat → Nat} {rows ls : Nat → Int32} (hk : k ≤ 16) (hn : n ≤ 10) (hR : ∀ i, i < k → rows i = nI (S i)) (hY : ∀ i, i < k → ls i = nI (S i)) (hS : ∀ i, i < k → S i < 2 ^ n) (zl : Int32) (z z' : Nat → Int32) : ∃ (Lf : Nat) (w w' : Nat → Int32), pX2_whatIsLeft 16 (nI k) rows zl z = some (nI Lf, nI Lf, w) ∧ pX10_earsOf (nI n) (nI k) ls z' = some (nI Lf, w') := by
  have hpk := tI_pp k
  have hm : meas (2 ^ k - 1) S n k ≤ 26 := by
    unfold meas
    have h1 := ct_le (fun i => (2 ^ k - 1).testBit i) k
    have h2 := ct_le (fun e => decide (0 < hc (2 ^ k - 1) S e k)) n
    omega
  obtain ⟨Lf, w, w', h1, h2⟩ := ears_run hk hn (meas (2 ^ k - 1) S n k + 1) (2 ^ k - 1) 0 S S (fun j => if j < k then nI (S j) else z j) (fun j => if j < k then nI (S j) else z' j) (by omega) (by omega) (by omega) (fun i hi => if_pos hi) hS (fun i hi => if_pos hi) hS (fun i _ _ => rfl)
  have h1 : lp (pX2_whatIsLeft_L53 (nI k)) (1, 0, nI (2 ^ k - 1), _) = _ := h1
  refine ⟨Lf, w, w', ?_, ?_⟩
  · unfold pX2_whatIsLeft
    rw [c_copy hk hR, Option.bind_some, pow_k hk, h1]
    rfl
  · unfold pX10_earsOf
    rw [y_copy hk hY, Option.bind_some, pow_k hk, h2]
    rfl
