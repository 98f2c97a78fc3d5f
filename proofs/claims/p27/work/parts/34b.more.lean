theorem tI_andn (a x : Nat) : nI a &&& (nI x ^^^ (-1)) = nI (a ^^^ (a &&& x)) := by
  apply Int32.toBitVec_inj.1
  show BitVec.ofNat 32 a &&& (BitVec.ofNat 32 x ^^^ (-1 : Int32).toBitVec) = BitVec.ofNat 32 (a ^^^ (a &&& x))
  rw [show (-1 : Int32).toBitVec = BitVec.allOnes 32 from rfl]
  apply BitVec.eq_of_getLsbD_eq
  intro i hi
  simp only [BitVec.getLsbD_and, BitVec.getLsbD_xor, BitVec.getLsbD_ofNat, BitVec.getLsbD_allOnes, hi, decide_true, Bool.true_and, Nat.testBit_xor, Nat.testBit_and]
  cases a.testBit i <;> cases x.testBit i <;> rfl
theorem nar0 : narrow .boolean (.int 0) = .int 0 := rfl
theorem nar1 : narrow .boolean (.int 1) = .int 1 := rfl
theorem andn_0 {a x : Nat} (ha : a < 1024) : (nI a &&& (nI x ^^^ (-1)) = 0) ↔ sub a x = true := by
  have hb : a ^^^ (a &&& x) < 2 ^ 10 := xor_lt (by omega) (Nat.lt_of_le_of_lt Nat.and_le_left (by omega))
  rw [tI_andn, tI_0, nI_eq (by omega) (by omega), sub_iff]
  constructor
  · intro h
    apply Nat.eq_of_testBit_eq
    intro i
    have := congrArg (fun z => z.testBit i) h
    simp only [Nat.testBit_xor, Nat.testBit_and, Nat.zero_testBit] at this
    rw [Nat.testBit_and]
    cases ha : a.testBit i <;> cases hx : x.testBit i <;> simp [ha, hx] at this ⊢
  · intro h
    rw [h, Nat.xor_self]
theorem and_0 {a x : Nat} (ha : a < 1024) : (nI a &&& nI x = 0) ↔ a &&& x = 0 := by
  have : a &&& x ≤ a := Nat.and_le_left
  rw [tI_and, tI_0, nI_eq (by omega) (by omega)]
theorem mt_ex {S : Nat → Nat} {k x : Nat} : exb (fun i => S i &&& x == 0) k = !mt S k x := by
  unfold mt
  induction k with
  | zero => rfl
  | succ k ih =>
    rw [exb, allb, ih]
    cases allb (fun i => S i &&& x != 0) k <;> simp [bne]
theorem ct_mono {p : Nat → Bool} {i j : Nat} (h : i ≤ j) : ct p i ≤ ct p j := by
  induction j with
  | zero => rw [show i = 0 by omega]; exact Nat.le_refl _
  | succ j ih =>
    rcases Nat.lt_or_ge i (j + 1) with q | q
    · have := ih (by omega)
      rw [ct]
      omega
    · rw [show i = j + 1 by omega]; exact Nat.le_refl _
/-- the two flags of the reference's witness -/
theorem ywit1 {n k x : Nat} {S : Nat → Nat} {ls : Nat → Int32} (h : YN n k S ls) (hx : x < 2 ^ n) : lp (pX10_witness_L14_3 (nI k) ls (nI x)) (0, 0) = some (bI (hsb S k x)) := by
  obtain ⟨h1, h2, h3, h4⟩ := h
  have hp := tI_p h2
  refine lp_det (step := pX10_witness_L14_3 (nI k) ls (nI x)) (fun i => (bI (exb (fun i => sub (S i) x) i), nI i)) _ k (fun i hi => ?_) ?_
  · unfold pX10_witness_L14_3 pX10_witness_J39_5
    dsimp only
    have hS := h4 i hi
    rw [if_neg (nI_ge hi (by omega)), if_bI, gd_t (vp_in_nI (by omega) (by omega)), nI_clamp (by omega), hS.1, nI_1, exb]
    cases exb (fun i => sub (S i) x) i with
    | true => rfl
    | false =>
      by_cases hz : sub (S i) x = true
      · rw [if_pos ((andn_0 (by omega)).mpr hz)]; simp [hz, bI]
      · rw [if_neg (fun q => hz ((andn_0 (by omega)).mp q))]; simp [hz, bI]
  · unfold pX10_witness_L14_3
    dsimp only
    rw [if_pos (nI_le (Nat.le_refl k) (by omega))]
    rfl
theorem ywit2 {n o x : Nat} {O : Nat → Nat} {ls : Nat → Int32} (hn : n ≤ 10) (ho : o ≤ 40) (hO : ∀ i, i < o → ls i = nI (O i) ∧ O i < 2 ^ n) (hx : x < 2 ^ n) : lp (pX10_witness_L56_7 (nI o) ls (nI x)) (0, 0) = some (bI (!mt O o x)) := by
  have hp := tI_p hn
  rw [← mt_ex]
  refine lp_det (step := pX10_witness_L56_7 (nI o) ls (nI x)) (fun i => (bI (exb (fun i => O i &&& x == 0) i), nI i)) _ o (fun i hi => ?_) ?_
  · unfold pX10_witness_L56_7 pX10_witness_J81_9
    dsimp only
    have hS := hO i hi
    rw [if_neg (nI_ge hi (by omega)), if_bI, gd_t (vp_in_nI (by omega) (by omega)), nI_clamp (by omega), hS.1, nI_1, exb]
    cases exb (fun i => O i &&& x == 0) i with
    | true => rfl
    | false =>
      by_cases hz : O i &&& x = 0
      · rw [if_pos ((and_0 (by omega)).mpr hz)]; simp [hz, bI]
      · rw [if_neg (fun q => hz ((and_0 (by omega)).mp q))]; simp [hz, bI]
  · unfold pX10_witness_L56_7
    dsimp only
    rw [if_pos (nI_le (Nat.le_refl o) (by omega))]
theorem ycol {n k x : Nat} {S : Nat → Nat} {ls : Nat → Int32} (h : YN n k S ls) (hx : x < 2 ^ n) : lp (pX10_colouring_L14_3 (nI k) ls (nI x)) (1, 0) = some (bI (mt S k x && !hsb S k x)) := by
  obtain ⟨h1, h2, h3, h4⟩ := h
  have hp := tI_p h2
  have e : (mt S k x && !hsb S k x) = allb (fun i => S i &&& x != 0 && !sub (S i) x) k := by
    unfold mt hsb
    clear h3 h4
    induction k with
    | zero => rfl
    | succ k ih =>
      rw [allb, allb, exb, ← ih]
      cases allb (fun i => S i &&& x != 0) k <;> cases exb (fun i => sub (S i) x) k <;> simp
  rw [e]
  refine lp_det (step := pX10_colouring_L14_3 (nI k) ls (nI x)) (fun i => (bI (allb (fun i => S i &&& x != 0 && !sub (S i) x) i), nI i)) _ k (fun i hi => ?_) ?_
  · unfold pX10_colouring_L14_3 pX10_colouring_J54_5
    dsimp only
    have hS := h4 i hi
    rw [if_neg (nI_ge hi (by omega)), if_bI, gd_t (vp_in_nI (by omega) (by omega)), gd_t (vp_in_nI (by omega) (by omega)), nI_clamp (by omega), hS.1, nI_1, allb]
    cases allb (fun i => S i &&& x != 0 && !sub (S i) x) i with
    | false => rfl
    | true =>
      by_cases hz : S i &&& x = 0
      · rw [if_pos rfl, if_pos ((and_0 (by omega)).mpr hz)]; simp [hz, bI]
      · rw [if_pos rfl, if_neg (fun q => hz ((and_0 (by omega)).mp q))]
        by_cases hy : sub (S i) x = true
        · rw [if_pos ((andn_0 (by omega)).mpr hy)]; simp [hy, bI]
        · rw [if_neg (fun q => hy ((andn_0 (by omega)).mp q))]; simp [hz, hy, bI]
  · unfold pX10_colouring_L14_3
    dsimp only
    rw [if_pos (nI_le (Nat.le_refl k) (by omega))]
theorem elem_out {n : Nat} {v : Int32} (hn1 : 1 ≤ n) (hn2 : n ≤ 10) (h : v < 0 ∨ nI n ≤ v) : pX9_isElement (nI n) v = some 0 ∧ pX10_isElement (nI n) v = some 0 := by
  refine ⟨?_, ?_⟩
  · unfold pX9_isElement
    by_cases hv : v < 0
    · rw [if_pos hv]
    · rw [if_neg hv, if_pos (h.resolve_left hv)]
  · unfold pX10_isElement
    have e := in_lit v 0 (nI n - 1)
    have hf : (decide ((0 : Int32) ≤ v) && decide (v ≤ nI n - 1)) = false := by
      rw [tI_1, pk_sub hn1, Bool.and_eq_false_iff, decide_eq_false_iff_not, decide_eq_false_iff_not, Int32.le_iff_toInt_le, Int32.le_iff_toInt_le, nI_toInt (by omega)]
      rw [Int32.lt_iff_toInt_lt, Int32.le_iff_toInt_le, nI_toInt (by omega)] at h
      have : (0 : Int32).toInt = 0 := rfl
      omega
    rw [hf] at e
    have e : pX10_in v.toInt64 0 (nI n - 1).toInt64 = some 0 := e
    rw [e, Option.bind_some, gd_t nar0]
theorem elem_in {n e : Nat} (hn1 : 1 ≤ n) (hn2 : n ≤ 10) (he : e < n) : pX9_isElement (nI n) (nI e) = some 1 ∧ pX10_isElement (nI n) (nI e) = some 1 := by
  refine ⟨?_, ?_⟩
  · unfold pX9_isElement
    rw [if_neg (nI_pos (by omega)), if_neg (nI_ge he (by omega))]
  · unfold pX10_isElement
    have e1 := in_lit (nI e) 0 (nI n - 1)
    rw [decide_eq_true (by show nI 0 ≤ nI e; exact nI_le (by omega) (by omega)), decide_eq_true (by rw [tI_1, pk_sub hn1]; exact nI_le (by omega) (by omega))] at e1
    have e1 : pX10_in (nI e).toInt64 0 (nI n - 1).toInt64 = some 1 := e1
    rw [e1, Option.bind_some, gd_t nar1]
