theorem tally_eq {n a : Nat} (hn : n ≤ 10) (ha : a < 2 ^ n) (ins : Nat → Int32) (c : Int32) : pX6_tally (nI (2 ^ n)) ins (nI a) c = some (fun x => if sub a x && decide (x < 2 ^ n) then ins x + c else ins x) := by
  have hp := tI_p hn
  unfold pX6_tally
  obtain ⟨r, h1, h2⟩ := lp_m (step := pX6_tally_L2 (nI (2 ^ n)) (nI a) c) (fun s => ∃ x, s.1 = nI x ∧ sub a x = true ∧ x < 2 * 2 ^ n ∧ s.2 = fun y => if sub a y && decide (y < 2 ^ n) && decide (y < x) then ins y + c else ins y) (fun s => 2 ^ n - s.1.toNatClampNeg) (fun r => r = fun x => if sub a x && decide (x < 2 ^ n) then ins x + c else ins x) (fun s hs => by
    obtain ⟨x, e1, e2, e3, e4⟩ := hs
    unfold pX6_tally_L2
    rw [e1]
    by_cases hx : x < 2 ^ n
    · left
      rw [if_neg (nI_ge hx (by omega)), gd_t (vp_in_nI (by omega) (by omega)), gd_t (vp_in_nI (by omega) (by omega)), nI_1, tI_or, nI_clamp (by omega)]
      refine ⟨_, rfl, ⟨(x + 1) ||| a, rfl, sub_iff.mpr (and_or_self a (x + 1)), ?_, ?_⟩, ?_⟩
      · have : (x + 1) ||| a < 2 ^ (n + 1) := or_lt (by rw [Nat.pow_succ]; omega) (by rw [Nat.pow_succ]; omega)
        rw [Nat.pow_succ] at this
        omega
      · funext y
        rw [e4]
        unfold upd
        by_cases h : y = x
        · subst h
          have hl : y < (y + 1) ||| a := Nat.lt_of_lt_of_le (Nat.lt_succ_self y) (le_or_left _ _)
          simp [e2, hx, hl]
        · by_cases hy : sub a y = true
          · have hh : (y < (x + 1) ||| a) ↔ y < x := by
              constructor
              · intro q
                rcases Nat.lt_or_ge y x with z | z
                · exact z
                · exact absurd (next_sup (x + 1) x a y (by omega) (sub_iff.mp e2) (sub_iff.mp hy) (by omega)) (by omega)
              · intro q
                exact Nat.lt_of_lt_of_le (by omega) (le_or_left (x + 1) a)
            simp [h, hh]
          · simp [h, hy]
      · have hl : x < (x + 1) ||| a := Nat.lt_of_lt_of_le (Nat.lt_succ_self x) (le_or_left _ _)
        have hu : (x + 1) ||| a < 2 ^ (n + 1) := or_lt (by rw [Nat.pow_succ]; omega) (by rw [Nat.pow_succ]; omega)
        rw [Nat.pow_succ] at hu
        show 2 ^ n - (nI ((x + 1) ||| a)).toNatClampNeg < _
        rw [nI_clamp (by omega)]
        omega
    · right
      rw [if_pos (nI_le (by omega) (by omega))]
      refine ⟨_, rfl, ?_⟩
      rw [e4]
      funext y
      by_cases hy : y < 2 ^ n
      · simp [hy, show y < x by omega]
      · simp [hy]) (2 ^ n + 1) (nI a, ins) (by show 2 ^ n - _ < _; omega) ⟨a, rfl, by simp [sub], by omega, by
        funext y
        by_cases h : sub a y = true
        · have : a ≤ y := by
            have := sub_iff.mp h
            have h2 : a &&& y ≤ y := Nat.and_le_right
            omega
          simp [show ¬ y < a by omega]
        · simp [h]⟩
  rw [h1, h2]
  rfl
/-- a set of the list lies in x; x meets all -/
def hsb (S : Nat → Nat) (k x : Nat) : Bool := exb (fun i => sub (S i) x) k
def mt (S : Nat → Nat) (k x : Nat) : Bool := allb (fun i => S i &&& x != 0) k
def lst (S : Nat → Nat) (k n x : Nat) : Bool := mt S k x && allb (fun e => !(x.testBit e && mt S k (x ^^^ 2 ^ e))) n
theorem xor_lt {a b n : Nat} (ha : a < 2 ^ n) (hb : b < 2 ^ n) : a ^^^ b < 2 ^ n := Nat.xor_lt_two_pow ha hb
theorem tp_lt {e n : Nat} (h : e < n) : 2 ^ e < 2 ^ n := Nat.pow_lt_pow_right (by omega) h
theorem sub_compl {a x n : Nat} (ha : a < 2 ^ n) : sub a ((2 ^ n - 1) ^^^ x) = (a &&& x == 0) := by
  rw [Bool.eq_iff_iff, sub_iff, beq_iff_eq]
  have hb : ∀ i, a.testBit i = true → i < n := fun i hi => by
    rcases Nat.lt_or_ge i n with q | q
    · exact q
    · rw [Nat.testBit_lt_two_pow (Nat.lt_of_lt_of_le ha (Nat.pow_le_pow_right (by omega) q))] at hi
      cases hi
  constructor
  · intro h
    apply Nat.eq_of_testBit_eq
    intro i
    have := congrArg (fun z => z.testBit i) h
    simp only [Nat.testBit_and, Nat.testBit_xor, Nat.testBit_two_pow_sub_one] at this
    rw [Nat.testBit_and, Nat.zero_testBit]
    cases hai : a.testBit i
    · rfl
    · have hi := hb i hai
      simp [hai, hi] at this
      simp [this]
  · intro h
    apply Nat.eq_of_testBit_eq
    intro i
    have := congrArg (fun z => z.testBit i) h
    simp only [Nat.testBit_and, Nat.zero_testBit] at this
    rw [Nat.testBit_and, Nat.testBit_xor, Nat.testBit_two_pow_sub_one]
    cases hai : a.testBit i
    · rfl
    · have hi := hb i hai
      simp [hai] at this
      simp [hi, this]
theorem hsb_compl {S : Nat → Nat} {k n x : Nat} (hS : ∀ i, i < k → S i < 2 ^ n) : hsb S k ((2 ^ n - 1) ^^^ x) = !mt S k x := by
  rw [Bool.eq_iff_iff]
  unfold hsb mt
  rw [exb_iff]
  constructor
  · rintro ⟨i, hi, h⟩
    rw [sub_compl (hS i hi)] at h
    cases hm : allb (fun i => S i &&& x != 0) k
    · rfl
    · have := allb_iff.mp hm i hi
      simp at h this
      exact absurd h this
  · intro h
    have hn : ¬ allb (fun i => S i &&& x != 0) k = true := by
      intro q; rw [q] at h; cases h
    rw [allb_iff] at hn
    by_cases hz : ∃ i, i < k ∧ S i &&& x = 0
    · obtain ⟨i, hi, hz⟩ := hz
      exact ⟨i, hi, by rw [sub_compl (hS i hi)]; simp [hz]⟩
    · exact absurd (fun i hi => by
        have : ¬ S i &&& x = 0 := fun q => hz ⟨i, hi, q⟩
        simpa using this) hn
/-- what a row of sets S (k of them, over n elements) is, with its counts -/
def RowN (n k : Nat) (S : Nat → Nat) (ins : Nat → Int32) : Prop := n ≤ 10 ∧ k ≤ 40 ∧ (∀ i, i < k → S i < 2 ^ n) ∧ ∀ x, x < 2 ^ n → ins x = nI (ct (fun i => sub (S i) x) k)
theorem hasSetIn_eq {n k : Nat} {S : Nat → Nat} {ins : Nat → Int32} (h : RowN n k S ins) {x : Nat} (hx : x < 2 ^ n) : pX6_hasSetIn ins (nI x) = some (bI (hsb S k x)) := by
  obtain ⟨hn, hk, -, hi⟩ := h
  have hp := tI_p hn
  unfold pX6_hasSetIn
  have hc := ct_le (fun i => sub (S i) x) k
  rw [gd_t (vp_in_nI (by omega) (by omega)), nI_clamp (by omega), hi x hx]
  cases hh : hsb S k x with
  | false => rw [if_pos (by rw [ct_0.mpr hh]; decide)]; rfl
  | true =>
    rw [if_neg (fun q => by
      rw [tI_0, nI_leI (by omega) (by omega)] at q
      have : ct (fun i => sub (S i) x) k = 0 := by omega
      rw [ct_0] at this
      unfold hsb at hh
      rw [hh] at this
      cases this)]
    rfl
theorem isMeeter_eq {n k : Nat} {S : Nat → Nat} {ins : Nat → Int32} (h : RowN n k S ins) {x : Nat} (hx : x < 2 ^ n) : pX6_isMeeter (nI (2 ^ n)) ins (nI x) = some (bI (mt S k x)) := by
  obtain ⟨hn, hk, hS, hi⟩ := h
  have hp := tI_p hn
  have h1 := tI_pp n
  unfold pX6_isMeeter
  have e1 : nI (2 ^ n) - 1 = nI (2 ^ n - 1) := by rw [tI_1, pk_sub h1]
  have hcl : (2 ^ n - 1) ^^^ x < 2 ^ n := xor_lt (by omega) hx
  have hc := ct_le (fun i => sub (S i) ((2 ^ n - 1) ^^^ x)) k
  rw [e1, tI_xor, gd_t (vp_in_nI (by omega) (by omega)), nI_clamp (by omega), hi _ hcl]
  have hh : hsb S k ((2 ^ n - 1) ^^^ x) = !mt S k x := hsb_compl hS
  cases hm : mt S k x with
  | false =>
    rw [if_neg (fun q => by
      rw [tI_0, nI_eq (by omega) (by omega)] at q
      rw [ct_0] at q
      unfold hsb at hh
      rw [hh, hm] at q
      cases q)]
    rfl
  | true =>
    rw [if_pos (by
      have e0 : ct (fun i => sub (S i) ((2 ^ n - 1) ^^^ x)) k = 0 := ct_0.mpr (by
        unfold hsb at hh
        rw [hh, hm]
        rfl)
      rw [e0]; rfl)]
    rfl
theorem has_eq {b e : Nat} (hb : b < 2 ^ 31) (he : e < 32) : pX9_has (nI b) (nI e) = some (bI (b.testBit e)) := by
  unfold pX9_has
  cases ht : b.testBit e with
  | true => rw [if_pos ((tI_bit1 hb he).mpr ht)]; rfl
  | false => rw [if_neg (fun q => by rw [(tI_bit1 hb he)] at q; rw [ht] at q; cases q)]; rfl
theorem isLeast_eq {n k : Nat} {S : Nat → Nat} {ins : Nat → Int32} (h : RowN n k S ins) {x : Nat} (hx : x < 2 ^ n) : pX6_isLeastMeeter (nI n) (nI (2 ^ n)) ins (nI x) = some (bI (lst S k n x)) := by
  have hn := h.1
  have hp := tI_p hn
  unfold pX6_isLeastMeeter
  rw [isMeeter_eq h hx, Option.bind_some, if_bI]
  unfold lst
  cases hm : mt S k x with
  | false => rfl
  | true =>
    have hl := lp_first (step := pX6_isLeastMeeter_L12 (nI n) (nI (2 ^ n)) ins (nI x)) (fun i => nI i) (fun e => x.testBit e && mt S k (x ^^^ 2 ^ e)) (fun _ => Sum.inl ()) (Sum.inr ()) n (fun i hi => by
      unfold pX6_isLeastMeeter_L12
      rw [if_neg (nI_ge hi (by omega)), has_eq (by omega) (by omega), Option.bind_some, if_bI, nI_1]
      cases ht : x.testBit i with
      | false => rfl
      | true =>
        rw [tI_shl (by omega), tI_xor, isMeeter_eq h (xor_lt hx (tp_lt hi)), Option.bind_some, if_bI]
        cases mt S k (x ^^^ 2 ^ i) <;> rfl) (by
      unfold pX6_isLeastMeeter_L12
      rw [if_pos (nI_le (Nat.le_refl n) (by omega))])
    rw [if_pos rfl]
    have hl : lp (pX6_isLeastMeeter_L12 (nI n) (nI (2 ^ n)) ins (nI x)) 0 = _ := hl
    rw [hl, Option.bind_some, Bool.true_and]
    cases hf : fst (fun e => x.testBit e && mt S k (x ^^^ 2 ^ e)) n with
    | none =>
      have h0 := fst_none.mp hf
      rw [allb_iff.mpr (fun i hi => by rw [h0 i hi]; rfl)]
      rfl
    | some j =>
      obtain ⟨h1, h2, -⟩ := fst_some hf
      have : allb (fun e => !(x.testBit e && mt S k (x ^^^ 2 ^ e))) n = false := by
        cases hz : allb (fun e => !(x.testBit e && mt S k (x ^^^ 2 ^ e))) n with
        | false => rfl
        | true =>
          have := allb_iff.mp hz j h1
          rw [h2] at this
          cases this
      rw [this]
      rfl
