/-! the game: states as numbers of base three -/
def dg (s e : Nat) : Nat := s / 3 ^ e % 3
theorem dg_add {s e v : Nat} (hv : v < 3) (h : dg s e = 0) (e' : Nat) : dg (s + v * 3 ^ e) e' = if e' = e then v else dg s e' := by
  unfold dg at *
  have hp : 0 < 3 ^ e := Nat.pow_pos (by omega)
  have h1 : (s + v * 3 ^ e) / 3 ^ e = s / 3 ^ e + v := Nat.add_mul_div_right _ _ hp
  rcases Nat.lt_trichotomy e' e with c | c | c
  · rw [if_neg (by omega)]
    obtain ⟨m, rfl⟩ : ∃ m, e = e' + 1 + m := ⟨e - e' - 1, by omega⟩
    have e1 : v * 3 ^ (e' + 1 + m) = (v * 3 ^ m * 3) * 3 ^ e' := by
      rw [Nat.pow_add, Nat.pow_succ]
      simp only [Nat.mul_assoc, Nat.mul_comm, Nat.mul_left_comm]
    rw [e1, Nat.add_mul_div_right _ _ (Nat.pow_pos (by omega))]
    omega
  · subst c
    rw [if_pos rfl, h1]
    omega
  · rw [if_neg (by omega)]
    obtain ⟨m, rfl⟩ : ∃ m, e' = e + 1 + m := ⟨e' - e - 1, by omega⟩
    rw [Nat.pow_add, Nat.pow_succ, Nat.mul_assoc, ← Nat.div_div_eq_div_mul, ← Nat.div_div_eq_div_mul, h1, ← Nat.div_div_eq_div_mul, ← Nat.div_div_eq_div_mul]
    congr 2
    omega
theorem dg_lt {s e : Nat} : dg s e < 3 := Nat.mod_lt _ (by omega)
theorem dg_room {s e n v : Nat} (hv : v < 3) (he : e < n) (hs : s < 3 ^ n) (h : dg s e = 0) : s + v * 3 ^ e < 3 ^ n := by
  unfold dg at h
  obtain ⟨m, rfl⟩ : ∃ m, n = e + 1 + m := ⟨n - e - 1, by omega⟩
  have hp : 0 < 3 ^ e := Nat.pow_pos (by omega)
  rw [Nat.pow_add, Nat.pow_succ, Nat.mul_assoc] at hs ⊢
  have h1 : s / 3 ^ e < 3 * 3 ^ m := Nat.div_lt_of_lt_mul hs
  have h2 : (s + v * 3 ^ e) / 3 ^ e = s / 3 ^ e + v := Nat.add_mul_div_right _ _ hp
  have h3 : (s + v * 3 ^ e) / 3 ^ e < 3 * 3 ^ m := by rw [h2]; omega
  have h4 := (Nat.div_lt_iff_lt_mul hp).mp h3
  rw [Nat.mul_comm (3 * 3 ^ m)] at h4
  exact h4
def mOf (n s : Nat) : Nat := mk (fun e => dg s e == 1) n
def bOf (n s : Nat) : Nat := mk (fun e => dg s e == 2) n
def tk (n s : Nat) : Nat := ct (fun e => dg s e != 0) n
theorem mOf_1 {n s e : Nat} (he : e < n) (h : dg s e = 0) : mOf n (s + 1 * 3 ^ e) = mOf n s ||| 2 ^ e ∧ bOf n (s + 1 * 3 ^ e) = bOf n s := by
  constructor
  · apply Nat.eq_of_testBit_eq
    intro i
    unfold mOf
    rw [Nat.testBit_or, mk_bit, mk_bit, Nat.testBit_two_pow, dg_add (by omega) h]
    by_cases c : i = e
    · subst c; rw [if_pos rfl, decide_eq_true he]; simp
    · rw [if_neg c, decide_eq_false (show ¬ e = i from fun q => c q.symm), Bool.or_false]
  · apply Nat.eq_of_testBit_eq
    intro i
    unfold bOf
    rw [mk_bit, mk_bit, dg_add (by omega) h]
    by_cases c : i = e
    · subst c; rw [if_pos rfl, h]; rfl
    · rw [if_neg c]
theorem mOf_2 {n s e : Nat} (he : e < n) (h : dg s e = 0) : mOf n (s + 2 * 3 ^ e) = mOf n s ∧ bOf n (s + 2 * 3 ^ e) = bOf n s ||| 2 ^ e := by
  constructor
  · apply Nat.eq_of_testBit_eq
    intro i
    unfold mOf
    rw [mk_bit, mk_bit, dg_add (by omega) h]
    by_cases c : i = e
    · subst c; rw [if_pos rfl, h]; rfl
    · rw [if_neg c]
  · apply Nat.eq_of_testBit_eq
    intro i
    unfold bOf
    rw [Nat.testBit_or, mk_bit, mk_bit, Nat.testBit_two_pow, dg_add (by omega) h]
    by_cases c : i = e
    · subst c; rw [if_pos rfl, decide_eq_true he]; simp
    · rw [if_neg c, decide_eq_false (show ¬ e = i from fun q => c q.symm), Bool.or_false]
theorem tk_up {n s e v : Nat} (hv : v < 3) (hv0 : v ≠ 0) (he : e < n) (h : dg s e = 0) : tk n (s + v * 3 ^ e) = tk n s + 1 := by
  unfold tk
  refine ct_one he (fun j hj => ?_) (by rw [h]; rfl) ?_
  · rw [dg_add hv h, if_neg hj]
  · rw [dg_add hv h, if_pos rfl]; simp [hv0]
theorem tk_le {n s : Nat} : tk n s ≤ n := ct_le _ n
/-- who wins from s, if f elements are free -/
def vg (S : Nat → Nat) (k n : Nat) : Nat → Nat → Bool → Bool
  | 0, s, _ => hsb S k (mOf n s)
  | f + 1, s, t => if t then exb (fun e => dg s e == 0 && vg S k n f (s + 1 * 3 ^ e) false) n else allb (fun e => !(dg s e == 0) || vg S k n f (s + 2 * 3 ^ e) true) n
theorem fr_ex {n s : Nat} (h : tk n s < n) : ∃ e, e < n ∧ dg s e = 0 := by
  rcases Classical.em (∃ e, e < n ∧ dg s e = 0) with q | q
  · exact q
  · exfalso
    have hall : ∀ m, m ≤ n → ct (fun e => dg s e != 0) m = m := by
      intro m
      induction m with
      | zero => intro _; rfl
      | succ m ih =>
        intro hm
        have : dg s m ≠ 0 := fun c => q ⟨m, by omega, c⟩
        rw [ct, ih (by omega)]
        simp [this]
    have := hall n (Nat.le_refl n)
    unfold tk at h
    omega
theorem vg_A {S : Nat → Nat} {k n : Nat} : ∀ {f s : Nat} {t : Bool}, tk n s + f = n → hsb S k (mOf n s) = true → vg S k n f s t = true
  | 0, s, t, _, h => h
  | f + 1, s, t, hf, h => by
    rw [vg]
    cases t with
    | true =>
      rw [if_pos rfl]
      obtain ⟨e, he, hz⟩ := fr_ex (n := n) (s := s) (by omega)
      refine exb_iff.mpr ⟨e, he, ?_⟩
      rw [vg_A (f := f) (by rw [tk_up (by omega) (by omega) he hz]; omega) (by rw [(mOf_1 he hz).1]; exact hsb_or h), hz]; rfl
    | false =>
      rw [if_neg (by decide)]
      refine allb_iff.mpr (fun e he => ?_)
      by_cases hz : dg s e = 0
      · rw [vg_A (f := f) (by rw [tk_up (by omega) (by omega) he hz]; omega) (by rw [(mOf_2 he hz).1]; exact h)]; simp
      · simp [hz]
theorem mt_or {S : Nat → Nat} {k x y : Nat} (h : mt S k x = true) : mt S k (x ||| y) = true := by
  unfold mt at h ⊢
  rw [allb_iff] at h ⊢
  intro i hi
  have := h i hi
  rw [bne_iff_ne] at this ⊢
  intro c
  apply this
  apply Nat.eq_of_testBit_eq
  intro j
  have hj := congrArg (fun z => z.testBit j) c
  simp only [Nat.testBit_and, Nat.testBit_or, Nat.zero_testBit] at hj
  rw [Nat.testBit_and, Nat.zero_testBit]
  revert hj
  cases (S i).testBit j <;> cases x.testBit j <;> cases y.testBit j <;> simp
theorem mb_0 {n s e : Nat} : ((mOf n s).testBit e && (bOf n s).testBit e) = false := by
  unfold mOf bOf
  rw [mk_bit, mk_bit]
  cases h1 : (dg s e == 1) with
  | false => simp
  | true =>
    rw [beq_iff_eq] at h1
    rw [h1]; simp
theorem vg_B {S : Nat → Nat} {k n : Nat} : ∀ {f s : Nat} {t : Bool}, tk n s + f = n → mt S k (bOf n s) = true → vg S k n f s t = false
  | 0, s, t, _, h => by
    rw [vg]
    cases hh : hsb S k (mOf n s) with
    | false => rfl
    | true =>
      obtain ⟨i, hi, hs⟩ := exb_iff.mp hh
      have hm := allb_iff.mp h i hi
      rw [bne_iff_ne] at hm
      exfalso
      apply hm
      rw [sub_bits] at hs
      apply Nat.eq_of_testBit_eq
      intro j
      rw [Nat.testBit_and, Nat.zero_testBit]
      cases hj : (S i).testBit j with
      | false => rfl
      | true =>
        have := mb_0 (n := n) (s := s) (e := j)
        rw [hs j hj] at this
        exact this
  | f + 1, s, t, hf, h => by
    rw [vg]
    cases t with
    | true =>
      rw [if_pos rfl]
      cases hx : exb (fun e => dg s e == 0 && vg S k n f (s + 1 * 3 ^ e) false) n with
      | false => rfl
      | true =>
        obtain ⟨e, he, hh⟩ := exb_iff.mp hx
        simp only [Bool.and_eq_true, beq_iff_eq] at hh
        rw [vg_B (f := f) (by rw [tk_up (by omega) (by omega) he hh.1]; omega) (by rw [(mOf_1 he hh.1).2]; exact h)] at hh
        exact absurd hh.2 (by decide)
    | false =>
      rw [if_neg (by decide)]
      obtain ⟨e, he, hz⟩ := fr_ex (n := n) (s := s) (by omega)
      cases hx : allb (fun e => !(dg s e == 0) || vg S k n f (s + 2 * 3 ^ e) true) n with
      | false => rfl
      | true =>
        have := allb_iff.mp hx e he
        rw [vg_B (f := f) (by rw [tk_up (by omega) (by omega) he hz]; omega) (by rw [(mOf_2 he hz).2]; exact mt_or h), hz] at this
        exact this.symm
/-- what decides at once -/
def deB (S : Nat → Nat) (k n s e : Nat) : Bool := dg s e == 0 && (hsb S k (mOf n s ||| 2 ^ e) || mt S k (bOf n s ||| 2 ^ e))
def trB (S : Nat → Nat) (k n s e : Nat) : Bool := if exb (deB S k n s) n then deB S k n s e else dg s e == 0
theorem tr_fr {S : Nat → Nat} {k n s e : Nat} (h : trB S k n s e = true) : dg s e = 0 := by
  unfold trB at h
  split at h
  · unfold deB at h
    simp only [Bool.and_eq_true, beq_iff_eq] at h
    exact h.1
  · simpa using h
theorem vg_C {S : Nat → Nat} {k n f s : Nat} {t : Bool} (hf : tk n s + (f + 1) = n) : vg S k n (f + 1) s t = if t then exb (fun e => trB S k n s e && vg S k n f (s + 1 * 3 ^ e) false) n else allb (fun e => !(trB S k n s e) || vg S k n f (s + 2 * 3 ^ e) true) n := by
  cases hD : exb (deB S k n s) n with
  | false =>
    have : ∀ e, trB S k n s e = (dg s e == 0) := fun e => by unfold trB; rw [hD]; rfl
    rw [vg]
    simp only [this]
  | true =>
    have htr : ∀ e, trB S k n s e = deB S k n s e := fun e => by unfold trB; rw [hD]; rfl
    simp only [htr]
    rw [vg]
    obtain ⟨d, hd, hdd⟩ := exb_iff.mp hD
    have hde : ∀ e, deB S k n s e = true → dg s e = 0 ∧ (hsb S k (mOf n s ||| 2 ^ e) = true ∨ mt S k (bOf n s ||| 2 ^ e) = true) := by
      intro e h
      unfold deB at h
      simp only [Bool.and_eq_true, Bool.or_eq_true, beq_iff_eq] at h
      exact h
    cases t with
    | true =>
      rw [if_pos rfl, if_pos rfl, Bool.eq_iff_iff, exb_iff, exb_iff]
      constructor
      · rintro ⟨e, he, hh⟩
        simp only [Bool.and_eq_true, beq_iff_eq] at hh
        rcases Classical.em (∃ d, d < n ∧ deB S k n s d = true ∧ hsb S k (mOf n s ||| 2 ^ d) = true) with ⟨d, hd, hd1, hd2⟩ | hno
        · refine ⟨d, hd, ?_⟩
          have hz := (hde d hd1).1
          rw [hd1, vg_A (by rw [tk_up (by omega) (by omega) hd hz]; omega) (by rw [(mOf_1 hd hz).1]; exact hd2)]; rfl
        · refine ⟨e, he, ?_⟩
          rw [hh.2, Bool.and_true]
          cases hee : deB S k n s e with
          | true => rfl
          | false =>
            exfalso
            obtain ⟨hz, hor⟩ := hde d hdd
            have hmt : mt S k (bOf n s ||| 2 ^ d) = true := hor.resolve_left (fun q => hno ⟨d, hd, hdd, q⟩)
            have hne : d ≠ e := fun c => by rw [c, hee] at hdd; cases hdd
            obtain ⟨hv, hvv⟩ := hh
            have hz2 : dg (s + 1 * 3 ^ e) d = 0 := by rw [dg_add (by omega) hv, if_neg hne]; exact hz
            have htk := tk_up (n := n) (v := 1) (by omega) (by omega) he hv
            have hle := tk_le (n := n) (s := s + 1 * 3 ^ e + 2 * 3 ^ d)
            have htk2 := tk_up (n := n) (v := 2) (by omega) (by omega) hd hz2
            obtain ⟨f, rfl⟩ : ∃ g, f = g + 1 := ⟨f - 1, by omega⟩
            rw [vg, if_neg (by decide)] at hvv
            have := allb_iff.mp hvv d hd
            rw [hz2, vg_B (by omega) (by rw [(mOf_2 hd hz2).2, (mOf_1 he hv).2]; exact hmt)] at this
            exact absurd this (by decide)
      · rintro ⟨e, he, hh⟩
        simp only [Bool.and_eq_true] at hh
        refine ⟨e, he, ?_⟩
        rw [hh.2, (hde e hh.1).1]; rfl
    | false =>
      rw [if_neg (by decide), if_neg (by decide), Bool.eq_iff_iff, allb_iff, allb_iff]
      constructor
      · intro h e he
        have := h e he
        cases hee : deB S k n s e with
        | false => rfl
        | true =>
          rw [(hde e hee).1] at this
          simpa using this
      · intro h e he
        by_cases hz : dg s e = 0
        · rw [hz]
          show (false || _) = true
          rw [Bool.false_or]
          cases hee : deB S k n s e with
          | true =>
            have := h e he
            rw [hee] at this
            simpa using this
          | false =>
            obtain ⟨hzd, hor⟩ := hde d hdd
            have hne : d ≠ e := fun c => by rw [c, hee] at hdd; cases hdd
            rcases Classical.em (∃ d, d < n ∧ deB S k n s d = true ∧ mt S k (bOf n s ||| 2 ^ d) = true) with ⟨d2, hd2, hd3, hd4⟩ | hno
            · exfalso
              have hz2 := (hde d2 hd3).1
              have := h d2 hd2
              rw [hd3, vg_B (by rw [tk_up (by omega) (by omega) hd2 hz2]; omega) (by rw [(mOf_2 hd2 hz2).2]; exact hd4)] at this
              exact absurd this (by decide)
            · have hhs : hsb S k (mOf n s ||| 2 ^ d) = true := hor.resolve_right (fun q => hno ⟨d, hd, hdd, q⟩)
              have hz2 : dg (s + 2 * 3 ^ e) d = 0 := by rw [dg_add (by omega) hz, if_neg hne]; exact hzd
              have htk := tk_up (n := n) (v := 2) (by omega) (by omega) he hz
              have hle := tk_le (n := n) (s := s + 2 * 3 ^ e + 1 * 3 ^ d)
              have htk2 := tk_up (n := n) (v := 1) (by omega) (by omega) hd hz2
              obtain ⟨f, rfl⟩ : ∃ g, f = g + 1 := ⟨f - 1, by omega⟩
              rw [vg, if_pos rfl]
              refine exb_iff.mpr ⟨d, hd, ?_⟩
              rw [hz2, vg_A (by omega) (by rw [(mOf_1 hd hz2).1, (mOf_2 he hz).1]; exact hhs)]; rfl
        · simp [hz]
/-- whose turn it is in s; who wins from s -/
def trn (n b s : Nat) : Bool := (b + tk n s) % 2 == 0
def Vc (S : Nat → Nat) (k n b s : Nat) : Bool := vg S k n (n - tk n s) s (trn n b s)
theorem trn_up {n b s e v : Nat} (hv : v < 3) (hv0 : v ≠ 0) (he : e < n) (h : dg s e = 0) : trn n b (s + v * 3 ^ e) = !trn n b s := by
  unfold trn
  rw [tk_up hv hv0 he h]
  rcases Nat.mod_two_eq_zero_or_one (b + tk n s) with q | q
  · rw [q, show (b + (tk n s + 1)) % 2 = 1 by omega]; rfl
  · rw [q, show (b + (tk n s + 1)) % 2 = 0 by omega]; rfl
theorem Vc_end {S : Nat → Nat} {k n b s : Nat} (h : tk n s = n) : Vc S k n b s = hsb S k (mOf n s) := by
  unfold Vc; rw [h, Nat.sub_self, vg]
theorem Vc_free {S : Nat → Nat} {k n b s : Nat} (h : tk n s < n) : Vc S k n b s = if trn n b s then exb (fun e => dg s e == 0 && Vc S k n b (s + 1 * 3 ^ e)) n else allb (fun e => !(dg s e == 0) || Vc S k n b (s + 2 * 3 ^ e)) n := by
  unfold Vc
  obtain ⟨f, hf⟩ : ∃ f, n - tk n s = f + 1 := ⟨n - tk n s - 1, by omega⟩
  rw [hf, vg]
  have h1 : ∀ v e, v < 3 → v ≠ 0 → e < n → dg s e = 0 → n - tk n (s + v * 3 ^ e) = f := fun v e hv hv0 he hz => by rw [tk_up hv hv0 he hz]; omega
  cases ht : trn n b s with
  | true =>
    rw [if_pos rfl, if_pos rfl]
    refine exb_cong (fun e he => ?_)
    by_cases hz : dg s e = 0
    · rw [h1 1 e (by omega) (by omega) he hz, trn_up (by omega) (by omega) he hz, ht]; rfl
    · rw [show (dg s e == 0) = false by rw [beq_eq_false_iff_ne]; exact hz]; rfl
  | false =>
    rw [if_neg (by decide), if_neg (by decide)]
    refine allb_cong (fun e he => ?_)
    by_cases hz : dg s e = 0
    · rw [h1 2 e (by omega) (by omega) he hz, trn_up (by omega) (by omega) he hz, ht]; rfl
    · rw [show (dg s e == 0) = false by rw [beq_eq_false_iff_ne]; exact hz]; rfl
theorem Vc_try {S : Nat → Nat} {k n b s : Nat} (h : tk n s < n) : Vc S k n b s = if trn n b s then exb (fun e => trB S k n s e && Vc S k n b (s + 1 * 3 ^ e)) n else allb (fun e => !(trB S k n s e) || Vc S k n b (s + 2 * 3 ^ e)) n := by
  unfold Vc
  obtain ⟨f, hf⟩ : ∃ f, n - tk n s = f + 1 := ⟨n - tk n s - 1, by omega⟩
  rw [hf, vg_C (by omega)]
  have h1 : ∀ v e, v < 3 → v ≠ 0 → e < n → dg s e = 0 → n - tk n (s + v * 3 ^ e) = f := fun v e hv hv0 he hz => by rw [tk_up hv hv0 he hz]; omega
  cases ht : trn n b s with
  | true =>
    rw [if_pos rfl, if_pos rfl]
    refine exb_cong (fun e he => ?_)
    cases hz : trB S k n s e with
    | true => rw [h1 1 e (by omega) (by omega) he (tr_fr hz), trn_up (by omega) (by omega) he (tr_fr hz), ht]; rfl
    | false => rfl
  | false =>
    rw [if_neg (by decide), if_neg (by decide)]
    refine allb_cong (fun e he => ?_)
    cases hz : trB S k n s e with
    | true => rw [h1 2 e (by omega) (by omega) he (tr_fr hz), trn_up (by omega) (by omega) he (tr_fr hz), ht]; rfl
    | false => rfl
theorem Vc_A {S : Nat → Nat} {k n b s : Nat} (h : hsb S k (mOf n s) = true) : Vc S k n b s = true := by
  unfold Vc
  have := tk_le (n := n) (s := s)
  exact vg_A (by omega) h
theorem Vc_B {S : Nat → Nat} {k n b s : Nat} (h : mt S k (bOf n s) = true) : Vc S k n b s = false := by
  unfold Vc
  have := tk_le (n := n) (s := s)
  exact vg_B (by omega) h
