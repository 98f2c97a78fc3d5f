/-! questions -/
def hv (S : Nat → Nat) (k e : Nat) : Nat := mk (fun i => (S i).testBit e) k
def yesL (S : Nat → Nat) (k e lot : Nat) : Nat := lot &&& hv S k e
def noL (S : Nat → Nat) (k e lot : Nat) : Nat := lot ^^^ (lot &&& hv S k e)
def spl (S : Nat → Nat) (k e lot : Nat) : Bool := (yesL S k e lot != 0) && (yesL S k e lot != lot)
def mnf (c : Nat) (F : Nat → Nat) : Nat → Nat
  | 0 => c
  | e + 1 => min (mnf c F e) (F e)
def qf (S : Nat → Nat) (k n : Nat) : Nat → Nat → Nat
  | 0, _ => 0
  | f + 1, lot => if pop lot ≤ 1 then 0 else mnf 100 (fun e => if spl S k e lot then 1 + max (qf S k n f (yesL S k e lot)) (qf S k n f (noL S k e lot)) else 100) n
theorem ct_part {p q : Nat → Bool} : ∀ {n : Nat}, ct p n = ct (fun i => p i && q i) n + ct (fun i => p i && !q i) n
  | 0 => rfl
  | n + 1 => by
    rw [ct, ct, ct, ct_part (p := p) (q := q) (n := n)]
    cases p n <;> cases q n <;> simp <;> omega
theorem yes_bit {S : Nat → Nat} {k e lot i : Nat} : (yesL S k e lot).testBit i = (lot.testBit i && (hv S k e).testBit i) := by unfold yesL; rw [Nat.testBit_and]
theorem no_bit {S : Nat → Nat} {k e lot i : Nat} : (noL S k e lot).testBit i = (lot.testBit i && !(hv S k e).testBit i) := by
  unfold noL; rw [Nat.testBit_xor, Nat.testBit_and]
  cases lot.testBit i <;> cases (hv S k e).testBit i <;> rfl
theorem pop_parts {S : Nat → Nat} {k e lot : Nat} : pop lot = pop (yesL S k e lot) + pop (noL S k e lot) := by
  unfold pop
  rw [ct_part (q := fun i => (hv S k e).testBit i)]
  congr 1
  · exact ct_cong (fun i _ => yes_bit.symm)
  · exact ct_cong (fun i _ => no_bit.symm)
theorem pop_z {x : Nat} (hx : x < 65536) (h : pop x = 0) : x = 0 := by
  unfold pop at h
  rw [ct_0] at h
  apply Nat.eq_of_testBit_eq
  intro i
  rw [Nat.zero_testBit]
  rcases Nat.lt_or_ge i 16 with q | q
  · cases hb : x.testBit i with
    | false => rfl
    | true =>
      have : exb (fun i => x.testBit i) 16 = true := exb_iff.mpr ⟨i, q, hb⟩
      rw [h] at this; cases this
  · exact Nat.testBit_lt_two_pow (Nat.lt_of_lt_of_le hx (Nat.pow_le_pow_right (n := 2) (by omega) q))
theorem yes_le {S : Nat → Nat} {k e lot : Nat} : yesL S k e lot ≤ lot := Nat.and_le_left
theorem no_le {S : Nat → Nat} {k e lot : Nat} : noL S k e lot ≤ lot := by
  have : noL S k e lot = lot &&& noL S k e lot := by
    apply Nat.eq_of_testBit_eq
    intro i
    rw [Nat.testBit_and, no_bit]
    cases lot.testBit i <;> simp
  rw [this]; exact Nat.and_le_left
theorem spl_pop {S : Nat → Nat} {k e lot : Nat} (hl : lot < 65536) (h : spl S k e lot = true) : 1 ≤ pop (yesL S k e lot) ∧ 1 ≤ pop (noL S k e lot) ∧ yesL S k e lot ≠ 0 ∧ noL S k e lot ≠ 0 := by
  unfold spl at h
  simp only [Bool.and_eq_true, bne_iff_ne] at h
  have h1 := yes_le (S := S) (k := k) (e := e) (lot := lot)
  have h2 := no_le (S := S) (k := k) (e := e) (lot := lot)
  have hn : noL S k e lot ≠ 0 := by
    intro q
    apply h.2
    unfold noL at q
    have := congrArg (fun z => lot ^^^ z) q
    simp only [Nat.xor_zero] at this
    rw [← Nat.xor_assoc, Nat.xor_self, Nat.zero_xor] at this
    exact this
  refine ⟨?_, ?_, h.1, hn⟩
  · rcases Nat.eq_zero_or_pos (pop (yesL S k e lot)) with q | q
    · exact absurd (pop_z (by omega) q) h.1
    · exact q
  · rcases Nat.eq_zero_or_pos (pop (noL S k e lot)) with q | q
    · exact absurd (pop_z (by omega) q) hn
    · exact q
theorem mnf_cong {c : Nat} {F G : Nat → Nat} : ∀ {n : Nat}, (∀ e, e < n → F e = G e) → mnf c F n = mnf c G n
  | 0, _ => rfl
  | n + 1, h => by rw [mnf, mnf, mnf_cong (fun e he => h e (by omega)), h n (by omega)]
theorem mnf_le {c : Nat} {F : Nat → Nat} : ∀ {n e : Nat}, e ≤ n → mnf c F n ≤ mnf c F e
  | 0, e, h => by rw [show e = 0 by omega]; exact Nat.le_refl _
  | n + 1, e, h => by
    rcases Nat.lt_or_ge n e with q | q
    · rw [show e = n + 1 by omega]; exact Nat.le_refl _
    · rw [mnf]; exact Nat.le_trans (Nat.min_le_left _ _) (mnf_le q)
theorem mnf_at {c : Nat} {F : Nat → Nat} {n e : Nat} (h : e < n) : mnf c F n ≤ F e := by
  have := mnf_le (c := c) (F := F) (show e + 1 ≤ n by omega)
  rw [mnf] at this
  exact Nat.le_trans this (Nat.min_le_right _ _)
theorem mnf_c {c : Nat} {F : Nat → Nat} {n : Nat} : mnf c F n ≤ c := mnf_le (c := c) (F := F) (e := 0) (Nat.zero_le n)
theorem mnf_or {c : Nat} {F : Nat → Nat} : ∀ {n : Nat}, mnf c F n = c ∨ ∃ e, e < n ∧ mnf c F n = F e
  | 0 => Or.inl rfl
  | n + 1 => by
    rw [mnf]
    rcases Nat.le_total (mnf c F n) (F n) with q | q
    · rw [Nat.min_eq_left q]
      rcases mnf_or (c := c) (F := F) (n := n) with r | ⟨e, he, r⟩
      · exact Or.inl r
      · exact Or.inr ⟨e, by omega, r⟩
    · rw [Nat.min_eq_right q]; exact Or.inr ⟨n, by omega, rfl⟩
theorem mnf_start {c d : Nat} {F : Nat → Nat} : ∀ {n : Nat}, mnf c F n ≤ d → d ≤ c → mnf d F n = mnf c F n
  | 0, h, h2 => by rw [mnf] at h; show d = c; omega
  | n + 1, h, h2 => by
    rw [mnf, mnf] at *
    by_cases q : mnf c F n ≤ d
    · rw [mnf_start q h2]
    · have h3 : F n ≤ d := by
        rcases Nat.le_total (mnf c F n) (F n) with r | r
        · rw [Nat.min_eq_left r] at h; omega
        · rw [Nat.min_eq_right r] at h; exact h
      have h4 : ∀ m, m ≤ n → mnf d F m = d := by
        intro m
        induction m with
        | zero => intro _; rfl
        | succ m ih =>
          intro hm
          rw [mnf, ih (by omega)]
          have := mnf_at (c := c) (F := F) (show m < n by omega)
          exact Nat.min_eq_left (by omega)
      rw [h4 n (Nat.le_refl n), Nat.min_eq_right h3, Nat.min_eq_right (by omega)]
theorem qf_st {S : Nat → Nat} {k n : Nat} : ∀ {f g lot : Nat}, lot < 65536 → pop lot ≤ f → pop lot ≤ g → qf S k n f lot = qf S k n g lot := by
  have hz : ∀ g lot, pop lot ≤ 1 → qf S k n g lot = 0 := by
    intro g lot h
    cases g with
    | zero => rfl
    | succ g => rw [qf, if_pos h]
  intro f
  induction f with
  | zero => intro g lot hl h1 h2; rw [hz _ _ (by omega), hz _ _ (by omega)]
  | succ f ih =>
    intro g lot hl h1 h2
    by_cases q : pop lot ≤ 1
    · rw [hz _ _ q, hz _ _ q]
    · obtain ⟨g, rfl⟩ : ∃ g', g = g' + 1 := ⟨g - 1, by omega⟩
      rw [qf, qf, if_neg q, if_neg q]
      refine mnf_cong (fun e he => ?_)
      cases hs : spl S k e lot with
      | false => rfl
      | true =>
        obtain ⟨p1, p2, -, -⟩ := spl_pop hl hs
        have pp := pop_parts (S := S) (k := k) (e := e) (lot := lot)
        have l1 := yes_le (S := S) (k := k) (e := e) (lot := lot)
        have l2 := no_le (S := S) (k := k) (e := e) (lot := lot)
        rw [ih (g := g) (lot := yesL S k e lot) (by omega) (by omega) (by omega), ih (g := g) (lot := noL S k e lot) (by omega) (by omega) (by omega)]
def Qv (S : Nat → Nat) (k n lot : Nat) : Nat := qf S k n 16 lot
def FvQ (S : Nat → Nat) (k n lot e : Nat) : Nat := if spl S k e lot then 1 + max (Qv S k n (yesL S k e lot)) (Qv S k n (noL S k e lot)) else 100
theorem Qv_1 {S : Nat → Nat} {k n lot : Nat} (h : pop lot ≤ 1) : Qv S k n lot = 0 := by unfold Qv; rw [qf, if_pos h]
theorem Qv_eq {S : Nat → Nat} {k n lot : Nat} (hl : lot < 65536) (h : ¬ pop lot ≤ 1) : Qv S k n lot = mnf 100 (FvQ S k n lot) n := by
  unfold Qv
  rw [qf, if_neg h]
  refine mnf_cong (fun e he => ?_)
  unfold FvQ Qv
  cases hs : spl S k e lot with
  | false => simp only [Bool.false_eq_true, if_false]
  | true =>
    obtain ⟨p1, p2, -, -⟩ := spl_pop hl hs
    have pp := pop_parts (S := S) (k := k) (e := e) (lot := lot)
    have l1 := yes_le (S := S) (k := k) (e := e) (lot := lot)
    have l2 := no_le (S := S) (k := k) (e := e) (lot := lot)
    have := pop_le lot
    rw [qf_st (f := 15) (g := 16) (lot := yesL S k e lot) (by omega) (by omega) (by omega), qf_st (f := 15) (g := 16) (lot := noL S k e lot) (by omega) (by omega) (by omega)]
theorem hv_bit {S : Nat → Nat} {k e i : Nat} : (hv S k e).testBit i = (decide (i < k) && (S i).testBit e) := mk_bit
/-- unlike sets are split by an element -/
theorem spl_ex {S : Nat → Nat} {k n lot : Nat} (hk : k ≤ 16) (hS : ∀ i, i < k → S i < 2 ^ n) (hd : ∀ i j, i < j → j < k → S i ≠ S j) (hl : lot < 2 ^ k) (hp : 2 ≤ pop lot) : ∃ e, e < n ∧ spl S k e lot = true := by
  have h16 : 2 ^ k ≤ 65536 := by
    have := Nat.pow_le_pow_right (n := 2) (by omega) hk
    simpa using this
  rcases Classical.em (∃ e, e < n ∧ spl S k e lot = true) with q | q
  · exact q
  · exfalso
    have hall : ∀ i j, lot.testBit i = true → lot.testBit j = true → i < k → j < k → S i = S j := by
      intro i j hi hj hik hjk
      apply Nat.eq_of_testBit_eq
      intro e
      rcases Nat.lt_or_ge e n with c | c
      · have hs : spl S k e lot = false := by
          cases hh : spl S k e lot with
          | false => rfl
          | true => exact absurd ⟨e, c, hh⟩ q
        unfold spl at hs
        rw [Bool.and_eq_false_iff, bne_eq_false_iff_eq, bne_eq_false_iff_eq] at hs
        have b1 := yes_bit (S := S) (k := k) (e := e) (lot := lot) (i := i)
        have b2 := yes_bit (S := S) (k := k) (e := e) (lot := lot) (i := j)
        rw [hi, hv_bit, decide_eq_true hik, Bool.true_and, Bool.true_and] at b1
        rw [hj, hv_bit, decide_eq_true hjk, Bool.true_and, Bool.true_and] at b2
        rcases hs with hs | hs
        · rw [hs, Nat.zero_testBit] at b1 b2
          rw [← b1, ← b2]
        · rw [hs] at b1 b2
          rw [← b1, ← b2, hi, hj]
      · rw [Nat.testBit_lt_two_pow (Nat.lt_of_lt_of_le (hS i hik) (Nat.pow_le_pow_right (by omega) c)), Nat.testBit_lt_two_pow (Nat.lt_of_lt_of_le (hS j hjk) (Nat.pow_le_pow_right (by omega) c))]
    have hlt : ∀ i, lot.testBit i = true → i < k := by
      intro i hi
      rcases Nat.lt_or_ge i k with c | c
      · exact c
      · rw [Nat.testBit_lt_two_pow (Nat.lt_of_lt_of_le hl (Nat.pow_le_pow_right (by omega) c))] at hi
        cases hi
    have hone : ∀ i j, lot.testBit i = true → lot.testBit j = true → i = j := by
      intro i j hi hj
      rcases Nat.lt_trichotomy i j with c | c | c
      · exact absurd (hall i j hi hj (hlt i hi) (hlt j hj)) (hd i j c (hlt j hj))
      · exact c
      · exact absurd (hall j i hj hi (hlt j hj) (hlt i hi)) (hd j i c (hlt i hi))
    have hct : ∀ m, ct (fun i => lot.testBit i) m ≤ 1 := by
      intro m
      induction m with
      | zero => rw [ct]; omega
      | succ m ih =>
        rw [ct]
        cases hb : lot.testBit m with
        | false => simpa using ih
        | true =>
          have : ct (fun i => lot.testBit i) m = 0 := by
            rw [ct_0]
            cases hx : exb (fun i => lot.testBit i) m with
            | false => rfl
            | true =>
              obtain ⟨i, hi, hh⟩ := exb_iff.mp hx
              have := hone i m hh hb
              omega
          rw [this]; simp
    have := hct 16
    unfold pop at hp
    omega
theorem Qv_up {S : Nat → Nat} {k n : Nat} (hk : k ≤ 16) (hS : ∀ i, i < k → S i < 2 ^ n) (hd : ∀ i j, i < j → j < k → S i ≠ S j) : ∀ (m lot : Nat), pop lot ≤ m → lot < 2 ^ k → Qv S k n lot ≤ pop lot - 1 := by
  have h16 : 2 ^ k ≤ 65536 := by
    have := Nat.pow_le_pow_right (n := 2) (by omega) hk
    simpa using this
  intro m
  induction m with
  | zero => intro lot h _; rw [Qv_1 (by omega)]; omega
  | succ m ih =>
    intro lot h hl
    by_cases q : pop lot ≤ 1
    · rw [Qv_1 q]; omega
    · obtain ⟨e, he, hs⟩ := spl_ex hk hS hd hl (by omega)
      obtain ⟨p1, p2, -, -⟩ := spl_pop (by omega) hs
      have pp := pop_parts (S := S) (k := k) (e := e) (lot := lot)
      have l1 := yes_le (S := S) (k := k) (e := e) (lot := lot)
      have l2 := no_le (S := S) (k := k) (e := e) (lot := lot)
      have i1 := ih (yesL S k e lot) (by omega) (by omega)
      have i2 := ih (noL S k e lot) (by omega) (by omega)
      rw [Qv_eq (by omega) q]
      refine Nat.le_trans (mnf_at he) ?_
      unfold FvQ
      rw [hs, if_pos rfl]
      omega
theorem Qv_lo {S : Nat → Nat} {k n : Nat} (hk : k ≤ 16) (hS : ∀ i, i < k → S i < 2 ^ n) (hd : ∀ i j, i < j → j < k → S i ≠ S j) : ∀ (m lot : Nat), pop lot ≤ m → lot < 2 ^ k → pop lot ≤ 2 ^ Qv S k n lot := by
  have h16 : 2 ^ k ≤ 65536 := by
    have := Nat.pow_le_pow_right (n := 2) (by omega) hk
    simpa using this
  intro m
  induction m with
  | zero => intro lot h _; have := tI_pp (Qv S k n lot); omega
  | succ m ih =>
    intro lot h hl
    by_cases q : pop lot ≤ 1
    · have := tI_pp (Qv S k n lot); omega
    · have hup := Qv_up hk hS hd (pop lot) lot (Nat.le_refl _) hl
      have hp16 := pop_le lot
      have e1 := Qv_eq (S := S) (k := k) (n := n) (show lot < 65536 by omega) q
      rcases mnf_or (c := 100) (F := FvQ S k n lot) (n := n) with r | ⟨e, he, r⟩
      · omega
      · rw [← e1] at r
        cases hs : spl S k e lot with
        | false =>
          have : FvQ S k n lot e = 100 := by unfold FvQ; rw [hs]; rfl
          omega
        | true =>
          obtain ⟨p1, p2, -, -⟩ := spl_pop (show lot < 65536 by omega) hs
          have pp := pop_parts (S := S) (k := k) (e := e) (lot := lot)
          have l1 := yes_le (S := S) (k := k) (e := e) (lot := lot)
          have l2 := no_le (S := S) (k := k) (e := e) (lot := lot)
          have i1 := ih (yesL S k e lot) (by omega) (by omega)
          have i2 := ih (noL S k e lot) (by omega) (by omega)
          have hF : FvQ S k n lot e = 1 + max (Qv S k n (yesL S k e lot)) (Qv S k n (noL S k e lot)) := by unfold FvQ; rw [hs]; rfl
          rw [r, hF, Nat.add_comm 1, Nat.pow_succ]
          have a1 := Nat.pow_le_pow_right (n := 2) (by omega) (Nat.le_max_left (Qv S k n (yesL S k e lot)) (Qv S k n (noL S k e lot)))
          have a2 := Nat.pow_le_pow_right (n := 2) (by omega) (Nat.le_max_right (Qv S k n (yesL S k e lot)) (Qv S k n (noL S k e lot)))
          omega
