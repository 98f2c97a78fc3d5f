/-! plain words on numbers below n -/
def allb (p : Nat → Bool) : Nat → Bool
  | 0 => true
  | n + 1 => allb p n && p n
def exb (p : Nat → Bool) : Nat → Bool
  | 0 => false
  | n + 1 => exb p n || p n
/-- the first i < n with p -/
def fst (p : Nat → Bool) : Nat → Option Nat
  | 0 => none
  | n + 1 => match fst p n with
    | some j => some j
    | none => if p n then some n else none
theorem allb_iff {p : Nat → Bool} : ∀ {n : Nat}, allb p n = true ↔ ∀ i, i < n → p i = true
  | 0 => ⟨fun _ i hi => absurd hi (Nat.not_lt_zero i), fun _ => rfl⟩
  | n + 1 => by
    rw [allb, Bool.and_eq_true, allb_iff (n := n)]
    constructor
    · intro h i hi
      rcases Nat.lt_or_ge i n with q | q
      · exact h.1 i q
      · rw [show i = n by omega]; exact h.2
    · intro h
      exact ⟨fun i hi => h i (by omega), h n (by omega)⟩
theorem exb_iff {p : Nat → Bool} : ∀ {n : Nat}, exb p n = true ↔ ∃ i, i < n ∧ p i = true
  | 0 => ⟨fun h => (by cases h), fun ⟨i, hi, _⟩ => absurd hi (Nat.not_lt_zero i)⟩
  | n + 1 => by
    rw [exb, Bool.or_eq_true, exb_iff (n := n)]
    constructor
    · rintro (⟨i, hi, h⟩ | h)
      · exact ⟨i, by omega, h⟩
      · exact ⟨n, by omega, h⟩
    · rintro ⟨i, hi, h⟩
      rcases Nat.lt_or_ge i n with q | q
      · exact Or.inl ⟨i, q, h⟩
      · rw [show i = n by omega] at h; exact Or.inr h
theorem allb_cong {p q : Nat → Bool} : ∀ {n : Nat}, (∀ i, i < n → p i = q i) → allb p n = allb q n
  | 0, _ => rfl
  | n + 1, h => by rw [allb, allb, allb_cong (fun i hi => h i (by omega)), h n (by omega)]
theorem exb_cong {p q : Nat → Bool} : ∀ {n : Nat}, (∀ i, i < n → p i = q i) → exb p n = exb q n
  | 0, _ => rfl
  | n + 1, h => by rw [exb, exb, exb_cong (fun i hi => h i (by omega)), h n (by omega)]
theorem ct_cong {p q : Nat → Bool} : ∀ {n : Nat}, (∀ i, i < n → p i = q i) → ct p n = ct q n
  | 0, _ => rfl
  | n + 1, h => by rw [ct, ct, ct_cong (fun i hi => h i (by omega)), h n (by omega)]
theorem ct_le (p : Nat → Bool) : ∀ n, ct p n ≤ n
  | 0 => Nat.le_refl 0
  | n + 1 => by have := ct_le p n; rw [ct]; split <;> omega
theorem ct_0 {p : Nat → Bool} : ∀ {n : Nat}, ct p n = 0 ↔ exb p n = false
  | 0 => by simp [ct, exb]
  | n + 1 => by
    have := ct_0 (p := p) (n := n)
    rw [ct, exb]
    cases hp : p n <;> simp [this]
theorem fst_cong {p q : Nat → Bool} : ∀ {n : Nat}, (∀ i, i < n → p i = q i) → fst p n = fst q n
  | 0, _ => rfl
  | n + 1, h => by rw [fst, fst, fst_cong (fun i hi => h i (by omega)), h n (by omega)]
theorem fst_none {p : Nat → Bool} : ∀ {n : Nat}, fst p n = none ↔ ∀ i, i < n → p i = false
  | 0 => ⟨fun _ i hi => absurd hi (Nat.not_lt_zero i), fun _ => rfl⟩
  | n + 1 => by
    have ih := fst_none (p := p) (n := n)
    rw [fst]
    cases hf : fst p n with
    | some j =>
      constructor
      · intro h; cases h
      · intro h
        have := ih.mpr (fun i hi => h i (by omega))
        rw [hf] at this; cases this
    | none =>
      have h0 := ih.mp hf
      constructor
      · intro h i hi
        rcases Nat.lt_or_ge i n with q | q
        · exact h0 i q
        · rw [show i = n by omega]
          cases hp : p n with
          | false => rfl
          | true => simp [hp] at h
      · intro h
        simp [h n (by omega)]
theorem fst_some {p : Nat → Bool} : ∀ {n j : Nat}, fst p n = some j → j < n ∧ p j = true ∧ ∀ i, i < j → p i = false
  | 0, j, h => by cases h
  | n + 1, j, h => by
    rw [fst] at h
    cases hf : fst p n with
    | some i =>
      rw [hf] at h
      cases h
      obtain ⟨h1, h2, h3⟩ := fst_some hf
      exact ⟨by omega, h2, h3⟩
    | none =>
      rw [hf] at h
      cases hp : p n with
      | false => simp [hp] at h
      | true =>
        simp [hp] at h
        subst h
        exact ⟨by omega, hp, fst_none.mp hf⟩
theorem exb_fst {p : Nat → Bool} {n : Nat} : exb p n = (fst p n).isSome := by
  cases hf : fst p n with
  | none =>
    cases he : exb p n with
    | false => rfl
    | true =>
      obtain ⟨i, hi, h⟩ := exb_iff.mp he
      rw [fst_none.mp hf i hi] at h
      cases h
  | some j =>
    obtain ⟨h1, h2, -⟩ := fst_some hf
    exact exb_iff.mpr ⟨j, h1, h2⟩
/-- a loop that goes on until the first hit -/
theorem lp_first {σ ρ : Type} {step : σ → Option (σ ⊕ ρ)} (f : Nat → σ) (p : Nat → Bool) (g : Nat → ρ) (r0 : ρ) (k : Nat) (hs : ∀ i, i < k → step (f i) = some (if p i then .inr (g i) else .inl (f (i + 1)))) (hx : step (f k) = some (.inr r0)) : lp step (f 0) = some ((fst p k).elim r0 g) := by
  cases hf : fst p k with
  | none =>
    have h := fst_none.mp hf
    exact lp_det f r0 k (fun i hi => by rw [hs i hi, h i hi]; rfl) hx
  | some j =>
    obtain ⟨h1, h2, h3⟩ := fst_some hf
    refine lp_det f (g j) j (fun i hi => by rw [hs i (by omega), h3 i hi]; rfl) ?_
    rw [hs j h1, h2]
    rfl
/-! sets as bits -/
theorem sub_iff {a x : Nat} : sub a x = true ↔ a &&& x = a := by simp [sub]
theorem or_half {a b c d : Nat} (hb : b < 2) (hd : d < 2) : (2 * a + b) ||| (2 * c + d) = 2 * (a ||| c) + (b ||| d) := by
  apply Nat.eq_of_testBit_eq
  intro i
  cases i with
  | zero =>
    rw [Nat.testBit_or]
    simp only [Nat.testBit_zero]
    rcases (show b = 0 ∨ b = 1 by omega) with rfl | rfl <;> rcases (show d = 0 ∨ d = 1 by omega) with rfl | rfl <;> simp <;> omega
  | succ i =>
    have e1 : (2 * a + b) / 2 = a := by omega
    have e2 : (2 * c + d) / 2 = c := by omega
    have hbd : b ||| d < 2 := by rcases (show b = 0 ∨ b = 1 by omega) with rfl | rfl <;> rcases (show d = 0 ∨ d = 1 by omega) with rfl | rfl <;> decide
    have e3 : (2 * (a ||| c) + (b ||| d)) / 2 = a ||| c := by omega
    rw [Nat.testBit_or, Nat.testBit_succ, Nat.testBit_succ, Nat.testBit_succ, e1, e2, e3, Nat.testBit_or]
theorem and_half {a b c d : Nat} (hb : b < 2) (hd : d < 2) : (2 * a + b) &&& (2 * c + d) = 2 * (a &&& c) + (b &&& d) := by
  apply Nat.eq_of_testBit_eq
  intro i
  cases i with
  | zero =>
    rw [Nat.testBit_and]
    simp only [Nat.testBit_zero]
    rcases (show b = 0 ∨ b = 1 by omega) with rfl | rfl <;> rcases (show d = 0 ∨ d = 1 by omega) with rfl | rfl <;> simp <;> omega
  | succ i =>
    have e1 : (2 * a + b) / 2 = a := by omega
    have e2 : (2 * c + d) / 2 = c := by omega
    have hbd : b &&& d < 2 := by rcases (show b = 0 ∨ b = 1 by omega) with rfl | rfl <;> rcases (show d = 0 ∨ d = 1 by omega) with rfl | rfl <;> decide
    have e3 : (2 * (a &&& c) + (b &&& d)) / 2 = a &&& c := by omega
    rw [Nat.testBit_and, Nat.testBit_succ, Nat.testBit_succ, Nat.testBit_succ, e1, e2, e3, Nat.testBit_and]
theorem halves (x : Nat) : ∃ u b, b < 2 ∧ x = 2 * u + b := ⟨x / 2, x % 2, by omega, by omega⟩
/-- the next set that a lies in -/
theorem next_sup : ∀ (N x a y : Nat), x < N → a &&& x = a → a &&& y = a → x < y → (x + 1) ||| a ≤ y
  | 0, _, _, _, h, _, _, _ => absurd h (Nat.not_lt_zero _)
  | N + 1, x, a, y, hN, hx, hy, hl => by
    obtain ⟨u, b, hb, rfl⟩ := halves x
    obtain ⟨v, c, hc, rfl⟩ := halves a
    obtain ⟨w, d, hd, rfl⟩ := halves y
    rw [and_half hc hb] at hx
    rw [and_half hc hd] at hy
    have c1 : v &&& u = v ∧ c &&& b = c := by
      have : c &&& b ≤ c := Nat.and_le_left
      omega
    have c2 : v &&& w = v ∧ c &&& d = c := by
      have : c &&& d ≤ c := Nat.and_le_left
      omega
    rcases (show b = 0 ∨ b = 1 by omega) with rfl | rfl
    · have c0 : c = 0 := by have := c1.2; simpa using this.symm
      subst c0
      have e : u ||| v = u := by
        apply Nat.eq_of_testBit_eq
        intro i
        have := congrArg (fun z => z.testBit i) c1.1
        simp only [Nat.testBit_and] at this
        rw [Nat.testBit_or]
        cases hu : u.testBit i <;> cases hv : v.testBit i <;> simp [hu, hv] at this ⊢
      have e2 : 2 * u + 0 + 1 = 2 * u + 1 := by omega
      rw [e2, or_half (by omega) (by omega), e]
      have : (1 ||| 0 : Nat) = 1 := rfl
      omega
    · have hlt : u < w := by omega
      have ih := next_sup N u v w (by omega) c1.1 c2.1 hlt
      have e2 : 2 * u + 1 + 1 = 2 * (u + 1) + 0 := by omega
      rw [e2, or_half (by omega) hc]
      have e3 : (0 ||| c : Nat) = c := Nat.zero_or c
      rw [e3]
      have hcd : c ≤ d := by
        have h := c2.2
        have : c &&& d ≤ d := Nat.and_le_right
        omega
      omega
theorem and_or_self (a z : Nat) : a &&& (z ||| a) = a := by
  apply Nat.eq_of_testBit_eq
  intro i
  rw [Nat.testBit_and, Nat.testBit_or]
  cases a.testBit i <;> simp
theorem le_or_left (z a : Nat) : z ≤ z ||| a := Nat.left_le_or
theorem or_lt {a b n : Nat} (ha : a < 2 ^ n) (hb : b < 2 ^ n) : a ||| b < 2 ^ n := Nat.or_lt_two_pow ha hb
