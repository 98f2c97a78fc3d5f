/-! colourings: sums over two parts of a set -/
def sb : Nat → Nat → (Nat → Nat → Nat) → Nat
  | 0, _, g => g 0 0
  | f + 1, r, g => if r % 2 = 1 then sb f (r / 2) (fun x y => g (2 * x) (2 * y + 1)) + sb f (r / 2) (fun x y => g (2 * x + 1) (2 * y)) else sb f (r / 2) (fun x y => g (2 * x) (2 * y))
theorem sb_swap : ∀ {f r : Nat} {g : Nat → Nat → Nat}, sb f r (fun x y => g y x) = sb f r g
  | 0, _, _ => rfl
  | f + 1, r, g => by
    rw [sb, sb]
    split
    · rw [sb_swap (f := f) (g := fun x y => g (2 * x + 1) (2 * y)), sb_swap (f := f) (g := fun x y => g (2 * x) (2 * y + 1)), Nat.add_comm]
    · exact sb_swap (f := f) (g := fun x y => g (2 * x) (2 * y))
theorem sb_add : ∀ {f r : Nat} {g h : Nat → Nat → Nat}, sb f r (fun x y => g x y + h x y) = sb f r g + sb f r h
  | 0, _, _, _ => rfl
  | f + 1, r, g, h => by
    rw [sb, sb, sb]
    split
    · rw [sb_add (f := f), sb_add (f := f)]; omega
    · exact sb_add (f := f)
theorem sb_0 : ∀ {f r : Nat}, sb f r (fun _ _ => 0) = 0
  | 0, _ => rfl
  | f + 1, r => by
    rw [sb]
    split
    · rw [sb_0 (f := f)]
    · exact sb_0 (f := f)
theorem sb_le {c : Nat} : ∀ {f r : Nat} {g : Nat → Nat → Nat}, (∀ x y, g x y ≤ c) → sb f r g ≤ 2 ^ f * c
  | 0, _, _, h => by have := h 0 0; rw [sb]; omega
  | f + 1, r, g, h => by
    rw [sb, Nat.pow_succ]
    split
    · have h1 := sb_le (f := f) (r := r / 2) (g := fun x y => g (2 * x) (2 * y + 1)) (fun x y => h _ _)
      have h2 := sb_le (f := f) (r := r / 2) (g := fun x y => g (2 * x + 1) (2 * y)) (fun x y => h _ _)
      have e : 2 ^ f * 2 * c = 2 ^ f * c + 2 ^ f * c := by rw [Nat.mul_right_comm, Nat.mul_two]
      omega
    · have h1 := sb_le (f := f) (r := r / 2) (g := fun x y => g (2 * x) (2 * y)) (fun x y => h _ _)
      have e : 2 ^ f * 2 * c = 2 ^ f * c + 2 ^ f * c := by rw [Nat.mul_right_comm, Nat.mul_two]
      omega
theorem or_even {x b : Nat} : 2 * x ||| 2 ^ (b + 1) = 2 * (x ||| 2 ^ b) := by
  have := or_half (a := x) (b := 0) (c := 2 ^ b) (d := 0) (by omega) (by omega)
  rw [Nat.pow_succ, Nat.mul_comm (2 ^ b) 2]
  exact this
theorem or_odd {x b : Nat} : (2 * x + 1) ||| 2 ^ (b + 1) = 2 * (x ||| 2 ^ b) + 1 := by
  have := or_half (a := x) (b := 1) (c := 2 ^ b) (d := 0) (by omega) (by omega)
  rw [Nat.pow_succ, Nat.mul_comm (2 ^ b) 2]
  exact this
theorem or_e1 {x : Nat} : 2 * x ||| 2 ^ 0 = 2 * x + 1 := by
  have := or_half (a := x) (b := 0) (c := 0) (d := 1) (by omega) (by omega)
  simpa using this
theorem sb_split : ∀ {f b r : Nat} {g : Nat → Nat → Nat}, b < f → r.testBit b = false → sb f (r ||| 2 ^ b) g = sb f r (fun x y => g x (y ||| 2 ^ b)) + sb f r (fun x y => g (x ||| 2 ^ b) y)
  | 0, b, _, _, h, _ => absurd h (Nat.not_lt_zero b)
  | f + 1, 0, r, g, _, hr => by
    obtain ⟨v, c, hc, rfl⟩ := halves r
    have hc0 : c = 0 := by
      rw [Nat.testBit_zero] at hr
      have := of_decide_eq_false hr
      omega
    subst hc0
    rw [sb, sb, sb, Nat.add_zero, or_e1, if_pos (by omega), if_neg (by omega), if_neg (by omega), show (2 * v + 1) / 2 = v by omega, show 2 * v / 2 = v by omega]
    simp only [or_e1]
  | f + 1, b + 1, r, g, hb, hr => by
    obtain ⟨v, c, hc, rfl⟩ := halves r
    have hv : v.testBit b = false := by
      rw [Nat.testBit_succ, show (2 * v + c) / 2 = v by omega] at hr
      exact hr
    rcases (show c = 0 ∨ c = 1 by omega) with rfl | rfl
    · rw [sb, sb, sb, Nat.add_zero, or_even, if_neg (by omega), if_neg (by omega), if_neg (by omega), show 2 * (v ||| 2 ^ b) / 2 = v ||| 2 ^ b by omega, show 2 * v / 2 = v by omega, sb_split (f := f) (b := b) (by omega) hv]
      simp only [or_even]
    · rw [sb, sb, sb, or_odd, if_pos (by omega), if_pos (by omega), if_pos (by omega), show (2 * (v ||| 2 ^ b) + 1) / 2 = v ||| 2 ^ b by omega, show (2 * v + 1) / 2 = v by omega, sb_split (f := f) (b := b) (by omega) hv, sb_split (f := f) (b := b) (by omega) hv]
      simp only [or_even, or_odd]
      omega
theorem ct_sh {p : Nat → Bool} : ∀ {f : Nat}, ct p (f + 1) = (if p 0 then 1 else 0) + ct (fun i => p (i + 1)) f
  | 0 => by simp [ct]
  | f + 1 => by rw [ct, ct_sh (f := f), ct]; omega
theorem ct_half {r f : Nat} : ct (fun i => r.testBit i) (f + 1) = r % 2 + ct (fun i => (r / 2).testBit i) f := by
  rw [ct_sh]
  have e : (fun i => r.testBit (i + 1)) = (fun i => (r / 2).testBit i) := by funext i; rw [Nat.testBit_succ]
  rw [e, Nat.testBit_zero]
  rcases Nat.mod_two_eq_zero_or_one r with q | q <;> simp [q]
theorem sb_one : ∀ {f r : Nat} {g : Nat → Nat → Nat}, (∀ x y, x &&& r = x → y &&& r = y → g x y = 1) → sb f r g = 2 ^ ct (fun i => r.testBit i) f
  | 0, r, g, h => by rw [sb, ct]; exact h 0 0 (Nat.zero_and r) (Nat.zero_and r)
  | f + 1, r, g, h => by
    obtain ⟨v, c, hc, rfl⟩ := halves r
    rw [sb, ct_half, show (2 * v + c) / 2 = v by omega]
    have hh : ∀ x y a b, x &&& v = x → y &&& v = y → a ≤ c → b ≤ c → g (2 * x + a) (2 * y + b) = 1 := by
      intro x y a b hx hy ha hb
      have e : ∀ u a, u &&& v = u → a ≤ c → (2 * u + a) &&& (2 * v + c) = 2 * u + a := by
        intro u a hu ha
        rw [and_half (by omega) hc, hu]
        rcases (show c = 0 ∨ c = 1 by omega) with rfl | rfl
        · rw [show a = 0 by omega]; rfl
        · rcases (show a = 0 ∨ a = 1 by omega) with rfl | rfl <;> rfl
      exact h _ _ (e x a hx ha) (e y b hy hb)
    rcases (show c = 0 ∨ c = 1 by omega) with rfl | rfl
    · rw [if_neg (by omega), sb_one (f := f) (g := fun x y => g (2 * x) (2 * y)) (fun x y hx hy => hh x y 0 0 hx hy (by omega) (by omega)), show (2 * v + 0) % 2 = 0 by omega, Nat.zero_add]
    · rw [if_pos (by omega), sb_one (f := f) (g := fun x y => g (2 * x) (2 * y + 1)) (fun x y hx hy => hh x y 0 1 hx hy (by omega) (by omega)), sb_one (f := f) (g := fun x y => g (2 * x + 1) (2 * y)) (fun x y hx hy => hh x y 1 0 hx hy (by omega) (by omega)), show (2 * v + 1) % 2 = 1 by omega, Nat.add_comm 1, Nat.pow_succ]
      omega
/-- the k-th part of r, and what is left of r -/
def pdl : Nat → Nat → Nat → Nat
  | 0, _, _ => 0
  | f + 1, r, k => if r % 2 = 1 then 2 * pdl f (r / 2) (k / 2) + k % 2 else 2 * pdl f (r / 2) k
def pcl : Nat → Nat → Nat → Nat
  | 0, _, _ => 0
  | f + 1, r, k => if r % 2 = 1 then 2 * pcl f (r / 2) (k / 2) + (1 - k % 2) else 2 * pcl f (r / 2) k
theorem sm_pair {F : Nat → Nat} : ∀ {n : Nat}, sm F (2 * n) = sm (fun i => F (2 * i) + F (2 * i + 1)) n
  | 0 => rfl
  | n + 1 => by
    show sm F (2 * n + 1 + 1) = _
    rw [sm, sm, sm, sm_pair (n := n)]; omega
theorem sm_plus {F G : Nat → Nat} : ∀ {n : Nat}, sm (fun i => F i + G i) n = sm F n + sm G n
  | 0 => rfl
  | n + 1 => by rw [sm, sm, sm, sm_plus (n := n)]; omega
theorem sm_sb : ∀ {f r : Nat} {g : Nat → Nat → Nat}, sm (fun k => g (pdl f r k) (pcl f r k)) (2 ^ ct (fun i => r.testBit i) f) = sb f r g
  | 0, r, g => by rw [ct, sb]; show 0 + g 0 0 = g 0 0; omega
  | f + 1, r, g => by
    rw [ct_half, sb]
    rcases Nat.mod_two_eq_zero_or_one r with q | q
    · rw [q, if_neg (by omega), Nat.zero_add, ← sm_sb (f := f)]
      simp only [pdl, pcl, q, if_neg (show ¬ (0 = 1) by omega)]
    · rw [q, if_pos rfl, Nat.add_comm 1, Nat.pow_succ, Nat.mul_comm _ 2, sm_pair, sm_plus, ← sm_sb (f := f), ← sm_sb (f := f)]
      have e1 : ∀ i, 2 * i / 2 = i := fun i => by omega
      have e2 : ∀ i, (2 * i + 1) / 2 = i := fun i => by omega
      have e3 : ∀ i, 2 * i % 2 = 0 := fun i => by omega
      have e4 : ∀ i, (2 * i + 1) % 2 = 1 := fun i => by omega
      simp only [pdl, pcl, q, if_true, e1, e2, e3, e4, Nat.sub_zero, Nat.sub_self, Nat.add_zero]
theorem pd_part : ∀ {f r k : Nat}, r < 2 ^ f → pdl f r k + pcl f r k = r ∧ pdl f r k ||| pcl f r k = r ∧ pdl f r k &&& pcl f r k = 0
  | 0, r, k, h => by
    have : r = 0 := by simp at h; exact h
    subst this
    exact ⟨rfl, by simp [pdl, pcl], by simp [pdl, pcl]⟩
  | f + 1, r, k, h => by
    rw [Nat.pow_succ] at h
    obtain ⟨v, c, hc, rfl⟩ := halves r
    have e2 : (2 * v + c) / 2 = v := by omega
    rw [pdl, pcl, e2]
    rcases (show c = 0 ∨ c = 1 by omega) with rfl | rfl
    · obtain ⟨h1, h2, h3⟩ := pd_part (f := f) (r := v) (k := k) (by omega)
      rw [if_neg (by omega), if_neg (by omega)]
      refine ⟨by omega, ?_, ?_⟩
      · have := or_half (a := pdl f v k) (b := 0) (c := pcl f v k) (d := 0) (by omega) (by omega)
        rw [h2] at this
        exact this
      · have := and_half (a := pdl f v k) (b := 0) (c := pcl f v k) (d := 0) (by omega) (by omega)
        rw [h3] at this
        exact this
    · obtain ⟨h1, h2, h3⟩ := pd_part (f := f) (r := v) (k := k / 2) (by omega)
      rw [if_pos (by omega), if_pos (by omega)]
      have hm := Nat.mod_two_eq_zero_or_one k
      refine ⟨by omega, ?_, ?_⟩
      · rw [or_half (by omega) (by omega), h2]
        rcases hm with q | q <;> rw [q] <;> rfl
      · rw [and_half (by omega) (by omega), h3]
        rcases hm with q | q <;> rw [q] <;> rfl
theorem xor_half {a b c d : Nat} (hb : b < 2) (hd : d < 2) : (2 * a + b) ^^^ (2 * c + d) = 2 * (a ^^^ c) + (b ^^^ d) := by
  apply Nat.eq_of_testBit_eq
  intro i
  have hbd : b ^^^ d < 2 := by rcases (show b = 0 ∨ b = 1 by omega) with rfl | rfl <;> rcases (show d = 0 ∨ d = 1 by omega) with rfl | rfl <;> decide
  cases i with
  | zero =>
    rw [Nat.testBit_xor]
    simp only [Nat.testBit_zero]
    rcases (show b = 0 ∨ b = 1 by omega) with rfl | rfl <;> rcases (show d = 0 ∨ d = 1 by omega) with rfl | rfl <;> simp <;> omega
  | succ i =>
    have e1 : (2 * a + b) / 2 = a := by omega
    have e2 : (2 * c + d) / 2 = c := by omega
    have e3 : (2 * (a ^^^ c) + (b ^^^ d)) / 2 = a ^^^ c := by omega
    rw [Nat.testBit_xor, Nat.testBit_succ, Nat.testBit_succ, Nat.testBit_succ, e1, e2, e3, Nat.testBit_xor]
theorem pd_next : ∀ {f r k : Nat}, r < 2 ^ f → k + 1 < 2 ^ ct (fun i => r.testBit i) f → 1 ≤ pcl f r k ∧ r ^^^ (r &&& (pcl f r k - 1)) = pdl f r (k + 1)
  | 0, r, k, _, h2 => by rw [ct] at h2; omega
  | f + 1, r, k, h, h2 => by
    rw [Nat.pow_succ] at h
    rw [ct_half] at h2
    obtain ⟨v, c, hc, rfl⟩ := halves r
    have e2 : (2 * v + c) / 2 = v := by omega
    rw [e2] at h2
    rw [pdl, pcl, e2]
    rcases (show c = 0 ∨ c = 1 by omega) with rfl | rfl
    · rw [show (2 * v + 0) % 2 = 0 by omega, Nat.zero_add] at h2
      obtain ⟨h1, h3⟩ := pd_next (f := f) (r := v) (k := k) (by omega) h2
      rw [if_neg (by omega), if_neg (by omega)]
      refine ⟨by omega, ?_⟩
      rw [show 2 * pcl f v k - 1 = 2 * (pcl f v k - 1) + 1 by omega, and_half (by omega) (by omega), show (0 &&& 1 : Nat) = 0 from rfl, xor_half (by omega) (by omega), h3]
      rfl
    · rw [show (2 * v + 1) % 2 = 1 by omega, Nat.add_comm 1, Nat.pow_succ] at h2
      rw [if_pos (by omega), if_pos (by omega)]
      rcases Nat.mod_two_eq_zero_or_one k with q | q
      · obtain ⟨h1, h3, h4⟩ := pd_part (f := f) (r := v) (k := k / 2) (by omega)
        rw [q, show (k + 1) / 2 = k / 2 by omega, show (k + 1) % 2 = 1 by omega]
        refine ⟨by omega, ?_⟩
        have hsub : v &&& pcl f v (k / 2) = pcl f v (k / 2) := by
          rw [← h3]
          apply Nat.eq_of_testBit_eq
          intro i
          rw [h3, Nat.testBit_and, ← h3, Nat.testBit_or, h3]
          cases (pcl f v (k / 2)).testBit i <;> simp
        have hx : v ^^^ pcl f v (k / 2) = pdl f v (k / 2) := by
          apply Nat.eq_of_testBit_eq
          intro i
          have b1 := congrArg (fun z => z.testBit i) h3
          have b2 := congrArg (fun z => z.testBit i) h4
          simp only [Nat.testBit_or, Nat.testBit_and, Nat.zero_testBit] at b1 b2
          rw [Nat.testBit_xor, ← b1]
          cases hp : (pdl f v (k / 2)).testBit i <;> cases hq : (pcl f v (k / 2)).testBit i <;> simp [hp, hq] at b2 ⊢
        rw [show 2 * pcl f v (k / 2) + (1 - 0) - 1 = 2 * pcl f v (k / 2) + 0 by omega, and_half (by omega) (by omega), show (1 &&& 0 : Nat) = 0 from rfl, hsub, xor_half (by omega) (by omega), hx]
        rfl
      · obtain ⟨h1, h3⟩ := pd_next (f := f) (r := v) (k := k / 2) (by omega) (by omega)
        rw [q, show (k + 1) / 2 = k / 2 + 1 by omega, show (k + 1) % 2 = 0 by omega]
        refine ⟨by omega, ?_⟩
        rw [show 2 * pcl f v (k / 2) + (1 - 1) - 1 = 2 * (pcl f v (k / 2) - 1) + 1 by omega, and_half (by omega) (by omega), show (1 &&& 1 : Nat) = 1 from rfl, xor_half (by omega) (by omega), h3]
        rfl
theorem pd_first : ∀ {f r : Nat}, pdl f r 0 = 0
  | 0, _ => rfl
  | f + 1, r => by
    rw [pdl, show 0 / 2 = 0 from rfl, pd_first (f := f)]
    split <;> rfl
theorem pd_last : ∀ {f r : Nat}, r < 2 ^ f → pdl f r (2 ^ ct (fun i => r.testBit i) f - 1) = r
  | 0, r, h => by
    have : r = 0 := by simp at h; exact h
    subst this; rfl
  | f + 1, r, h => by
    rw [Nat.pow_succ] at h
    obtain ⟨v, c, hc, rfl⟩ := halves r
    have e2 : (2 * v + c) / 2 = v := by omega
    rw [pdl, ct_half, e2]
    have hpp := tI_pp (ct (fun i => v.testBit i) f)
    rcases (show c = 0 ∨ c = 1 by omega) with rfl | rfl
    · rw [if_neg (by omega), show (2 * v + 0) % 2 = 0 by omega, Nat.zero_add, pd_last (f := f) (by omega)]; rfl
    · rw [if_pos (by omega), show (2 * v + 1) % 2 = 1 by omega, Nat.add_comm 1, Nat.pow_succ, show (2 ^ ct (fun i => v.testBit i) f * 2 - 1) / 2 = 2 ^ ct (fun i => v.testBit i) f - 1 by omega, show (2 ^ ct (fun i => v.testBit i) f * 2 - 1) % 2 = 1 by omega, pd_last (f := f) (by omega)]
