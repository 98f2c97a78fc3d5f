/-! the greatest lot of sets: the class's search and the reference's scan -/
def scn (P : Nat → Bool) (K : Nat → Int32) (x : Nat) : Nat → (Nat × Int32 × Nat) → (Nat × Int32 × Nat)
  | 0, s => s
  | d + 1, s => if P (x + d) && decide ((scn P K x d s).2.2 < pop (x + d)) then (x + d, K (x + d), pop (x + d)) else scn P K x d s
theorem scn_add {P : Nat → Bool} {K : Nat → Int32} : ∀ (d2 d1 x : Nat) (s : Nat × Int32 × Nat), scn P K x (d1 + d2) s = scn P K (x + d1) d2 (scn P K x d1 s)
  | 0, _, _, _ => rfl
  | d2 + 1, d1, x, s => by
    show scn P K x (d1 + d2 + 1) s = _
    rw [scn, scn, scn_add d2, Nat.add_assoc]
theorem scn_none {P : Nat → Bool} {K : Nat → Int32} {x : Nat} {s : Nat × Int32 × Nat} : ∀ {d : Nat}, (∀ y, x ≤ y → y < x + d → P y = false ∨ pop y ≤ s.2.2) → scn P K x d s = s
  | 0, _ => rfl
  | d + 1, h => by
    rw [scn, scn_none (fun y h1 h2 => h y h1 (by omega))]
    rcases h (x + d) (by omega) (by omega) with q | q
    · rw [q]; rfl
    · rw [decide_eq_false (by omega), Bool.and_false]; rfl
theorem scn_b {P : Nat → Bool} {K : Nat → Int32} {x N : Nat} {s : Nat × Int32 × Nat} (h1 : s.1 < N) (h2 : s.2.2 ≤ 16) : ∀ {d : Nat}, x + d ≤ N → (scn P K x d s).1 < N ∧ (scn P K x d s).2.2 ≤ 16
  | 0, _ => ⟨h1, h2⟩
  | d + 1, h => by
    rw [scn]
    split
    · exact ⟨by show x + d < N; omega, pop_le _⟩
    · exact scn_b h1 h2 (by omega)
/-- what the scan ends with: the first state, or a number that has P and its own size -/
theorem scn_or {P : Nat → Bool} {K : Nat → Int32} {x : Nat} {s : Nat × Int32 × Nat} : ∀ {d : Nat}, scn P K x d s = s ∨ (P (scn P K x d s).1 = true ∧ (scn P K x d s).2.1 = K (scn P K x d s).1 ∧ (scn P K x d s).2.2 = pop (scn P K x d s).1)
  | 0 => Or.inl rfl
  | d + 1 => by
    rw [scn]
    split
    · rename_i hh
      simp only [Bool.and_eq_true] at hh
      exact Or.inr ⟨hh.1, rfl, rfl⟩
    · exact scn_or
theorem scn_ge {P : Nat → Bool} {K : Nat → Int32} {x : Nat} {s : Nat × Int32 × Nat} : ∀ {d y : Nat}, x ≤ y → y < x + d → P y = true → pop y ≤ (scn P K x d s).2.2
  | 0, _, h1, h2, _ => by omega
  | d + 1, y, h1, h2, hp => by
    rw [scn]
    rcases Nat.lt_or_ge y (x + d) with q | q
    · have := scn_ge (P := P) (K := K) (s := s) h1 q hp
      split
      · rename_i hh
        simp only [Bool.and_eq_true, decide_eq_true_eq] at hh
        show pop y ≤ pop (x + d)
        omega
      · exact this
    · have e : y = x + d := by omega
      subst e
      rw [hp, Bool.true_and]
      split
      · exact Nat.le_refl _
      · rename_i hh
        simp only [decide_eq_true_eq] at hh
        omega
theorem b_odd {i a j : Nat} : (2 ^ i * (2 * a + 1)).testBit j = ((2 ^ i * (2 * a)).testBit j || decide (i = j)) := by
  rw [Nat.testBit_two_pow_mul, Nat.testBit_two_pow_mul]
  rcases Nat.lt_trichotomy i j with h | h | h
  · obtain ⟨m, rfl⟩ : ∃ m, j = i + 1 + m := ⟨j - i - 1, by omega⟩
    rw [show i + 1 + m - i = m + 1 by omega, Nat.testBit_succ, Nat.testBit_succ, show (2 * a + 1) / 2 = a by omega, show (2 * a) / 2 = a by omega, decide_eq_false (show ¬ i = i + 1 + m by omega), Bool.or_false]
  · subst h; simp
  · rw [decide_eq_false (show ¬ j ≥ i by omega), decide_eq_false (show ¬ i = j by omega)]; rfl
theorem b_even {i a : Nat} : (2 ^ i * (2 * a)).testBit i = false := by
  rw [Nat.testBit_two_pow_mul]; simp
theorem b_two {i a : Nat} : 2 ^ (i + 1) * a = 2 ^ i * (2 * a) := by rw [Nat.pow_succ, Nat.mul_assoc]
theorem b_add {i a : Nat} : 2 ^ i * (2 * a + 1) = 2 ^ i * (2 * a) + 2 ^ i := by rw [Nat.mul_add, Nat.mul_one]
theorem b_or {i a : Nat} : 2 ^ i * (2 * a) ||| 2 ^ i = 2 ^ i * (2 * a + 1) := by
  apply Nat.eq_of_testBit_eq
  intro j
  rw [Nat.testBit_or, Nat.testBit_two_pow, b_odd]
theorem ct_one {p q : Nat → Bool} {i : Nat} : ∀ {n : Nat}, i < n → (∀ j, j ≠ i → q j = p j) → p i = false → q i = true → ct q n = ct p n + 1
  | 0, h, _, _, _ => absurd h (Nat.not_lt_zero i)
  | n + 1, h, h1, h2, h3 => by
    rw [ct, ct]
    rcases Nat.lt_or_ge i n with c | c
    · rw [ct_one (p := p) (q := q) c h1 h2 h3, h1 n (by omega)]; omega
    · have e : i = n := by omega
      subst e
      rw [ct_cong (p := q) (q := p) (fun j hj => h1 j (by omega)), h2, h3]
      simp
theorem pop_odd {i a : Nat} (hi : i < 16) : pop (2 ^ i * (2 * a + 1)) = pop (2 ^ i * (2 * a)) + 1 := by
  unfold pop
  refine ct_one hi (fun j hj => ?_) b_even ?_
  · rw [b_odd, decide_eq_false (fun h => hj h.symm), Bool.or_false]
  · rw [b_odd]; simp
theorem pop_low : ∀ {i a y : Nat}, i ≤ 16 → 2 ^ i * a ≤ y → y < 2 ^ i * a + 2 ^ i → pop y ≤ pop (2 ^ i * a) + i
  | 0, a, y, _, h1, h2 => by
    rw [show 2 ^ 0 * a = a by omega] at *
    have : y = a := by simp at h2; omega
    rw [this]; omega
  | i + 1, a, y, hi, h1, h2 => by
    rw [b_two] at *
    rw [Nat.pow_succ] at h2
    rcases Nat.lt_or_ge y (2 ^ i * (2 * a) + 2 ^ i) with q | q
    · have := pop_low (i := i) (a := 2 * a) (by omega) h1 q
      omega
    · have := pop_low (i := i) (a := 2 * a + 1) (y := y) (by omega) (by rw [b_add]; exact q) (by rw [b_add]; omega)
      rw [pop_odd (by omega)] at this
      omega
theorem hc_odd {S : Nat → Nat} {i a e k : Nat} (hi : i < k) : hc (2 ^ i * (2 * a + 1)) S e k = hc (2 ^ i * (2 * a)) S e k + (if (S i).testBit e then 1 else 0) := by
  unfold hc
  cases hb : (S i).testBit e with
  | true =>
    refine ct_one hi (fun j hj => ?_) ?_ ?_
    · unfold hold; rw [b_odd, decide_eq_false (fun h => hj h.symm), Bool.or_false]
    · unfold hold; rw [b_even]; rfl
    · unfold hold; rw [b_odd, hb]; simp
  | false =>
    refine ct_cong (fun j hj => ?_)
    unfold hold
    rw [b_odd]
    by_cases q : i = j
    · subst q; rw [hb, Bool.and_false, Bool.and_false]
    · rw [decide_eq_false q, Bool.or_false]
theorem on_odd {S : Nat → Nat} {i a k : Nat} (hi : i < k) : on (2 ^ i * (2 * a)) S k ||| S i = on (2 ^ i * (2 * a + 1)) S k := by
  apply Nat.eq_of_testBit_eq
  intro e
  rw [Nat.testBit_or, on_bit, on_bit, hc_odd hi]
  cases (S i).testBit e
  · simp
  · simp
set_option maxHeartbeats 1000000 in
theorem search_eq {k : Nat} {S : Nat → Nat} {rows : Nat → Int32} (P : Nat → Bool) (K : Nat → Int32) (hk : k ≤ 16) (hR : ∀ i, i < k → rows i = nI (S i)) (hlt : ∀ i, i < k → S i < 1024)
    (H1 : ∀ i a, i < k → 2 ^ i * (2 * a) + 2 ^ (i + 1) ≤ 2 ^ k → P (2 ^ i * (2 * a)) = true → ((K (2 ^ i * (2 * a)) = -1 ∨ nI (S i) &&& nI (on (2 ^ i * (2 * a)) S k) = K (2 ^ i * (2 * a))) ↔ P (2 ^ i * (2 * a + 1)) = true))
    (H2 : ∀ i a, i < k → 2 ^ i * (2 * a) + 2 ^ (i + 1) ≤ 2 ^ k → P (2 ^ i * (2 * a)) = true → P (2 ^ i * (2 * a + 1)) = true → (if K (2 ^ i * (2 * a)) = -1 ∧ pop (2 ^ i * (2 * a)) = 1 then nI (S i) &&& nI (on (2 ^ i * (2 * a)) S k) else K (2 ^ i * (2 * a))) = K (2 ^ i * (2 * a + 1)))
    (H3 : ∀ i a y, i < k → 2 ^ i * a ≤ y → y < 2 ^ i * a + 2 ^ i → P y = true → P (2 ^ i * a) = true) : ∀ (i f a b c : Nat) (cb : Int32), i < f → i ≤ k → 2 ^ i * a + 2 ^ i ≤ 2 ^ k → P (2 ^ i * a) = true → b < 65536 → c ≤ 16 → pX3_search f 16 rows (nI b) cb (nI c) (nI i) (nI (2 ^ i * a)) (nI (pop (2 ^ i * a))) (nI (on (2 ^ i * a) S k)) (K (2 ^ i * a)) = some (nI (scn P K (2 ^ i * a) (2 ^ i) (b, cb, c)).1, (scn P K (2 ^ i * a) (2 ^ i) (b, cb, c)).2.1, nI (scn P K (2 ^ i * a) (2 ^ i) (b, cb, c)).2.2) := by
  have h16 : 2 ^ k ≤ 65536 := by
    have := Nat.pow_le_pow_right (n := 2) (by omega) hk
    simpa using this
  intro i
  induction i with
  | zero =>
    intro f a b c cb hf hik ha hP hb hc
    obtain ⟨f, rfl⟩ : ∃ g, f = g + 1 := ⟨f - 1, by omega⟩
    show pX3_search_B (pX3_search f) 16 rows _ _ _ _ _ _ _ _ = _
    unfold pX3_search_B
    have hp := pop_le (2 ^ 0 * a)
    rw [nI_add, show (2 ^ 0 : Nat) = 0 + 1 from rfl, scn, scn]
    rw [show ((0 + 1) * a + 0) = (0 + 1) * a by omega]
    rw [show (2 ^ 0 : Nat) = 0 + 1 from rfl] at hP hp
    rw [hP, Bool.true_and]
    dsimp only
    by_cases q : c < pop ((0 + 1) * a)
    · rw [if_pos (nI_lt (by omega) (by omega)), if_neg (by decide), decide_eq_true q]; rfl
    · rw [if_neg (nI_nlt (by omega) (by omega)), decide_eq_false q]; rfl
  | succ i ih =>
    intro f a b c cb hf hik ha hP hb hc
    obtain ⟨f, rfl⟩ : ∃ g, f = g + 1 := ⟨f - 1, by omega⟩
    show pX3_search_B (pX3_search f) 16 rows _ _ _ _ _ _ _ _ = _
    unfold pX3_search_B
    have hp := pop_le (2 ^ (i + 1) * a)
    have hlow := fun y => pop_low (i := i + 1) (a := a) (y := y) (by omega)
    have hpp := Nat.pow_succ (n := 2) (m := i)
    rw [nI_add]
    by_cases q : c < pop (2 ^ (i + 1) * a) + (i + 1)
    · rw [if_pos (nI_lt (by omega) (by omega)), if_pos (by show nI 0 < nI (i + 1); exact nI_lt (by omega) (by omega)), nI_pred]
      rw [b_two] at *
      have hS : scn P K (2 ^ i * (2 * a)) (2 ^ (i + 1)) (b, cb, c) = scn P K (2 ^ i * (2 * a + 1)) (2 ^ i) (scn P K (2 ^ i * (2 * a)) (2 ^ i) (b, cb, c)) := by
        rw [Nat.pow_succ, Nat.mul_two, scn_add, b_add]
      rw [ih f (2 * a) b c cb (by omega) (by omega) (by omega) hP hb hc, Option.bind_some, gd_t (vp_in_nI (show i < 16 by omega) (by omega)), nI_clamp (by omega), hR i (by omega), hS]
      obtain ⟨hb', hc'⟩ := scn_b (P := P) (K := K) (x := 2 ^ i * (2 * a)) (N := 65536) (s := (b, cb, c)) hb hc (d := 2 ^ i) (by omega)
      generalize hs' : scn P K (2 ^ i * (2 * a)) (2 ^ i) (b, cb, c) = s' at *
      obtain ⟨b', cb', c'⟩ := s'
      dsimp only at hb' hc' ⊢
      cases hP2 : P (2 ^ i * (2 * a + 1)) with
      | true =>
        have hkk : P (2 ^ i * (2 * a + 1)) = true := hP2
        have ht := (H1 i a (by omega) ha hP).mpr hP2
        have hcore := H2 i a (by omega) ha hP hP2
        have hJ : pX3_search_J81 16 rows (nI (i + 1)) (nI (2 ^ i * (2 * a))) (nI (pop (2 ^ i * (2 * a)))) (nI (on (2 ^ i * (2 * a)) S k)) (K (2 ^ i * (2 * a))) (pX3_search f) (nI b', cb', nI c') () = some (nI (scn P K (2 ^ i * (2 * a + 1)) (2 ^ i) (b', cb', c')).1, (scn P K (2 ^ i * (2 * a + 1)) (2 ^ i) (b', cb', c')).2.1, nI (scn P K (2 ^ i * (2 * a + 1)) (2 ^ i) (b', cb', c')).2.2) := by
          unfold pX3_search_J81 pX3_search_J97_4
          have e : (if K (2 ^ i * (2 * a)) = -1 then (if nI (pop (2 ^ i * (2 * a))) = 1 then (some ((rows (nI (i + 1) - 1).toNatClampNeg) &&& nI (on (2 ^ i * (2 * a)) S k))) else some (K (2 ^ i * (2 * a)))) else some (K (2 ^ i * (2 * a))) : Option Int32) = some (K (2 ^ i * (2 * a + 1))) := by
            rw [← hcore, nI_pred, nI_clamp (by omega), hR i (by omega)]
            by_cases c1 : K (2 ^ i * (2 * a)) = -1
            · rw [if_pos c1]
              by_cases c2 : pop (2 ^ i * (2 * a)) = 1
              · rw [if_pos (by rw [c2]; rfl), if_pos ⟨c1, c2⟩]
              · rw [if_neg (by rw [tI_1, nI_eq (by omega) (by omega)]; exact c2), if_neg (fun h => c2 h.2)]
            · rw [if_neg c1, if_neg (fun h => c1 h.1)]
          rw [e, Option.bind_some, nI_pred, nI_clamp (by omega), hR i (by omega), tI_shl (by omega), tI_or, tI_or, b_or, on_odd (by omega), nI_1, ← pop_odd (by omega), ih f (2 * a + 1) b' c' cb' (by omega) (by omega) (by rw [b_add]; omega) hP2 hb' hc', Option.bind_some]
        rw [hJ]
        rcases ht with c1 | c1
        · rw [if_pos c1]
        · rw [if_pos c1]
          split <;> rfl
      | false =>
        have ht : ¬ (K (2 ^ i * (2 * a)) = -1 ∨ nI (S i) &&& nI (on (2 ^ i * (2 * a)) S k) = K (2 ^ i * (2 * a))) := fun h => by
          have q3 := (H1 i a (by omega) ha hP).mp h
          rw [hP2] at q3
          cases q3
        rw [if_neg (fun h => ht (Or.inl h)), if_neg (fun h => ht (Or.inr h))]
        rw [scn_none (fun y h1 h2 => Or.inl (by
          cases hy : P y with
          | false => rfl
          | true => rw [H3 i (2 * a + 1) y (by omega) h1 h2 hy] at hP2; cases hP2))]
    · rw [if_neg (nI_nlt (by omega) (by omega)), scn_none (fun y h1 h2 => Or.inr (Nat.le_trans (hlow y h1 h2) (by dsimp only; omega)))]
