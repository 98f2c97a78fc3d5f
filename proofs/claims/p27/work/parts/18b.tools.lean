/-! loops with a known course -/
theorem lp_det {σ ρ : Type} {step : σ → Option (σ ⊕ ρ)} (f : Nat → σ) (r : ρ) : ∀ (e : Nat), (∀ i, i < e → step (f i) = some (.inl (f (i + 1)))) → step (f e) = some (.inr r) → lp step (f 0) = some r := by
  have key : ∀ (e i : Nat), i ≤ e → (∀ i, i < e → step (f i) = some (.inl (f (i + 1)))) → step (f e) = some (.inr r) → lp step (f (e - i)) = some r := by
    intro e i
    induction i with
    | zero => intro _ _ hx; exact lp_x hx
    | succ i ih =>
      intro hi hs hx
      have h1 := hs (e - (i + 1)) (by omega)
      rw [lp_c h1, show e - (i + 1) + 1 = e - i by omega]
      exact ih (by omega) hs hx
  intro e hs hx
  have := key e e (Nat.le_refl e) hs hx
  rwa [Nat.sub_self] at this
theorem lp_m {σ ρ : Type} {step : σ → Option (σ ⊕ ρ)} (I : σ → Prop) (μ : σ → Nat) (R : ρ → Prop) (h : ∀ s, I s → (∃ s', step s = some (.inl s') ∧ I s' ∧ μ s' < μ s) ∨ (∃ r, step s = some (.inr r) ∧ R r)) : ∀ (n : Nat) (s : σ), μ s < n → I s → ∃ r, lp step s = some r ∧ R r
  | 0, s, hn, _ => absurd hn (Nat.not_lt_zero _)
  | n + 1, s, hn, hs => by
    rcases h s hs with ⟨s', e, hI, hm⟩ | ⟨r, e, hR⟩
    · rw [lp_c e]
      exact lp_m I μ R h n s' (by omega) hI
    · exact ⟨r, lp_x e, hR⟩
theorem lp_for {σ ρ : Type} {step : σ → Option (σ ⊕ ρ)} (e : Nat) (I : Nat → σ → Prop) (R : ρ → Prop) (hs : ∀ i s, i < e → I i s → (∃ s', step s = some (.inl s') ∧ I (i + 1) s') ∨ (∃ r, step s = some (.inr r) ∧ R r)) (hx : ∀ s, I e s → ∃ r, step s = some (.inr r) ∧ R r) : ∀ (d i : Nat) (s : σ), i + d = e → I i s → ∃ r, lp step s = some r ∧ R r
  | 0, i, s, hd, hi => by
    have e1 : i = e := by omega
    subst e1
    obtain ⟨r, h1, h2⟩ := hx s hi
    exact ⟨r, lp_x h1, h2⟩
  | d + 1, i, s, hd, hi => by
    rcases hs i s (by omega) hi with ⟨s', e1, hI⟩ | ⟨r, e1, hR⟩
    · rw [lp_c e1]
      exact lp_for e I R hs hx d (i + 1) s' (by omega) hI
    · exact ⟨r, lp_x e1, hR⟩
/-! numbers -/
theorem tI_and (a b : Nat) : nI a &&& nI b = nI (a &&& b) := by
  apply Int32.toBitVec_inj.1
  show BitVec.ofNat 32 a &&& BitVec.ofNat 32 b = BitVec.ofNat 32 (a &&& b)
  apply BitVec.eq_of_getLsbD_eq
  intro i hi
  simp [hi]
theorem tI_or (a b : Nat) : nI a ||| nI b = nI (a ||| b) := by
  apply Int32.toBitVec_inj.1
  show BitVec.ofNat 32 a ||| BitVec.ofNat 32 b = BitVec.ofNat 32 (a ||| b)
  apply BitVec.eq_of_getLsbD_eq
  intro i hi
  simp [hi]
theorem tI_xor (a b : Nat) : nI a ^^^ nI b = nI (a ^^^ b) := by
  apply Int32.toBitVec_inj.1
  show BitVec.ofNat 32 a ^^^ BitVec.ofNat 32 b = BitVec.ofNat 32 (a ^^^ b)
  apply BitVec.eq_of_getLsbD_eq
  intro i hi
  simp [hi]
theorem tI_s : ∀ n, n < 32 → ((nI n &&& 31).toBitVec.smod 32).toNat = n := by decide +kernel
theorem tI_shl {e : Nat} (h : e < 31) : (1 : Int32) <<< (nI e &&& 31) = nI (2 ^ e) := by
  have h1 := pk_shlN (n := 1) (nI e &&& 31) e (tI_s e (by omega)) (by rw [Nat.one_mul]; exact Nat.pow_lt_pow_right (by omega) (by omega))
  rw [Nat.one_mul] at h1
  exact h1
theorem tI_shr {b e : Nat} (hb : b < 2 ^ 31) (h : e < 32) : nI b >>> (nI e &&& 31) = nI (b / 2 ^ e) := pk_shrN hb _ e (tI_s e h)
theorem tI_0 : (0 : Int32) = nI 0 := rfl
theorem tI_1 : (1 : Int32) = nI 1 := rfl
theorem tI_cl {n : Nat} (h : n < 2 ^ 31) : (nI n).toNatClampNeg = n := nI_clamp h
theorem tI_bit {b e : Nat} (hb : b < 2 ^ 31) (h : e < 32) : (nI b >>> (nI e &&& 31)) &&& 1 = nI (if b.testBit e then 1 else 0) := by
  rw [tI_shr hb h, tI_1, tI_and, Nat.and_one_is_mod, Nat.testBit_eq_decide_div_mod_eq]
  rcases Nat.mod_two_eq_zero_or_one (b / 2 ^ e) with q | q <;> simp [q]
theorem tI_bit1 {b e : Nat} (hb : b < 2 ^ 31) (h : e < 32) : ((nI b >>> (nI e &&& 31)) &&& 1 = 1) ↔ b.testBit e = true := by
  rw [tI_bit hb h, tI_1, nI_eq (by split <;> omega) (by omega)]
  cases b.testBit e <;> simp
theorem tI_bit0 {b e : Nat} (hb : b < 2 ^ 31) (h : e < 32) : ((nI b >>> (nI e &&& 31)) &&& 1 = 0) ↔ b.testBit e = false := by
  rw [tI_bit hb h, tI_0, nI_eq (by split <;> omega) (by omega)]
  cases b.testBit e <;> simp
theorem tI_p {n : Nat} (h : n ≤ 10) : 2 ^ n ≤ 1024 := by
  have := Nat.pow_le_pow_right (n := 2) (by omega) h
  simpa using this
theorem tI_pp (n : Nat) : 1 ≤ 2 ^ n := Nat.one_le_two_pow
/-- a truth value as an int -/
def bI (b : Bool) : Int32 := if b then 1 else 0
theorem bI_t : bI true = 1 := rfl
theorem bI_f : bI false = 0 := rfl
theorem bI_0 {b : Bool} : bI b = 0 ↔ b = false := by cases b <;> decide
theorem bI_nar (b : Bool) : narrow .boolean (.int (bI b)) = .int (bI b) := by cases b <;> rfl
theorem bI_eq {a b : Bool} : bI a = bI b ↔ a = b := by cases a <;> cases b <;> decide
theorem if_bI {α : Type} (b : Bool) (x y : α) : (if bI b = 0 then x else y) = if b then y else x := by cases b <;> rfl
theorem in_eq (a b c : Int64) : pX10_in a b c = some (bI (decide (b ≤ a) && decide (a ≤ c))) := by
  unfold pX10_in
  by_cases h1 : b ≤ a
  · rw [if_neg (by rw [lg_cmp_lt, Int64.lt_iff_toInt_lt]; rw [Int64.le_iff_toInt_le] at h1; omega)]
    by_cases h2 : a ≤ c
    · rw [if_neg (by rw [lg_cmp_gt, Int64.lt_iff_toInt_lt]; rw [Int64.le_iff_toInt_le] at h2; omega)]
      simp [h1, h2, bI]
    · rw [if_pos (by rw [lg_cmp_gt, Int64.lt_iff_toInt_lt]; rw [Int64.le_iff_toInt_le] at h2; omega)]
      simp [h2, bI]
  · rw [if_pos (by rw [lg_cmp_lt, Int64.lt_iff_toInt_lt]; rw [Int64.le_iff_toInt_le] at h1; omega)]
    simp [h1, bI]
theorem wide_le (a b : Int32) : a.toInt64 ≤ b.toInt64 ↔ a ≤ b := by rw [Int64.le_iff_toInt_le, Int32.le_iff_toInt_le, Int32.toInt_toInt64, Int32.toInt_toInt64]
theorem zo_eq (a : Int32) : pX9_isZeroOrOne a = some (bI (decide (a = 0) || decide (a = 1))) := by
  unfold pX9_isZeroOrOne pX9_isZeroOrOne_J9
  by_cases h1 : a = 0
  · rw [if_pos h1]; simp [h1, bI]
  · rw [if_neg h1]
    by_cases h2 : a = 1
    · rw [if_pos h2]; simp [h2, bI]
    · rw [if_neg h2]; simp [h1, h2, bI]
theorem in01 (a : Int32) : pX10_in a.toInt64 0 1 = some (bI (decide (a = 0) || decide (a = 1))) := by
  rw [in_eq]
  congr 2
  have e0 : (0 : Int64) = (0 : Int32).toInt64 := rfl
  have e1 : (1 : Int64) = (1 : Int32).toInt64 := rfl
  rw [e0, e1]
  simp only [wide_le]
  rw [Bool.eq_iff_iff]
  simp only [Bool.and_eq_true, Bool.or_eq_true, decide_eq_true_eq, Int32.le_iff_toInt_le, ← Int32.toInt_inj]
  have h0 : (0 : Int32).toInt = 0 := rfl
  have h1 : (1 : Int32).toInt = 1 := rfl
  rw [h0, h1]
  omega
theorem fill_eq {L : Nat} (hL : L < 2 ^ 31) (f : Nat → Int32) (v : Int32) : pJ7_fill_53178 L f v = some (fun j => if j < L then v else f j) := by
  unfold pJ7_fill_53178
  have h := lp_det (step := pJ7_fill_53178_L5 L v) (fun i => (nI i, fun j => if j < i then v else f j)) (fun j => if j < L then v else f j) L (fun i hi => by
    unfold pJ7_fill_53178_L5
    dsimp only
    rw [if_neg (by show ¬ nI L ≤ nI i; exact nI_ge hi hL), gd_t (vp_in_nI hi hL), nI_clamp (by omega), nI_1]
    congr 3
    funext j
    unfold upd
    by_cases h1 : j = i
    · subst h1; simp
    · by_cases h2 : j < i
      · simp [h1, h2, Nat.lt_succ_of_lt h2]
      · simp [h1, h2, show ¬ j < i + 1 by omega]) (by
    unfold pJ7_fill_53178_L5
    dsimp only
    rw [if_pos (by show nI L ≤ nI L; exact nI_le (Nat.le_refl _) hL)])
  have e : ((nI 0, fun j => if j < 0 then v else f j) : Int32 × (Nat → Int32)) = (0, f) := by
    congr 1
  have h : lp (pJ7_fill_53178_L5 L v) (0, f) = _ := e ▸ h
  rw [h]
  rfl
