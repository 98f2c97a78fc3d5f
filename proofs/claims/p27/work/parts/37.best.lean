theorem nI_nm1 {j : Nat} (h : j < 2 ^ 31) : ¬ nI j = -1 := fun q => by
  have := nI_pos h
  rw [q] at this
  exact this (by decide)
def bv (o : Option Nat) : Int32 := o.elim (-1) nI
def cst (w : Bool) (C : Nat → Nat) (n : Nat) (o : Option Nat) (i : Nat) : Int32 × Int32 × Int32 × Int32 := match o with
  | none => (-1, 0, 0, nI i)
  | some j => (nI j, nI (pw w C n j), nI (pop j), nI i)
theorem rk_lex {w : Bool} {C : Nat → Nat} {n i j : Nat} : rk w C n i < rk w C n j ↔ pw w C n i < pw w C n j ∨ (pw w C n i = pw w C n j ∧ pop i < pop j) := by
  have h1 := pop_le i
  have h2 := pop_le j
  unfold rk pw
  cases w <;> simp <;> omega
theorem cbest_eq {n k : Nat} {S C : Nat → Nat} {ins cs : Nat → Int32} (w : Bool) (h : RowN n k S ins) (hC : ∀ e, e < 10 → cs e = nI (C e) ∧ C e ≤ 20) : lp (pX9_best_L20 cs (nI n) (nI (2 ^ n)) ins (bI w)) ((-1), 0, 0, 0) = some (bv (bs (mt S k) (rk w C n) (2 ^ n))) := by
  have hn := h.1
  have hp := tI_p hn
  refine lp_det (step := pX9_best_L20 cs (nI n) (nI (2 ^ n)) ins (bI w)) (fun i => cst w C n (bs (mt S k) (rk w C n) i) i) _ (2 ^ n) (fun i hi => ?_) ?_
  · have hpw : (if bI w = 0 then some 0 else Option.bind (pX9_priceOf cs (nI n) (nI i)) (fun r6 => some r6)) = some (nI (pw w C n i)) := by
      rw [if_bI, price_eq hn (by omega) (fun e he => (hC e he).1)]
      cases w <;> rfl
    have hpl := price_le (C := C) (n := n) (x := i) hn (fun e he => (hC e he).2)
    have hpwl : pw w C n i ≤ 200 := by unfold pw; split <;> omega
    have hpi := pop_le i
    cases hb : bs (mt S k) (rk w C n) i with
    | none =>
      unfold pX9_best_L20 pX9_best_J94_5 cst
      dsimp only
      rw [if_neg (nI_ge hi (by omega)), isMeeter_eq h hi, Option.bind_some, if_bI, hpw, Option.bind_some, bc_eq (by omega), Option.bind_some, if_pos rfl, bs, hb]
      cases mt S k i with
      | false => simp [nI_1]
      | true => simp [nI_1]
    | some j =>
      have hj := bs_lt hb
      have hplj := price_le (C := C) (n := n) (x := j) hn (fun e he => (hC e he).2)
      have hpwj : pw w C n j ≤ 200 := by unfold pw; split <;> omega
      have hpj := pop_le j
      unfold pX9_best_L20 pX9_best_J94_5 cst
      dsimp only
      rw [if_neg (nI_ge hi (by omega)), isMeeter_eq h hi, Option.bind_some, if_bI, hpw, Option.bind_some, bc_eq (by omega), Option.bind_some, if_neg (nI_nm1 (by omega)), bs, hb, nI_1]
      cases mt S k i with
      | false => simp
      | true =>
        dsimp only
        by_cases h1 : pw w C n i < pw w C n j
        · rw [if_pos rfl, if_pos (nI_lt h1 (by omega)), if_pos (by simp [rk_lex.mpr (Or.inl h1)])]
        · rw [if_pos rfl, if_neg (nI_nlt (by omega) (by omega))]
          by_cases h2 : pw w C n i = pw w C n j
          · rw [if_pos (by rw [h2])]
            by_cases h3 : pop i < pop j
            · rw [if_neg (nI_ge h3 (by omega)), if_pos (by simp [rk_lex.mpr (Or.inr ⟨h2, h3⟩)])]
            · rw [if_pos (nI_le (by omega) (by omega)), if_neg (by
                have : ¬ rk w C n i < rk w C n j := fun q => by rcases rk_lex.mp q with q | q <;> omega
                simp [this])]
          · rw [if_neg (by rw [nI_eq (by omega) (by omega)]; exact h2), if_neg (by
              have : ¬ rk w C n i < rk w C n j := fun q => by rcases rk_lex.mp q with q | q <;> omega
              simp [this])]
  · unfold pX9_best_L20 cst
    cases bs (mt S k) (rk w C n) (2 ^ n) with
    | none => dsimp only; rw [if_pos (nI_le (Nat.le_refl _) (by omega))]; rfl
    | some j => dsimp only; rw [if_pos (nI_le (Nat.le_refl _) (by omega))]; rfl
theorem ybest_eq {n k : Nat} {S C : Nat → Nat} {ls cs : Nat → Int32} (w : Bool) (h : YN n k S ls) (hC : ∀ e, e < 10 → cs e = nI (C e) ∧ C e ≤ 20) : pX10_bestOf (nI n) (nI k) ls cs (bI w) = some (bv (bs (mt S k) (rk w C n) (2 ^ n))) := by
  have hn := h.2.1
  have hp := tI_p hn
  have hC1 : ∀ e, e < 10 → cs e = nI (C e) := fun e he => (hC e he).1
  unfold pX10_bestOf
  have hl : lp (pX10_bestOf_L4 (nI n) (nI k) ls cs (bI w)) ((-1), 0) = some (bv (bs (mt S k) (rk w C n) (2 ^ n))) := by
    refine lp_det (step := pX10_bestOf_L4 (nI n) (nI k) ls cs (bI w)) (fun i => (bv (bs (mt S k) (rk w C n) i), nI i)) _ (2 ^ n) (fun i hi => ?_) ?_
    · have hrk : ∀ x, rk w C n x ≤ 20100 := fun x => by
        have h1 := price_le (C := C) (n := n) (x := x) hn (fun e he => (hC e he).2)
        have h2 := pop_le x
        unfold rk
        split <;> omega
      have ri := hrk i
      unfold pX10_bestOf_L4 pX10_bestOf_J44_4 pX10_bestOf_J40_5
      rw [yall_eq hn, Option.bind_some]
      dsimp only
      rw [if_neg (by rw [all_lt hn (by omega)]; omega), ymeets_eq h hi, Option.bind_some, if_bI, nI_1, bs]
      cases hb : bs (mt S k) (rk w C n) i with
      | none =>
        cases mt S k i with
        | false => simp
        | true => rw [if_pos rfl, if_pos rfl]; rfl
      | some j =>
        have hj := bs_lt hb
        have rj := hrk j
        cases mt S k i with
        | false => simp
        | true =>
          have ev : bv (some j) = nI j := rfl
          rw [if_pos rfl, ev, if_neg (nI_nm1 (show j < 2 ^ 31 by omega)), yrank_eq w hn (by omega) hC1, Option.bind_some]
          rw [yrank_eq w hn (by omega) hC1, Option.bind_some]
          by_cases h1 : rk w C n i < rk w C n j
          · rw [if_neg (nI_ge h1 (by omega))]
            simp [h1, bv]
          · rw [if_pos (nI_le (by omega) (by omega))]
            simp [h1, bv]
    · unfold pX10_bestOf_L4
      rw [yall_eq hn, Option.bind_some]
      dsimp only
      rw [if_pos ((all_lt hn hp).mpr (Nat.le_refl _))]
  rw [hl]
  rfl
theorem zo_cases {a : Int32} (h : (decide (a = 0) || decide (a = 1)) = true) : ∃ w : Bool, a = bI w := by
  rw [Bool.or_eq_true, decide_eq_true_eq, decide_eq_true_eq] at h
  rcases h with h | h
  · exact ⟨false, h⟩
  · exact ⟨true, h⟩
/-! take: the least ones, as they come -/
def tR (p : Nat → Bool) (f : Nat → Int32) : Nat → Nat → Int32
  | 0 => f
  | i + 1 => if p i then upd (tR p f i) (ct p i) (nI i) else tR p f i
def tO (p : Nat → Bool) (O : Nat → Nat) : Nat → Nat → Nat
  | 0 => O
  | i + 1 => if p i then put (tO p O i) (ct p i) i else tO p O i
def tI (n : Nat) (p : Nat → Bool) (f : Nat → Int32) : Nat → Nat → Int32
  | 0 => f
  | i + 1 => if p i then insUp n i 1 (tI n p f i) else tI n p f i
theorem tR_eq {p : Nat → Bool} {f : Nat → Int32} {O : Nat → Nat} : ∀ {i j : Nat}, j < ct p i → tR p f i j = nI (tO p O i j) ∧ tO p O i j < i
  | 0, j, h => absurd h (Nat.not_lt_zero j)
  | i + 1, j, h => by
    rw [tR, tO]
    rw [ct] at h
    cases hp : p i with
    | false =>
      simp [hp] at h
      have := tR_eq (p := p) (f := f) (O := O) h
      simp [this.1]
      omega
    | true =>
      simp [hp] at h
      by_cases hj : j = ct p i
      · subst hj
        rw [if_pos rfl, if_pos rfl, put_s]
        exact ⟨if_pos rfl, by omega⟩
      · have := tR_eq (p := p) (f := f) (O := O) (i := i) (j := j) (by omega)
        rw [if_pos rfl, if_pos rfl, put_n hj]
        exact ⟨(if_neg hj).trans this.1, by omega⟩
theorem tI_eq {n : Nat} {p : Nat → Bool} {f : Nat → Int32} {O : Nat → Nat} (hf : ∀ y, y < 2 ^ n → f y = 0) : ∀ (i : Nat), ∀ y, y < 2 ^ n → tI n p f i y = nI (ct (fun j => sub (tO p O i j) y) (ct p i))
  | 0, y, hy => hf y hy
  | i + 1, y, hy => by
    rw [tI, tO, ct]
    cases hp : p i with
    | false => simp; exact tI_eq hf i y hy
    | true =>
      simp only [if_true]
      exact ins_add (tI_eq (O := O) hf i) y hy
