theorem lp_hit {σ ρ : Type} {step : σ → Option (σ ⊕ ρ)} (f : Nat → σ) (p : Nat → Bool) (g : Nat → σ) (r : Nat → ρ) (r0 : ρ) (k : Nat) (hs : ∀ i, i < k → step (f i) = some (.inl (if p i then g i else f (i + 1)))) (hg : ∀ i, i < k → p i = true → step (g i) = some (.inr (r i))) (hx : step (f k) = some (.inr r0)) : lp step (f 0) = some ((fst p k).elim r0 r) := by
  cases hf : fst p k with
  | none =>
    have h := fst_none.mp hf
    exact lp_det f r0 k (fun i hi => by rw [hs i hi, h i hi]; rfl) hx
  | some j =>
    obtain ⟨h1, h2, h3⟩ := fst_some hf
    have e := lp_det (step := step) (fun i => if i ≤ j then f i else g j) (r j) (j + 1) (fun i hi => by
      rw [if_pos (show i ≤ j by omega), hs i (by omega)]
      by_cases q : i = j
      · subst q; rw [h2, if_pos rfl, if_neg (show ¬ i + 1 ≤ i by omega)]
      · rw [h3 i (by omega), if_neg (by decide), if_pos (show i + 1 ≤ j by omega)]) (by
      rw [if_neg (show ¬ j + 1 ≤ j by omega)]; exact hg j h1 h2)
    rw [if_pos (Nat.zero_le j)] at e
    exact e
theorem fst_ext {p : Nat → Bool} {n m : Nat} (h : n ≤ m) (hp : ∀ i, n ≤ i → i < m → p i = false) : fst p m = fst p n := by
  induction m with
  | zero => rw [show n = 0 by omega]
  | succ m ih =>
    rcases Nat.lt_or_ge m n with q | q
    · rw [show n = m + 1 by omega]
    · rw [fst, ih q (fun i h1 h2 => hp i h1 (by omega)), hp m q (by omega)]
      cases fst p n <;> rfl
theorem ct_le_of {p q : Nat → Bool} : ∀ {n : Nat}, (∀ i, i < n → q i = true → p i = true) → ct q n ≤ ct p n
  | 0, _ => Nat.le_refl 0
  | n + 1, h => by
    have := ct_le_of (p := p) (q := q) (n := n) (fun i hi => h i (by omega))
    rw [ct, ct]
    have h2 := h n (by omega)
    cases hq : q n
    · simp; omega
    · simp [h2 hq]; omega
theorem ct_lt_of {p q : Nat → Bool} : ∀ {n j : Nat}, (∀ i, i < n → q i = true → p i = true) → j < n → p j = true → q j = false → ct q n < ct p n
  | 0, j, _, hj, _, _ => absurd hj (Nat.not_lt_zero j)
  | n + 1, j, h, hj, hp, hq => by
    rw [ct, ct]
    rcases Nat.lt_or_ge j n with c | c
    · have := ct_lt_of (p := p) (q := q) (n := n) (fun i hi => h i (by omega)) c hp hq
      have h2 := h n (by omega)
      cases hq : q n
      · simp; omega
      · simp [h2 hq]; omega
    · have e : j = n := by omega
      subst e
      have := ct_le_of (p := p) (q := q) (n := j) (fun i hi => h i (by omega))
      simp [hp, hq]; omega
def lone (L : Nat) (R : Nat → Nat) (k : Nat) : Nat := on L R k ^^^ (on L R k &&& ag L R k)
theorem lone_bit {L k e : Nat} {R : Nat → Nat} : (lone L R k).testBit e = (hc L R e k == 1) := by
  rw [lone, Nat.testBit_xor, Nat.testBit_and, on_bit, ag_bit]
  rcases (show hc L R e k = 0 ∨ hc L R e k = 1 ∨ 1 < hc L R e k by omega) with q | q | q
  · simp [q]
  · simp [q]
  · have h1 : 0 < hc L R e k := by omega
    have h2 : hc L R e k ≠ 1 := by omega
    simp [q, h1, h2]
theorem lone_lt {L : Nat} {R : Nat → Nat} {k : Nat} (h : ∀ i, i < k → R i < 1024) : lone L R k < 1024 := xor_lt (n := 10) (on_lt h) (Nat.lt_of_le_of_lt Nat.and_le_left (on_lt h))
theorem lb_lone {L k : Nat} {R : Nat → Nat} : lb (lone L R k) = (fst (fun e => hc L R e k == 1) 10).elim 0 (fun e => 2 ^ e) := by
  unfold lb
  rw [fst_cong (fun e _ => lone_bit)]
theorem celt {L k : Nat} {R : Nat → Nat} {rest : Nat → Int32} (hk : k ≤ 16) (hL : L < 65536) (hR : ∀ i, i < k → rest i = nI (R i)) (hl : ∀ i, i < k → R i < 1024) : pX2_elementGoes (nI k) (nI L) rest = some (bI (lb (lone L R k) != 0), fun j => if j < k then nI (R j ^^^ (R j &&& lb (lone L R k))) else rest j) := by
  have e1 : nI (on L R k) &&& (nI (ag L R k) ^^^ (-1)) = nI (lone L R k) := tI_andn _ _
  have e2 := lb_eq (lone_lt (L := L) hl)
  have hb : lb (lone L R k) < 1025 := by
    unfold lb
    cases hf : fst (fun i => (lone L R k).testBit i) 10 with
    | none => show 0 < 1025; omega
    | some e =>
      have := (fst_some hf).1
      show 2 ^ e < 1025
      have := tp_lt this
      omega
  have key := lp_det (step := pX2_elementGoes_L69 (nI k) (nI (on L R k), nI (ag L R k))) (fun i => (nI i, fun j => if j < i then nI (R j ^^^ (R j &&& lb (lone L R k))) else rest j)) (fun j => if j < k then nI (R j ^^^ (R j &&& lb (lone L R k))) else rest j) k (fun i hi => by
    unfold pX2_elementGoes_L69
    dsimp only
    rw [if_neg (nI_ge hi (by omega)), gd_t (vp_in_nI (show i < 16 by omega) (by omega)), gd_t (vp_in_nI (show i < 16 by omega) (by omega)), nI_clamp (by omega), nI_1, e1, e2]
    congr 3
    funext j
    unfold upd
    by_cases h1 : j = i
    · subst h1
      rw [if_pos rfl, if_neg (Nat.lt_irrefl j), if_pos (Nat.lt_succ_self j), hR j hi, tI_andn]
    · by_cases h2 : j < i
      · simp [h1, h2, Nat.lt_succ_of_lt h2]
      · simp [h1, h2, show ¬ j < i + 1 by omega]) (by
    unfold pX2_elementGoes_L69
    dsimp only
    rw [if_pos (nI_le (Nat.le_refl k) (by omega))])
  have e0 : ((nI 0, fun j => if j < 0 then nI (R j ^^^ (R j &&& lb (lone L R k))) else rest j) : Int32 × (Nat → Int32)) = (0, rest) := by
    congr 1
  try dsimp only at key
  rw [e0] at key
  unfold pX2_elementGoes
  rw [cel1 hk hL hR, Option.bind_some, key, Option.bind_some]
  dsimp only
  rw [e1, e2]
  by_cases hz : lb (lone L R k) = 0
  · rw [if_pos (by rw [hz]; rfl), hz]; rfl
  · rw [if_neg (by rw [tI_0, nI_eq (by omega) (by omega)]; exact hz)]
    simp [hz, bI]
def liesB (L : Nat) (R : Nat → Nat) (k i : Nat) : Bool := exb (fun j => (j != i) && (L.testBit j && sub (R i) (R j))) k
def goB (L : Nat) (R : Nat → Nat) (k i : Nat) : Bool := L.testBit i && ((R i == 0) || liesB L R k i)
theorem clies {L k i : Nat} {R : Nat → Nat} {rest : Nat → Int32} (hk : k ≤ 16) (hL : L < 65536) (hR : ∀ i, i < k → rest i = nI (R i)) (hl : ∀ i, i < k → R i < 1024) (hi : i < k) : pX2_liesInAnother (nI k) (nI L) rest (nI i) = some (bI (liesB L R k i)) := by
  have h := lp_first (step := pX2_liesInAnother_L2 (nI k) (nI L) rest (nI i)) (fun j => nI j) (fun j => (j != i) && (L.testBit j && sub (R i) (R j))) (fun _ => Sum.inl ()) (Sum.inr ()) k (fun j hj => by
    unfold pX2_liesInAnother_L2
    rw [if_neg (nI_ge hj (by omega)), nI_1]
    by_cases hji : j = i
    · subst hji; rw [if_pos rfl]; simp
    · rw [if_neg (by rw [nI_eq (by omega) (by omega)]; exact hji), has_eq (by omega) (by omega), Option.bind_some, if_bI]
      cases hLj : L.testBit j with
      | false => simp
      | true =>
        rw [if_pos rfl, gd_t (vp_in_nI (show i < 16 by omega) (by omega)), gd_t (vp_in_nI (show j < 16 by omega) (by omega)), nI_clamp (show i < 2 ^ 31 by omega), nI_clamp (show j < 2 ^ 31 by omega), hR i hi, hR j hj]
        by_cases hs : sub (R i) (R j) = true
        · rw [if_pos ((andn_0 (hl i hi)).mpr hs)]; simp [hs, hji]
        · rw [if_neg (fun h => hs ((andn_0 (hl i hi)).mp h))]; simp [hs]) (by
    unfold pX2_liesInAnother_L2
    rw [if_pos (nI_le (Nat.le_refl k) (by omega))])
  have h : lp (pX2_liesInAnother_L2 (nI k) (nI L) rest (nI i)) 0 = _ := h
  unfold pX2_liesInAnother liesB
  rw [h, exb_fst]
  cases fst (fun j => (j != i) && (L.testBit j && sub (R i) (R j))) k <;> rfl
theorem csetg {L k : Nat} {R : Nat → Nat} {rest : Nat → Int32} (hk : k ≤ 16) (hL : L < 65536) (hR : ∀ i, i < k → rest i = nI (R i)) (hl : ∀ i, i < k → R i < 1024) : pX2_setGoes (nI k) (nI L) rest = some ((fst (goB L R k) k).elim (0, nI L) (fun i => (1, nI (L ^^^ 2 ^ i)))) := by
  have h := lp_first (step := pX2_setGoes_L2 (nI k) (nI L) rest) (fun j => nI j) (goB L R k) (fun i => Sum.inl (nI i)) (Sum.inr ()) k (fun i hi => by
    unfold pX2_setGoes_L2
    rw [if_neg (nI_ge hi (by omega)), nI_1, has_eq (by omega) (by omega), Option.bind_some, if_bI, goB]
    cases hLi : L.testBit i with
    | false => simp
    | true =>
      have hli := hl i hi
      rw [if_pos rfl, gd_t (vp_in_nI (show i < 16 by omega) (by omega)), nI_clamp (show i < 2 ^ 31 by omega), hR i hi]
      by_cases hz : R i = 0
      · rw [if_pos (by rw [hz]; rfl)]; simp [hz]
      · rw [if_neg (by rw [tI_0, nI_eq (by omega) (by omega)]; exact hz), clies hk hL hR hl hi, Option.bind_some, if_bI]
        cases liesB L R k i <;> simp [hz]) (by
    unfold pX2_setGoes_L2
    rw [if_pos (nI_le (Nat.le_refl k) (by omega))])
  have h : lp (pX2_setGoes_L2 (nI k) (nI L) rest) 0 = _ := h
  unfold pX2_setGoes
  rw [h]
  cases hf : fst (goB L R k) k with
  | none => rfl
  | some i =>
    have := (fst_some hf).1
    show some ((1 : Int32), nI L ^^^ (1 <<< (nI i &&& 31))) = _
    rw [tI_shl (by omega), tI_xor]
    rfl
/-! the reference -/
def hl (L : Nat) (R : Nat → Nat) (e : Nat) : Nat → Int32
  | 0 => -1
  | s + 1 => if hold L R e s then nI s else hl L R e s
theorem hl_one {L : Nat} {R : Nat → Nat} {e : Nat} : ∀ {k : Nat}, hc L R e k = 1 → ∃ s, s < k ∧ hold L R e s = true ∧ hl L R e k = nI s ∧ ∀ i, i < k → hold L R e i = true → i = s
  | 0, h => by simp [hc, ct] at h
  | k + 1, h => by
    unfold hc at h
    rw [ct] at h
    cases hh : hold L R e k with
    | true =>
      rw [hh] at h
      have h0 : ct (hold L R e) k = 0 := by simp at h; omega
      refine ⟨k, by omega, hh, by rw [hl, hh]; rfl, fun i hi hi2 => ?_⟩
      rcases Nat.lt_or_ge i k with q | q
      · have hx : exb (hold L R e) k = true := exb_iff.mpr ⟨i, q, hi2⟩
        rw [ct_0.mp h0] at hx
        cases hx
      · omega
    | false =>
      rw [hh] at h
      obtain ⟨s, h1, h2, h3, h4⟩ := hl_one (L := L) (R := R) (e := e) (k := k) (by simp at h; exact h)
      refine ⟨s, by omega, h2, by rw [hl, hh]; exact h3, fun i hi hi2 => ?_⟩
      rcases Nat.lt_or_ge i k with q | q
      · exact h4 i q hi2
      · rw [show i = k by omega, hh] at hi2; cases hi2
theorem yhold {L k e : Nat} {R : Nat → Nat} {rest : Nat → Int32} (hk : k ≤ 16) (he : e < 10) (hL : L < 65536) (hR : ∀ i, i < k → rest i = nI (R i)) (hlt : ∀ i, i < k → R i < 1024) : pX10_holder (nI k) rest (nI e) (nI L) = some (if hc L R e k = 1 then hl L R e k else -1) := by
  have h := lp_det (step := pX10_holder_L8 (nI k) rest (nI e) (nI L)) (fun s => (hl L R e s, nI (hc L R e s), nI s)) (hl L R e k, nI (hc L R e k)) k (fun i hi => by
    unfold pX10_holder_L8
    dsimp only
    have hli := hlt i hi
    unfold hc
    rw [if_neg (nI_ge hi (by omega)), nI_1, nI_1, hl, ct, hold]
    cases hLi : L.testBit i with
    | false =>
      rw [if_neg (by rw [tI_bit1 (by omega) (by omega), hLi]; decide)]
      simp
    | true =>
      rw [if_pos (by rw [tI_bit1 (by omega) (by omega), hLi]), gd_t (vp_in_nI (show i < 16 by omega) (by omega)), nI_clamp (show i < 2 ^ 31 by omega), hR i hi]
      cases hb : (R i).testBit e with
      | false =>
        rw [if_neg (by rw [tI_bit1 (by omega) (by omega), hb]; decide)]
        simp
      | true =>
        rw [if_pos (by rw [tI_bit1 (by omega) (by omega), hb])]
        simp) (by
    unfold pX10_holder_L8
    dsimp only
    rw [if_pos (nI_le (Nat.le_refl k) (by omega))])
  have h : lp (pX10_holder_L8 (nI k) rest (nI e) (nI L)) (-1, 0, 0) = _ := h
  have hcl : hc L R e k ≤ 16 := Nat.le_trans (ct_le _ k) hk
  unfold pX10_holder
  rw [h, Option.bind_some]
  dsimp only
  by_cases h1 : hc L R e k = 1
  · rw [if_pos (by rw [h1]; rfl), if_pos h1]
  · rw [if_neg (by rw [tI_1, nI_eq (by omega) (by omega)]; exact h1), if_neg h1]
theorem ylies {L k i : Nat} {R : Nat → Nat} {rest : Nat → Int32} (hk : k ≤ 16) (hL : L < 65536) (hR : ∀ i, i < k → rest i = nI (R i)) (hlt : ∀ i, i < k → R i < 1024) (hi : i < k) : pX10_lies (nI k) rest (nI i) (nI L) = some (bI ((R i == 0) || liesB L R k i)) := by
  have h := lp_det (step := pX10_lies_L18 (nI k) rest (nI i) (nI L)) (fun s => (bI ((R i == 0) || exb (fun j => (j != i) && (L.testBit j && sub (R i) (R j))) s), nI s)) (bI ((R i == 0) || liesB L R k i)) k (fun j hj => by
    unfold pX10_lies_L18 pX10_lies_J70_4 pX10_lies_J66_3
    dsimp only
    rw [if_neg (nI_ge hj (by omega)), nI_1, if_bI, exb, ← Bool.or_assoc]
    cases hfl : (R i == 0) || exb (fun j => (j != i) && (L.testBit j && sub (R i) (R j))) j with
    | true => simp [bI]
    | false =>
      rw [if_neg (by decide)]
      by_cases hji : j = i
      · subst hji; rw [if_pos rfl]; simp [bI]
      · rw [if_neg (by rw [nI_eq (by omega) (by omega)]; exact hji)]
        cases hLj : L.testBit j with
        | false =>
          rw [if_neg (by rw [tI_bit1 (by omega) (by omega), hLj]; decide)]
          simp [bI]
        | true =>
          rw [if_pos (by rw [tI_bit1 (by omega) (by omega), hLj]), gd_t (vp_in_nI (show i < 16 by omega) (by omega)), gd_t (vp_in_nI (show j < 16 by omega) (by omega)), nI_clamp (show i < 2 ^ 31 by omega), nI_clamp (show j < 2 ^ 31 by omega), hR i hi, hR j hj]
          by_cases hs : sub (R i) (R j) = true
          · rw [if_pos ((andn_0 (hlt i hi)).mpr hs)]; simp [hs, hji, bI]
          · rw [if_neg (fun h => hs ((andn_0 (hlt i hi)).mp h))]; simp [hs, bI]) (by
    unfold pX10_lies_L18
    dsimp only
    rw [if_pos (nI_le (Nat.le_refl k) (by omega))]
    rfl)
  have hli := hlt i hi
  have e0 : (if rest i = 0 then (some 1) else (some 0) : Option Int32) = some (bI (R i == 0)) := by
    rw [hR i hi]
    by_cases hz : R i = 0
    · rw [if_pos (by rw [hz]; rfl)]; simp [hz, bI]
    · rw [if_neg (by rw [tI_0, nI_eq (by omega) (by omega)]; exact hz)]; simp [hz, bI]
  have h : lp (pX10_lies_L18 (nI k) rest (nI i) (nI L)) (bI ((R i == 0) || false), 0) = _ := h
  rw [Bool.or_false] at h
  unfold pX10_lies
  rw [gd_t (vp_in_nI (show i < 16 by omega) (by omega)), nI_clamp (show i < 2 ^ 31 by omega), e0, Option.bind_some, h, Option.bind_some, gd_t (bI_nar _)]
