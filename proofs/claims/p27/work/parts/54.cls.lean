/-! shares: the class's table is the reference's, without the columns of the basis -/
def cr (k j : Nat) : Nat := if j < k then j else k + (j - 16)
def vlb (n k j : Nat) : Prop := j < k ∨ (16 ≤ j ∧ j < 16 + n)
theorem cr_lt' {n k i j : Nat} (hk : k ≤ 16) (hi : vlb n k i) (hj : vlb n k j) : cr k i < cr k j ↔ i < j := by
  unfold vlb at hi hj
  unfold cr
  by_cases c1 : i < k
  · rw [if_pos c1]
    by_cases c2 : j < k
    · rw [if_pos c2]
    · rw [if_neg c2]; omega
  · rw [if_neg c1]
    by_cases c2 : j < k
    · rw [if_pos c2]; omega
    · rw [if_neg c2]; omega
theorem cr_26 {n k j : Nat} (hn : n ≤ 10) (hk : k ≤ 16) (hj : vlb n k j) : cr k j < 26 := by
  unfold vlb at hj
  unfold cr
  by_cases c : j < k
  · rw [if_pos c]; omega
  · rw [if_neg c]; omega
def RelX (n k : Nat) (M : Nat → Nat → Int) (ob : Nat → Int) (bs co : Nat → Nat) (dv : Int64) (rl cl : Nat → Int32) (g : Nat → Nat → Int64) : Prop :=
  (∀ i j, i < n → j < k → g i j = lI (TT n M bs i (co j))) ∧ (∀ i, i < n → g i k = lI (TT n M bs i 26)) ∧ (∀ j, j < k → g n j = lI (zr n M ob bs (co j))) ∧ g n k = lI (zr n M ob bs 26) ∧ dv = lI (byD n M bs) ∧ (∀ i, i < n → rl i = nI (cr k (bs i)) ∧ vlb n k (bs i)) ∧ (∀ j, j < k → cl j = nI (cr k (co j)) ∧ vlb n k (co j)) ∧ ∀ c, vlb n k c → (∃ i, i < n ∧ bs i = c) ∨ ∃ j, j < k ∧ co j = c
/-- the class looks for the least label among the columns that pay -/
def ecs (k : Nat) (zf : Nat → Int) (co : Nat → Nat) : Nat → Option Nat
  | 0 => none
  | j + 1 => if zf (co j) < 0 then (match ecs k zf co j with
    | none => some j
    | some b => if cr k (co j) < cr k (co b) then some j else some b) else ecs k zf co j
theorem ecs_none {k : Nat} {zf : Nat → Int} {co : Nat → Nat} : ∀ {m : Nat}, ecs k zf co m = none → ∀ j, j < m → ¬ zf (co j) < 0
  | 0, _, j, hj => absurd hj (Nat.not_lt_zero j)
  | m + 1, h, j, hj => by
    rw [ecs] at h
    by_cases q : zf (co m) < 0
    · rw [if_pos q] at h
      cases he : ecs k zf co m with
      | none => rw [he] at h; cases h
      | some b =>
        rw [he] at h
        dsimp only at h
        split at h <;> cases h
    · rw [if_neg q] at h
      rcases Nat.lt_or_ge j m with a | a
      · exact ecs_none h j a
      · rw [show j = m by omega]; exact q
theorem ecs_some {k : Nat} {zf : Nat → Int} {co : Nat → Nat} : ∀ {m x : Nat}, ecs k zf co m = some x → x < m ∧ zf (co x) < 0 ∧ ∀ j, j < m → zf (co j) < 0 → cr k (co x) ≤ cr k (co j)
  | 0, _, h => by cases h
  | m + 1, x, h => by
    rw [ecs] at h
    by_cases q : zf (co m) < 0
    · rw [if_pos q] at h
      cases he : ecs k zf co m with
      | none =>
        rw [he] at h
        cases h
        refine ⟨by omega, q, fun j hj hz => ?_⟩
        rcases Nat.lt_or_ge j m with a | a
        · exact absurd hz (ecs_none he j a)
        · rw [show j = m by omega]; exact Nat.le_refl _
      | some b =>
        rw [he] at h
        dsimp only at h
        obtain ⟨h1, h2, h3⟩ := ecs_some he
        by_cases q2 : cr k (co m) < cr k (co b)
        · rw [if_pos q2] at h
          cases h
          refine ⟨by omega, q, fun j hj hz => ?_⟩
          rcases Nat.lt_or_ge j m with a | a
          · have := h3 j a hz; omega
          · rw [show j = m by omega]; exact Nat.le_refl _
        · rw [if_neg q2] at h
          cases h
          refine ⟨by omega, h2, fun j hj hz => ?_⟩
          rcases Nat.lt_or_ge j m with a | a
          · exact h3 j a hz
          · rw [show j = m by omega]; omega
    · rw [if_neg q] at h
      obtain ⟨h1, h2, h3⟩ := ecs_some h
      refine ⟨by omega, h2, fun j hj hz => ?_⟩
      rcases Nat.lt_or_ge j m with a | a
      · exact h3 j a hz
      · rw [show j = m by omega] at hz; exact absurd hz q
theorem ecs_ent {n k : Nat} {M : Nat → Nat → Int} {ob : Nat → Int} {bs co : Nat → Nat} (hn : n ≤ 16) (hk : k ≤ 16) (hco : ∀ j, j < k → vlb n k (co j)) (hcov : ∀ c, vlb n k c → (∃ i, i < n ∧ bs i = c) ∨ ∃ j, j < k ∧ co j = c) (h26 : n ≤ 10) (hzv : ∀ c, c < 26 → zr n M ob bs c < 0 → vlb n k c) : (ecs k (zr n M ob bs) co k = none ∧ entC n M ob bs = none) ∨ ∃ x c, ecs k (zr n M ob bs) co k = some x ∧ x < k ∧ entC n M ob bs = some c ∧ co x = c := by
  have hv26 : ∀ j, vlb n k j → j < 26 := fun j h => by unfold vlb at h; omega
  have hcol : ∀ c, c < 26 → zr n M ob bs c < 0 → ∃ j, j < k ∧ co j = c := by
    intro c hc hz
    rcases hcov c (hzv c hc hz) with ⟨i, hi, h⟩ | q
    · have := zr_bs (M := M) (ob := ob) (bs := bs) hn hi
      rw [h] at this
      omega
    · exact q
  cases he : ecs k (zr n M ob bs) co k with
  | none =>
    left
    refine ⟨rfl, ?_⟩
    unfold entC
    rw [fst_none]
    intro c hc
    refine decide_eq_false (fun hz => ?_)
    obtain ⟨j, hj, h⟩ := hcol c hc hz
    exact ecs_none he j hj (by rw [h]; exact hz)
  | some x =>
    right
    obtain ⟨h1, h2, h3⟩ := ecs_some he
    refine ⟨x, co x, rfl, h1, ?_, rfl⟩
    unfold entC
    refine fst_is (hv26 _ (hco x h1)) (decide_eq_true h2) (fun c hc => decide_eq_false (fun hz => ?_))
    have hc26 : c < 26 := by have := hv26 _ (hco x h1); omega
    obtain ⟨j, hj, h⟩ := hcol c hc26 hz
    have h4 := h3 j hj (by rw [h]; exact hz)
    rw [h] at h4
    have h5 := (cr_lt' hk (hzv c hc26 hz) (hco x h1)).mpr hc
    omega
theorem zr_val {n k c : Nat} {S C : Nat → Nat} {bs : Nat → Nat} (hn : n ≤ 10) (hc : c < 26) (hz : zr n (Mx S k C) (obx k) bs c < 0) : vlb n k c := by
  unfold vlb
  rcases Classical.em (c < k ∨ (16 ≤ c ∧ c < 16 + n)) with q | q
  · exact q
  · exfalso
    have hM : ∀ e, e < n → Mx S k C c e = 0 := by
      intro e he
      unfold Mx
      by_cases c1 : c < 16
      · rw [if_pos c1, if_neg (fun z => q (Or.inl z.1))]
      · rw [if_neg c1, if_pos hc, if_neg (by omega)]
    unfold zr at hz
    have : obx k c = 0 := if_neg (fun z => q (Or.inl z))
    rw [si_z (fun s hs => by rw [TT_z hs hM, Int.mul_zero]), this, Int.mul_zero] at hz
    omega
section
variable {n k : Nat} {S C : Nat → Nat} {bs co : Nat → Nat} {dv : Int64} {rl cl : Nat → Int32} {g : Nat → Nat → Int64}
set_option maxHeartbeats 1000000 in
theorem c_enter (hn : n ≤ 10) (hk : k ≤ 16) (hb : ∀ s, s < n → bs s < 26) (hC : ∀ e, C e ≤ 20) (hR : RelX n k (Mx S k C) (obx k) bs co dv rl cl g) : pX7_enteringColumn (nI n) (nI k) cl g = some (oI (ecs k (zr n (Mx S k C) (obx k) bs) co k)) := by
  obtain ⟨R1, R2, R3, R4, R5, R6, R7, R8⟩ := hR
  have hl := lp_det (step := pX7_enteringColumn_L4 (nI n) (nI k) cl g) (fun j => (oI (ecs k (zr n (Mx S k C) (obx k) bs) co j), nI j)) (oI (ecs k (zr n (Mx S k C) (obx k) bs) co k)) k (fun j hj => by
    unfold pX7_enteringColumn_L4 pX7_enteringColumn_J47_4
    dsimp only
    have hz := big_of (zr_abs (S := S) (k := k) (j := co j) hn hb hC) (by decide)
    rw [if_neg (nI_ge hj (by omega)), gd_t (vp_in_nI (show n < 11 by omega) (by omega)), gd_t (vp_in_nI (show j < 17 by omega) (by omega)), nI_clamp (show n < 2 ^ 31 by omega), nI_clamp (show j < 2 ^ 31 by omega), R3 j hj, nI_1, ecs]
    by_cases q : zr n (Mx S k C) (obx k) bs (co j) < 0
    · rw [if_neg (by rw [lg_cmp_ge, lI_ge0 hz]; omega), if_pos q]
      cases he : ecs k (zr n (Mx S k C) (obx k) bs) co j with
      | none =>
        have eo : oI none = -1 := rfl
        rw [eo, if_pos (by decide)]
        rfl
      | some x =>
        have hx := (ecs_some he).1
        have eo : oI (some x) = nI x := rfl
        have c1 := cr_26 hn hk (R7 x (by omega)).2
        have c2 := cr_26 hn hk (R7 j hj).2
        rw [eo, if_neg (nI_pos (by omega)), gd_t (vp_in_nI (show j < 16 by omega) (by omega)), gd_t (vp_in_nI (show x < 16 by omega) (by omega)), nI_clamp (show x < 2 ^ 31 by omega), (R7 x (by omega)).1, (R7 j hj).1]
        dsimp only
        by_cases q2 : cr k (co j) < cr k (co x)
        · rw [if_neg (nI_ge q2 (by omega)), if_pos q2]; rfl
        · rw [if_pos (nI_le (by omega) (by omega)), if_neg q2]; rfl
    · rw [if_pos (by rw [lg_cmp_ge, lI_ge0 hz]; omega), if_neg q]) (by
    unfold pX7_enteringColumn_L4
    dsimp only
    rw [if_pos (nI_le (Nat.le_refl k) (by omega))])
  have hl : lp (pX7_enteringColumn_L4 (nI n) (nI k) cl g) (-1, 0) = _ := hl
  unfold pX7_enteringColumn
  rw [hl]
  rfl
set_option maxHeartbeats 1000000 in
theorem c_leave {c x : Nat} (hn : n ≤ 10) (hk : k ≤ 16) (hb : ∀ s, s < n → bs s < 26) (hC : ∀ e, C e ≤ 20) (hx : x < k) (hcx : co x = c) (hc : c < 26) (hR : RelX n k (Mx S k C) (obx k) bs co dv rl cl g) : pX7_leavingRow (nI n) (nI k) rl g (nI x) = some (oI (lvs n (Mx S k C) bs c n)) := by
  obtain ⟨R1, R2, R3, R4, R5, R6, R7, R8⟩ := hR
  have hT : ∀ s j, (TT n (Mx S k C) bs s j).natAbs ≤ 72576000 := fun s j => TT_abs20 hn hb hC
  have hT1 : ∀ s, (TT n (Mx S k C) bs s c).natAbs ≤ 3628800 := fun s => TT_abs hn hb hc
  have hgc : ∀ i, i < n → g i x = lI (TT n (Mx S k C) bs i c) := fun i hi => by rw [R1 i x hi hx, hcx]
  have hl := lp_det (step := pX7_leavingRow_L4 (nI n) (nI k) rl g (nI x)) (fun i => (oI (lvs n (Mx S k C) bs c i), nI i)) (oI (lvs n (Mx S k C) bs c n)) n (fun i hi => by
    unfold pX7_leavingRow_L4 pX7_leavingRow_J39_4
    dsimp only
    rw [if_neg (nI_ge hi (by omega)), gd_t (vp_in_nI (show i < 11 by omega) (by omega)), gd_t (vp_in_nI (show x < 17 by omega) (by omega)), nI_clamp (show i < 2 ^ 31 by omega), nI_clamp (show x < 2 ^ 31 by omega), hgc i hi, nI_1, lvs]
    by_cases q : 0 < TT n (Mx S k C) bs i c
    · rw [if_neg (by rw [lg_cmp_le, lI_le0 (big_of (hT1 i) (by decide))]; omega), if_pos q]
      cases hv : lvs n (Mx S k C) bs c i with
      | none =>
        have eo : oI none = -1 := rfl
        rw [eo, if_pos (by decide)]
        rfl
      | some y =>
        have hy := lvs_lt hv
        have eo : oI (some y) = nI y := rfl
        have v1 := big_mul (hT i 26) (hT1 y)
        have v2 := big_mul (hT y 26) (hT1 i)
        have b1 : big (TT n (Mx S k C) bs i 26 * TT n (Mx S k C) bs y c) := big_of v1 (by decide)
        have b2 : big (TT n (Mx S k C) bs y 26 * TT n (Mx S k C) bs i c) := big_of v2 (by decide)
        have c1 := cr_26 hn hk (R6 y (by omega)).2
        have c2 := cr_26 hn hk (R6 i hi).2
        have hcl := cr_lt' hk (R6 i hi).2 (R6 y (by omega)).2
        have hbb : pX7_bindsBefore (nI k) rl g (nI i) (nI y) (nI x) = some (bI (decide (TT n (Mx S k C) bs i 26 * TT n (Mx S k C) bs y c - TT n (Mx S k C) bs y 26 * TT n (Mx S k C) bs i c < 0 ∨ (TT n (Mx S k C) bs i 26 * TT n (Mx S k C) bs y c - TT n (Mx S k C) bs y 26 * TT n (Mx S k C) bs i c = 0 ∧ bs i < bs y)))) := by
          unfold pX7_bindsBefore pX7_bindsBefore_J75
          rw [gd_t (vp_in_nI (show i < 11 by omega) (by omega)), gd_t (vp_in_nI (show k < 17 by omega) (by omega)), gd_t (vp_in_nI (show y < 11 by omega) (by omega)), gd_t (vp_in_nI (show x < 17 by omega) (by omega)), gd_t (vp_in_nI (show y < 11 by omega) (by omega)), gd_t (vp_in_nI (show k < 17 by omega) (by omega)), gd_t (vp_in_nI (show i < 11 by omega) (by omega)), gd_t (vp_in_nI (show x < 17 by omega) (by omega)), nI_clamp (show i < 2 ^ 31 by omega), nI_clamp (show k < 2 ^ 31 by omega), nI_clamp (show y < 2 ^ 31 by omega), nI_clamp (show x < 2 ^ 31 by omega), R2 i hi, R2 y (by omega), hgc i hi, hgc y (by omega), lI_mul, lI_mul]
          generalize TT n (Mx S k C) bs i 26 * TT n (Mx S k C) bs y c = u at *
          generalize TT n (Mx S k C) bs y 26 * TT n (Mx S k C) bs i c = w at *
          have e1 : lg_cmp (lI u) (lI w) < 0 ↔ u < w := by rw [lg_cmp_lt, Int64.lt_iff_toInt_lt, lI_int b1, lI_int b2]
          have e2 : lg_cmp (lI u) (lI w) = 0 ↔ u = w := by rw [lg_cmp_eq, ← Int64.toInt_inj, lI_int b1, lI_int b2]
          by_cases w1 : u < w
          · rw [if_pos (e1.mpr w1), decide_eq_true (Or.inl (by omega))]; rfl
          · rw [if_neg (fun z => w1 (e1.mp z))]
            by_cases w2 : u = w
            · rw [if_pos (e2.mpr w2), gd_t (vp_in_nI (show i < 10 by omega) (by omega)), gd_t (vp_in_nI (show y < 10 by omega) (by omega)), (R6 y (by omega)).1, (R6 i hi).1]
              by_cases w3 : bs i < bs y
              · rw [if_neg (nI_ge (hcl.mpr w3) (by omega)), decide_eq_true (Or.inr ⟨by omega, w3⟩)]; rfl
              · rw [if_pos (nI_le (by have := fun z => w3 (hcl.mp z); omega) (by omega)), decide_eq_false (fun z => z.elim (fun y => by omega) (fun y => w3 y.2))]; rfl
            · rw [if_neg (fun z => w2 (e2.mp z)), decide_eq_false (fun z => z.elim (fun y => by omega) (fun y => by omega))]; rfl
        rw [eo, if_neg (nI_pos (by omega)), hbb, Option.bind_some, if_bI]
        dsimp only
        split
        · rename_i hh; rw [if_pos (of_decide_eq_true hh)]; rfl
        · rename_i hh; rw [if_neg (fun z => hh (decide_eq_true z))]; rfl
    · rw [if_pos (by rw [lg_cmp_le, lI_le0 (big_of (hT1 i) (by decide))]; omega), if_neg q]) (by
    unfold pX7_leavingRow_L4
    dsimp only
    rw [if_pos (nI_le (Nat.le_refl n) (by omega))])
  have hl : lp (pX7_leavingRow_L4 (nI n) (nI k) rl g (nI x)) (-1, 0) = _ := hl
  unfold pX7_leavingRow
  rw [hl]
  rfl
end
/-- one row of the class is cleared -/
theorem c_clear {k x : Nat} {by1 w : Int} {F G N : Nat → Int} {tg sr : Nat → Int64} (hk : k ≤ 16) (hx : x < k) (hb0 : 0 < by1) (hb : big by1) (h1 : ∀ j, j ≤ k → tg j = lI (F j)) (h2 : ∀ j, j ≤ k → sr j = lI (G j)) (hN : ∀ j, j ≤ k → j ≠ x → F j * w - F x * G j = by1 * N j) (hNx : N x = - F x) (hbig : ∀ j, j ≤ k → big (F j * w - F x * G j)) : ∃ t, pX7_clearFromRow (nI k) (lI by1) tg sr (nI x) (lI w) = some t ∧ ∀ j, j ≤ k → t j = lI (N j) := by
  obtain ⟨t, ht, ht2⟩ := lp_for (step := pX7_clearFromRow_L8 (nI k) (lI by1) tg sr (nI x) (lI w)) (k + 1) (fun s st => ∃ t, st = (nI s, t) ∧ ∀ j, j ≤ k → t j = if j < s ∧ j ≠ x then lI (N j) else lI (F j)) (fun t => ∀ j, j ≤ k → t j = if j ≠ x then lI (N j) else lI (F j)) (fun s st hs hI => by
    obtain ⟨t, rfl, p⟩ := hI
    left
    by_cases c : s = x
    · refine ⟨(nI (s + 1), t), ?_, t, rfl, fun j hj => ?_⟩
      · unfold pX7_clearFromRow_L8
        dsimp only
        rw [if_neg (nI_nlt (by omega) (by omega)), if_pos (by rw [c]), nI_1]
      · rw [p j hj]
        by_cases z : j < s ∧ j ≠ x
        · rw [if_pos z, if_pos ⟨by omega, z.2⟩]
        · rw [if_neg z, if_neg (by omega)]
    · refine ⟨(nI (s + 1), vp_updL t s (lI (N s))), ?_, _, rfl, fun j hj => ?_⟩
      · have hbn : ¬ lI by1 = 0 := by rw [lI_eq0 hb]; omega
        unfold pX7_clearFromRow_L8
        dsimp only
        rw [if_neg (nI_nlt (by omega) (by omega)), if_neg (by rw [nI_eq (by omega) (by omega)]; exact c), gd_t (vp_in_nI (show s < 17 by omega) (by omega)), gd_t (vp_in_nI (show s < 17 by omega) (by omega)), gd_t hbn, gd_t (vp_in_nI (show s < 17 by omega) (by omega)), nI_clamp (show s < 2 ^ 31 by omega), nI_clamp (show x < 2 ^ 31 by omega), p s (by omega), if_neg (by omega), h1 x (by omega), h2 s (by omega), lI_mul, lI_mul, lI_sub, hN s (by omega) c, lI_div hb0 hb (by rw [← hN s (by omega) c]; exact hbig s (by omega)), nI_1]
      · by_cases z : j = s
        · subst z; rw [pk_uLs, if_pos ⟨by omega, c⟩]
        · rw [pk_uLn z, p j hj]
          by_cases z2 : j < s ∧ j ≠ x
          · rw [if_pos z2, if_pos ⟨by omega, z2.2⟩]
          · rw [if_neg z2, if_neg (by omega)]) (fun st hI => by
    obtain ⟨t, rfl, p⟩ := hI
    unfold pX7_clearFromRow_L8
    dsimp only
    rw [if_pos (nI_lt (by omega) (by omega))]
    refine ⟨_, rfl, fun j hj => ?_⟩
    rw [p j hj]
    by_cases z : j ≠ x
    · rw [if_pos z, if_pos ⟨by omega, z⟩]
    · rw [if_neg z, if_neg (fun y => z y.2)]) (k + 1) 0 (0, tg) (by omega) ⟨tg, rfl, fun j hj => by rw [if_neg (by omega)]; exact h1 j hj⟩
  refine ⟨vp_updL t x (-(lI (F x))), ?_, fun j hj => ?_⟩
  · unfold pX7_clearFromRow
    rw [gd_t (vp_in_nI (show x < 17 by omega) (by omega)), ht, Option.bind_some, gd_t (vp_in_nI (show x < 17 by omega) (by omega)), nI_clamp (show x < 2 ^ 31 by omega), h1 x (by omega)]
  · by_cases z : j = x
    · subst z
      rw [pk_uLs, hNx]
      exact (Int64.ofInt_neg (F j)).symm
    · rw [pk_uLn z, ht2 j hj, if_pos z]
