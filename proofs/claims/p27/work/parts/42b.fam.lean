theorem ag_0 {x k : Nat} {S : Nat → Nat} : ag x S k = 0 ↔ ∀ e, hc x S e k ≤ 1 := by
  constructor
  · intro h e
    have := ag_bit (L := x) (R := S) (e := e) (k := k)
    rw [h, Nat.zero_testBit] at this
    have := of_decide_eq_false this.symm
    omega
  · intro h
    apply Nat.eq_of_testBit_eq
    intro e
    rw [ag_bit, Nat.zero_testBit, decide_eq_false (by have := h e; omega)]
theorem hc_mono {x e i j : Nat} {S : Nat → Nat} (h : i ≤ j) : hc x S e i ≤ hc x S e j := ct_mono h
theorem ag_ne {x i j : Nat} {S : Nat → Nat} (h : i ≤ j) (h0 : ag x S i ≠ 0) : ag x S j ≠ 0 := by
  intro hj
  rw [ag_0] at hj
  apply h0
  rw [ag_0]
  intro e
  have := hj e
  have := hc_mono (x := x) (S := S) (e := e) h
  omega
theorem low_bits {i a y j : Nat} (h1 : 2 ^ i * a ≤ y) (h2 : y < 2 ^ i * a + 2 ^ i) (h : (2 ^ i * a).testBit j = true) : y.testBit j = true := by
  obtain ⟨l, rfl⟩ : ∃ l, y = 2 ^ i * a + l := ⟨y - 2 ^ i * a, by omega⟩
  rw [Nat.testBit_two_pow_mul] at h
  rw [Nat.testBit_two_pow_mul_add a (show l < 2 ^ i by omega)]
  simp only [Bool.and_eq_true, decide_eq_true_eq] at h
  rw [if_neg (by omega)]
  exact h.2
theorem hc_sub {x y e k : Nat} {S : Nat → Nat} (h : ∀ j, x.testBit j = true → y.testBit j = true) : hc x S e k ≤ hc y S e k := by
  unfold hc
  refine ct_le_of (fun i _ hh => ?_)
  unfold hold at hh ⊢
  simp only [Bool.and_eq_true] at hh ⊢
  exact ⟨h i hh.1, hh.2⟩
set_option maxHeartbeats 1000000 in
theorem yap {n k x : Nat} {S : Nat → Nat} {ls : Nat → Int32} (h : YN n k S ls) (hx : x < 65536) : pX10_areApart (nI k) ls (nI x) = some (bI (ag x S k == 0)) := by
  obtain ⟨hn1, hn2, hk, h4⟩ := h
  have hp := tI_p hn2
  have hlt : ∀ i, i < k → S i < 1024 := fun i hi => by have := (h4 i hi).2; omega
  have hbad : ∀ s : Int32 × Int32 × Int32, s.2.1 = 0 → ag x S k ≠ 0 → ∃ r, pX10_areApart_L7 (nI k) ls (nI x) s = some (Sum.inr r) ∧ r = bI (ag x S k == 0) := by
    intro s hs hz
    unfold pX10_areApart_L7
    by_cases q : nI k ≤ s.2.2
    · rw [if_pos q]; exact ⟨_, rfl, by rw [hs]; simp [hz, bI]⟩
    · rw [if_neg q, if_pos hs]; exact ⟨_, rfl, by rw [hs]; simp [hz, bI]⟩
  obtain ⟨r, h1, h2⟩ := lp_for (step := pX10_areApart_L7 (nI k) ls (nI x)) k (fun i s => (s = (nI (on x S i), 1, nI i) ∧ ag x S i = 0) ∨ (s.2.1 = 0 ∧ ag x S k ≠ 0)) (fun r => r = bI (ag x S k == 0)) (fun i s hi hI => by
    rcases hI with ⟨rfl, hz⟩ | ⟨hs, hz⟩
    · left
      unfold pX10_areApart_L7
      dsimp only
      rw [if_neg (nI_ge hi (by omega)), if_neg (by decide), nI_1]
      cases hb : x.testBit i with
      | false =>
        rw [if_neg (by rw [tI_bit1 (by omega) (by omega), hb]; decide)]
        exact ⟨_, rfl, Or.inl ⟨by rw [on, hb]; rfl, by rw [ag, hb]; exact hz⟩⟩
      | true =>
        have hon := on_lt (L := x) (R := S) (k := i) (fun j hj => hlt j (by omega))
        rw [if_pos (by rw [tI_bit1 (by omega) (by omega), hb]), gd_t (vp_in_nI (show i < 16 by omega) (by omega)), nI_clamp (show i < 2 ^ 31 by omega), (h4 i hi).1, tI_or]
        by_cases hc0 : on x S i &&& S i = 0
        · rw [if_pos ((and_0 hon).mpr hc0), Option.bind_some, gd_t (vp_in_nI (show i < 16 by omega) (by omega))]
          exact ⟨_, rfl, Or.inl ⟨by rw [on, hb]; rfl, by rw [ag, hb, if_pos rfl, hz, hc0]; rfl⟩⟩
        · rw [if_neg (fun h => hc0 ((and_0 hon).mp h)), Option.bind_some, gd_t (vp_in_nI (show i < 16 by omega) (by omega))]
          refine ⟨_, rfl, Or.inr ⟨rfl, ag_ne (i := i + 1) (by omega) ?_⟩⟩
          rw [ag, hb, if_pos rfl, hz, Nat.zero_or]; exact hc0
    · right
      exact hbad s hs hz) (fun s hI => by
    rcases hI with ⟨rfl, hz⟩ | ⟨hs, hz⟩
    · unfold pX10_areApart_L7
      dsimp only
      rw [if_pos (nI_le (Nat.le_refl k) (by omega))]
      exact ⟨_, rfl, by rw [hz]; rfl⟩
    · exact hbad s hs hz) k 0 (0, 1, 0) (by omega) (Or.inl ⟨rfl, rfl⟩)
  unfold pX10_areApart
  rw [h1, Option.bind_some, h2, gd_t (bI_nar _)]
def cm (n k : Nat) (S : Nat → Nat) (x : Nat) : Nat := com (2 ^ n - 1) S (fun i => x.testBit i) k
theorem sub_bits {a c : Nat} : sub a c = true ↔ ∀ e, a.testBit e = true → c.testBit e = true := by
  rw [sub_iff]
  constructor
  · intro h e he
    rw [← h, Nat.testBit_and] at he
    simp only [Bool.and_eq_true] at he
    exact he.2
  · intro h
    apply Nat.eq_of_testBit_eq
    intro e
    rw [Nat.testBit_and]
    cases ha : a.testBit e with
    | false => rfl
    | true => rw [h e ha]; rfl
theorem sub_or {a b c : Nat} : sub (a ||| b) c = (sub a c && sub b c) := by
  rw [Bool.eq_iff_iff, Bool.and_eq_true, sub_bits, sub_bits, sub_bits]
  simp only [Nat.testBit_or, Bool.or_eq_true]
  exact ⟨fun h => ⟨fun e he => h e (Or.inl he), fun e he => h e (Or.inr he)⟩, fun h e he => he.elim (h.1 e) (h.2 e)⟩
theorem ag_sub_ne {x i j c : Nat} {S : Nat → Nat} (h : i ≤ j) (h0 : sub (ag x S i) c = false) : sub (ag x S j) c = false := by
  cases hj : sub (ag x S j) c with
  | false => rfl
  | true =>
    rw [← h0]
    symm
    rw [sub_bits] at hj ⊢
    intro e he
    refine hj e ?_
    rw [ag_bit, decide_eq_true_eq] at he ⊢
    have := hc_mono (x := x) (S := S) (e := e) h
    omega
set_option maxHeartbeats 1000000 in
theorem yst {n k x : Nat} {S : Nat → Nat} {ls : Nat → Int32} (h : YN n k S ls) (hx : x < 65536) : pX10_isStar (nI n) (nI k) ls (nI x) = some (bI (sub (ag x S k) (cm n k S x))) := by
  have hcm := ycommon_eq h hx
  obtain ⟨hn1, hn2, hk, h4⟩ := h
  have hp := tI_p hn2
  have hlt : ∀ i, i < k → S i < 1024 := fun i hi => by have := (h4 i hi).2; omega
  have hcm : pX10_common (nI n) (nI k) ls (nI x) = some (nI (cm n k S x)) := hcm
  generalize cm n k S x = c at *
  have hbad : ∀ s : Int32 × Int32 × Int32, s.2.1 = 0 → sub (ag x S k) c = false → ∃ r, pX10_isStar_L14 (nI k) ls (nI x) (nI c) s = some (Sum.inr r) ∧ r = bI (sub (ag x S k) c) := by
    intro s hs hz
    unfold pX10_isStar_L14
    by_cases q : nI k ≤ s.2.2
    · rw [if_pos q]; exact ⟨_, rfl, by rw [hs, hz]; rfl⟩
    · rw [if_neg q, if_pos hs]; exact ⟨_, rfl, by rw [hs, hz]; rfl⟩
  obtain ⟨r, h1, h2⟩ := lp_for (step := pX10_isStar_L14 (nI k) ls (nI x) (nI c)) k (fun i s => (s = (nI (on x S i), 1, nI i) ∧ sub (ag x S i) c = true) ∨ (s.2.1 = 0 ∧ sub (ag x S k) c = false)) (fun r => r = bI (sub (ag x S k) c)) (fun i s hi hI => by
    rcases hI with ⟨rfl, hz⟩ | ⟨hs, hz⟩
    · left
      unfold pX10_isStar_L14
      dsimp only
      rw [if_neg (nI_ge hi (by omega)), if_neg (by decide), nI_1]
      cases hb : x.testBit i with
      | false =>
        rw [if_neg (by rw [tI_bit1 (by omega) (by omega), hb]; decide)]
        exact ⟨_, rfl, Or.inl ⟨by rw [on, hb]; rfl, by rw [ag, hb]; exact hz⟩⟩
      | true =>
        have hon := on_lt (L := x) (R := S) (k := i) (fun j hj => hlt j (by omega))
        have hon2 : on x S i &&& S i < 1024 := Nat.lt_of_le_of_lt Nat.and_le_left hon
        rw [if_pos (by rw [tI_bit1 (by omega) (by omega), hb]), gd_t (vp_in_nI (show i < 16 by omega) (by omega)), nI_clamp (show i < 2 ^ 31 by omega), (h4 i hi).1, tI_or, tI_and]
        cases hc0 : sub (on x S i &&& S i) c with
        | true =>
          rw [if_pos ((andn_0 hon2).mpr hc0), Option.bind_some, gd_t (vp_in_nI (show i < 16 by omega) (by omega))]
          exact ⟨_, rfl, Or.inl ⟨by rw [on, hb]; rfl, by rw [ag, hb, if_pos rfl, sub_or, hz, hc0]; rfl⟩⟩
        | false =>
          rw [if_neg (fun h => by rw [(andn_0 hon2).mp h] at hc0; cases hc0), Option.bind_some, gd_t (vp_in_nI (show i < 16 by omega) (by omega))]
          refine ⟨_, rfl, Or.inr ⟨rfl, ag_sub_ne (i := i + 1) (by omega) ?_⟩⟩
          rw [ag, hb, if_pos rfl, sub_or, hc0, Bool.and_false]
    · right
      exact hbad s hs hz) (fun s hI => by
    rcases hI with ⟨rfl, hz⟩ | ⟨hs, hz⟩
    · unfold pX10_isStar_L14
      dsimp only
      rw [if_pos (nI_le (Nat.le_refl k) (by omega))]
      exact ⟨_, rfl, by rw [hz]; rfl⟩
    · exact hbad s hs hz) k 0 (0, 1, 0) (by omega) (Or.inl ⟨rfl, by rw [ag]; simp [sub]⟩)
  unfold pX10_isStar
  rw [hcm, Option.bind_some, h1, Option.bind_some, h2, gd_t (bI_nar _)]
/-! apart -/
def apB (S : Nat → Nat) (k x : Nat) : Bool := ag x S k == 0
theorem apB_iff {S : Nat → Nat} {k x : Nat} : apB S k x = true ↔ ∀ e, hc x S e k ≤ 1 := by
  unfold apB; rw [beq_iff_eq, ag_0]
theorem ap_pop {P : Nat → Bool} {K : Nat → Int32} {d : Nat} : (scn P K 0 d (0, 0, 0)).2.2 = pop (scn P K 0 d (0, 0, 0)).1 := by
  rcases scn_or (P := P) (K := K) (x := 0) (s := (0, 0, 0)) (d := d) with q | q
  · rw [q]; decide
  · exact q.2.2
theorem c_ap {n k : Nat} {S : Nat → Nat} {rows : Nat → Int32} (hk : k ≤ 16) (hn : n ≤ 10) (hR : ∀ i, i < k → rows i = nI (S i) ∧ S i < 2 ^ n) (u v w : Int32) : pX3_findApart 16 (nI k) rows u v w = some (nI (scn (apB S k) (fun _ => 0) 0 (2 ^ k) (0, 0, 0)).1, (scn (apB S k) (fun _ => 0) 0 (2 ^ k) (0, 0, 0)).2.1, nI (scn (apB S k) (fun _ => 0) 0 (2 ^ k) (0, 0, 0)).2.2) := by
  have hp := tI_p hn
  have hlt : ∀ i, i < k → S i < 1024 := fun i hi => by have := (hR i hi).2; omega
  have h := search_eq (rows := rows) (apB S k) (fun _ => 0) hk (fun i hi => (hR i hi).1) hlt (fun i a hi ha hP => by
    rw [apB_iff] at hP ⊢
    constructor
    · rintro (h | h)
      · cases h
      · rw [and_0 (hlt i hi)] at h
        intro e
        rw [hc_odd hi]
        have hPe := hP e
        have hb := congrArg (fun z => z.testBit e) h
        simp only [Nat.testBit_and, Nat.zero_testBit, on_bit] at hb
        cases hs : (S i).testBit e with
        | false => simpa using hPe
        | true =>
          rw [hs, Bool.true_and, decide_eq_false_iff_not] at hb
          simp; omega
    · intro h
      right
      rw [and_0 (hlt i hi)]
      apply Nat.eq_of_testBit_eq
      intro e
      rw [Nat.testBit_and, Nat.zero_testBit, on_bit]
      have he := h e
      rw [hc_odd hi] at he
      cases hs : (S i).testBit e with
      | false => rfl
      | true =>
        rw [hs] at he
        simp at he ⊢; omega) (fun i a hi ha hP hP2 => by rw [if_neg (fun h => absurd h.1 (by decide))]) (fun i a y hi h1 h2 hy => by
    rw [apB_iff] at hy ⊢
    intro e
    have := hy e
    have := hc_sub (S := S) (e := e) (k := k) (fun j => low_bits (j := j) h1 h2)
    omega) k 18 0 0 0 0 (by omega) (Nat.le_refl k) (by omega) (by
    rw [Nat.mul_zero, apB_iff]
    intro e
    unfold hc
    have : ct (hold 0 S e) k = 0 := by
      rw [ct_0]
      cases hx : exb (hold 0 S e) k with
      | false => rfl
      | true =>
        obtain ⟨i, _, hh⟩ := exb_iff.mp hx
        unfold hold at hh
        rw [Nat.zero_testBit] at hh
        cases hh
    omega) (by omega) (by omega)
  rw [Nat.mul_zero] at h
  have e0 : on 0 S k = 0 := by
    clear h
    induction k with
    | zero => rfl
    | succ k ih => rw [on, Nat.zero_testBit]; exact ih (by omega) (fun i hi => hR i (by omega)) (fun i hi => hlt i (by omega))
  rw [e0, show pop 0 = 0 by decide] at h
  unfold pX3_findApart pX3_start
  have h : pX3_search 18 16 rows 0 0 0 (nI k) 0 0 0 0 = _ := h
  rw [h]
  rfl
set_option maxHeartbeats 1000000 in
theorem y_ap {n k : Nat} {S : Nat → Nat} {ls : Nat → Int32} (h : YN n k S ls) : pX10_apartOf (nI k) ls = some (nI (scn (apB S k) (fun _ => 0) 0 (2 ^ k) (0, 0, 0)).1) := by
  have hk := h.2.2.1
  have h16 : 2 ^ k ≤ 65536 := by
    have := Nat.pow_le_pow_right (n := 2) (by omega) hk
    simpa using this
  have hpk := tI_pp k
  have hl := lp_det (step := pX10_apartOf_L4 (nI k) ls) (fun i => (nI (scn (apB S k) (fun _ => 0) 0 (i + 1) (0, 0, 0)).1, nI (i + 1))) (nI (scn (apB S k) (fun _ => 0) 0 (2 ^ k) (0, 0, 0)).1) (2 ^ k - 1) (fun i hi => by
    unfold pX10_apartOf_L4 pX10_apartOf_J37_4
    dsimp only
    have hb := (scn_b (P := apB S k) (K := fun _ => 0) (x := 0) (N := 65536) (s := (0, 0, 0)) (by show 0 < 65536; omega) (by show 0 ≤ 16; omega) (d := i + 1) (by omega)).1
    have hpp := ap_pop (P := apB S k) (K := fun _ => 0) (d := i + 1)
    have hp1 := pop_le (i + 1)
    have hsc : scn (apB S k) (fun _ => 0) 0 (i + 1 + 1) (0, 0, 0) = if apB S k (i + 1) && decide ((scn (apB S k) (fun _ => 0) 0 (i + 1) (0, 0, 0)).2.2 < pop (i + 1)) then (i + 1, 0, pop (i + 1)) else scn (apB S k) (fun _ => 0) 0 (i + 1) (0, 0, 0) := by rw [scn, Nat.zero_add]
    have hp2 := pop_le (scn (apB S k) (fun _ => 0) 0 (i + 1) (0, 0, 0)).1
    rw [tI_shl (by omega), if_neg (nI_ge (by omega) (by omega)), size_eq (by omega), Option.bind_some, size_eq hb, Option.bind_some, nI_1, hsc, hpp]
    by_cases q : pop (scn (apB S k) (fun _ => 0) 0 (i + 1) (0, 0, 0)).1 < pop (i + 1)
    · rw [if_neg (nI_ge q (by omega)), yap h (by omega), Option.bind_some, if_bI, decide_eq_true q, Bool.and_true]
      show (if apB S k (i + 1) = true then _ else _) = _
      cases apB S k (i + 1) <;> rfl
    · rw [if_pos (nI_le (by omega) (by omega)), decide_eq_false q, Bool.and_false]; rfl) (by
    unfold pX10_apartOf_L4
    dsimp only
    rw [tI_shl (by omega), if_pos (nI_le (by omega) (by omega)), show 2 ^ k - 1 + 1 = 2 ^ k by omega])
  have e1 : scn (apB S k) (fun _ => 0) 0 (0 + 1) (0, 0, 0) = (0, 0, 0) := by
    refine scn_none (fun y _ h2 => Or.inr ?_)
    rw [show y = 0 by omega]; decide
  try dsimp only at hl
  rw [e1] at hl
  have hl : lp (pX10_apartOf_L4 (nI k) ls) (0, 1) = _ := hl
  unfold pX10_apartOf
  rw [hl]
  rfl
