/-! colourings: the reference goes back and forth -/
def oneB (S : Nat → Nat) (k : Nat) (cv : Nat → Nat) (e : Nat) : Bool := exb (fun s => (S s / 2 ^ e == 1) && allb (fun i => !(S s).testBit i || (cv i == cv e)) e) k
set_option maxHeartbeats 1000000 in
theorem y_one {n k e : Nat} {S cv : Nat → Nat} {ls col : Nat → Int32} (h : YN n k S ls) (he : e < n) (hc : ∀ i, i ≤ e → col i = nI (cv i) ∧ cv i < 100) : pX10_isOne (nI k) ls col (nI e) = some (bI (oneB S k cv e)) := by
  obtain ⟨hn1, hn2, hk, h4⟩ := h
  have hp := tI_p hn2
  have hin : ∀ s, s < k → lp (pX10_isOne_L27_3 ls col (nI e) (nI s)) (1, 0) = some (bI (allb (fun i => !(S s).testBit i || (cv i == cv e)) e)) := by
    intro s hs
    have hls := (h4 s hs).2
    have := lp_det (step := pX10_isOne_L27_3 ls col (nI e) (nI s)) (fun i => (bI (allb (fun i => !(S s).testBit i || (cv i == cv e)) i), nI i)) (bI (allb (fun i => !(S s).testBit i || (cv i == cv e)) e)) e (fun i hi => by
      unfold pX10_isOne_L27_3 pX10_isOne_J71_5 pX10_isOne_J67_7
      dsimp only
      rw [if_neg (nI_ge hi (by omega)), if_bI, nI_1, allb]
      cases allb (fun i => !(S s).testBit i || (cv i == cv e)) i with
      | false => rfl
      | true =>
        rw [if_pos rfl, gd_t (vp_in_nI (show s < 16 by omega) (by omega)), nI_clamp (show s < 2 ^ 31 by omega), (h4 s hs).1]
        cases hb : (S s).testBit i with
        | false =>
          rw [if_pos (by rw [tI_bit0 (by omega) (by omega), hb])]
          rfl
        | true =>
          have c1 := hc i (by omega)
          have c2 := hc e (by omega)
          rw [if_neg (by rw [tI_bit0 (by omega) (by omega), hb]; decide), gd_t (vp_in_nI (show i < 10 by omega) (by omega)), gd_t (vp_in_nI (show e < 10 by omega) (by omega)), nI_clamp (show i < 2 ^ 31 by omega), nI_clamp (show e < 2 ^ 31 by omega), c1.1, c2.1]
          by_cases q : cv i = cv e
          · rw [if_pos (by rw [q])]; simp [q, bI]
          · rw [if_neg (by rw [nI_eq (by omega) (by omega)]; exact q)]; simp [q, bI]) (by
      unfold pX10_isOne_L27_3
      dsimp only
      rw [if_pos (nI_le (Nat.le_refl e) (by omega))])
    exact this
  have h1 := lp_first (step := pX10_isOne_L2 (nI k) ls col (nI e)) (fun s => nI s) (fun s => (S s / 2 ^ e == 1) && allb (fun i => !(S s).testBit i || (cv i == cv e)) e) (fun _ => Sum.inl ()) (Sum.inr ()) k (fun s hs => by
    unfold pX10_isOne_L2
    have hls := (h4 s hs).2
    have hdl : S s / 2 ^ e ≤ S s := Nat.div_le_self _ _
    rw [if_neg (nI_ge hs (by omega)), gd_t (vp_in_nI (show s < 16 by omega) (by omega)), nI_clamp (show s < 2 ^ 31 by omega), (h4 s hs).1, tI_shr (by omega) (by omega), nI_1, hin s hs, Option.bind_some, if_bI]
    by_cases q : S s / 2 ^ e = 1
    · rw [if_pos (by rw [q]; rfl)]
      rw [show (S s / 2 ^ e == 1) = true by simp [q], Bool.true_and]
      cases allb (fun i => !(S s).testBit i || (cv i == cv e)) e <;> rfl
    · rw [if_neg (by rw [tI_1, nI_eq (by omega) (by omega)]; exact q), show (S s / 2 ^ e == 1) = false by simp [q], Bool.false_and]
      rfl) (by
    unfold pX10_isOne_L2
    rw [if_pos (nI_le (Nat.le_refl k) (by omega))])
  have h1 : lp (pX10_isOne_L2 (nI k) ls col (nI e)) 0 = _ := h1
  unfold pX10_isOne oneB
  rw [h1, exb_fst]
  cases fst (fun s => (S s / 2 ^ e == 1) && allb (fun i => !(S s).testBit i || (cv i == cv e)) e) k <;> rfl
/-- the classes of what is coloured -/
def clsOf (A : Nat → Nat) (cv : Nat → Nat) (c e : Nat) : Prop := ∀ j, j < c → ∀ i, (A j).testBit i = (decide (i < e) && (cv i == j))
theorem one_eq {k c e : Nat} {S A cv : Nat → Nat} (hA : clsOf A cv c e) (hv : cv e < c) (h0 : hsb S k (A (cv e)) = false) : oneB S k cv e = hsb S k (A (cv e) ||| 2 ^ e) := by
  unfold oneB hsb
  refine exb_cong (fun s hs => ?_)
  have h0s : sub (S s) (A (cv e)) = false := by
    cases hh : sub (S s) (A (cv e)) with
    | false => rfl
    | true =>
      have : hsb S k (A (cv e)) = true := exb_iff.mpr ⟨s, hs, hh⟩
      rw [h0] at this; cases this
  have hbit : ∀ i, (A (cv e) ||| 2 ^ e).testBit i = ((decide (i < e) && (cv i == cv e)) || decide (e = i)) := fun i => by
    rw [Nat.testBit_or, hA _ hv, Nat.testBit_two_pow]
  rw [Bool.eq_iff_iff, Bool.and_eq_true, allb_iff, sub_bits, beq_iff_eq]
  constructor
  · rintro ⟨h1, h2⟩ i hi
    rw [hbit]
    rcases Nat.lt_trichotomy i e with q | q | q
    · have := h2 i q
      rw [hi] at this
      simp only [Bool.not_true, Bool.false_or] at this
      rw [this, decide_eq_true q]; rfl
    · simp [q]
    · exfalso
      have : (S s / 2 ^ e).testBit (i - e) = true := by
        rw [Nat.testBit_div_two_pow, show i - e + e = i by omega]; exact hi
      rw [h1] at this
      have h3 := Nat.testBit_two_pow (n := 0) (m := i - e)
      rw [show (2 ^ 0 : Nat) = 1 from rfl, this] at h3
      have := of_decide_eq_true h3.symm
      omega
  · intro h1
    have hle : ∀ i, (S s).testBit i = true → i ≤ e := by
      intro i hi
      have := h1 i hi
      rw [hbit] at this
      simp only [Bool.or_eq_true, Bool.and_eq_true, decide_eq_true_eq] at this
      omega
    refine ⟨?_, fun i hi => ?_⟩
    · have he : (S s).testBit e = true := by
        cases hh : (S s).testBit e with
        | true => rfl
        | false =>
          have : sub (S s) (A (cv e)) = true := by
            rw [sub_bits]
            intro i hi
            have hx := h1 i hi
            rw [hbit] at hx
            rw [hA _ hv]
            simp only [Bool.or_eq_true, decide_eq_true_eq] at hx
            rcases hx with hx | hx
            · exact hx
            · subst hx; rw [hh] at hi; cases hi
          rw [h0s] at this; cases this
      apply Nat.eq_of_testBit_eq
      intro i
      rw [Nat.testBit_div_two_pow, show (1 : Nat) = 2 ^ 0 from rfl, Nat.testBit_two_pow]
      cases i with
      | zero => rw [Nat.zero_add, he]; rfl
      | succ i =>
        cases hh : (S s).testBit (i + 1 + e) with
        | false => simp
        | true => have := hle _ hh; omega
    · cases hh : (S s).testBit i with
      | false => rfl
      | true =>
        have := h1 i hh
        rw [hbit, decide_eq_false (show ¬ e = i by omega), Bool.or_false, decide_eq_true hi, Bool.true_and] at this
        rw [this]; rfl
def smr (F : Nat → Nat) (v : Nat) : Nat → Nat
  | 0 => 0
  | u + 1 => F v + smr F (v + 1) u
theorem smr_eq {F : Nat → Nat} : ∀ {u v : Nat}, sm F v + smr F v u = sm F (v + u)
  | 0, v => by rw [smr]; rfl
  | u + 1, v => by
    rw [smr]
    have := smr_eq (F := F) (u := u) (v := v + 1)
    rw [sm] at this
    rw [show v + (u + 1) = v + 1 + u by omega]
    omega
def Tj (S : Nat → Nat) (k n c d e : Nat) (A : Nat → Nat) (j : Nat) : Nat := if hsb S k (A j ||| 2 ^ e) then 0 else Hc S k n c d (put A j (A j ||| 2 ^ e))
theorem cls_up {A cv : Nat → Nat} {c e v : Nat} (hA : clsOf A cv c e) (hv : v < c) : clsOf (put A v (A v ||| 2 ^ e)) (put cv e v) c (e + 1) := by
  intro j hj i
  unfold put
  by_cases q : j = v
  · subst q
    rw [if_pos rfl, Nat.testBit_or, hA j hj, Nat.testBit_two_pow]
    by_cases p : i = e
    · subst p; simp
    · rw [if_neg p, decide_eq_false (show ¬ e = i from fun h => p h.symm), Bool.or_false]
      rcases Nat.lt_or_ge i e with t | t
      · rw [decide_eq_true t, decide_eq_true (show i < e + 1 by omega)]
      · rw [decide_eq_false (show ¬ i < e by omega), decide_eq_false (show ¬ i < e + 1 by omega)]
  · rw [if_neg q, hA j hj]
    by_cases p : i = e
    · subst p
      rw [if_pos rfl, decide_eq_false (Nat.lt_irrefl i), show (v == j) = false by simp; exact fun h => q h.symm]; simp
    · rw [if_neg p]
      rcases Nat.lt_or_ge i e with t | t
      · rw [decide_eq_true t, decide_eq_true (show i < e + 1 by omega)]
      · rw [decide_eq_false (show ¬ i < e by omega), decide_eq_false (show ¬ i < e + 1 by omega)]
theorem u_s {f : Nat → Int32} {i : Nat} {x : Int32} : upd f i x i = x := if_pos rfl
theorem u_n {f : Nat → Int32} {i j : Nat} {x : Int32} (h : j ≠ i) : upd f i x j = f j := if_neg h
set_option maxHeartbeats 1000000 in
theorem y_step {n k c v e m : Nat} {S A cv : Nat → Nat} {ls col : Nat → Int32} (h : YN n k S ls) (hc4 : c ≤ 4) (hv : v < c) (he : e < n) (hcol : col e + 1 = nI v) (hcv : ∀ i, i < e → col i = nI (cv i) ∧ cv i < c) (hA : clsOf A cv c e) (h0 : hsb S k (A v) = false) : pX10_colourings_L28 (nI n) (nI k) ls (nI c) (nI m, nI e, col) = some (.inl (if hsb S k (A v ||| 2 ^ e) then (nI m, nI e, upd col e (nI v)) else if e + 1 = n then (nI (m + 1), nI e, upd col e (nI v)) else (nI m, nI (e + 1), upd (upd col e (nI v)) (e + 1) (-1)))) := by
  have hn2 := h.2.1
  have hA' : clsOf A (put cv e v) c e := by
    intro j hj i
    rw [hA j hj]
    rcases Nat.lt_or_ge i e with t | t
    · rw [put_n (by omega)]
    · rw [decide_eq_false (show ¬ i < e by omega)]; rfl
  have hone := y_one (cv := put cv e v) (col := upd col e (nI v)) h he (fun i hi => by
    by_cases q : i = e
    · subst q; rw [u_s, put_s]; exact ⟨rfl, by omega⟩
    · rw [u_n q, put_n q]
      have := hcv i (by omega)
      exact ⟨this.1, by omega⟩)
  rw [one_eq hA' (by rw [put_s]; exact hv) (by rw [put_s]; exact h0), put_s] at hone
  unfold pX10_colourings_L28
  dsimp only
  rw [if_neg (nI_pos (by omega)), gd_t (vp_in_nI (show e < 10 by omega) (by omega)), gd_t (vp_in_nI (show e < 10 by omega) (by omega)), gd_t (vp_in_nI (show e < 10 by omega) (by omega)), nI_clamp (show e < 2 ^ 31 by omega), hcol, u_s, if_neg (by rw [nI_eq (by omega) (by omega)]; omega), hone, Option.bind_some, if_bI, nI_1, nI_1]
  cases hsb S k (A v ||| 2 ^ e) with
  | true => rfl
  | false =>
    simp only [Bool.false_eq_true, if_false]
    by_cases q : e + 1 = n
    · rw [if_pos (by rw [q]), if_pos q]
    · rw [if_neg (by rw [nI_eq (by omega) (by omega)]; exact q), if_neg q, gd_t (vp_in_nI (show e + 1 < 10 by omega) (by omega)), nI_clamp (by omega)]
set_option maxHeartbeats 4000000 in
theorem y_tree {n k c : Nat} {S : Nat → Nat} {ls : Nat → Int32} (h : YN n k S ls) (hc4 : c ≤ 4) : ∀ (d e : Nat), e + d + 1 = n → ∀ (u v m : Nat) (col : Nat → Int32) (cv A : Nat → Nat), v + u = c → col e + 1 = nI v → (∀ i, i < e → col i = nI (cv i) ∧ cv i < c) → clsOf A cv c e → (∀ j, j < c → hsb S k (A j) = false) → ∃ col' : Nat → Int32, (∀ i, i < e → col' i = col i) ∧ lp (pX10_colourings_L28 (nI n) (nI k) ls (nI c)) (nI m, nI e, col) = lp (pX10_colourings_L28 (nI n) (nI k) ls (nI c)) (nI (m + smr (Tj S k n c d e A) v u), nI e + (-1), col') := by
  have hn2 := h.2.1
  intro d
  induction d with
  | zero =>
    intro e he u
    induction u with
    | zero =>
      intro v m col cv A hvc hcol hcv hA h0
      refine ⟨upd col e (col e + 1), fun i hi => u_n (by omega), ?_⟩
      refine lp_c ?_
      unfold pX10_colourings_L28
      dsimp only
      rw [if_neg (nI_pos (by omega)), gd_t (vp_in_nI (show e < 10 by omega) (by omega)), gd_t (vp_in_nI (show e < 10 by omega) (by omega)), gd_t (vp_in_nI (show e < 10 by omega) (by omega)), nI_clamp (show e < 2 ^ 31 by omega), u_s, if_pos (by rw [hcol, show v = c by omega]), smr]
      rfl
    | succ u ih =>
      intro v m col cv A hvc hcol hcv hA h0
      have hst := y_step h hc4 (show v < c by omega) (show e < n by omega) (m := m) hcol hcv hA (h0 v (by omega))
      rw [lp_c hst, smr]
      cases hh : hsb S k (A v ||| 2 ^ e) with
      | true =>
        obtain ⟨col', q1, q2⟩ := ih (v + 1) m (upd col e (nI v)) cv A (by omega) (by rw [u_s, nI_1]) (fun i hi => by rw [u_n (by omega)]; exact hcv i hi) hA h0
        refine ⟨col', fun i hi => by rw [q1 i hi, u_n (by omega)], ?_⟩
        rw [if_pos rfl, q2, show Tj S k n c 0 e A v = 0 from if_pos hh, Nat.zero_add]
      | false =>
        obtain ⟨col', q1, q2⟩ := ih (v + 1) (m + 1) (upd col e (nI v)) cv A (by omega) (by rw [u_s, nI_1]) (fun i hi => by rw [u_n (by omega)]; exact hcv i hi) hA h0
        refine ⟨col', fun i hi => by rw [q1 i hi, u_n (by omega)], ?_⟩
        have e1 : Tj S k n c 0 e A v = 1 := by unfold Tj; rw [hh]; rfl
        rw [if_neg (by decide), if_pos (show e + 1 = n by omega), q2, e1, show m + 1 + smr (Tj S k n c 0 e A) (v + 1) u = m + (1 + smr (Tj S k n c 0 e A) (v + 1) u) by omega]
  | succ d ihd =>
    intro e he u
    induction u with
    | zero =>
      intro v m col cv A hvc hcol hcv hA h0
      refine ⟨upd col e (col e + 1), fun i hi => u_n (by omega), ?_⟩
      refine lp_c ?_
      unfold pX10_colourings_L28
      dsimp only
      rw [if_neg (nI_pos (by omega)), gd_t (vp_in_nI (show e < 10 by omega) (by omega)), gd_t (vp_in_nI (show e < 10 by omega) (by omega)), gd_t (vp_in_nI (show e < 10 by omega) (by omega)), nI_clamp (show e < 2 ^ 31 by omega), u_s, if_pos (by rw [hcol, show v = c by omega]), smr]
      rfl
    | succ u ih =>
      intro v m col cv A hvc hcol hcv hA h0
      have hst := y_step h hc4 (show v < c by omega) (show e < n by omega) (m := m) hcol hcv hA (h0 v (by omega))
      rw [lp_c hst, smr]
      cases hh : hsb S k (A v ||| 2 ^ e) with
      | true =>
        obtain ⟨col', q1, q2⟩ := ih (v + 1) m (upd col e (nI v)) cv A (by omega) (by rw [u_s, nI_1]) (fun i hi => by rw [u_n (by omega)]; exact hcv i hi) hA h0
        refine ⟨col', fun i hi => by rw [q1 i hi, u_n (by omega)], ?_⟩
        rw [if_pos rfl, q2, show Tj S k n c (d + 1) e A v = 0 from if_pos hh, Nat.zero_add]
      | false =>
        rw [if_neg (by decide), if_neg (show ¬ e + 1 = n by omega)]
        obtain ⟨col1, p1, p2⟩ := ihd (e + 1) (by omega) c 0 m (upd (upd col e (nI v)) (e + 1) (-1)) (put cv e v) (put A v (A v ||| 2 ^ e)) (by omega) (by rw [u_s]; rfl) (fun i hi => by
          by_cases q : i = e
          · subst q; rw [u_n (by omega), u_s, put_s]; exact ⟨rfl, by omega⟩
          · rw [u_n (by omega), u_n q, put_n q]; exact hcv i (by omega)) (cls_up hA (by omega)) (fun j hj => by
          by_cases q : j = v
          · subst q; rw [put_s]; exact hh
          · rw [put_n q]; exact h0 j hj)
        rw [p2, pk_m1]
        have hce : col1 e = nI v := by rw [p1 e (by omega), u_n (by omega), u_s]
        obtain ⟨col', q1, q2⟩ := ih (v + 1) (m + smr (Tj S k n c d (e + 1) (put A v (A v ||| 2 ^ e))) 0 c) col1 cv A (by omega) (by rw [hce, nI_1]) (fun i hi => by rw [p1 i (by omega), u_n (by omega), u_n (by omega)]; exact hcv i hi) hA h0
        refine ⟨col', fun i hi => by rw [q1 i hi, p1 i (by omega), u_n (by omega), u_n (by omega)], ?_⟩
        have e1 : Tj S k n c (d + 1) e A v = smr (Tj S k n c d (e + 1) (put A v (A v ||| 2 ^ e))) 0 c := by
          have e2 := smr_eq (F := Tj S k n c d (e + 1) (put A v (A v ||| 2 ^ e))) (u := c) (v := 0)
          rw [sm, Nat.zero_add, Nat.zero_add] at e2
          rw [e2]
          unfold Tj
          rw [hh, if_neg (by decide), Hc, show n - d - 1 = e + 1 by omega]
        rw [q2, e1, Nat.add_assoc]
/-- the reference counts the same -/
theorem y_ways {n k c : Nat} {S : Nat → Nat} {ls : Nat → Int32} (h : YN n k S ls) (hS1 : ∀ i, i < k → 1 ≤ S i) (hc4 : c ≤ 4) (col : Nat → Int32) : ∃ col' : Nat → Int32, lp (pX10_colourings_L28 (nI n) (nI k) ls (nI c)) (0, 0, upd col 0 (-1)) = some (nI (Hc S k n c n (fun _ => 0)), col') := by
  have hn1 := h.1
  obtain ⟨m, rfl⟩ : ∃ m, n = m + 1 := ⟨n - 1, by omega⟩
  have h0 : hsb S k 0 = false := by
    cases hh : hsb S k 0 with
    | false => rfl
    | true =>
      obtain ⟨i, hi, hs⟩ := exb_iff.mp hh
      rw [sub_iff, Nat.and_zero] at hs
      have := hS1 i hi
      omega
  obtain ⟨col', q1, q2⟩ := y_tree h hc4 m 0 (by omega) c 0 0 (upd col 0 (-1)) (fun _ => 0) (fun _ => 0) (by omega) (by rw [u_s]; rfl) (fun i hi => absurd hi (Nat.not_lt_zero i)) (fun j hj i => by rw [Nat.zero_testBit, decide_eq_false (Nat.not_lt_zero i)]; rfl) (fun j hj => h0)
  refine ⟨col', ?_⟩
  have q2 : lp (pX10_colourings_L28 (nI (m + 1)) (nI k) ls (nI c)) (0, 0, upd col 0 (-1)) = _ := q2
  have e2 := smr_eq (F := Tj S k (m + 1) c m 0 (fun _ => 0)) (u := c) (v := 0)
  rw [sm, Nat.zero_add, Nat.zero_add] at e2
  rw [q2, e2]
  have e3 : Hc S k (m + 1) c (m + 1) (fun _ => 0) = sm (Tj S k (m + 1) c m 0 (fun _ => 0)) c := by
    rw [Hc, show m + 1 - m - 1 = 0 by omega]; rfl
  rw [e3, Nat.zero_add]
  refine lp_x ?_
  unfold pX10_colourings_L28
  dsimp only
  rw [if_pos (by decide)]
