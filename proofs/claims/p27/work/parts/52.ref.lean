/-! shares: the reference's table -/
theorem i27 : (27 : Int32) = nI 27 := rfl
theorem i270 : (270 : Int32) = nI 270 := rfl
def RelY (n : Nat) (M : Nat → Nat → Int) (ob : Nat → Int) (bs : Nat → Nat) (b : Int64) (tb : Nat → Int64) (ba : Nat → Int32) : Prop :=
  (∀ r j, r < n → j < 27 → tb (27 * r + j) = lI (TT n M bs r j)) ∧ (∀ j, j < 27 → tb (270 + j) = lI (zr n M ob bs j)) ∧ b = lI (byD n M bs) ∧ ∀ r, r < n → ba r = nI (bs r)
theorem y_zero (f : Nat → Int64) : lp pX10_lays_L2 (0, f) = some (fun j => if j < 297 then 0 else f j) := by
  have key := lp_det (step := pX10_lays_L2) (fun i => (nI i, fun j => if j < i then 0 else f j)) (fun j => if j < 297 then 0 else f j) 297 (fun i hi => by
    unfold pX10_lays_L2
    dsimp only
    rw [if_neg (by show ¬ nI 297 ≤ nI i; exact nI_ge hi (by omega)), gd_t (vp_in_nI hi (by omega)), nI_clamp (by omega), nI_1]
    congr 3
    funext j
    by_cases h1 : j = i
    · subst h1; rw [pk_uLs, if_pos (by omega)]
    · rw [pk_uLn h1]
      by_cases h2 : j < i
      · rw [if_pos h2, if_pos (by omega)]
      · rw [if_neg h2, if_neg (by omega)]) (by
    unfold pX10_lays_L2
    dsimp only
    rw [if_pos (by decide)])
  have e0 : ((nI 0, fun j => if j < 0 then 0 else f j) : Int32 × (Nat → Int64)) = (0, f) := by
    congr 1
  try dsimp only at key
  rw [e0] at key
  exact key
set_option maxHeartbeats 1000000 in
theorem y_row {n k e : Nat} {S C : Nat → Nat} {ls : Nat → Int32} (h : YN n k S ls) (he : e < n) (ba : Nat → Int32) (t : Nat → Int64) (hz : ∀ j, j < 27 → t (27 * e + j) = 0) : ∃ g, lp (pX10_lays_L39_4 (nI k) ls (nI e, t, ba)) (0, t) = some g ∧ (∀ j, j < 27 → g (27 * e + j) = if j < 16 then lI (Mx S k C j e) else 0) ∧ ∀ i, i < 27 * e ∨ 27 * e + 27 ≤ i → g i = t i := by
  obtain ⟨hn1, hn2, hk, h4⟩ := h
  have hp := tI_p hn2
  refine lp_for (step := pX10_lays_L39_4 (nI k) ls (nI e, t, ba)) k (fun s st => ∃ g, st = (nI s, g) ∧ (∀ j, j < 27 → g (27 * e + j) = if j < s then lI (Mx S k C j e) else 0) ∧ ∀ i, i < 27 * e ∨ 27 * e + 27 ≤ i → g i = t i) (fun g => (∀ j, j < 27 → g (27 * e + j) = if j < 16 then lI (Mx S k C j e) else 0) ∧ ∀ i, i < 27 * e ∨ 27 * e + 27 ≤ i → g i = t i) (fun s st hs hI => ?_) (fun st hI => ?_) k 0 (0, t) (by omega) ⟨t, rfl, fun j hj => by rw [if_neg (Nat.not_lt_zero j)]; exact hz j hj, fun i _ => rfl⟩
  · obtain ⟨g, rfl, h1, h2⟩ := hI
    left
    have hls := (h4 s hs).2
    refine ⟨(nI (s + 1), vp_updL g (27 * e + s) (lI (Mx S k C s e))), ?_, _, rfl, fun j hj => ?_, fun i hi => ?_⟩
    · unfold pX10_lays_L39_4
      dsimp only
      rw [if_neg (nI_ge hs (by omega)), gd_t (vp_in_nI (show s < 16 by omega) (by omega)), i27, pk_mul, nI_add, gd_t (vp_in_nI (show 27 * e + s < 297 by omega) (by omega)), nI_clamp (show s < 2 ^ 31 by omega), nI_clamp (show 27 * e + s < 2 ^ 31 by omega), (h4 s hs).1, tI_bit (by omega) (by omega), nI_1]
      have : (nI (if (S s).testBit e then 1 else 0)).toInt64 = lI (Mx S k C s e) := by
        unfold Mx
        rw [if_pos (show s < 16 by omega)]
        cases hb : (S s).testBit e with
        | true => rw [if_pos (show s < k ∧ true = true from ⟨hs, rfl⟩)]; rfl
        | false => rw [if_neg (show ¬ (s < k ∧ false = true) from fun q => by cases q.2)]; rfl
      rw [this]
    · by_cases c : j = s
      · subst c; rw [pk_uLs, if_pos (by omega)]
      · rw [pk_uLn (by omega), h1 j hj]
        by_cases c2 : j < s
        · rw [if_pos c2, if_pos (by omega)]
        · rw [if_neg c2, if_neg (by omega)]
    · rw [pk_uLn (by omega)]; exact h2 i hi
  · obtain ⟨g, rfl, h1, h2⟩ := hI
    unfold pX10_lays_L39_4
    dsimp only
    rw [if_pos (nI_le (Nat.le_refl k) (by omega))]
    refine ⟨_, rfl, fun j hj => ?_, h2⟩
    rw [h1 j hj]
    by_cases c : j < k
    · rw [if_pos c, if_pos (by omega)]
    · rw [if_neg c]
      by_cases c2 : j < 16
      · rw [if_pos c2]
        have : Mx S k C j e = 0 := by unfold Mx; rw [if_pos c2, if_neg (fun q => c q.1)]
        rw [this]; rfl
      · rw [if_neg c2]
set_option maxHeartbeats 1000000 in
theorem y_lays {n k : Nat} {S C : Nat → Nat} {ls cs : Nat → Int32} (h : YN n k S ls) (hC : ∀ e, e < 10 → cs e = nI (C e) ∧ C e ≤ 20) (b : Int64) (tb : Nat → Int64) (ba : Nat → Int32) : ∃ b1 tb1 ba1, pX10_lays (nI n) (nI k) b ls cs tb ba = some (b1, tb1, ba1) ∧ RelY n (Mx S k C) (obx k) b0x b1 tb1 ba1 := by
  have hn1 := h.1
  have hn2 := h.2.1
  have hk := h.2.2.1
  obtain ⟨r, hr, hr1, hr2, hr3⟩ := lp_for (step := pX10_lays_L29 (nI n) (nI k) ls cs) n (fun e st => ∃ g ba1, st = (nI e, g, ba1) ∧ (∀ r j, r < n → j < 27 → g (27 * r + j) = if r < e then lI (Mx S k C j r) else 0) ∧ (∀ j, j < 27 → g (270 + j) = 0) ∧ ∀ r, r < e → ba1 r = nI (16 + r)) (fun r => (∀ s j, s < n → j < 27 → r.1 (27 * s + j) = lI (Mx S k C j s)) ∧ (∀ j, j < 27 → r.1 (270 + j) = 0) ∧ ∀ s, s < n → r.2 s = nI (16 + s)) (fun e st he hI => by
    obtain ⟨g, ba1, rfl, h1, h2, h3⟩ := hI
    left
    obtain ⟨g2, p1, p2, p3⟩ := y_row (C := C) h he ba1 g (fun j hj => by rw [h1 e j he hj, if_neg (Nat.lt_irrefl e)])
    have hce := hC e (by omega)
    refine ⟨(nI (e + 1), vp_updL (vp_updL g2 (27 * e + 16 + e) 1) (27 * e + 26) (lI (C e)), upd ba1 e (nI (16 + e))), ?_, _, _, rfl, fun r j hr hj => ?_, fun j hj => ?_, fun r hr => ?_⟩
    · unfold pX10_lays_L29
      dsimp only
      rw [if_neg (nI_ge he (by omega)), p1, Option.bind_some, i27, pk_mul, show (16 : Int32) = nI 16 from rfl, nI_add, nI_add, show (26 : Int32) = nI 26 from rfl, nI_add, nI_add, gd_t (vp_in_nI (show 27 * e + 16 + e < 297 by omega) (by omega)), gd_t (vp_in_nI (show e < 10 by omega) (by omega)), gd_t (vp_in_nI (show 27 * e + 26 < 297 by omega) (by omega)), gd_t (vp_in_nI (show e < 10 by omega) (by omega)), nI_clamp (show e < 2 ^ 31 by omega), nI_clamp (show 27 * e + 16 + e < 2 ^ 31 by omega), nI_clamp (show 27 * e + 26 < 2 ^ 31 by omega), hce.1, nI_1, nI_l (by omega)]
      rfl
    · by_cases c : r = e
      · subst c
        rw [if_pos (by omega)]
        by_cases c2 : j = 26
        · subst c2; rw [pk_uLs]; rfl
        · rw [pk_uLn (by omega)]
          by_cases c3 : j = 16 + r
          · subst c3
            rw [show 27 * r + (16 + r) = 27 * r + 16 + r by omega, pk_uLs, Mx_u (by omega)]
            unfold idm
            rw [if_pos rfl]; rfl
          · rw [pk_uLn (by omega), p2 j hj]
            by_cases c4 : j < 16
            · rw [if_pos c4]
            · rw [if_neg c4]
              unfold Mx
              rw [if_neg c4, if_pos (by omega), if_neg c3]; rfl
      · rw [pk_uLn (by omega), pk_uLn (by omega), p3 _ (by omega), h1 r j hr hj]
        by_cases c2 : r < e
        · rw [if_pos c2, if_pos (by omega)]
        · rw [if_neg c2, if_neg (by omega)]
    · rw [pk_uLn (by omega), pk_uLn (by omega), p3 _ (by omega)]; exact h2 j hj
    · by_cases c : r = e
      · subst c; exact u_s
      · rw [u_n c]; exact h3 r (by omega)) (fun st hI => by
    obtain ⟨g, ba1, rfl, h1, h2, h3⟩ := hI
    unfold pX10_lays_L29
    dsimp only
    rw [if_pos (nI_le (Nat.le_refl n) (by omega))]
    exact ⟨_, rfl, fun s j hs hj => by show g (27 * s + j) = _; rw [h1 s j hs hj, if_pos hs], h2, h3⟩) n 0 (0, (fun j => if j < 297 then 0 else tb j), ba) (by omega) ⟨_, _, rfl, fun r j hr hj => by rw [if_neg (Nat.not_lt_zero r)]; exact if_pos (by omega), fun j hj => if_pos (by omega), fun r hr => absurd hr (Nat.not_lt_zero r)⟩
  obtain ⟨g0, ba0⟩ := r
  obtain ⟨r2, q, q1, q2⟩ := lp_for (step := pX10_lays_L127 (nI k)) k (fun s st => ∃ g, st = (nI s, g) ∧ (∀ j, j < 27 → g (270 + j) = if j < s then (-1) else 0) ∧ ∀ i, i < 270 → g i = g0 i) (fun g => (∀ j, j < 27 → g (270 + j) = if j < k then (-1) else 0) ∧ ∀ i, i < 270 → g i = g0 i) (fun s st hs hI => by
    obtain ⟨g, rfl, h1, h2⟩ := hI
    left
    refine ⟨(nI (s + 1), vp_updL g (270 + s) (-1)), ?_, _, rfl, fun j hj => ?_, fun i hi => ?_⟩
    · unfold pX10_lays_L127
      dsimp only
      rw [if_neg (nI_ge hs (by omega)), i270, nI_add, gd_t (vp_in_nI (show 270 + s < 297 by omega) (by omega)), nI_clamp (by omega), nI_1]
    · by_cases c : j = s
      · subst c; rw [pk_uLs, if_pos (by omega)]
      · rw [pk_uLn (by omega), h1 j hj]
        by_cases c2 : j < s
        · rw [if_pos c2, if_pos (by omega)]
        · rw [if_neg c2, if_neg (by omega)]
    · rw [pk_uLn (by omega)]; exact h2 i hi) (fun st hI => by
    obtain ⟨g, rfl, h1, h2⟩ := hI
    unfold pX10_lays_L127
    dsimp only
    rw [if_pos (nI_le (Nat.le_refl k) (by omega))]
    exact ⟨_, rfl, h1, h2⟩) k 0 (0, g0) (by omega) ⟨g0, rfl, fun j hj => by rw [if_neg (Nat.not_lt_zero j)]; exact hr2 j hj, fun i _ => rfl⟩
  refine ⟨1, r2, ba0, ?_, fun r j hr hj => ?_, fun j hj => ?_, by rw [by_0 hn2]; rfl, fun r hr => hr3 r hr⟩
  · unfold pX10_lays
    rw [y_zero, Option.bind_some, hr, Option.bind_some]
    dsimp only
    rw [q]
    rfl
  · rw [q2 _ (by omega), TT_0 hn2 hr]; exact hr1 r j hr hj
  · rw [q1 j hj, zr_0 hn2 hk]
    unfold obx
    by_cases c : j < k
    · rw [if_pos c, if_pos c]; rfl
    · rw [if_neg c, if_neg c]; rfl
theorem y_enters {n k : Nat} {S C : Nat → Nat} {bs : Nat → Nat} {b : Int64} {tb : Nat → Int64} {ba : Nat → Int32} (hn : n ≤ 10) (hb : ∀ s, s < n → bs s < 26) (hC : ∀ e, C e ≤ 20) (hR : RelY n (Mx S k C) (obx k) bs b tb ba) : pX10_enters tb = some ((entC n (Mx S k C) (obx k) bs).elim (-1) (fun c => nI c)) := by
  have hl := lp_first (step := pX10_enters_L2 tb) (fun c => nI c) (fun c => decide (zr n (Mx S k C) (obx k) bs c < 0)) (fun c => Sum.inl (nI c)) (Sum.inr ()) 26 (fun c hc => by
    unfold pX10_enters_L2
    have hz := big_of (zr_abs (S := S) (k := k) (j := c) hn hb hC) (by decide)
    rw [if_neg (by show ¬ nI 26 ≤ nI c; exact nI_ge hc (by omega)), i270, nI_add, gd_t (vp_in_nI (show 270 + c < 297 by omega) (by omega)), nI_clamp (by omega), hR.2.1 c (by omega), nI_1]
    by_cases q : zr n (Mx S k C) (obx k) bs c < 0
    · rw [if_neg (by rw [lg_cmp_ge, lI_ge0 hz]; omega), decide_eq_true q]; rfl
    · rw [if_pos (by rw [lg_cmp_ge, lI_ge0 hz]; omega), decide_eq_false q]; rfl) (by
    unfold pX10_enters_L2
    rw [if_pos (by decide)])
  have hl : lp (pX10_enters_L2 tb) 0 = _ := hl
  unfold pX10_enters
  rw [hl]
  unfold entC
  cases fst (fun c => decide (zr n (Mx S k C) (obx k) bs c < 0)) 26 <;> rfl
