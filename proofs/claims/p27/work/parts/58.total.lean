/-! shares: the class's own call always returns, whatever its table holds (for the parts, which compare nothing of it) -/
theorem t_enter {n k : Nat} (hn : n ≤ 10) (hk : k ≤ 16) (cl : Nat → Int32) (g : Nat → Nat → Int64) : ∃ r, pX7_enteringColumn (nI n) (nI k) cl g = some r ∧ (r = -1 ∨ ∃ x, x < k ∧ r = nI x) := by
  obtain ⟨r, h1, h2⟩ := lp_for (step := pX7_enteringColumn_L4 (nI n) (nI k) cl g) k (fun j s => ∃ f, s = (f, nI j) ∧ (f = -1 ∨ ∃ x, x < j ∧ f = nI x)) (fun r => r = -1 ∨ ∃ x, x < k ∧ r = nI x) (fun j s hj hI => by
    obtain ⟨f, rfl, hf⟩ := hI
    left
    unfold pX7_enteringColumn_L4 pX7_enteringColumn_J47_4
    dsimp only
    rw [if_neg (nI_ge hj (by omega)), gd_t (vp_in_nI (show n < 11 by omega) (by omega)), gd_t (vp_in_nI (show j < 17 by omega) (by omega)), nI_1]
    have keep : ∃ f', (f, nI (j + 1)) = (f', nI (j + 1)) ∧ (f' = -1 ∨ ∃ x, x < j + 1 ∧ f' = nI x) := ⟨f, rfl, hf.elim Or.inl (fun ⟨x, h1, h2⟩ => Or.inr ⟨x, by omega, h2⟩)⟩
    have take : ∃ f', (nI j, nI (j + 1)) = (f', nI (j + 1)) ∧ (f' = -1 ∨ ∃ x, x < j + 1 ∧ f' = nI x) := ⟨nI j, rfl, Or.inr ⟨j, by omega, rfl⟩⟩
    split
    · exact ⟨_, rfl, keep⟩
    · rcases hf with rfl | ⟨x, hx, rfl⟩
      · rw [if_pos (by decide)]
        exact ⟨_, rfl, take⟩
      · rw [if_neg (nI_pos (by omega)), gd_t (vp_in_nI (show j < 16 by omega) (by omega)), gd_t (vp_in_nI (show x < 16 by omega) (by omega))]
        split
        · exact ⟨_, rfl, keep⟩
        · exact ⟨_, rfl, take⟩) (fun s hI => by
    obtain ⟨f, rfl, hf⟩ := hI
    unfold pX7_enteringColumn_L4
    dsimp only
    rw [if_pos (nI_le (Nat.le_refl k) (by omega))]
    exact ⟨_, rfl, hf⟩) k 0 (-1, 0) (by omega) ⟨-1, rfl, Or.inl rfl⟩
  refine ⟨r, ?_, h2⟩
  unfold pX7_enteringColumn
  rw [h1]; rfl
theorem t_leave {n k x : Nat} (hn : n ≤ 10) (hk : k ≤ 16) (hx : x < k) (rl : Nat → Int32) (g : Nat → Nat → Int64) : ∃ r, pX7_leavingRow (nI n) (nI k) rl g (nI x) = some r ∧ (r = -1 ∨ ∃ i, i < n ∧ r = nI i) := by
  obtain ⟨r, h1, h2⟩ := lp_for (step := pX7_leavingRow_L4 (nI n) (nI k) rl g (nI x)) n (fun i s => ∃ f, s = (f, nI i) ∧ (f = -1 ∨ ∃ y, y < i ∧ f = nI y)) (fun r => r = -1 ∨ ∃ i, i < n ∧ r = nI i) (fun i s hi hI => by
    obtain ⟨f, rfl, hf⟩ := hI
    left
    unfold pX7_leavingRow_L4 pX7_leavingRow_J39_4
    dsimp only
    rw [if_neg (nI_ge hi (by omega)), gd_t (vp_in_nI (show i < 11 by omega) (by omega)), gd_t (vp_in_nI (show x < 17 by omega) (by omega)), nI_1]
    have keep : ∃ f', (f, nI (i + 1)) = (f', nI (i + 1)) ∧ (f' = -1 ∨ ∃ y, y < i + 1 ∧ f' = nI y) := ⟨f, rfl, hf.elim Or.inl (fun ⟨y, h1, h2⟩ => Or.inr ⟨y, by omega, h2⟩)⟩
    have take : ∃ f', (nI i, nI (i + 1)) = (f', nI (i + 1)) ∧ (f' = -1 ∨ ∃ y, y < i + 1 ∧ f' = nI y) := ⟨nI i, rfl, Or.inr ⟨i, by omega, rfl⟩⟩
    split
    · exact ⟨_, rfl, keep⟩
    · rcases hf with rfl | ⟨y, hy, rfl⟩
      · rw [if_pos (by decide)]
        exact ⟨_, rfl, take⟩
      · have hbb : ∃ b, pX7_bindsBefore (nI k) rl g (nI i) (nI y) (nI x) = some b := by
          unfold pX7_bindsBefore pX7_bindsBefore_J75
          rw [gd_t (vp_in_nI (show i < 11 by omega) (by omega)), gd_t (vp_in_nI (show k < 17 by omega) (by omega)), gd_t (vp_in_nI (show y < 11 by omega) (by omega)), gd_t (vp_in_nI (show x < 17 by omega) (by omega)), gd_t (vp_in_nI (show y < 11 by omega) (by omega)), gd_t (vp_in_nI (show k < 17 by omega) (by omega)), gd_t (vp_in_nI (show i < 11 by omega) (by omega)), gd_t (vp_in_nI (show x < 17 by omega) (by omega))]
          split
          · exact ⟨_, rfl⟩
          · split
            · rw [gd_t (vp_in_nI (show i < 10 by omega) (by omega)), gd_t (vp_in_nI (show y < 10 by omega) (by omega))]
              split
              · exact ⟨_, rfl⟩
              · exact ⟨_, rfl⟩
            · exact ⟨_, rfl⟩
        obtain ⟨b, hb⟩ := hbb
        rw [if_neg (nI_pos (by omega)), hb, Option.bind_some]
        split
        · exact ⟨_, rfl, keep⟩
        · exact ⟨_, rfl, take⟩) (fun s hI => by
    obtain ⟨f, rfl, hf⟩ := hI
    unfold pX7_leavingRow_L4
    dsimp only
    rw [if_pos (nI_le (Nat.le_refl n) (by omega))]
    exact ⟨_, rfl, hf⟩) n 0 (-1, 0) (by omega) ⟨-1, rfl, Or.inl rfl⟩
  refine ⟨r, ?_, h2⟩
  unfold pX7_leavingRow
  rw [h1]; rfl
theorem t_clear {k x : Nat} (hk : k ≤ 16) (hx : x < k) {dv : Int64} (hd : ¬ dv = 0) (tg sr : Nat → Int64) (w : Int64) : ∃ t, pX7_clearFromRow (nI k) dv tg sr (nI x) w = some t := by
  obtain ⟨t, h1, _⟩ := lp_for (step := pX7_clearFromRow_L8 (nI k) dv tg sr (nI x) w) (k + 1) (fun s st => ∃ t, st = (nI s, t)) (fun _ => True) (fun s st hs hI => by
    obtain ⟨t, rfl⟩ := hI
    left
    unfold pX7_clearFromRow_L8
    dsimp only
    rw [if_neg (nI_nlt (by omega) (by omega)), nI_1]
    split
    · exact ⟨_, rfl, _, rfl⟩
    · rw [gd_t (vp_in_nI (show s < 17 by omega) (by omega)), gd_t (vp_in_nI (show s < 17 by omega) (by omega)), gd_t hd, gd_t (vp_in_nI (show s < 17 by omega) (by omega))]
      exact ⟨_, rfl, _, rfl⟩) (fun st hI => by
    obtain ⟨t, rfl⟩ := hI
    unfold pX7_clearFromRow_L8
    dsimp only
    rw [if_pos (nI_lt (by omega) (by omega))]
    exact ⟨_, rfl, trivial⟩) (k + 1) 0 (0, tg) (by omega) ⟨tg, rfl⟩
  unfold pX7_clearFromRow
  rw [gd_t (vp_in_nI (show x < 17 by omega) (by omega)), h1, Option.bind_some, gd_t (vp_in_nI (show x < 17 by omega) (by omega))]
  exact ⟨_, rfl⟩
theorem t_pivot {n k x r : Nat} (hn : n ≤ 10) (hk : k ≤ 16) (hx : x < k) (hr : r < n) (dv : Int64) (rl cl : Nat → Int32) (g : Nat → Nat → Int64) : ∃ y, pX7_pivot (nI n) (nI k) dv rl cl g (nI r) (nI x) = some y := by
  unfold pX7_pivot
  rw [gd_t (vp_in_nI (show r < 11 by omega) (by omega)), gd_t (vp_in_nI (show x < 17 by omega) (by omega))]
  split
  · exact ⟨_, rfl⟩
  · by_cases hd0 : 0 < lg_cmp dv 0
    · have hd : ¬ dv = 0 := by
        rw [lg_cmp_gt, Int64.lt_iff_toInt_lt] at hd0
        intro z
        rw [z] at hd0
        omega
      obtain ⟨G, h1, _⟩ := lp_for (step := pX7_pivot_L28 (nI n) (nI k) dv g (nI r) (nI x)) (n + 1) (fun s st => ∃ G, st = (nI s, G)) (fun _ => True) (fun s st hs hI => by
        obtain ⟨G, rfl⟩ := hI
        left
        unfold pX7_pivot_L28
        dsimp only
        rw [if_neg (nI_nlt (by omega) (by omega)), nI_1]
        by_cases c : s = r
        · rw [if_pos (by rw [c])]
          exact ⟨_, rfl, _, rfl⟩
        · obtain ⟨t, ht⟩ := t_clear hk hx hd (G s) (G r) (g r x)
          rw [if_neg (by rw [nI_eq (by omega) (by omega)]; exact c), gd_t (vp_in_nI (show s < 11 by omega) (by omega)), gd_t (vp_in_nI (show r < 11 by omega) (by omega)), nI_clamp (show s < 2 ^ 31 by omega), nI_clamp (show r < 2 ^ 31 by omega), nI_clamp (show x < 2 ^ 31 by omega), gd_t c, ht, Option.bind_some]
          exact ⟨_, rfl, _, rfl⟩) (fun st hI => by
        obtain ⟨G, rfl⟩ := hI
        unfold pX7_pivot_L28
        dsimp only
        rw [if_pos (nI_lt (by omega) (by omega))]
        exact ⟨_, rfl, trivial⟩) (n + 1) 0 (0, g) (by omega) ⟨g, rfl⟩
      rw [if_pos hd0, h1, Option.bind_some, gd_t (vp_in_nI (show r < 11 by omega) (by omega)), gd_t (vp_in_nI (show x < 17 by omega) (by omega)), gd_t (vp_in_nI (show r < 10 by omega) (by omega)), gd_t (vp_in_nI (show x < 16 by omega) (by omega)), gd_t (vp_in_nI (show r < 10 by omega) (by omega)), gd_t (vp_in_nI (show x < 16 by omega) (by omega))]
      exact ⟨_, rfl⟩
    · rw [if_neg hd0]
      exact ⟨_, rfl⟩
theorem t_become (p q a b : Int64) : ∃ y, pX4_become p q a b = some y := by
  obtain ⟨r, h1, _⟩ := lp_for (step := pX4_commonDivisor_L9) 100 (fun i s => ∃ u v, s = (u, v, nI i)) (fun _ => True) (fun i s hi hI => by
    obtain ⟨u, v, rfl⟩ := hI
    unfold pX4_commonDivisor_L9
    dsimp only
    rw [if_neg (by show ¬ nI 100 ≤ nI i; exact nI_ge hi (by omega)), nI_1]
    by_cases c : v = 0
    · right
      rw [if_pos (by rw [lg_cmp_eq]; exact c)]
      exact ⟨_, rfl, trivial⟩
    · left
      rw [if_neg (by rw [lg_cmp_eq]; exact c), gd_t c]
      exact ⟨_, rfl, _, _, rfl⟩) (fun s hI => by
    obtain ⟨u, v, rfl⟩ := hI
    unfold pX4_commonDivisor_L9
    dsimp only
    rw [if_pos (by decide)]
    exact ⟨_, rfl, trivial⟩) 100 0 (a, b, 0) (by omega) ⟨a, b, rfl⟩
  unfold pX4_become pX4_commonDivisor
  rw [h1, Option.bind_some, Option.bind_some]
  by_cases c : lg_cmp r 0 ≤ 0
  · rw [if_pos c]; exact ⟨_, rfl⟩
  · have hr : ¬ r = 0 := by
      intro z
      apply c
      rw [z, lg_cmp_le]
      decide
    rw [if_neg c]
    split
    · exact ⟨_, rfl⟩
    · rw [gd_t hr, gd_t hr]; exact ⟨_, rfl⟩
theorem t_shares {n k : Nat} {S C : Nat → Nat} {rows xc : Nat → Int32} (hn1 : 1 ≤ n) (hn : n ≤ 10) (hk : k ≤ 16) (hRw : ∀ i, i < k → rows i = nI (S i) ∧ S i < 2 ^ n) (hC : ∀ e, e < 10 → xc e = nI (C e) ∧ C e ≤ 20) (qa qb : Int64) (hr hc : Int32) (hd : Int64) (rl cl : Nat → Int32) (g : Nat → Nat → Int64) : ∃ y, pX9_shares 16 xc (nI k) (nI n) rows qa qb hr hc hd rl cl g = some y := by
  obtain ⟨rl1, cl1, g1, hlay, _⟩ := c_lay (S := S) (C := C) hn1 hn hk hRw hC hr hc hd rl cl g
  obtain ⟨r, h1, h2⟩ := lp_for (step := pX7_solve_L8 (nI n, nI k, 1, rl1, cl1, g1)) 1000000 (fun t s => ∃ d2 r2 c2 g2, s = (nI t, d2, r2, c2, g2)) (fun _ => True) (fun t s ht hI => by
    obtain ⟨d2, r2, c2, g2, rfl⟩ := hI
    obtain ⟨e, he, he2⟩ := t_enter hn hk c2 g2
    unfold pX7_solve_L8
    dsimp only
    rw [if_neg (by show ¬ nI 1000000 ≤ nI t; exact nI_ge ht (by omega)), he, Option.bind_some, nI_1]
    rcases he2 with rfl | ⟨x, hx, rfl⟩
    · right
      rw [if_neg (by decide)]
      exact ⟨_, rfl, trivial⟩
    · obtain ⟨l, hl, hl2⟩ := t_leave hn hk hx r2 g2
      rw [if_pos (nI_pos' (by omega)), hl, Option.bind_some]
      rcases hl2 with rfl | ⟨i, hi, rfl⟩
      · right
        rw [if_neg (by decide)]
        exact ⟨_, rfl, trivial⟩
      · left
        obtain ⟨y, hy⟩ := t_pivot hn hk hx hi d2 r2 c2 g2
        rw [if_pos (nI_pos' (by omega)), hy, Option.bind_some]
        exact ⟨_, rfl, _, _, _, _, rfl⟩) (fun s hI => by
    obtain ⟨d2, r2, c2, g2, rfl⟩ := hI
    unfold pX7_solve_L8
    dsimp only
    rw [if_pos (by decide)]
    exact ⟨_, rfl, trivial⟩) 1000000 0 (0, 1, rl1, cl1, g1) (by omega) ⟨_, _, _, _, rfl⟩
  have hsol : ∃ d2 r2 c2 g2, pX7_solve 16 xc (nI k) (nI n) rows hr hc hd rl cl g = some (nI n, nI k, d2, r2, c2, g2) := by
    unfold pX7_solve
    rw [hlay, Option.bind_some]
    dsimp only
    rw [h1, Option.bind_some]
    rcases r with ⟨d2, r2, c2, g2⟩ | ⟨d2, r2, c2, g2⟩ | ⟨d2, r2, c2, g2⟩
    · exact ⟨d2, r2, c2, g2, rfl⟩
    · exact ⟨d2, r2, c2, g2, rfl⟩
    · exact ⟨d2, r2, c2, g2, rfl⟩
  obtain ⟨d2, r2, c2, g2, hsol⟩ := hsol
  obtain ⟨y, hy⟩ := t_become qa qb (g2 n k) d2
  unfold pX9_shares pX7_above pX7_below
  rw [hsol, Option.bind_some]
  dsimp only
  rw [gd_t (vp_in_nI (show n < 11 by omega) (by omega)), gd_t (vp_in_nI (show k < 17 by omega) (by omega)), nI_clamp (show n < 2 ^ 31 by omega), nI_clamp (show k < 2 ^ 31 by omega), Option.bind_some, Option.bind_some, hy, Option.bind_some]
  exact ⟨_, rfl⟩
