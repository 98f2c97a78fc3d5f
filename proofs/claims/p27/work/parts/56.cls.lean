/-! shares: the class lays its table, and solves it -/
set_option maxHeartbeats 1000000 in
theorem c_lay {n k : Nat} {S C : Nat → Nat} {rows xc : Nat → Int32} (hn1 : 1 ≤ n) (hn : n ≤ 10) (hk : k ≤ 16) (hRw : ∀ i, i < k → rows i = nI (S i) ∧ S i < 2 ^ n) (hC : ∀ e, e < 10 → xc e = nI (C e) ∧ C e ≤ 20) (hr hc : Int32) (hd : Int64) (rl cl : Nat → Int32) (g : Nat → Nat → Int64) : ∃ rl1 cl1 g1, pX7_lay 16 xc (nI k) (nI n) rows hr hc hd rl cl g = some (nI n, nI k, 1, rl1, cl1, g1) ∧ RelX n k (Mx S k C) (obx k) b0x (fun j => j) 1 rl1 cl1 g1 := by
  have hp := tI_p hn
  obtain ⟨⟨rl1, g1⟩, q1, q2, q3, q4⟩ := lp_for (step := pX7_lay_L23 16 xc (nI k) (nI n) rows) n (fun e st => ∃ r1 G, st = (nI e, r1, G) ∧ (∀ i j, i < e → j < k → G i j = lI (Mx S k C j i)) ∧ (∀ i, i < e → G i k = lI (Mx S k C 26 i)) ∧ ∀ i, i < e → r1 i = nI (k + i)) (fun r => (∀ i j, i < n → j < k → r.2 i j = lI (Mx S k C j i)) ∧ (∀ i, i < n → r.2 i k = lI (Mx S k C 26 i)) ∧ ∀ i, i < n → r.1 i = nI (k + i)) (fun e st he hI => by
    obtain ⟨r1, G, rfl, p1, p2, p3⟩ := hI
    left
    have hce := hC e (by omega)
    obtain ⟨G2, s1, s2, s3, s4⟩ := lp_for (step := pX7_lay_L61_6 16 (nI k) rows (nI e, r1, G)) k (fun s st => ∃ G2, st = (nI s, G2) ∧ (∀ j, j < s → G2 e j = lI (Mx S k C j e)) ∧ G2 e k = lI (Mx S k C 26 e) ∧ ∀ i, i ≠ e → G2 i = G i) (fun G2 => (∀ j, j < k → G2 e j = lI (Mx S k C j e)) ∧ G2 e k = lI (Mx S k C 26 e) ∧ ∀ i, i ≠ e → G2 i = G i) (fun s st hs hI => by
      obtain ⟨G2, rfl, t1, t2, t3⟩ := hI
      left
      have hls := (hRw s hs).2
      refine ⟨(nI (s + 1), gU G2 e (vp_updL (G2 e) s (lI (Mx S k C s e)))), ?_, _, rfl, fun j hj => ?_, ?_, fun i hi => by rw [gU_n hi]; exact t3 i hi⟩
      · unfold pX7_lay_L61_6
        dsimp only
        rw [if_neg (nI_ge hs (by omega)), gd_t (vp_in_nI (show e < 11 by omega) (by omega)), gd_t (vp_in_nI (show s < 16 by omega) (by omega)), nI_clamp (show s < 2 ^ 31 by omega), nI_clamp (show e < 2 ^ 31 by omega), (hRw s hs).1, has_eq (by omega) (by omega), Option.bind_some, if_bI, gd_t (vp_in_nI (show s < 17 by omega) (by omega)), gd_t (vp_in_nI (show s < 17 by omega) (by omega)), nI_1]
        unfold Mx
        rw [if_pos (show s < 16 by omega)]
        cases hb : (S s).testBit e with
        | true => rw [if_pos rfl, if_pos (show s < k ∧ true = true from ⟨hs, rfl⟩)]; rfl
        | false => rw [if_neg (by decide), if_neg (show ¬ (s < k ∧ false = true) from fun q => by cases q.2)]; rfl
      · rw [gU_s]
        by_cases z : j = s
        · subst z; rw [pk_uLs]
        · rw [pk_uLn z]; exact t1 j (by omega)
      · rw [gU_s, pk_uLn (by omega)]; exact t2) (fun st hI => by
      obtain ⟨G2, rfl, t1, t2, t3⟩ := hI
      unfold pX7_lay_L61_6
      dsimp only
      rw [if_pos (nI_le (Nat.le_refl k) (by omega))]
      exact ⟨_, rfl, t1, t2, t3⟩) k 0 (0, gU G e (vp_updL (G e) k (lI (C e)))) (by omega) ⟨_, rfl, fun j hj => absurd hj (Nat.not_lt_zero j), by rw [gU_s, pk_uLs]; rfl, fun i hi => gU_n hi⟩
    refine ⟨(nI (e + 1), upd r1 e (nI (k + e)), G2), ?_, _, _, rfl, fun i j hi hj => ?_, fun i hi => ?_, fun i hi => ?_⟩
    · unfold pX7_lay_L23
      dsimp only
      rw [if_neg (nI_ge he (by omega)), gd_t (vp_in_nI (show e < 10 by omega) (by omega)), gd_t (vp_in_nI (show e < 11 by omega) (by omega)), gd_t (vp_in_nI (show e < 10 by omega) (by omega)), gd_t (vp_in_nI (show k < 17 by omega) (by omega)), nI_clamp (show e < 2 ^ 31 by omega), nI_clamp (show k < 2 ^ 31 by omega), hce.1, nI_l (show C e < 2 ^ 31 by omega)]
      show Option.bind (lp (pX7_lay_L61_6 16 (nI k) rows (nI e, r1, G)) (0, gU G e (vp_updL (G e) k (lI (C e))))) _ = _
      rw [s1, Option.bind_some, nI_add, nI_1]
    · by_cases z : i = e
      · subst z; exact s2 j hj
      · rw [s4 i z]; exact p1 i j (by omega) hj
    · by_cases z : i = e
      · subst z; exact s3
      · rw [s4 i z]; exact p2 i (by omega)
    · by_cases z : i = e
      · subst z; exact u_s
      · rw [u_n z]; exact p3 i (by omega)) (fun st hI => by
    obtain ⟨r1, G, rfl, p1, p2, p3⟩ := hI
    unfold pX7_lay_L23
    dsimp only
    rw [if_pos (nI_le (Nat.le_refl n) (by omega))]
    exact ⟨_, rfl, p1, p2, p3⟩) n 0 (0, rl, g) (by omega) ⟨rl, g, rfl, fun i j hi => absurd hi (Nat.not_lt_zero i), fun i hi => absurd hi (Nat.not_lt_zero i), fun i hi => absurd hi (Nat.not_lt_zero i)⟩
  dsimp only at q2 q3 q4
  obtain ⟨⟨cl1, g2⟩, u1, u2, u3, u4⟩ := lp_for (step := pX7_lay_L112 (nI k) (nI n)) k (fun s st => ∃ c1 G, st = (nI s, c1, G) ∧ (∀ j, j < s → c1 j = nI j) ∧ (∀ j, j < s → G n j = -1) ∧ ∀ i, i < n → G i = g1 i) (fun r => (∀ j, j < k → r.1 j = nI j) ∧ (∀ j, j < k → r.2 n j = -1) ∧ ∀ i, i < n → r.2 i = g1 i) (fun s st hs hI => by
    obtain ⟨c1, G, rfl, p1, p2, p3⟩ := hI
    left
    refine ⟨(nI (s + 1), upd c1 s (nI s), gU G n (vp_updL (G n) s (-1))), ?_, _, _, rfl, fun j hj => ?_, fun j hj => ?_, fun i hi => by rw [gU_n (by omega)]; exact p3 i hi⟩
    · unfold pX7_lay_L112
      dsimp only
      rw [if_neg (nI_ge hs (by omega)), gd_t (vp_in_nI (show s < 16 by omega) (by omega)), gd_t (vp_in_nI (show n < 11 by omega) (by omega)), gd_t (vp_in_nI (show s < 17 by omega) (by omega)), nI_clamp (show s < 2 ^ 31 by omega), nI_clamp (show n < 2 ^ 31 by omega), nI_1]
    · by_cases z : j = s
      · subst z; exact u_s
      · rw [u_n z]; exact p1 j (by omega)
    · rw [gU_s]
      by_cases z : j = s
      · subst z; rw [pk_uLs]
      · rw [pk_uLn z]; exact p2 j (by omega)) (fun st hI => by
    obtain ⟨c1, G, rfl, p1, p2, p3⟩ := hI
    unfold pX7_lay_L112
    dsimp only
    rw [if_pos (nI_le (Nat.le_refl k) (by omega))]
    exact ⟨_, rfl, p1, p2, p3⟩) k 0 (0, cl, g1) (by omega) ⟨cl, g1, rfl, fun j hj => absurd hj (Nat.not_lt_zero j), fun j hj => absurd hj (Nat.not_lt_zero j), fun i _ => rfl⟩
  dsimp only at u2 u3 u4
  refine ⟨rl1, cl1, gU g2 n (vp_updL (g2 n) k 0), ?_, fun i j hi hj => ?_, fun i hi => ?_, fun j hj => ?_, ?_, by rw [by_0 hn]; rfl, fun i hi => ?_, fun j hj => ?_, fun c hc => ?_⟩
  · unfold pX7_lay
    rw [q1, Option.bind_some]
    dsimp only
    rw [u1, Option.bind_some, gd_t (vp_in_nI (show n < 11 by omega) (by omega)), gd_t (vp_in_nI (show k < 17 by omega) (by omega)), nI_clamp (show n < 2 ^ 31 by omega), nI_clamp (show k < 2 ^ 31 by omega)]
  · rw [gU_n (by omega), u4 i hi, TT_0 hn hi]; exact q2 i j hi hj
  · rw [gU_n (by omega), u4 i hi, TT_0 hn hi]; exact q3 i hi
  · rw [gU_s, pk_uLn (by omega), u3 j hj, zr_0 hn hk]
    unfold obx
    rw [if_pos hj]; rfl
  · rw [gU_s, pk_uLs, zr_0 hn hk]
    unfold obx
    rw [if_neg (by omega)]; rfl
  · refine ⟨?_, ?_⟩
    · rw [q4 i hi]
      unfold cr b0x
      rw [if_neg (by omega), show 16 + i - 16 = i by omega]
    · unfold vlb b0x; omega
  · refine ⟨?_, Or.inl hj⟩
    rw [u2 j hj]
    unfold cr
    rw [if_pos hj]
  · rcases hc with h | ⟨h1, h2⟩
    · exact Or.inr ⟨c, h, rfl⟩
    · exact Or.inl ⟨c - 16, by omega, by unfold b0x; omega⟩
set_option maxHeartbeats 1000000 in
/-- if the run of steps is not longer than the class goes, both tell the same -/
theorem c_shares {n k L : Nat} {S C : Nat → Nat} {rows xc : Nat → Int32} (hn1 : 1 ≤ n) (hn : n ≤ 10) (hk : k ≤ 16) (hRw : ∀ i, i < k → rows i = nI (S i) ∧ S i < 2 ^ n) (hS : ∀ i, i < k → 1 ≤ S i) (hC : ∀ e, e < 10 → xc e = nI (C e) ∧ C e ≤ 20) (hC2 : ∀ e, C e ≤ 20) (hL : entC n (Mx S k C) (obx k) (pth n (Mx S k C) (obx k) b0x L) = none) (hst : ∀ t, t < L → ∃ c r, entC n (Mx S k C) (obx k) (pth n (Mx S k C) (obx k) b0x t) = some c ∧ lvs n (Mx S k C) (pth n (Mx S k C) (obx k) b0x t) c n = some r ∧ pth n (Mx S k C) (obx k) b0x (t + 1) = put (pth n (Mx S k C) (obx k) b0x t) r c) (hmax : L ≤ 1000000) (qa qb : Int64) (hr hc : Int32) (hd : Int64) (rl cl : Nat → Int32) (g : Nat → Nat → Int64) : ∃ u v w, pX9_shares 16 xc (nI k) (nI n) rows qa qb hr hc hd rl cl g = some (1, u, v, w) ∧ pX4_become qa qb (lI (zr n (Mx S k C) (obx k) (pth n (Mx S k C) (obx k) b0x L) 26)) (lI (byD n (Mx S k C) (pth n (Mx S k C) (obx k) b0x L))) = some (u, v) := by
  have hcol := col_x (C := C) hn1 hn hk (fun i hi => ⟨hS i hi, (hRw i hi).2⟩)
  have hg := pth_good (show n ≤ 16 by omega) hcol (good_0 (S := S) (k := k) (C := C) hn)
  obtain ⟨rl1, cl1, g1, hlay, hR0⟩ := c_lay (S := S) (C := C) hn1 hn hk hRw hC hr hc hd rl cl g
  obtain ⟨r, hr1, hr2⟩ := lp_for (step := pX7_solve_L8 (nI n, nI k, 1, rl1, cl1, g1)) L (fun t s => ∃ co d2 r2 c2 g2, s = (nI t, d2, r2, c2, g2) ∧ RelX n k (Mx S k C) (obx k) (pth n (Mx S k C) (obx k) b0x t) co d2 r2 c2 g2) (fun r => ∃ co d2 r2 c2 g2, (r = Sum.inl (d2, r2, c2, g2) ∨ r = Sum.inr (Sum.inr (d2, r2, c2, g2))) ∧ RelX n k (Mx S k C) (obx k) (pth n (Mx S k C) (obx k) b0x L) co d2 r2 c2 g2) (fun t s ht hI => by
    obtain ⟨co, d2, r2, c2, g2, rfl, hR⟩ := hI
    left
    obtain ⟨c, r, e1, e2, e3⟩ := hst t ht
    have hc26 := (ent_step hcol (hg t) e1).1
    have hrn := lvs_lt e2
    rcases ecs_ent (M := Mx S k C) (ob := obx k) (bs := pth n (Mx S k C) (obx k) b0x t) (co := co) (show n ≤ 16 by omega) hk (fun j hj => (hR.2.2.2.2.2.2.1 j hj).2) hR.2.2.2.2.2.2.2 hn (fun c hc hz => zr_val hn hc hz) with ⟨_, z⟩ | ⟨x, c', z1, z2, z3, z4⟩
    · rw [e1] at z; cases z
    · have hcc : c' = c := by rw [e1] at z3; exact (Option.some.inj z3).symm
      subst hcc
      have h1 := c_enter hn hk (hg t).2 hC2 hR
      rw [z1] at h1
      have h2 := c_leave hn hk (hg t).2 hC2 z2 z4 hc26 hR
      rw [e2] at h2
      obtain ⟨d3, r3, c3, g3, h3, h4⟩ := c_pivot hn hk (hg t) hC2 z2 z4 hc26 e2 hR
      rw [← e3] at h4
      refine ⟨(nI (t + 1), d3, r3, c3, g3), ?_, _, d3, r3, c3, g3, rfl, h4⟩
      unfold pX7_solve_L8
      dsimp only
      rw [if_neg (by show ¬ nI 1000000 ≤ nI t; exact nI_ge (by omega) (by omega)), h1, Option.bind_some]
      show (if 0 ≤ nI x then Option.bind (pX7_leavingRow (nI n) (nI k) r2 g2 (nI x)) _ else _) = _
      rw [if_pos (nI_pos' (by omega)), h2, Option.bind_some]
      show (if 0 ≤ nI r then Option.bind (pX7_pivot (nI n) (nI k) d2 r2 c2 g2 (nI r) (nI x)) _ else _) = _
      rw [if_pos (nI_pos' (by omega)), h3, Option.bind_some, nI_1]) (fun s hI => by
    obtain ⟨co, d2, r2, c2, g2, rfl, hR⟩ := hI
    unfold pX7_solve_L8
    dsimp only
    by_cases q : 1000000 ≤ L
    · rw [if_pos (by show nI 1000000 ≤ nI L; exact nI_le q (by omega))]
      exact ⟨_, rfl, co, d2, r2, c2, g2, Or.inr rfl, hR⟩
    · rw [if_neg (by show ¬ nI 1000000 ≤ nI L; exact nI_ge (by omega) (by omega))]
      rcases ecs_ent (M := Mx S k C) (ob := obx k) (bs := pth n (Mx S k C) (obx k) b0x L) (co := co) (show n ≤ 16 by omega) hk (fun j hj => (hR.2.2.2.2.2.2.1 j hj).2) hR.2.2.2.2.2.2.2 hn (fun c hc hz => zr_val hn hc hz) with ⟨z, _⟩ | ⟨x, c', z1, z2, z3, z4⟩
      · have h1 := c_enter hn hk (hg L).2 hC2 hR
        rw [z] at h1
        rw [h1, Option.bind_some]
        show ∃ r, (if (0 : Int32) ≤ -1 then _ else _) = _ ∧ _
        rw [if_neg (by decide)]
        exact ⟨_, rfl, co, d2, r2, c2, g2, Or.inl rfl, hR⟩
      · rw [hL] at z3; cases z3) L 0 (0, 1, rl1, cl1, g1) (by omega) ⟨_, _, _, _, _, rfl, hR0⟩
  obtain ⟨co, d2, r2, c2, g2, hor, hR⟩ := hr2
  have hgL := hg L
  have hz26 : 0 ≤ zr n (Mx S k C) (obx k) (pth n (Mx S k C) (obx k) b0x L) 26 := by
    unfold zr
    have : obx k 26 = 0 := if_neg (by omega)
    rw [this, Int.mul_zero, Int.sub_zero]
    exact si_nn (fun s hs => Int.mul_nonneg (by unfold obx; split <;> omega) (hgL.1.2.2 s hs))
  have hzb := zr_abs (S := S) (k := k) (j := 26) hn hgL.2 hC2
  have hbb := by_abs (S := S) (k := k) (C := C) hn hgL.2
  have hb0 := hgL.1.1
  obtain ⟨z, hz⟩ := Int.eq_ofNat_of_zero_le hz26
  obtain ⟨y, hy⟩ := Int.eq_ofNat_of_zero_le (Int.le_of_lt hb0)
  have hfr := (frac_eq (a := z) (b := y) (by rw [hz] at hzb; simp at hzb; omega) (by rw [hy] at hb0; omega) (by rw [hy] at hbb; simp at hbb; omega) qa qb).1
  have hsol : pX7_solve 16 xc (nI k) (nI n) rows hr hc hd rl cl g = some (nI n, nI k, d2, r2, c2, g2) := by
    unfold pX7_solve
    rw [hlay, Option.bind_some]
    dsimp only
    rw [hr1, Option.bind_some]
    rcases hor with rfl | rfl <;> rfl
  refine ⟨lN (z / z.gcd y), lN (y / z.gcd y), (nI n, nI k, d2, r2, c2, g2), ?_, ?_⟩
  · unfold pX9_shares pX7_above pX7_below
    rw [hsol, Option.bind_some]
    dsimp only
    rw [gd_t (vp_in_nI (show n < 11 by omega) (by omega)), gd_t (vp_in_nI (show k < 17 by omega) (by omega)), nI_clamp (show n < 2 ^ 31 by omega), nI_clamp (show k < 2 ^ 31 by omega), Option.bind_some, Option.bind_some, hR.2.2.2.1, hR.2.2.2.2.1, hz, hy, lI_nat, lI_nat, hfr]
    rfl
  · rw [hz, hy, lI_nat, lI_nat, hfr]
