/-! shares: the class's step -/
theorem TT_lv {n r c i : Nat} {M : Nat → Nat → Int} {bs : Nat → Nat} (hn : n ≤ 16) (hr : r < n) (hi : i < n) (hne : i ≠ r) (hC : CI n M bs) (hb : byD n M bs ≠ 0) : TT n M (put bs r c) i (bs r) = - TT n M bs i c := by
  have h := TT_piv (c := c) (j := bs r) hn hr hi hne hC
  rw [TT_bs hn hi hr, if_neg hne, TT_bs hn hr hr, if_pos rfl, Int.zero_mul] at h
  refine Int.eq_of_mul_eq_mul_left hb ?_
  rw [h, Int.mul_neg, Int.mul_comm (TT n M bs i c)]
  omega
theorem zr_lv {n r c : Nat} {M : Nat → Nat → Int} {ob : Nat → Int} {bs : Nat → Nat} (hn : n ≤ 16) (hr : r < n) (hC : CI n M bs) (hb : byD n M bs ≠ 0) : zr n M ob (put bs r c) (bs r) = - zr n M ob bs c := by
  have h := zr_piv (c := c) (j := bs r) (ob := ob) hn hr hC
  rw [zr_bs hn hr, TT_bs hn hr hr, if_pos rfl, Int.zero_mul] at h
  refine Int.eq_of_mul_eq_mul_left hb ?_
  rw [h, Int.mul_neg, Int.mul_comm (zr n M ob bs c)]
  omega
set_option maxHeartbeats 2000000 in
theorem c_pivot {n k c x r : Nat} {S C : Nat → Nat} {bs co : Nat → Nat} {dv : Int64} {rl cl : Nat → Int32} {g : Nat → Nat → Int64} (hn : n ≤ 10) (hk : k ≤ 16) (hG : GoodB n (Mx S k C) bs) (hC : ∀ e, C e ≤ 20) (hx : x < k) (hcx : co x = c) (hc : c < 26) (hl : lvs n (Mx S k C) bs c n = some r) (hR : RelX n k (Mx S k C) (obx k) bs co dv rl cl g) : ∃ dv1 rl1 cl1 g1, pX7_pivot (nI n) (nI k) dv rl cl g (nI r) (nI x) = some (dv1, rl1, cl1, g1) ∧ RelX n k (Mx S k C) (obx k) (put bs r c) (put co x (bs r)) dv1 rl1 cl1 g1 := by
  obtain ⟨hr, hpos, _⟩ := lvs_some hl
  obtain ⟨⟨hby, hCI, _⟩, hlab⟩ := hG
  obtain ⟨R1, R2, R3, R4, R5, R6, R7, R8⟩ := hR
  have hT : ∀ s j, (TT n (Mx S k C) bs s j).natAbs ≤ 72576000 := fun s j => TT_abs20 hn hlab hC
  have hT1 : ∀ s, (TT n (Mx S k C) bs s c).natAbs ≤ 3628800 := fun s => TT_abs hn hlab hc
  have hZ : ∀ j, (zr n (Mx S k C) (obx k) bs j).natAbs ≤ 800000000 := fun j => zr_abs hn hlab hC
  have hbb := by_abs (S := S) (k := k) (C := C) hn hlab
  have hbig := big_of hbb (by decide)
  have h16 : n ≤ 16 := by omega
  have hbne : byD n (Mx S k C) bs ≠ 0 := by omega
  have hgrow : ∀ i, i < n → ∀ j, j ≤ k → g i j = lI (if j < k then TT n (Mx S k C) bs i (co j) else TT n (Mx S k C) bs i 26) := by
    intro i hi j hj
    by_cases z : j < k
    · rw [if_pos z]; exact R1 i j hi z
    · rw [if_neg z, show j = k by omega]; exact R2 i hi
  have hgz : ∀ j, j ≤ k → g n j = lI (if j < k then zr n (Mx S k C) (obx k) bs (co j) else zr n (Mx S k C) (obx k) bs 26) := by
    intro j hj
    by_cases z : j < k
    · rw [if_pos z]; exact R3 j z
    · rw [if_neg z, show j = k by omega]; exact R4
  obtain ⟨G, hG1, hG2, hG3, hG4⟩ := lp_for (step := pX7_pivot_L28 (nI n) (nI k) dv g (nI r) (nI x)) (n + 1) (fun q st => ∃ G, st = (nI q, G) ∧ (∀ i j, i < n → i ≠ r → j ≤ k → G i j = lI (if i < q then (if j = x then - TT n (Mx S k C) bs i c else if j < k then TT n (Mx S k C) (put bs r c) i (co j) else TT n (Mx S k C) (put bs r c) i 26) else (if j < k then TT n (Mx S k C) bs i (co j) else TT n (Mx S k C) bs i 26))) ∧ (∀ j, j ≤ k → G r j = g r j) ∧ ∀ j, j ≤ k → G n j = lI (if n < q then (if j = x then - zr n (Mx S k C) (obx k) bs c else if j < k then zr n (Mx S k C) (obx k) (put bs r c) (co j) else zr n (Mx S k C) (obx k) (put bs r c) 26) else (if j < k then zr n (Mx S k C) (obx k) bs (co j) else zr n (Mx S k C) (obx k) bs 26))) (fun G => (∀ i j, i < n → i ≠ r → j ≤ k → G i j = lI (if j = x then - TT n (Mx S k C) bs i c else if j < k then TT n (Mx S k C) (put bs r c) i (co j) else TT n (Mx S k C) (put bs r c) i 26)) ∧ (∀ j, j ≤ k → G r j = g r j) ∧ ∀ j, j ≤ k → G n j = lI (if j = x then - zr n (Mx S k C) (obx k) bs c else if j < k then zr n (Mx S k C) (obx k) (put bs r c) (co j) else zr n (Mx S k C) (obx k) (put bs r c) 26)) (fun q st hq hI => by
    obtain ⟨G, rfl, p1, p2, p3⟩ := hI
    left
    by_cases c1 : q = r
    · refine ⟨(nI (q + 1), G), ?_, G, rfl, fun i j hi hne hj => ?_, p2, fun j hj => ?_⟩
      · unfold pX7_pivot_L28
        dsimp only
        rw [if_neg (nI_nlt (by omega) (by omega)), if_pos (by rw [c1]), nI_1]
      · rw [p1 i j hi hne hj]
        by_cases z : i < q
        · rw [if_pos z, if_pos (show i < q + 1 by omega)]
        · rw [if_neg z, if_neg (show ¬ i < q + 1 by omega)]
      · rw [p3 j hj, if_neg (show ¬ n < q by omega), if_neg (show ¬ n < q + 1 by omega)]
    · have hsr : ∀ j, j ≤ k → G r j = lI (if j < k then TT n (Mx S k C) bs r (co j) else TT n (Mx S k C) bs r 26) := fun j hj => by rw [p2 j hj]; exact hgrow r hr j hj
      have hgrx : g r x = lI (TT n (Mx S k C) bs r c) := by rw [R1 r x hr hx, hcx]
      by_cases c2 : q < n
      · obtain ⟨t, t1, t2⟩ := c_clear (k := k) (x := x) (by1 := byD n (Mx S k C) bs) (w := TT n (Mx S k C) bs r c) (F := fun j => if j < k then TT n (Mx S k C) bs q (co j) else TT n (Mx S k C) bs q 26) (G := fun j => if j < k then TT n (Mx S k C) bs r (co j) else TT n (Mx S k C) bs r 26) (N := fun j => if j = x then - TT n (Mx S k C) bs q c else if j < k then TT n (Mx S k C) (put bs r c) q (co j) else TT n (Mx S k C) (put bs r c) q 26) (tg := G q) (sr := G r) hk hx hby hbig (fun j hj => by rw [p1 q j c2 c1 hj, if_neg (Nat.lt_irrefl q)]) hsr (fun j hj hne => by
          rw [if_neg hne, if_pos hx, hcx]
          by_cases z : j < k
          · rw [if_pos z, if_pos z, if_pos z]; exact (TT_piv h16 hr c2 c1 hCI).symm
          · rw [if_neg z, if_neg z, if_neg z]; exact (TT_piv h16 hr c2 c1 hCI).symm) (by rw [if_pos rfl, if_pos hx, hcx]) (fun j hj => by
          rw [if_pos hx, hcx]
          have v0 : (if j < k then TT n (Mx S k C) bs q (co j) else TT n (Mx S k C) bs q 26).natAbs ≤ 72576000 := by split <;> exact hT _ _
          have v00 : (if j < k then TT n (Mx S k C) bs r (co j) else TT n (Mx S k C) bs r 26).natAbs ≤ 72576000 := by split <;> exact hT _ _
          have v1 := big_mul v0 (hT1 r)
          have v2 := big_mul (hT1 q) v00
          exact big_of (K := 2 * (72576000 * 3628800)) (by omega) (by decide))
        refine ⟨(nI (q + 1), gU G q t), ?_, _, rfl, fun i j hi hne hj => ?_, fun j hj => ?_, fun j hj => ?_⟩
        · unfold pX7_pivot_L28
          dsimp only
          rw [if_neg (nI_nlt (by omega) (by omega)), if_neg (by rw [nI_eq (by omega) (by omega)]; exact c1), gd_t (vp_in_nI (show q < 11 by omega) (by omega)), gd_t (vp_in_nI (show r < 11 by omega) (by omega)), nI_clamp (show q < 2 ^ 31 by omega), nI_clamp (show r < 2 ^ 31 by omega), nI_clamp (show x < 2 ^ 31 by omega), gd_t c1, hgrx, R5, t1, Option.bind_some, nI_1]
        · by_cases z : i = q
          · subst z; rw [gU_s, t2 j hj, if_pos (show i < i + 1 by omega)]
          · rw [gU_n z, p1 i j hi hne hj]
            by_cases z2 : i < q
            · rw [if_pos z2, if_pos (show i < q + 1 by omega)]
            · rw [if_neg z2, if_neg (show ¬ i < q + 1 by omega)]
        · rw [gU_n (fun z => c1 z.symm)]; exact p2 j hj
        · rw [gU_n (by omega), p3 j hj, if_neg (show ¬ n < q by omega), if_neg (show ¬ n < q + 1 by omega)]
      · have hqn : q = n := by omega
        obtain ⟨t, t1, t2⟩ := c_clear (k := k) (x := x) (by1 := byD n (Mx S k C) bs) (w := TT n (Mx S k C) bs r c) (F := fun j => if j < k then zr n (Mx S k C) (obx k) bs (co j) else zr n (Mx S k C) (obx k) bs 26) (G := fun j => if j < k then TT n (Mx S k C) bs r (co j) else TT n (Mx S k C) bs r 26) (N := fun j => if j = x then - zr n (Mx S k C) (obx k) bs c else if j < k then zr n (Mx S k C) (obx k) (put bs r c) (co j) else zr n (Mx S k C) (obx k) (put bs r c) 26) (tg := G q) (sr := G r) hk hx hby hbig (fun j hj => by rw [hqn, p3 j hj, if_neg (show ¬ n < q by omega)]) hsr (fun j hj hne => by
          rw [if_neg hne, if_pos hx, hcx]
          by_cases z : j < k
          · rw [if_pos z, if_pos z, if_pos z]; exact (zr_piv h16 hr hCI).symm
          · rw [if_neg z, if_neg z, if_neg z]; exact (zr_piv h16 hr hCI).symm) (by rw [if_pos rfl, if_pos hx, hcx]) (fun j hj => by
          rw [if_pos hx, hcx]
          have v0 : (if j < k then zr n (Mx S k C) (obx k) bs (co j) else zr n (Mx S k C) (obx k) bs 26).natAbs ≤ 800000000 := by split <;> exact hZ _
          have v00 : (if j < k then TT n (Mx S k C) bs r (co j) else TT n (Mx S k C) bs r 26).natAbs ≤ 72576000 := by split <;> exact hT _ _
          have v1 := big_mul v0 (hT1 r)
          have v2 := big_mul (hZ c) v00
          exact big_of (K := 2 * (800000000 * 72576000)) (by omega) (by decide))
        refine ⟨(nI (q + 1), gU G q t), ?_, _, rfl, fun i j hi hne hj => ?_, fun j hj => ?_, fun j hj => ?_⟩
        · unfold pX7_pivot_L28
          dsimp only
          rw [if_neg (nI_nlt (by omega) (by omega)), if_neg (by rw [nI_eq (by omega) (by omega)]; exact c1), gd_t (vp_in_nI (show q < 11 by omega) (by omega)), gd_t (vp_in_nI (show r < 11 by omega) (by omega)), nI_clamp (show q < 2 ^ 31 by omega), nI_clamp (show r < 2 ^ 31 by omega), nI_clamp (show x < 2 ^ 31 by omega), gd_t c1, hgrx, R5, t1, Option.bind_some, nI_1]
        · rw [gU_n (by omega), p1 i j hi hne hj, if_pos (show i < q by omega), if_pos (show i < q + 1 by omega)]
        · rw [gU_n (fun z => c1 z.symm)]; exact p2 j hj
        · rw [show gU G q t n = t by rw [hqn]; exact gU_s, t2 j hj, if_pos (show n < q + 1 by omega)]) (fun st hI => by
    obtain ⟨G, rfl, p1, p2, p3⟩ := hI
    unfold pX7_pivot_L28
    dsimp only
    rw [if_pos (nI_lt (by omega) (by omega))]
    exact ⟨_, rfl, fun i j hi hne hj => by rw [p1 i j hi hne hj, if_pos (show i < n + 1 by omega)], p2, fun j hj => by rw [p3 j hj, if_pos (show n < n + 1 by omega)]⟩) (n + 1) 0 (0, g) (by omega) ⟨g, rfl, fun i j hi hne hj => by rw [if_neg (Nat.not_lt_zero i)]; exact hgrow i hi j hj, fun j _ => rfl, fun j hj => by rw [if_neg (Nat.not_lt_zero n)]; exact hgz j hj⟩
  have hgrx : g r x = lI (TT n (Mx S k C) bs r c) := by rw [R1 r x hr hx, hcx]
  refine ⟨lI (TT n (Mx S k C) bs r c), upd rl r (cl x), upd cl x (rl r), gU G r (vp_updL (G r) x dv), ?_, ?_, ?_, ?_, ?_, by rw [by_put], ?_, ?_, ?_⟩
  · unfold pX7_pivot
    rw [gd_t (vp_in_nI (show r < 11 by omega) (by omega)), gd_t (vp_in_nI (show x < 17 by omega) (by omega)), nI_clamp (show r < 2 ^ 31 by omega), nI_clamp (show x < 2 ^ 31 by omega), hgrx, if_neg (by rw [lg_cmp_le, lI_le0 (big_of (hT1 r) (by decide))]; omega), if_pos (by rw [lg_cmp_gt, R5, Int64.lt_iff_toInt_lt, lI_int hbig]; exact hby), hG1, Option.bind_some, gd_t (vp_in_nI (show r < 11 by omega) (by omega)), gd_t (vp_in_nI (show x < 17 by omega) (by omega)), gd_t (vp_in_nI (show r < 10 by omega) (by omega)), gd_t (vp_in_nI (show x < 16 by omega) (by omega)), gd_t (vp_in_nI (show r < 10 by omega) (by omega)), gd_t (vp_in_nI (show x < 16 by omega) (by omega))]
  · intro i j hi hj
    by_cases z : i = r
    · subst z
      rw [gU_s, TT_r]
      by_cases z2 : j = x
      · subst z2; rw [pk_uLs, put_s, TT_bs h16 hr hr, if_pos rfl, R5]
      · rw [pk_uLn z2, hG3 j (by omega), put_n z2]; exact R1 i j hi hj
    · rw [gU_n z, hG2 i j hi z (by omega)]
      by_cases z2 : j = x
      · subst z2; rw [if_pos rfl, put_s, TT_lv h16 hr hi z hCI hbne]
      · rw [if_neg z2, if_pos hj, put_n z2]
  · intro i hi
    by_cases z : i = r
    · subst z
      rw [gU_s, TT_r, pk_uLn (by omega), hG3 k (Nat.le_refl k)]; exact R2 i hi
    · rw [gU_n z, hG2 i k hi z (Nat.le_refl k), if_neg (by omega), if_neg (Nat.lt_irrefl k)]
  · intro j hj
    rw [gU_n (by omega), hG4 j (by omega)]
    by_cases z2 : j = x
    · subst z2; rw [if_pos rfl, put_s, zr_lv h16 hr hCI hbne]
    · rw [if_neg z2, if_pos hj, put_n z2]
  · rw [gU_n (by omega), hG4 k (Nat.le_refl k), if_neg (by omega), if_neg (Nat.lt_irrefl k)]
  · intro i hi
    by_cases z : i = r
    · subst z; rw [u_s, put_s, ← hcx]; exact R7 x hx
    · rw [u_n z, put_n z]; exact R6 i hi
  · intro j hj
    by_cases z : j = x
    · subst z; rw [u_s, put_s]; exact R6 r hr
    · rw [u_n z, put_n z]; exact R7 j hj
  · intro d hd
    rcases R8 d hd with ⟨i, hi, h⟩ | ⟨j, hj, h⟩
    · by_cases z : i = r
      · right; exact ⟨x, hx, by rw [put_s, ← z]; exact h⟩
      · left; exact ⟨i, hi, by rw [put_n z]; exact h⟩
    · by_cases z : j = x
      · left; exact ⟨r, hr, by rw [put_s, ← hcx, ← z]; exact h⟩
      · right; exact ⟨j, hj, by rw [put_n z]; exact h⟩
