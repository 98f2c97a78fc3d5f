/-! shares: the reference's steps -/
def oI (o : Option Nat) : Int32 := o.elim (-1) (fun b => nI b)
theorem lvs_lt {n : Nat} {M : Nat → Nat → Int} {bs : Nat → Nat} {c m b : Nat} (h : lvs n M bs c m = some b) : b < m := (lvs_some h).1
set_option maxHeartbeats 1000000 in
theorem y_leaves {n k c : Nat} {S C : Nat → Nat} {bs : Nat → Nat} {b : Int64} {tb : Nat → Int64} {ba : Nat → Int32} (hn : n ≤ 10) (hb : ∀ s, s < n → bs s < 26) (hC : ∀ e, C e ≤ 20) (hc : c < 26) (hR : RelY n (Mx S k C) (obx k) bs b tb ba) : pX10_leaves (nI n) tb ba (nI c) = some (oI (lvs n (Mx S k C) bs c n)) := by
  have hT : ∀ s j, (TT n (Mx S k C) bs s j).natAbs ≤ 72576000 := fun s j => TT_abs20 hn hb hC
  have hT1 : ∀ s, (TT n (Mx S k C) bs s c).natAbs ≤ 3628800 := fun s => TT_abs hn hb hc
  have hl := lp_det (step := pX10_leaves_L4 (nI n) tb ba (nI c)) (fun i => (oI (lvs n (Mx S k C) bs c i), nI i)) (oI (lvs n (Mx S k C) bs c n)) n (fun i hi => by
    unfold pX10_leaves_L4 pX10_leaves_J119_3 pX10_leaves_J123_4
    dsimp only
    have hbi := hb i hi
    rw [if_neg (nI_ge hi (by omega)), i27, pk_mul, nI_add, gd_t (vp_in_nI (show 27 * i + c < 297 by omega) (by omega)), nI_clamp (show 27 * i + c < 2 ^ 31 by omega), hR.1 i c hi (by omega), nI_1, lvs]
    by_cases q : 0 < TT n (Mx S k C) bs i c
    · rw [if_neg (by rw [lg_cmp_le, lI_le0 (big_of (hT1 i) (by decide))]; omega), if_pos q]
      cases hv : lvs n (Mx S k C) bs c i with
      | none =>
        show Option.bind (if (-1 : Int32) = -1 then some (-1 : Int64) else _) _ = _
        rw [if_pos rfl, Option.bind_some, if_pos (by rw [lg_cmp_lt]; decide)]
        rfl
      | some x =>
        have hx := lvs_lt hv
        have hbx := hb x (by omega)
        have eo : oI (some x) = nI x := rfl
        rw [eo]
        dsimp only
        have v1 := big_mul (hT i 26) (hT1 x)
        have v2 := big_mul (hT x 26) (hT1 i)
        have hv2 : big (TT n (Mx S k C) bs i 26 * TT n (Mx S k C) bs x c - TT n (Mx S k C) bs x 26 * TT n (Mx S k C) bs i c) := big_of (K := 2 * (72576000 * 3628800)) (by omega) (by decide)
        rw [if_neg (nI_m1 (by omega)), show (26 : Int32) = nI 26 from rfl, pk_mul, nI_add, nI_add, nI_add, gd_t (vp_in_nI (show 27 * i + 26 < 297 by omega) (by omega)), gd_t (vp_in_nI (show 27 * x + c < 297 by omega) (by omega)), gd_t (vp_in_nI (show 27 * x + 26 < 297 by omega) (by omega)), gd_t (vp_in_nI (show 27 * i + c < 297 by omega) (by omega)), nI_clamp (show 27 * i + 26 < 2 ^ 31 by omega), nI_clamp (show 27 * x + c < 2 ^ 31 by omega), nI_clamp (show 27 * x + 26 < 2 ^ 31 by omega), hR.1 i 26 hi (by omega), hR.1 x c (by omega) (by omega), hR.1 x 26 (by omega) (by omega), lI_mul, lI_mul, lI_sub, Option.bind_some]
        generalize TT n (Mx S k C) bs i 26 * TT n (Mx S k C) bs x c - TT n (Mx S k C) bs x 26 * TT n (Mx S k C) bs i c = v at hv2
        by_cases w1 : v < 0
        · rw [if_pos (by rw [lg_cmp_lt, lI_lt0 hv2]; exact w1), if_pos (Or.inl w1)]; rfl
        · rw [if_neg (by rw [lg_cmp_lt, lI_lt0 hv2]; exact w1)]
          by_cases w2 : v = 0
          · rw [if_pos (by rw [lg_cmp_eq, lI_eq0 hv2]; exact w2), gd_t (vp_in_nI (show i < 10 by omega) (by omega)), gd_t (vp_in_nI (show x < 10 by omega) (by omega)), nI_clamp (show x < 2 ^ 31 by omega), nI_clamp (show i < 2 ^ 31 by omega), hR.2.2.2 x (by omega), hR.2.2.2 i hi]
            by_cases w3 : bs i < bs x
            · rw [if_neg (nI_ge w3 (by omega)), if_pos (Or.inr ⟨w2, w3⟩)]; rfl
            · rw [if_pos (nI_le (by omega) (by omega)), if_neg (fun z => z.elim w1 (fun y => w3 y.2))]; rfl
          · rw [if_neg (by rw [lg_cmp_eq, lI_eq0 hv2]; exact w2), if_neg (fun z => z.elim w1 (fun y => w2 y.1))]; rfl
    · rw [if_pos (by rw [lg_cmp_le, lI_le0 (big_of (hT1 i) (by decide))]; omega), if_neg q]) (by
    unfold pX10_leaves_L4
    dsimp only
    rw [if_pos (nI_le (Nat.le_refl n) (by omega))])
  have hl : lp (pX10_leaves_L4 (nI n) tb ba (nI c)) (-1, 0) = _ := hl
  unfold pX10_leaves
  rw [hl]
  rfl
/-- one row is cleared -/
theorem y_clear {r c q : Nat} {by1 : Int} {w : Int} {F G N : Nat → Int} {tb t : Nat → Int64} (hq : q ≤ 10) (hr : r < 10) (hne : q ≠ r) (hc : c < 26) (hb0 : 0 < by1) (hb : big by1) (hw : tb (27 * r + c) = lI w) (h1 : ∀ j, j < 27 → t (27 * q + j) = lI (F j)) (h2 : ∀ j, j < 27 → t (27 * r + j) = lI (G j)) (hN : ∀ j, j < 27 → F j * w - F c * G j = by1 * N j) (hbig : ∀ j, j < 27 → big (F j * w - F c * G j)) : ∃ g, lp (pX10_turns_L61_4 (lI by1) tb (nI r) (nI c) (nI q, t)) (0, t) = some g ∧ (∀ j, j < 27 → g (27 * q + j) = lI (N j)) ∧ ∀ i, i < 27 * q ∨ 27 * q + 27 ≤ i → g i = t i := by
  refine lp_for (step := pX10_turns_L61_4 (lI by1) tb (nI r) (nI c) (nI q, t)) 27 (fun s st => ∃ g, st = (nI s, g) ∧ (∀ j, j < 27 → g (27 * q + j) = if j < s then lI (N j) else lI (F j)) ∧ ∀ i, i < 27 * q ∨ 27 * q + 27 ≤ i → g i = t i) (fun g => (∀ j, j < 27 → g (27 * q + j) = lI (N j)) ∧ ∀ i, i < 27 * q ∨ 27 * q + 27 ≤ i → g i = t i) (fun s st hs hI => ?_) (fun st hI => ?_) 27 0 (0, t) (by omega) ⟨t, rfl, fun j hj => by rw [if_neg (Nat.not_lt_zero j)]; exact h1 j hj, fun i _ => rfl⟩
  · obtain ⟨g, rfl, p1, p2⟩ := hI
    left
    refine ⟨(nI (s + 1), vp_updL g (27 * q + s) (lI (N s))), ?_, _, rfl, fun j hj => ?_, fun i hi => ?_⟩
    · unfold pX10_turns_L61_4
      dsimp only
      have hbn : ¬ lI by1 = 0 := by rw [lI_eq0 hb]; omega
      rw [if_neg (by show ¬ nI 27 ≤ nI s; exact nI_ge hs (by omega)), i27, pk_mul, pk_mul, nI_add, nI_add, nI_add, nI_add, gd_t (vp_in_nI (show 27 * q + s < 297 by omega) (by omega)), gd_t (vp_in_nI (show 27 * r + s < 297 by omega) (by omega)), gd_t hbn, gd_t (vp_in_nI (show 27 * q + s < 297 by omega) (by omega)), nI_clamp (show 27 * q + s < 2 ^ 31 by omega), nI_clamp (show 27 * r + c < 2 ^ 31 by omega), nI_clamp (show 27 * q + c < 2 ^ 31 by omega), nI_clamp (show 27 * r + s < 2 ^ 31 by omega), p1 s hs, if_neg (Nat.lt_irrefl s), hw, h1 c (by omega), p2 (27 * r + s) (by omega), h2 s hs, lI_mul, lI_mul, lI_sub, hN s hs, lI_div hb0 hb (by rw [← hN s hs]; exact hbig s hs), nI_1]
    · by_cases z : j = s
      · subst z; rw [pk_uLs, if_pos (by omega)]
      · rw [pk_uLn (by omega), p1 j hj]
        by_cases z2 : j < s
        · rw [if_pos z2, if_pos (by omega)]
        · rw [if_neg z2, if_neg (by omega)]
    · rw [pk_uLn (by omega)]; exact p2 i hi
  · obtain ⟨g, rfl, p1, p2⟩ := hI
    unfold pX10_turns_L61_4
    dsimp only
    rw [if_pos (by decide)]
    exact ⟨_, rfl, fun j hj => by rw [p1 j hj, if_pos hj], p2⟩
set_option maxHeartbeats 1000000 in
theorem y_turns {n k c r : Nat} {S C : Nat → Nat} {bs : Nat → Nat} {b : Int64} {tb : Nat → Int64} {ba : Nat → Int32} (hn : n ≤ 10) (hG : GoodB n (Mx S k C) bs) (hC : ∀ e, C e ≤ 20) (hc : c < 26) (hl : lvs n (Mx S k C) bs c n = some r) (hR : RelY n (Mx S k C) (obx k) bs b tb ba) : ∃ b1 tb1 ba1, pX10_turns (nI n) b tb ba (nI r) (nI c) = some (b1, tb1, ba1) ∧ RelY n (Mx S k C) (obx k) (put bs r c) b1 tb1 ba1 := by
  have hr := lvs_lt hl
  obtain ⟨⟨hby, hCI, _⟩, hlab⟩ := hG
  obtain ⟨R1, R2, R3, R4⟩ := hR
  have hT : ∀ s j, (TT n (Mx S k C) bs s j).natAbs ≤ 72576000 := fun s j => TT_abs20 hn hlab hC
  have hT1 : ∀ s, (TT n (Mx S k C) bs s c).natAbs ≤ 3628800 := fun s => TT_abs hn hlab hc
  have hZ : ∀ j, (zr n (Mx S k C) (obx k) bs j).natAbs ≤ 800000000 := fun j => zr_abs hn hlab hC
  have hbb := by_abs (S := S) (k := k) (C := C) hn hlab
  have hbig := big_of hbb (by decide)
  have h16 : n ≤ 16 := by omega
  have hr10 : r < 10 := by omega
  obtain ⟨g, hg, g1, g2⟩ := lp_for (step := pX10_turns_L15 (nI n) b tb (nI r) (nI c)) 11 (fun q st => ∃ g, st = (nI q, g) ∧ (∀ s j, s < n → j < 27 → g (27 * s + j) = lI (if s < q then TT n (Mx S k C) (put bs r c) s j else TT n (Mx S k C) bs s j)) ∧ ∀ j, j < 27 → g (270 + j) = lI (if 10 < q then zr n (Mx S k C) (obx k) (put bs r c) j else zr n (Mx S k C) (obx k) bs j)) (fun g => (∀ s j, s < n → j < 27 → g (27 * s + j) = lI (TT n (Mx S k C) (put bs r c) s j)) ∧ ∀ j, j < 27 → g (270 + j) = lI (zr n (Mx S k C) (obx k) (put bs r c) j)) (fun q st hq hI => by
    obtain ⟨g, rfl, p1, p2⟩ := hI
    left
    have hrow : ∀ j, j < 27 → g (27 * r + j) = lI (TT n (Mx S k C) bs r j) := fun j hj => by
      rw [p1 r j hr hj]
      by_cases z : r < q
      · rw [if_pos z, TT_r]
      · rw [if_neg z]
    have hskip : pX10_turns_L15 (nI n) b tb (nI r) (nI c) (nI q, g) = some (.inl (nI (q + 1), g)) → (q = r ∨ (n ≤ q ∧ q ≠ 10)) → ∃ s', pX10_turns_L15 (nI n) b tb (nI r) (nI c) (nI q, g) = some (.inl s') ∧ ∃ g, s' = (nI (q + 1), g) ∧ (∀ s j, s < n → j < 27 → g (27 * s + j) = lI (if s < q + 1 then TT n (Mx S k C) (put bs r c) s j else TT n (Mx S k C) bs s j)) ∧ ∀ j, j < 27 → g (270 + j) = lI (if 10 < q + 1 then zr n (Mx S k C) (obx k) (put bs r c) j else zr n (Mx S k C) (obx k) bs j) := by
      intro hst hor
      refine ⟨_, hst, g, rfl, fun s j hs hj => ?_, fun j hj => ?_⟩
      · rw [p1 s j hs hj]
        by_cases z : s < q
        · rw [if_pos z, if_pos (by omega)]
        · rw [if_neg z]
          by_cases z2 : s < q + 1
          · rw [if_pos z2]
            have : s = r := by omega
            rw [this, TT_r]
          · rw [if_neg z2]
      · rw [p2 j hj, if_neg (by omega), if_neg (by omega)]
    by_cases c1 : q = r
    · exact hskip (by
        unfold pX10_turns_L15
        dsimp only
        rw [if_neg (by show ¬ nI 10 < nI q; exact nI_nlt (by omega) (by omega)), if_pos (by rw [c1]), nI_1]) (Or.inl c1)
    · by_cases c2 : q < n
      · obtain ⟨g3, q1, q2, q3⟩ := y_clear (tb := tb) (t := g) (q := q) (r := r) (c := c) (by1 := byD n (Mx S k C) bs) (w := TT n (Mx S k C) bs r c) (F := fun j => TT n (Mx S k C) bs q j) (G := fun j => TT n (Mx S k C) bs r j) (N := fun j => TT n (Mx S k C) (put bs r c) q j) (by omega) hr10 c1 hc hby hbig (R1 r c hr (by omega)) (fun j hj => by rw [p1 q j c2 hj, if_neg (Nat.lt_irrefl q)]) hrow (fun j _ => (TT_piv h16 hr c2 c1 hCI).symm) (fun j _ => by
          have v1 := big_mul (hT q j) (hT1 r)
          have v2 := big_mul (hT1 q) (hT r j)
          exact big_of (K := 2 * (72576000 * 3628800)) (by omega) (by decide))
        refine ⟨(nI (q + 1), g3), ?_, g3, rfl, fun s j hs hj => ?_, fun j hj => ?_⟩
        · unfold pX10_turns_L15 pX10_turns_J44_10
          dsimp only
          rw [if_neg (by show ¬ nI 10 < nI q; exact nI_nlt (by omega) (by omega)), if_neg (by rw [nI_eq (by omega) (by omega)]; exact c1), if_pos (nI_lt c2 (by omega)), i27, pk_mul, nI_add, gd_t (vp_in_nI (show 27 * q + c < 297 by omega) (by omega)), R3, q1, Option.bind_some, nI_1]
        · by_cases z : s = q
          · subst z; rw [q2 j hj, if_pos (by omega)]
          · rw [q3 _ (by omega), p1 s j hs hj]
            by_cases z2 : s < q
            · rw [if_pos z2, if_pos (by omega)]
            · rw [if_neg z2, if_neg (by omega)]
        · rw [q3 _ (by omega), p2 j hj, if_neg (by omega), if_neg (by omega)]
      · by_cases c3 : q = 10
        · obtain ⟨g3, q1, q2, q3⟩ := y_clear (tb := tb) (t := g) (q := q) (r := r) (c := c) (by1 := byD n (Mx S k C) bs) (w := TT n (Mx S k C) bs r c) (F := fun j => zr n (Mx S k C) (obx k) bs j) (G := fun j => TT n (Mx S k C) bs r j) (N := fun j => zr n (Mx S k C) (obx k) (put bs r c) j) (by omega) hr10 c1 hc hby hbig (R1 r c hr (by omega)) (fun j hj => by rw [c3]; show g (270 + j) = _; rw [p2 j hj, if_neg (by omega)]) hrow (fun j _ => (zr_piv h16 hr hCI).symm) (fun j _ => by
            have v1 := big_mul (hZ j) (hT1 r)
            have v2 := big_mul (hZ c) (hT r j)
            exact big_of (K := 2 * (800000000 * 72576000)) (by omega) (by decide))
          refine ⟨(nI (q + 1), g3), ?_, g3, rfl, fun s j hs hj => ?_, fun j hj => ?_⟩
          · unfold pX10_turns_L15 pX10_turns_J44_10
            dsimp only
            rw [if_neg (by show ¬ nI 10 < nI q; exact nI_nlt (by omega) (by omega)), if_neg (by rw [nI_eq (by omega) (by omega)]; exact c1), if_neg (nI_nlt (by omega) (by omega)), if_pos (by rw [c3]; rfl), i27, pk_mul, nI_add, gd_t (vp_in_nI (show 27 * q + c < 297 by omega) (by omega)), R3, q1, Option.bind_some, nI_1]
          · rw [q3 _ (by omega), p1 s j hs hj, if_pos (by omega), if_pos (by omega)]
          · rw [show 270 + j = 27 * q + j by omega, q2 j hj, if_pos (by omega)]
        · exact hskip (by
            unfold pX10_turns_L15
            dsimp only
            rw [if_neg (by show ¬ nI 10 < nI q; exact nI_nlt (by omega) (by omega)), if_neg (by rw [nI_eq (by omega) (by omega)]; exact c1), if_neg (nI_nlt (by omega) (by omega)), if_neg (by show ¬ nI q = nI 10; rw [nI_eq (by omega) (by omega)]; exact c3), nI_1]) (Or.inr ⟨by omega, c3⟩)) (fun st hI => by
    obtain ⟨g, rfl, p1, p2⟩ := hI
    unfold pX10_turns_L15
    dsimp only
    rw [if_pos (by decide)]
    exact ⟨_, rfl, fun s j hs hj => by rw [p1 s j hs hj, if_pos (by omega)], fun j hj => by rw [p2 j hj, if_pos (by omega)]⟩) 11 0 (0, tb) (by omega) ⟨tb, rfl, fun s j hs hj => by rw [if_neg (Nat.not_lt_zero s)]; exact R1 s j hs hj, fun j hj => by rw [if_neg (by omega)]; exact R2 j hj⟩
  refine ⟨lI (TT n (Mx S k C) bs r c), g, upd ba r (nI c), ?_, g1, g2, by rw [by_put], fun s hs => ?_⟩
  · unfold pX10_turns
    rw [i27, pk_mul, nI_add, gd_t (vp_in_nI (show 27 * r + c < 297 by omega) (by omega)), hg, Option.bind_some, gd_t (vp_in_nI hr10 (by omega)), nI_clamp (show 27 * r + c < 2 ^ 31 by omega), nI_clamp (show r < 2 ^ 31 by omega), R1 r c hr (by omega)]
  · by_cases z : s = r
    · subst z; rw [u_s, put_s]
    · rw [u_n z, put_n z]; exact R4 s hs
theorem y_shares {n k : Nat} {S C : Nat → Nat} {ls cs : Nat → Int32} (h : YN n k S ls) (hS : ∀ i, i < k → 1 ≤ S i) (hC : ∀ e, e < 10 → cs e = nI (C e) ∧ C e ≤ 20) (hC2 : ∀ e, C e ≤ 20) (a b1 b : Int64) (tb : Nat → Int64) (ba : Nat → Int32) : ∃ L, entC n (Mx S k C) (obx k) (pth n (Mx S k C) (obx k) b0x L) = none ∧ (∀ t, t < L → ∃ c r, entC n (Mx S k C) (obx k) (pth n (Mx S k C) (obx k) b0x t) = some c ∧ lvs n (Mx S k C) (pth n (Mx S k C) (obx k) b0x t) c n = some r ∧ pth n (Mx S k C) (obx k) b0x (t + 1) = put (pth n (Mx S k C) (obx k) b0x t) r c) ∧ ∃ u v w x, pX10_shares (nI n) (nI k) a b1 b ls cs tb ba = some (1, u, v, w, x) ∧ pX4_become a b1 (lI (zr n (Mx S k C) (obx k) (pth n (Mx S k C) (obx k) b0x L) 26)) (lI (byD n (Mx S k C) (pth n (Mx S k C) (obx k) b0x L))) = some (u, v) := by
  have hn1 := h.1
  have hn := h.2.1
  have hk := h.2.2.1
  have hcol := col_x (C := C) hn1 hn hk (fun i hi => ⟨hS i hi, (h.2.2.2 i hi).2⟩)
  have hg := pth_good (show n ≤ 16 by omega) hcol (good_0 (S := S) (k := k) (C := C) hn)
  obtain ⟨L, hL, hst⟩ := pth_end (show n ≤ 16 by omega) hcol (good_0 (S := S) (k := k) (C := C) hn)
  refine ⟨L, hL, hst, ?_⟩
  obtain ⟨q1, q2, q3, hq, hR0⟩ := y_lays h hC b tb ba
  obtain ⟨r, hr, hr2⟩ := lp_for (step := pX10_shares_L9 (nI n)) L (fun t s => ∃ b2 t2 a2, s = (oI (entC n (Mx S k C) (obx k) (pth n (Mx S k C) (obx k) b0x t)), b2, t2, a2) ∧ RelY n (Mx S k C) (obx k) (pth n (Mx S k C) (obx k) b0x t) b2 t2 a2) (fun r => ∃ b2 t2 a2, r = (b2, t2, a2) ∧ RelY n (Mx S k C) (obx k) (pth n (Mx S k C) (obx k) b0x L) b2 t2 a2) (fun t s ht hI => by
    obtain ⟨b2, t2, a2, rfl, hR⟩ := hI
    left
    obtain ⟨c, r, e1, e2, e3⟩ := hst t ht
    have hc := (ent_step hcol (hg t) e1).1
    have hrn := lvs_lt e2
    have hlv := y_leaves (c := c) hn (hg t).2 hC2 hc hR
    rw [e2] at hlv
    obtain ⟨b3, t3, a3, f1, f2⟩ := y_turns hn (hg t) hC2 hc e2 hR
    rw [← e3] at f2
    have hen := y_enters hn (hg (t + 1)).2 hC2 f2
    refine ⟨(oI (entC n (Mx S k C) (obx k) (pth n (Mx S k C) (obx k) b0x (t + 1))), b3, t3, a3), ?_, b3, t3, a3, rfl, f2⟩
    rw [e1]
    unfold pX10_shares_L9
    dsimp only
    show (if nI c = -1 then _ else Option.bind (pX10_leaves (nI n) t2 a2 (nI c)) _) = _
    rw [if_neg (nI_m1 (by omega)), hlv, Option.bind_some]
    show Option.bind (pX10_turns (nI n) b2 t2 a2 (nI r) (nI c)) _ = _
    rw [f1, Option.bind_some]
    dsimp only
    rw [hen]
    rfl) (fun s hI => by
    obtain ⟨b2, t2, a2, rfl, hR⟩ := hI
    rw [hL]
    unfold pX10_shares_L9
    dsimp only
    show ∃ r, (if (-1 : Int32) = -1 then _ else _) = _ ∧ _
    rw [if_pos rfl]
    exact ⟨_, rfl, b2, t2, a2, rfl, hR⟩) L 0 (oI (entC n (Mx S k C) (obx k) b0x), q1, q2, q3) (by omega) ⟨q1, q2, q3, rfl, hR0⟩
  obtain ⟨b2, t2, a2, rfl, hR⟩ := hr2
  have hen := y_enters hn (hg 0).2 hC2 hR0
  have hgL := hg L
  have hz26 : 0 ≤ zr n (Mx S k C) (obx k) (pth n (Mx S k C) (obx k) b0x L) 26 := by
    unfold zr
    have : obx k 26 = 0 := if_neg (by omega)
    rw [this, Int.mul_zero, Int.sub_zero]
    exact si_nn (fun s hs => Int.mul_nonneg (by unfold obx; split <;> omega) (hgL.1.2.2 s hs))
  have hzb := zr_abs (S := S) (k := k) (j := 26) hn hgL.2 hC2
  have hbb := by_abs (S := S) (k := k) (C := C) hn hgL.2
  have hb0 := hgL.1.1
  obtain ⟨z, hz⟩ := Int.eq_ofNat_of_zero_le hz26
  obtain ⟨y, hy⟩ := Int.eq_ofNat_of_zero_le (Int.le_of_lt hb0)
  have hfr := (frac_eq (a := z) (b := y) (by rw [hz] at hzb; simp at hzb; omega) (by rw [hy] at hb0; omega) (by rw [hy] at hbb; simp at hbb; omega) a b1)
  refine ⟨lN (z / z.gcd y), lN (y / z.gcd y), b2, (t2, a2), ?_, ?_⟩
  · unfold pX10_shares
    rw [hq, Option.bind_some]
    dsimp only
    rw [hen, Option.bind_some]
    show Option.bind (lp (pX10_shares_L9 (nI n)) (oI (entC n (Mx S k C) (obx k) b0x), q1, q2, q3)) _ = _
    rw [hr, Option.bind_some, gd_t (by show vp_in (nI 296) 297; exact vp_in_nI (by omega) (by omega))]
    dsimp only
    show Option.bind (pX10_tells a b1 (t2 (270 + 26)) b2) _ = _
    rw [hR.2.1 26 (by omega), hR.2.2.1, hz, hy, lI_nat, lI_nat, hfr.2]
    rfl
  · rw [hz, hy, lI_nat, lI_nat, hfr.1]
