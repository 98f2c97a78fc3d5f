/-! colourings: the class -/
def wv (S : Nat → Nat) (k x : Nat) : Nat := if hsb S k x then 0 else 1
theorem hsb_or {S : Nat → Nat} {k x y : Nat} (h : hsb S k x = true) : hsb S k (x ||| y) = true := by
  unfold hsb at h ⊢
  obtain ⟨i, hi, hs⟩ := exb_iff.mp h
  refine exb_iff.mpr ⟨i, hi, ?_⟩
  rw [sub_bits] at hs ⊢
  intro e he
  rw [Nat.testBit_or, hs e he]; rfl
theorem wv_or {S : Nat → Nat} {k x y : Nat} (h : hsb S k x = true) : wv S k (x ||| y) = 0 := by unfold wv; rw [hsb_or h]; rfl
theorem wv_le (S : Nat → Nat) (k x : Nat) : wv S k x ≤ 1 := by unfold wv; split <;> omega
theorem wv_sub {S : Nat → Nat} {k x y : Nat} (h : x &&& y = x) (hy : hsb S k y = false) : wv S k x = 1 := by
  unfold wv
  cases hx : hsb S k x with
  | false => rfl
  | true =>
    have e : x ||| y = y := by
      apply Nat.eq_of_testBit_eq
      intro i
      have := congrArg (fun z => z.testBit i) h
      simp only [Nat.testBit_and] at this
      rw [Nat.testBit_or]
      cases hu : x.testBit i <;> cases hv : y.testBit i <;> simp [hu, hv] at this ⊢
    have := hsb_or (y := y) hx
    rw [e, hy] at this
    cases this
theorem sb_cong : ∀ {f r : Nat} {g h : Nat → Nat → Nat}, (∀ x y, x &&& r = x → y &&& r = y → g x y = h x y) → sb f r g = sb f r h
  | 0, r, g, h, hh => by rw [sb, sb]; exact hh 0 0 (Nat.zero_and r) (Nat.zero_and r)
  | f + 1, r, g, h, hh0 => by
    obtain ⟨v, c, hc, rfl⟩ := halves r
    rw [sb, sb, show (2 * v + c) / 2 = v by omega]
    have hh : ∀ x y a b, x &&& v = x → y &&& v = y → a ≤ c → b ≤ c → g (2 * x + a) (2 * y + b) = h (2 * x + a) (2 * y + b) := by
      intro x y a b hx hy ha hb
      have e : ∀ u a, u &&& v = u → a ≤ c → (2 * u + a) &&& (2 * v + c) = 2 * u + a := by
        intro u a hu ha
        rw [and_half (by omega) hc, hu]
        rcases (show c = 0 ∨ c = 1 by omega) with rfl | rfl
        · rw [show a = 0 by omega]; rfl
        · rcases (show a = 0 ∨ a = 1 by omega) with rfl | rfl <;> rfl
      exact hh0 _ _ (e x a hx ha) (e y b hy hb)
    rcases (show c = 0 ∨ c = 1 by omega) with rfl | rfl
    · rw [if_neg (by omega), if_neg (by omega)]
      exact sb_cong (f := f) (g := fun x y => g (2 * x) (2 * y)) (h := fun x y => h (2 * x) (2 * y)) (fun x y hx hy => hh x y 0 0 hx hy (by omega) (by omega))
    · rw [if_pos (by omega), if_pos (by omega)]
      rw [sb_cong (f := f) (g := fun x y => g (2 * x) (2 * y + 1)) (h := fun x y => h (2 * x) (2 * y + 1)) (fun x y hx hy => hh x y 0 1 hx hy (by omega) (by omega)), sb_cong (f := f) (g := fun x y => g (2 * x + 1) (2 * y)) (h := fun x y => h (2 * x + 1) (2 * y)) (fun x y hx hy => hh x y 1 0 hx hy (by omega) (by omega))]
theorem neg_all : (List.range 1024).all (fun y => decide (y = 0 ∨ -(nI y) = nI (y - 1) ^^^ (-1))) = true := by decide +kernel
theorem neg_eq' {y : Nat} (h : y < 1024) (h1 : 1 ≤ y) : -(nI y) = nI (y - 1) ^^^ (-1) := by
  have := co_dec (P := fun y => y = 0 ∨ -(nI y) = nI (y - 1) ^^^ (-1)) neg_all h
  rcases this with q | q
  · omega
  · exact q
theorem nx_eq {r x y : Nat} (hy : y < 1024) (h1 : 1 ≤ y) (hs : x + y = r) : (nI x - nI r) &&& nI r = nI (r ^^^ (r &&& (y - 1))) := by
  have e : nI x - nI r = -(nI y) := by
    rw [← hs, ← nI_add, Int32.sub_eq_add_neg, Int32.neg_add, Int32.sub_eq_add_neg, ← Int32.add_assoc, Int32.add_right_neg, Int32.zero_add]
  rw [e, neg_eq' hy h1, Int32.and_comm, tI_andn]
def lowE (w : Nat) : Nat := (fst (fun i => w.testBit i) 10).getD 0
theorem low_all : (List.range 1024).all (fun w => decide (w = 0 ∨ (w = (w &&& (w - 1)) ||| 2 ^ lowE w ∧ (w &&& (w - 1)).testBit (lowE w) = false ∧ lowE w < 10))) = true := by decide +kernel
theorem low_eq {w : Nat} (h : w < 1024) (h1 : 1 ≤ w) : w = (w &&& (w - 1)) ||| 2 ^ lowE w ∧ (w &&& (w - 1)).testBit (lowE w) = false ∧ lowE w < 10 := by
  have := co_dec (P := fun w => w = 0 ∨ (w = (w &&& (w - 1)) ||| 2 ^ lowE w ∧ (w &&& (w - 1)).testBit (lowE w) = false ∧ lowE w < 10)) low_all h
  rcases this with q | q
  · omega
  · exact q
def G2 (S : Nat → Nat) (k Y B C : Nat) : Nat := sb 10 Y (fun x y => wv S k (B ||| x) * wv S k (C ||| y))
theorem G2_le {S : Nat → Nat} {k Y B C : Nat} : G2 S k Y B C ≤ 1024 := by
  have := sb_le (f := 10) (r := Y) (c := 1) (g := fun x y => wv S k (B ||| x) * wv S k (C ||| y)) (fun x y => by
    have h1 := wv_le S k (B ||| x)
    have h2 := wv_le S k (C ||| y)
    exact Nat.le_trans (Nat.mul_le_mul h1 h2) (by omega))
  exact this
theorem G2_swap {S : Nat → Nat} {k Y B C : Nat} : G2 S k Y B C = G2 S k Y C B := by
  unfold G2
  rw [← sb_swap]
  simp only [Nat.mul_comm]
theorem G2_split {S : Nat → Nat} {k Y B C e : Nat} (he : e < 10) (hY : Y.testBit e = false) : G2 S k (Y ||| 2 ^ e) B C = G2 S k Y (B ||| 2 ^ e) C + G2 S k Y B (C ||| 2 ^ e) := by
  unfold G2
  have e1 : ∀ a x, a ||| (x ||| 2 ^ e) = a ||| 2 ^ e ||| x := fun a x => by rw [Nat.or_comm x, Nat.or_assoc]
  rw [sb_split he hY, Nat.add_comm]
  simp only [e1]
theorem G2_0 {S : Nat → Nat} {k Y B C : Nat} (h : hsb S k B = true) : G2 S k Y B C = 0 := by
  unfold G2
  simp only [wv_or h, Nat.zero_mul]
  exact sb_0
theorem G2_0' {S : Nat → Nat} {k Y B C : Nat} (h : hsb S k C = true) : G2 S k Y B C = 0 := by rw [G2_swap]; exact G2_0 h
theorem bit_xor_part {w r x y e : Nat} (hw : w = r ||| 2 ^ e) (hr : r.testBit e = false) (h1 : x ||| y = r) (h2 : x &&& y = 0) : w ^^^ x = 2 ^ e ||| y := by
  apply Nat.eq_of_testBit_eq
  intro i
  have b1 := congrArg (fun z => z.testBit i) h1
  have b2 := congrArg (fun z => z.testBit i) h2
  simp only [Nat.testBit_or, Nat.testBit_and, Nat.zero_testBit] at b1 b2
  rw [hw, Nat.testBit_xor, Nat.testBit_or, Nat.testBit_or, Nat.testBit_two_pow, ← b1]
  by_cases q : e = i
  · subst q
    rw [hr] at b1
    cases hp : x.testBit e <;> cases hq : y.testBit e <;> simp [hp, hq] at b1 b2 ⊢
  · rw [decide_eq_false q]
    cases hp : x.testBit i <;> cases hq : y.testBit i <;> simp [hp, hq] at b2 ⊢
set_option maxHeartbeats 1000000 in
theorem c_two {n k : Nat} {S : Nat → Nat} {ins : Nat → Int32} (h : RowN n k S ins) (hS1 : ∀ i, i < k → 1 ≤ S i) {w : Nat} (hw : w < 2 ^ n) : pX1_waysByTwo ins (nI w) = some (nI (G2 S k w 0 0)) := by
  have hn := h.1
  have hp := tI_p hn
  unfold pX1_waysByTwo
  rw [hasSetIn_eq h hw, Option.bind_some, if_bI]
  cases hh : hsb S k w with
  | false =>
    rw [if_neg (by decide), bc_eq (by omega), Option.bind_some]
    have hpp := pop_le w
    rw [tI_shl (by omega)]
    have e : G2 S k w 0 0 = 2 ^ pop w := by
      unfold G2
      rw [sb_one (fun x y hx hy => by rw [Nat.zero_or, Nat.zero_or, wv_sub hx hh, wv_sub hy hh]), pop_k (k := 10) (by omega) (by omega)]
    rw [e]
  | true =>
    have hw1 : 1 ≤ w := by
      rcases Nat.eq_zero_or_pos w with q | q
      · subst q
        obtain ⟨i, hi, hs⟩ := exb_iff.mp hh
        rw [sub_iff, Nat.and_zero] at hs
        have := hS1 i hi
        omega
      · exact q
    obtain ⟨l1, l2, l3⟩ := low_eq (show w < 1024 by omega) hw1
    have er : nI w &&& (nI w - 1) = nI (w &&& (w - 1)) := by rw [tI_1, pk_sub hw1, tI_and]
    generalize hr : w &&& (w - 1) = r at *
    generalize he : lowE w = e at *
    have hrw : r ≤ w := by rw [← hr]; exact Nat.and_le_left
    have hpp := pop_le r
    have hm : ct (fun i => r.testBit i) 10 = pop r := pop_k (k := 10) (by omega) (by omega)
    have hml : pop r ≤ 10 := by rw [← hm]; exact ct_le _ 10
    have h2m : 2 ^ pop r ≤ 1024 := tI_p hml
    rw [if_pos rfl, er, bc_eq (by omega), Option.bind_some]
    have key := lp_det (step := pX1_waysByTwo_L40 ins (nI w) (nI (pop r))) (fun j => (nI (2 * sm (fun i => wv S k (pdl 10 r i) * wv S k (2 ^ e ||| pcl 10 r i)) j), (if j < 2 ^ pop r then nI (pdl 10 r j) else 0), nI j)) (nI (2 * sm (fun i => wv S k (pdl 10 r i) * wv S k (2 ^ e ||| pcl 10 r i)) (2 ^ pop r))) (2 ^ pop r) (fun j hj => by
      obtain ⟨p1, p2, p3⟩ := pd_part (f := 10) (r := r) (k := j) (by omega)
      have hx : w ^^^ pdl 10 r j = 2 ^ e ||| pcl 10 r j := bit_xor_part l1 l2 p2 p3
      have hxl : 2 ^ e ||| pcl 10 r j < 2 ^ n := by rw [← hx]; exact xor_lt hw (by omega)
      unfold pX1_waysByTwo_L40
      dsimp only
      rw [tI_shl (by omega), if_neg (nI_ge hj (by omega)), if_pos hj, er, hasSetIn_eq h (by omega), Option.bind_some, if_bI, tI_xor, hx, hasSetIn_eq h hxl, Option.bind_some, if_bI, nI_1, sm]
      have hnext : ((nI (pdl 10 r j) - nI r) &&& nI r) = if j + 1 < 2 ^ pop r then nI (pdl 10 r (j + 1)) else 0 := by
        by_cases q : j + 1 < 2 ^ pop r
        · obtain ⟨q1, q2⟩ := pd_next (f := 10) (r := r) (k := j) (by omega) (by rw [hm]; exact q)
          rw [if_pos q, nx_eq (by omega) q1 p1, q2]
        · rw [if_neg q]
          have hl := pd_last (f := 10) (r := r) (by omega)
          rw [hm] at hl
          rw [show j = 2 ^ pop r - 1 by omega, hl, Int32.sub_self, tI_0, tI_and, Nat.zero_and]
      rw [hnext]
      generalize sm (fun i => wv S k (pdl 10 r i) * wv S k (2 ^ e ||| pcl 10 r i)) j = q
      unfold wv
      cases hsb S k (pdl 10 r j) with
      | true => simp
      | false =>
        cases hsb S k (2 ^ e ||| pcl 10 r j) with
        | true => simp
        | false =>
          show some (Sum.inl (nI (2 * q) + nI 2, _, _)) = _
          rw [nI_add, show 2 * q + 2 = 2 * (q + 1) by omega]
          rfl) (by
      unfold pX1_waysByTwo_L40
      dsimp only
      rw [tI_shl (by omega), if_pos (nI_le (Nat.le_refl _) (by omega))])
    try dsimp only at key
    rw [if_pos (show 0 < 2 ^ pop r from tI_pp (pop r)), pd_first] at key
    have key : lp (pX1_waysByTwo_L40 ins (nI w) (nI (pop r))) (0, 0, 0) = _ := key
    rw [key, Option.bind_some]
    have e1 := sm_sb (f := 10) (r := r) (g := fun x y => wv S k x * wv S k (2 ^ e ||| y))
    rw [hm] at e1
    rw [e1]
    have e2 : G2 S k w 0 0 = 2 * sb 10 r (fun x y => wv S k x * wv S k (2 ^ e ||| y)) := by
      rw [l1, G2_split l3 l2, G2_swap (B := 0 ||| 2 ^ e), Nat.zero_or]
      unfold G2
      simp only [Nat.zero_or]
      omega
    rw [e2]
theorem c_one {n k : Nat} {S : Nat → Nat} {ins : Nat → Int32} (h : RowN n k S ins) {w : Nat} (hw : w < 2 ^ n) : pX1_waysByOne ins (nI w) = some (nI (wv S k w)) := by
  unfold pX1_waysByOne
  rw [hasSetIn_eq h hw, Option.bind_some, if_bI]
  unfold wv
  cases hsb S k w <;> rfl
/-- the first colour's ways -/
def fw (S : Nat → Nat) (k : Nat) (three : Bool) (x : Nat) : Nat := if three then wv S k x else G2 S k x 0 0
theorem fw_le {S : Nat → Nat} {k x : Nat} {b : Bool} : fw S k b x ≤ 1024 := by
  unfold fw
  split
  · have := wv_le S k x; omega
  · exact G2_le
set_option maxHeartbeats 1000000 in
theorem c_loop {n k : Nat} {S : Nat → Nat} {ins : Nat → Int32} (h : RowN n k S ins) (hn1 : 1 ≤ n) (hS1 : ∀ i, i < k → 1 ≤ S i) (c : Int32) : lp (pX1_waysBy_L26 (nI (2 ^ n)) ins c) (0, 1) = some (nI (sm (fun i => fw S k (decide (c = 3)) (2 * i + 1) * G2 S k ((2 ^ n - 1) ^^^ (2 * i + 1)) 0 0) (2 ^ (n - 1)))) := by
  have hn := h.1
  have hp := tI_p hn
  have hpp := tI_pp n
  have e2 : 2 ^ n = 2 * 2 ^ (n - 1) := by
    have h1 := Nat.pow_succ 2 (n - 1)
    rw [show (n - 1).succ = n by omega] at h1
    omega
  have ea : nI (2 ^ n) - 1 = nI (2 ^ n - 1) := by rw [tI_1, pk_sub hpp]
  have key := lp_det (step := pX1_waysBy_L26 (nI (2 ^ n)) ins c) (fun j => (nI (sm (fun i => fw S k (decide (c = 3)) (2 * i + 1) * G2 S k ((2 ^ n - 1) ^^^ (2 * i + 1)) 0 0) j), nI (2 * j + 1))) (nI (sm (fun i => fw S k (decide (c = 3)) (2 * i + 1) * G2 S k ((2 ^ n - 1) ^^^ (2 * i + 1)) 0 0) (2 ^ (n - 1)))) (2 ^ (n - 1)) (fun j hj => by
    unfold pX1_waysBy_L26
    dsimp only
    have hf := fw_le (S := S) (k := k) (b := decide (c = 3)) (x := 2 * j + 1)
    have e3 : nI (2 * j + 1) + 2 = nI (2 * (j + 1) + 1) := by
      show nI (2 * j + 1) + nI 2 = _
      rw [nI_add, show 2 * j + 1 + 2 = 2 * (j + 1) + 1 by omega]
    have ef : (if c = 3 then (Option.bind (pX1_waysByOne ins (nI (2 * j + 1))) (fun r4 => some r4)) else (Option.bind (pX1_waysByTwo ins (nI (2 * j + 1))) (fun r3 => some r3)) : Option Int32) = some (nI (fw S k (decide (c = 3)) (2 * j + 1))) := by
      by_cases q : c = 3
      · rw [if_pos q, c_one h (by omega), decide_eq_true q]; rfl
      · rw [if_neg q, c_two h hS1 (by omega), decide_eq_false q]; rfl
    rw [ea, if_neg (nI_nlt (by omega) (by omega)), ef, Option.bind_some, e3, tI_xor, c_two h hS1 (xor_lt (by omega) (by omega)), Option.bind_some, sm, pk_mul, nI_add]
    by_cases q : fw S k (decide (c = 3)) (2 * j + 1) = 0
    · rw [q, Nat.zero_mul, Nat.add_zero, if_pos (by rfl)]
      rfl
    · rw [if_neg (by rw [tI_0, nI_eq (by omega) (by omega)]; exact q)]) (by
    unfold pX1_waysBy_L26
    dsimp only
    rw [ea, if_pos (nI_lt (by omega) (by omega))])
  exact key
