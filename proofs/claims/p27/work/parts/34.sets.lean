theorem in_lit (a lo hi : Int32) : pX10_in a.toInt64 lo.toInt64 hi.toInt64 = some (bI (decide (lo ≤ a) && decide (a ≤ hi))) := by
  rw [in_eq]
  simp only [wide_le]
theorem isPart_in {P : Nat} (hP : P < 2 ^ 31) {x : Nat} (hx : x < P) : pX6_isPart (nI P) (nI x) = some 1 := by
  unfold pX6_isPart
  rw [if_neg (nI_pos (by omega)), if_neg (nI_ge hx hP)]
theorem isPart_out {P : Nat} {a : Int32} (h : a < 0 ∨ nI P ≤ a) : pX6_isPart (nI P) a = some 0 := by
  unfold pX6_isPart
  by_cases h0 : a < 0
  · rw [if_pos h0]
  · rw [if_neg h0, if_pos (h.resolve_left h0)]
theorem isFull_no {L k : Nat} (hL : L < 2 ^ 31) (h : k < L) : pX6_isFull L (nI k) = some 0 := by
  unfold pX6_isFull
  rw [if_pos (by show nI k < nI L; exact nI_lt h hL)]
theorem isFull_yes {L : Nat} (hL : L < 2 ^ 31) : pX6_isFull L (nI L) = some 1 := by
  unfold pX6_isFull
  rw [if_neg (by show ¬ nI L < nI L; exact nI_nlt (Nat.le_refl L) hL)]
theorem holds_eq {L k x : Nat} {S : Nat → Nat} {rows : Nat → Int32} (hL : L < 2 ^ 30) (hk : k ≤ L) (hR : ∀ i, i < k → rows i = nI (S i) ∧ S i < 1024) (hx : x < 1024) : pX6_holds L (nI k) rows (nI x) = some (bI (exb (fun i => S i == x) k)) := by
  unfold pX6_holds
  have hl := lp_first (step := pX6_holds_L2 L (nI k) rows (nI x)) (fun i => nI i) (fun i => S i == x) (fun _ => Sum.inl ()) (Sum.inr ()) k (fun i hi => by
    unfold pX6_holds_L2
    rw [if_neg (nI_ge hi (by omega)), gd_t (vp_in_nI (by omega) (by omega)), nI_clamp (by omega), (hR i hi).1, nI_1]
    have := (hR i hi).2
    by_cases he : S i = x
    · rw [if_pos (by rw [he])]; simp [he]
    · rw [if_neg (by rw [nI_eq (by omega) (by omega)]; exact he)]; simp [he]) (by
    unfold pX6_holds_L2
    rw [if_pos (nI_le (Nat.le_refl k) (by omega))])
  have hl : lp (pX6_holds_L2 L (nI k) rows (nI x)) 0 = _ := hl
  rw [hl, Option.bind_some, exb_fst]
  cases fst (fun i => S i == x) k <;> rfl
theorem yset_scan {k x : Nat} {S : Nat → Nat} {ls : Nat → Int32} (hk : k ≤ 16) (hR : ∀ i, i < k → ls i = nI (S i) ∧ S i < 1024) (hx : x < 1024) : lp (pX10_set_L19 (nI k) ls (nI x)) 0 = some (if exb (fun i => S i == x) k then Sum.inl () else Sum.inr ()) := by
  have hl := lp_first (step := pX10_set_L19 (nI k) ls (nI x)) (fun i => nI i) (fun i => S i == x) (fun _ => Sum.inl ()) (Sum.inr ()) k (fun i hi => by
    unfold pX10_set_L19
    rw [if_neg (nI_ge hi (by omega)), gd_t (vp_in_nI (by omega) (by omega)), nI_clamp (by omega), (hR i hi).1, nI_1]
    have := (hR i hi).2
    by_cases he : S i = x
    · rw [if_pos (by rw [he])]; simp [he]
    · rw [if_neg (by rw [nI_eq (by omega) (by omega)]; exact he)]; simp [he]) (by
    unfold pX10_set_L19
    rw [if_pos (nI_le (Nat.le_refl k) (by omega))])
  have hl : lp (pX10_set_L19 (nI k) ls (nI x)) 0 = _ := hl
  rw [hl, exb_fst]
  cases fst (fun i => S i == x) k <;> rfl
theorem yother_scan {k x : Nat} {S : Nat → Nat} {ls : Nat → Int32} (hk : k ≤ 40) (hR : ∀ i, i < k → ls i = nI (S i) ∧ S i < 1024) (hx : x < 1024) : lp (pX10_other_L13 (nI k) ls (nI x)) 0 = some (if exb (fun i => S i == x) k then Sum.inl () else Sum.inr ()) := by
  have hl := lp_first (step := pX10_other_L13 (nI k) ls (nI x)) (fun i => nI i) (fun i => S i == x) (fun _ => Sum.inl ()) (Sum.inr ()) k (fun i hi => by
    unfold pX10_other_L13
    rw [if_neg (nI_ge hi (by omega)), gd_t (vp_in_nI (by omega) (by omega)), nI_clamp (by omega), (hR i hi).1, nI_1]
    have := (hR i hi).2
    by_cases he : S i = x
    · rw [if_pos (by rw [he])]; simp [he]
    · rw [if_neg (by rw [nI_eq (by omega) (by omega)]; exact he)]; simp [he]) (by
    unfold pX10_other_L13
    rw [if_pos (nI_le (Nat.le_refl k) (by omega))])
  have hl : lp (pX10_other_L13 (nI k) ls (nI x)) 0 = _ := hl
  rw [hl, exb_fst]
  cases fst (fun i => S i == x) k <;> rfl
/-- the counts with the set a put in, or taken away -/
def insUp (n a : Nat) (c : Int32) (ins : Nat → Int32) : Nat → Int32 := fun x => if sub a x && decide (x < 2 ^ n) then ins x + c else ins x
theorem append_eq {L k n x : Nat} {rows ins : Nat → Int32} (hL : L < 2 ^ 30) (hk : k < L) (hn : n ≤ 10) (hx : x < 2 ^ n) : pX6_append L (nI k) (nI (2 ^ n)) rows ins (nI x) = some (nI (k + 1), upd rows k (nI x), insUp n x 1 ins) := by
  unfold pX6_append
  rw [isFull_no (by omega) hk, Option.bind_some, if_pos rfl, gd_t (vp_in_nI hk (by omega)), tally_eq hn hx, Option.bind_some, nI_1, nI_clamp (by omega)]
  rfl
theorem removeLast_eq {L k n : Nat} {S : Nat → Nat} {rows ins : Nat → Int32} (hL : L < 2 ^ 30) (hk : k < L) (hn : n ≤ 10) (hr : rows k = nI (S k)) (hx : S k < 2 ^ n) : pX6_removeLast L (nI (k + 1)) (nI (2 ^ n)) rows ins = some (nI (S k), nI k, insUp n (S k) (-1) ins) := by
  unfold pX6_removeLast
  rw [if_neg (nI_ne0 (by omega) (by omega)), nI_pred, gd_t (vp_in_nI hk (by omega)), nI_clamp (by omega), hr, tally_eq hn hx, Option.bind_some, gd_t (vp_in_nI hk (by omega))]
  rfl
def put (S : Nat → Nat) (k x : Nat) : Nat → Nat := fun i => if i = k then x else S i
theorem put_s {S : Nat → Nat} {k x : Nat} : put S k x k = x := if_pos rfl
theorem put_n {S : Nat → Nat} {k x i : Nat} (h : i ≠ k) : put S k x i = S i := if_neg h
theorem ins_add {n k x : Nat} {S : Nat → Nat} {ins : Nat → Int32} (hi : ∀ y, y < 2 ^ n → ins y = nI (ct (fun i => sub (S i) y) k)) : ∀ y, y < 2 ^ n → insUp n x 1 ins y = nI (ct (fun i => sub (put S k x i) y) (k + 1)) := by
  intro y hy
  have e : ct (fun i => sub (put S k x i) y) k = ct (fun i => sub (S i) y) k := ct_cong (fun i h => by rw [put_n (by omega)])
  unfold insUp
  rw [ct, e, put_s, hi y hy]
  cases sub x y
  · simp
  · simp [hy, nI_1]
theorem ins_del {n k : Nat} {S : Nat → Nat} {ins : Nat → Int32} (hi : ∀ y, y < 2 ^ n → ins y = nI (ct (fun i => sub (S i) y) (k + 1))) : ∀ y, y < 2 ^ n → insUp n (S k) (-1) ins y = nI (ct (fun i => sub (S i) y) k) := by
  intro y hy
  unfold insUp
  rw [hi y hy, ct]
  cases sub (S k) y
  · simp
  · simp only [hy, decide_true, Bool.and_self, if_true]
    exact pk_m1 _
theorem clear_eq {n : Nat} (hn : n ≤ 10) (a b c : Int32) (ins : Nat → Int32) : pX6_clearFor a b c ins (nI n) = some (0, nI n, nI (2 ^ n), fun j => if j < 1024 then 0 else ins j) := by
  unfold pX6_clearFor
  rw [fill_eq (by omega), Option.bind_some, tI_shl (by omega)]
