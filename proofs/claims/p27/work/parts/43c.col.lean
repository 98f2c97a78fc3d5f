/-! colourings: ways to go on, element by element -/
def H2 (S : Nat → Nat) (k n : Nat) : Nat → Nat → Nat → Nat
  | 0, _, _ => 1
  | d + 1, A, B => (if hsb S k (A ||| 2 ^ (n - d - 1)) then 0 else H2 S k n d (A ||| 2 ^ (n - d - 1)) B) + (if hsb S k (B ||| 2 ^ (n - d - 1)) then 0 else H2 S k n d A (B ||| 2 ^ (n - d - 1)))
def H3 (S : Nat → Nat) (k n : Nat) : Nat → Nat → Nat → Nat → Nat
  | 0, _, _, _ => 1
  | d + 1, A, B, C => (if hsb S k (A ||| 2 ^ (n - d - 1)) then 0 else H3 S k n d (A ||| 2 ^ (n - d - 1)) B C) + (if hsb S k (B ||| 2 ^ (n - d - 1)) then 0 else H3 S k n d A (B ||| 2 ^ (n - d - 1)) C) + (if hsb S k (C ||| 2 ^ (n - d - 1)) then 0 else H3 S k n d A B (C ||| 2 ^ (n - d - 1)))
def H4 (S : Nat → Nat) (k n : Nat) : Nat → Nat → Nat → Nat → Nat → Nat
  | 0, _, _, _, _ => 1
  | d + 1, A, B, C, D => (if hsb S k (A ||| 2 ^ (n - d - 1)) then 0 else H4 S k n d (A ||| 2 ^ (n - d - 1)) B C D) + (if hsb S k (B ||| 2 ^ (n - d - 1)) then 0 else H4 S k n d A (B ||| 2 ^ (n - d - 1)) C D) + (if hsb S k (C ||| 2 ^ (n - d - 1)) then 0 else H4 S k n d A B (C ||| 2 ^ (n - d - 1)) D) + (if hsb S k (D ||| 2 ^ (n - d - 1)) then 0 else H4 S k n d A B C (D ||| 2 ^ (n - d - 1)))
theorem r_all : (List.range 11).all (fun n => (List.range n).all (fun d => decide (2 ^ n - 2 ^ (n - (d + 1)) = (2 ^ n - 2 ^ (n - d)) ||| 2 ^ (n - d - 1) ∧ (2 ^ n - 2 ^ (n - d)).testBit (n - d - 1) = false))) = true := by decide +kernel
theorem r_eq {n d : Nat} (hn : n ≤ 10) (hd : d < n) : 2 ^ n - 2 ^ (n - (d + 1)) = (2 ^ n - 2 ^ (n - d)) ||| 2 ^ (n - d - 1) ∧ (2 ^ n - 2 ^ (n - d)).testBit (n - d - 1) = false := by
  have h := r_all
  rw [List.all_eq_true] at h
  have h := h n (List.mem_range.mpr (by omega))
  rw [List.all_eq_true] at h
  exact of_decide_eq_true (h d (List.mem_range.mpr hd))
theorem sb_z {f : Nat} {g : Nat → Nat → Nat} : sb f 0 g = g 0 0 := by
  induction f generalizing g with
  | zero => rfl
  | succ f ih => rw [sb, if_neg (by decide)]; exact ih
theorem G2_z {S : Nat → Nat} {k B C : Nat} (hB : hsb S k B = false) (hC : hsb S k C = false) : G2 S k 0 B C = 1 := by
  unfold G2
  rw [sb_z, Nat.or_zero, Nat.or_zero]
  unfold wv
  rw [hB, hC]; rfl
theorem H2_eq {S : Nat → Nat} {k n : Nat} (hn : n ≤ 10) : ∀ {d A B : Nat}, d ≤ n → hsb S k A = false → hsb S k B = false → H2 S k n d A B = G2 S k (2 ^ n - 2 ^ (n - d)) A B
  | 0, A, B, _, hA, hB => by
    rw [H2, Nat.sub_zero, Nat.sub_self, G2_z hA hB]
  | d + 1, A, B, hd, hA, hB => by
    obtain ⟨r1, r2⟩ := r_eq hn (show d < n by omega)
    rw [H2, r1, G2_split (by omega) r2]
    congr 1
    · split
      · rename_i hh; rw [G2_0 hh]
      · rename_i hh; exact H2_eq hn (by omega) (by simpa using hh) hB
    · split
      · rename_i hh; rw [G2_0' hh]
      · rename_i hh; exact H2_eq hn (by omega) hA (by simpa using hh)
def J3 (S : Nat → Nat) (k r A B C : Nat) : Nat := sb 10 r (fun x y => wv S k (A ||| x) * G2 S k y B C)
theorem J3_0 {S : Nat → Nat} {k r A B C : Nat} (h : hsb S k A = true ∨ hsb S k B = true ∨ hsb S k C = true) : J3 S k r A B C = 0 := by
  unfold J3
  rcases h with h | h | h
  · simp only [wv_or h, Nat.zero_mul]; exact sb_0
  · simp only [G2_0 h, Nat.mul_zero]; exact sb_0
  · simp only [G2_0' h, Nat.mul_zero]; exact sb_0
theorem and_bit {x r e : Nat} (h : x &&& r = x) (hr : r.testBit e = false) : x.testBit e = false := by
  rw [← h, Nat.testBit_and, hr, Bool.and_false]
theorem J3_split {S : Nat → Nat} {k r A B C e : Nat} (he : e < 10) (hr : r.testBit e = false) : J3 S k (r ||| 2 ^ e) A B C = J3 S k r (A ||| 2 ^ e) B C + J3 S k r A (B ||| 2 ^ e) C + J3 S k r A B (C ||| 2 ^ e) := by
  unfold J3
  have e1 : ∀ a x, a ||| (x ||| 2 ^ e) = a ||| 2 ^ e ||| x := fun a x => by rw [Nat.or_comm x, Nat.or_assoc]
  rw [sb_split he hr]
  simp only [e1]
  rw [sb_cong (g := fun x y => wv S k (A ||| x) * G2 S k (y ||| 2 ^ e) B C) (h := fun x y => wv S k (A ||| x) * G2 S k y (B ||| 2 ^ e) C + wv S k (A ||| x) * G2 S k y B (C ||| 2 ^ e)) (fun x y _ hy => by rw [G2_split he (and_bit hy hr), Nat.mul_add]), sb_add]
  omega
theorem H3_eq {S : Nat → Nat} {k n : Nat} (hn : n ≤ 10) : ∀ {d A B C : Nat}, d ≤ n → hsb S k A = false → hsb S k B = false → hsb S k C = false → H3 S k n d A B C = J3 S k (2 ^ n - 2 ^ (n - d)) A B C
  | 0, A, B, C, _, hA, hB, hC => by
    rw [H3, Nat.sub_zero, Nat.sub_self]
    unfold J3
    rw [sb_z, Nat.or_zero, G2_z hB hC]
    unfold wv
    rw [hA]; rfl
  | d + 1, A, B, C, hd, hA, hB, hC => by
    obtain ⟨r1, r2⟩ := r_eq hn (show d < n by omega)
    rw [H3, r1, J3_split (by omega) r2]
    congr 1
    · congr 1
      · split
        · rename_i hh; rw [J3_0 (Or.inl hh)]
        · rename_i hh; exact H3_eq hn (by omega) (by simpa using hh) hB hC
      · split
        · rename_i hh; rw [J3_0 (Or.inr (Or.inl hh))]
        · rename_i hh; exact H3_eq hn (by omega) hA (by simpa using hh) hC
    · split
      · rename_i hh; rw [J3_0 (Or.inr (Or.inr hh))]
      · rename_i hh; exact H3_eq hn (by omega) hA hB (by simpa using hh)
def J4 (S : Nat → Nat) (k r A B C D : Nat) : Nat := sb 10 r (fun x y => G2 S k x A B * G2 S k y C D)
theorem J4_0 {S : Nat → Nat} {k r A B C D : Nat} (h : hsb S k A = true ∨ hsb S k B = true ∨ hsb S k C = true ∨ hsb S k D = true) : J4 S k r A B C D = 0 := by
  unfold J4
  rcases h with h | h | h | h
  · simp only [G2_0 h, Nat.zero_mul]; exact sb_0
  · simp only [G2_0' h, Nat.zero_mul]; exact sb_0
  · simp only [G2_0 h, Nat.mul_zero]; exact sb_0
  · simp only [G2_0' h, Nat.mul_zero]; exact sb_0
theorem J4_split {S : Nat → Nat} {k r A B C D e : Nat} (he : e < 10) (hr : r.testBit e = false) : J4 S k (r ||| 2 ^ e) A B C D = J4 S k r (A ||| 2 ^ e) B C D + J4 S k r A (B ||| 2 ^ e) C D + J4 S k r A B (C ||| 2 ^ e) D + J4 S k r A B C (D ||| 2 ^ e) := by
  unfold J4
  rw [sb_split he hr]
  rw [sb_cong (g := fun x y => G2 S k x A B * G2 S k (y ||| 2 ^ e) C D) (h := fun x y => G2 S k x A B * G2 S k y (C ||| 2 ^ e) D + G2 S k x A B * G2 S k y C (D ||| 2 ^ e)) (fun x y _ hy => by rw [G2_split he (and_bit hy hr), Nat.mul_add]), sb_add]
  rw [sb_cong (g := fun x y => G2 S k (x ||| 2 ^ e) A B * G2 S k y C D) (h := fun x y => G2 S k x (A ||| 2 ^ e) B * G2 S k y C D + G2 S k x A (B ||| 2 ^ e) * G2 S k y C D) (fun x y hx _ => by rw [G2_split he (and_bit hx hr), Nat.add_mul]), sb_add]
  omega
theorem H4_eq {S : Nat → Nat} {k n : Nat} (hn : n ≤ 10) : ∀ {d A B C D : Nat}, d ≤ n → hsb S k A = false → hsb S k B = false → hsb S k C = false → hsb S k D = false → H4 S k n d A B C D = J4 S k (2 ^ n - 2 ^ (n - d)) A B C D
  | 0, A, B, C, D, _, hA, hB, hC, hD => by
    rw [H4, Nat.sub_zero, Nat.sub_self]
    unfold J4
    rw [sb_z, G2_z hA hB, G2_z hC hD]
  | d + 1, A, B, C, D, hd, hA, hB, hC, hD => by
    obtain ⟨r1, r2⟩ := r_eq hn (show d < n by omega)
    rw [H4, r1, J4_split (by omega) r2]
    congr 1
    · congr 1
      · congr 1
        · split
          · rename_i hh; rw [J4_0 (Or.inl hh)]
          · rename_i hh; exact H4_eq hn (by omega) (by simpa using hh) hB hC hD
        · split
          · rename_i hh; rw [J4_0 (Or.inr (Or.inl hh))]
          · rename_i hh; exact H4_eq hn (by omega) hA (by simpa using hh) hC hD
      · split
        · rename_i hh; rw [J4_0 (Or.inr (Or.inr (Or.inl hh)))]
        · rename_i hh; exact H4_eq hn (by omega) hA hB (by simpa using hh) hD
    · split
      · rename_i hh; rw [J4_0 (Or.inr (Or.inr (Or.inr hh)))]
      · rename_i hh; exact H4_eq hn (by omega) hA hB hC (by simpa using hh)
theorem H3_ab {S : Nat → Nat} {k n : Nat} : ∀ {d A B C : Nat}, H3 S k n d A B C = H3 S k n d B A C
  | 0, _, _, _ => rfl
  | d + 1, A, B, C => by
    rw [H3, H3, H3_ab (d := d) (A := A ||| 2 ^ (n - d - 1)), H3_ab (d := d) (A := A) (B := B ||| 2 ^ (n - d - 1)), H3_ab (d := d) (A := A) (B := B)]
    omega
theorem H3_bc {S : Nat → Nat} {k n : Nat} : ∀ {d A B C : Nat}, H3 S k n d A B C = H3 S k n d A C B
  | 0, _, _, _ => rfl
  | d + 1, A, B, C => by
    rw [H3, H3, H3_bc (d := d) (B := B ||| 2 ^ (n - d - 1)), H3_bc (d := d) (B := B) (C := C ||| 2 ^ (n - d - 1)), H3_bc (d := d) (B := B) (C := C)]
    omega
theorem H4_ab {S : Nat → Nat} {k n : Nat} : ∀ {d A B C D : Nat}, H4 S k n d A B C D = H4 S k n d B A C D
  | 0, _, _, _, _ => rfl
  | d + 1, A, B, C, D => by
    rw [H4, H4, H4_ab (d := d) (A := A ||| 2 ^ (n - d - 1)), H4_ab (d := d) (A := A) (B := B ||| 2 ^ (n - d - 1)), H4_ab (d := d) (A := A) (B := B) (C := C ||| 2 ^ (n - d - 1)), H4_ab (d := d) (A := A) (B := B) (D := D ||| 2 ^ (n - d - 1))]
    omega
theorem H4_bc {S : Nat → Nat} {k n : Nat} : ∀ {d A B C D : Nat}, H4 S k n d A B C D = H4 S k n d A C B D
  | 0, _, _, _, _ => rfl
  | d + 1, A, B, C, D => by
    rw [H4, H4, H4_bc (d := d) (A := A ||| 2 ^ (n - d - 1)), H4_bc (d := d) (B := B ||| 2 ^ (n - d - 1)), H4_bc (d := d) (B := B) (C := C ||| 2 ^ (n - d - 1)), H4_bc (d := d) (B := B) (C := C) (D := D ||| 2 ^ (n - d - 1))]
    omega
theorem H4_cd {S : Nat → Nat} {k n : Nat} : ∀ {d A B C D : Nat}, H4 S k n d A B C D = H4 S k n d A B D C
  | 0, _, _, _, _ => rfl
  | d + 1, A, B, C, D => by
    rw [H4, H4, H4_cd (d := d) (A := A ||| 2 ^ (n - d - 1)), H4_cd (d := d) (B := B ||| 2 ^ (n - d - 1)), H4_cd (d := d) (C := C ||| 2 ^ (n - d - 1)), H4_cd (d := d) (C := C) (D := D ||| 2 ^ (n - d - 1))]
    omega
/-- for any number of colours -/
def Hc (S : Nat → Nat) (k n c : Nat) : Nat → (Nat → Nat) → Nat
  | 0, _ => 1
  | d + 1, A => sm (fun j => if hsb S k (A j ||| 2 ^ (n - d - 1)) then 0 else Hc S k n c d (put A j (A j ||| 2 ^ (n - d - 1)))) c
theorem Hc_2 {S : Nat → Nat} {k n : Nat} : ∀ {d : Nat} {A : Nat → Nat}, Hc S k n 2 d A = H2 S k n d (A 0) (A 1)
  | 0, _ => rfl
  | d + 1, A => by
    rw [Hc, H2, sm, sm, sm, Nat.zero_add, Hc_2 (d := d), Hc_2 (d := d)]
    rfl
theorem Hc_3 {S : Nat → Nat} {k n : Nat} : ∀ {d : Nat} {A : Nat → Nat}, Hc S k n 3 d A = H3 S k n d (A 0) (A 1) (A 2)
  | 0, _ => rfl
  | d + 1, A => by
    rw [Hc, H3, sm, sm, sm, sm, Nat.zero_add, Hc_3 (d := d), Hc_3 (d := d), Hc_3 (d := d)]
    rfl
theorem Hc_4 {S : Nat → Nat} {k n : Nat} : ∀ {d : Nat} {A : Nat → Nat}, Hc S k n 4 d A = H4 S k n d (A 0) (A 1) (A 2) (A 3)
  | 0, _ => rfl
  | d + 1, A => by
    rw [Hc, H4, sm, sm, sm, sm, sm, Nat.zero_add, Hc_4 (d := d), Hc_4 (d := d), Hc_4 (d := d), Hc_4 (d := d)]
    rfl
theorem od_all : (List.range 11).all (fun n => n == 0 || (ct (fun i => (2 ^ n - 2).testBit i) 10 == n - 1 && (List.range (2 ^ (n - 1))).all (fun i => pdl 10 (2 ^ n - 2) i == 2 * i && (pcl 10 (2 ^ n - 2) i == (2 ^ n - 1) ^^^ (2 * i + 1) && 2 * i ||| 1 == 2 * i + 1)))) = true := by decide +kernel
theorem sm_cong {F G : Nat → Nat} : ∀ {n : Nat}, (∀ i, i < n → F i = G i) → sm F n = sm G n
  | 0, _ => rfl
  | n + 1, h => by rw [sm, sm, sm_cong (fun i hi => h i (by omega)), h n (by omega)]
theorem od_sum {n : Nat} (hn : n ≤ 10) (hn1 : 1 ≤ n) (g : Nat → Nat → Nat) : sm (fun i => g (2 * i + 1) ((2 ^ n - 1) ^^^ (2 * i + 1))) (2 ^ (n - 1)) = sb 10 (2 ^ n - 2) (fun x y => g (x ||| 2 ^ 0) y) := by
  have h := od_all
  rw [List.all_eq_true] at h
  have h := h n (List.mem_range.mpr (by omega))
  rw [Bool.or_eq_true, beq_iff_eq, Bool.and_eq_true, beq_iff_eq] at h
  rcases h with h | ⟨h1, h2⟩
  · omega
  · rw [← sm_sb, h1]
    refine sm_cong (fun i hi => ?_)
    rw [List.all_eq_true] at h2
    have h3 := h2 i (List.mem_range.mpr hi)
    rw [Bool.and_eq_true, beq_iff_eq, Bool.and_eq_true, beq_iff_eq, beq_iff_eq] at h3
    obtain ⟨q1, q2, q4⟩ := h3
    rw [q1, q2]
    show _ = g (2 * i ||| 1) _
    rw [q4]
set_option maxHeartbeats 1000000 in
/-- the class counts the ways -/
theorem c_ways {n k c : Nat} {S : Nat → Nat} {ins : Nat → Int32} (h : RowN n k S ins) (hn1 : 1 ≤ n) (hS1 : ∀ i, i < k → 1 ≤ S i) (hc2 : 2 ≤ c) (hc4 : c ≤ 4) : pX1_waysBy (nI (2 ^ n)) ins (nI c) = some (nI (Hc S k n c n (fun _ => 0))) := by
  have hn := h.1
  have hp := tI_p hn
  have hpp := tI_pp n
  have h0 : hsb S k 0 = false := by
    cases hh : hsb S k 0 with
    | false => rfl
    | true =>
      obtain ⟨i, hi, hs⟩ := exb_iff.mp hh
      rw [sub_iff, Nat.and_zero] at hs
      have := hS1 i hi
      omega
  have ea : nI (2 ^ n) - 1 = nI (2 ^ n - 1) := by rw [tI_1, pk_sub hpp]
  obtain ⟨m, rfl⟩ : ∃ m, n = m + 1 := ⟨n - 1, by omega⟩
  have hr : 2 ^ (m + 1) - 2 ^ (m + 1 - m) = 2 ^ (m + 1) - 2 := by rw [show m + 1 - m = 1 by omega]
  unfold pX1_waysBy
  rcases (show c = 2 ∨ c = 3 ∨ c = 4 by omega) with rfl | rfl | rfl
  · rw [if_pos (by rfl), ea, c_two h hS1 (by omega), Option.bind_some, Hc_2, H2_eq hn (Nat.le_refl _) h0 h0, Nat.sub_self]
  · rw [if_neg (by decide), c_loop h hn1 hS1, Option.bind_some, if_pos (by rfl)]
    show some (nI 3 * _) = _
    rw [pk_mul, Hc_3, od_sum hn hn1 (fun x y => fw S k (decide (nI 3 = 3)) x * G2 S k y 0 0)]
    have e1 : sb 10 (2 ^ (m + 1) - 2) (fun x y => fw S k (decide (nI 3 = 3)) (x ||| 2 ^ 0) * G2 S k y 0 0) = J3 S k (2 ^ (m + 1) - 2) (0 ||| 2 ^ 0) 0 0 := by
      unfold J3
      have e2 : decide (nI 3 = 3) = true := by decide
      rw [e2]
      simp only [fw, if_true, Nat.zero_or, Nat.or_comm]
    rw [e1, H3, show m + 1 - m - 1 = 0 by omega]
    congr 2
    cases hh : hsb S k (0 ||| 2 ^ 0) with
    | true => rw [J3_0 (Or.inl hh)]; simp
    | false =>
      rw [← hr, ← H3_eq hn (by omega) hh h0 h0]
      simp only [Bool.false_eq_true, if_false]
      rw [H3_ab (A := 0) (B := 0 ||| 2 ^ 0), H3_bc (A := 0) (B := 0) (C := 0 ||| 2 ^ 0), H3_ab (A := 0) (B := 0 ||| 2 ^ 0)]
      omega
  · rw [if_neg (by decide), c_loop h hn1 hS1, Option.bind_some, if_neg (by decide)]
    show some (nI 2 * _) = _
    rw [pk_mul, Hc_4, od_sum hn hn1 (fun x y => fw S k (decide (nI 4 = 3)) x * G2 S k y 0 0)]
    have hb : (2 ^ (m + 1) - 2).testBit 0 = false := by
      rw [Nat.testBit_zero, Nat.pow_succ]
      exact decide_eq_false (by omega)
    have e1 : sb 10 (2 ^ (m + 1) - 2) (fun x y => fw S k (decide (nI 4 = 3)) (x ||| 2 ^ 0) * G2 S k y 0 0) = J4 S k (2 ^ (m + 1) - 2) (0 ||| 2 ^ 0) 0 0 0 + J4 S k (2 ^ (m + 1) - 2) 0 (0 ||| 2 ^ 0) 0 0 := by
      unfold J4
      rw [← sb_add]
      refine sb_cong (fun x y hx _ => ?_)
      have e2 : decide (nI 4 = 3) = false := by decide
      rw [e2]
      show G2 S k (x ||| 2 ^ 0) 0 0 * _ = _
      rw [G2_split (by omega) (and_bit hx hb), Nat.add_mul]
    rw [e1, H4, show m + 1 - m - 1 = 0 by omega]
    congr 2
    cases hh : hsb S k (0 ||| 2 ^ 0) with
    | true => rw [J4_0 (Or.inl hh), J4_0 (Or.inr (Or.inl hh))]; simp
    | false =>
      rw [← hr, ← H4_eq hn (by omega) hh h0 h0 h0, ← H4_eq hn (by omega) h0 hh h0 h0]
      simp only [Bool.false_eq_true, if_false]
      rw [H4_ab (A := 0) (B := 0 ||| 2 ^ 0), H4_cd (A := 0) (B := 0) (C := 0) (D := 0 ||| 2 ^ 0), H4_bc (A := 0) (B := 0) (C := 0 ||| 2 ^ 0), H4_ab (A := 0) (B := 0 ||| 2 ^ 0)]
      omega
