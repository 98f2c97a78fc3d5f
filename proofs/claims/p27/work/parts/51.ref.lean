/-! shares: longs -/
def lI (x : Int) : Int64 := Int64.ofInt x
theorem lI_mul (a b : Int) : lI a * lI b = lI (a * b) := (Int64.ofInt_mul a b).symm
theorem lI_sub (a b : Int) : lI a - lI b = lI (a - b) := (Int64.ofInt_sub a b).symm
def big (x : Int) : Prop := -(2 ^ 62) < x ∧ x < 2 ^ 62
theorem lI_int {x : Int} (h : big x) : (lI x).toInt = x := Int64.toInt_ofInt_of_le (by unfold big at h; omega) (by unfold big at h; omega)
theorem lI_div {b q : Int} (hb : 0 < b) (hb2 : big b) (h : big (b * q)) : lI (b * q) / lI b = lI q := by
  apply Int64.toInt_inj.1
  rw [Int64.toInt_div, lI_int h, lI_int hb2, Int.mul_tdiv_cancel_left q (by omega)]
  unfold lI
  rw [Int64.toInt_ofInt]
theorem lI_0 : (0 : Int64) = lI 0 := rfl
theorem lI_lt0 {x : Int} (h : big x) : lI x < 0 ↔ x < 0 := by
  rw [Int64.lt_iff_toInt_lt, lI_int h]
  exact Iff.rfl
theorem lI_ge0 {x : Int} (h : big x) : (0 : Int64) ≤ lI x ↔ 0 ≤ x := by
  rw [Int64.le_iff_toInt_le, lI_int h]
  exact Iff.rfl
theorem lI_le0 {x : Int} (h : big x) : lI x ≤ 0 ↔ x ≤ 0 := by
  rw [Int64.le_iff_toInt_le, lI_int h]
  exact Iff.rfl
theorem lI_eq0 {x : Int} (h : big x) : lI x = 0 ↔ x = 0 := by
  rw [← Int64.toInt_inj, lI_int h]
  exact Iff.rfl
theorem lI_nat (a : Nat) : lI (a : Int) = lN a := rfl
/-! shares: what is laid -/
def Mx (S : Nat → Nat) (k : Nat) (C : Nat → Nat) : Nat → Nat → Int := fun j e => if j < 16 then (if j < k ∧ (S j).testBit e = true then 1 else 0) else if j < 26 then (if j = 16 + e then 1 else 0) else (C e : Int)
def obx (k : Nat) : Nat → Int := fun j => if j < k then 1 else 0
def b0x : Nat → Nat := fun s => 16 + s
theorem Mx_nn {S : Nat → Nat} {k : Nat} {C : Nat → Nat} (j e : Nat) : 0 ≤ Mx S k C j e := by
  unfold Mx
  split
  · split <;> omega
  · split
    · split <;> omega
    · omega
theorem Mx_u {S : Nat → Nat} {k : Nat} {C : Nat → Nat} {s e : Nat} (hs : s < 10) : Mx S k C (16 + s) e = idm s e := by
  unfold Mx idm
  rw [if_neg (by omega), if_pos (by omega)]
  by_cases h : e = s
  · rw [if_pos (by omega), if_pos h]
  · rw [if_neg (by omega), if_neg h]
theorem Dt_unit {n s : Nat} {v : Nat → Int} (hn : n ≤ 16) (hs : s < n) : Dt n (sv idm s v) = v s := by
  have h1 : Dt n (sv idm s v) = Dt n (sv idm s (fun e => si (fun x => v x * idm x e) n)) := sv_cong (fun e he => by
    rw [si_one he (fun x _ h => by unfold idm; rw [if_neg (fun q => h q.symm), Int.mul_zero])]
    unfold idm
    rw [if_pos rfl, Int.mul_one])
  rw [h1, Dt_sum hs, si_one hs (fun x hx h => by
    rw [Dt_eq' hn hs hx (fun q => h q.symm) (fun e _ => by rw [sv_s, sv_n h]), Int.mul_zero])]
  have : sv idm s (idm s) = idm := sv_own
  rw [this, Dt_id hn, Int.mul_one]
section
variable {S : Nat → Nat} {k n : Nat} {C : Nat → Nat}
theorem by_0 (hn : n ≤ 10) : byD n (Mx S k C) b0x = 1 := by
  unfold byD
  rw [← Dt_id (show n ≤ 16 by omega)]
  exact Dt_cong (fun i hi e _ => Mx_u (by omega))
theorem TT_0 {s j : Nat} (hn : n ≤ 10) (hs : s < n) : TT n (Mx S k C) b0x s j = Mx S k C j s := by
  unfold TT
  rw [← Dt_unit (v := Mx S k C j) (show n ≤ 16 by omega) hs]
  refine Dt_cong (fun i hi e _ => ?_)
  unfold sv
  by_cases c : i = s
  · rw [if_pos c, if_pos c]
  · rw [if_neg c, if_neg c]
    exact Mx_u (by omega)
theorem good_0 (hn : n ≤ 10) : GoodB n (Mx S k C) b0x := by
  refine ⟨⟨by rw [by_0 hn]; omega, fun j e he => ?_, fun s hs => by rw [TT_0 hn hs]; exact Mx_nn _ _⟩, fun s hs => by unfold b0x; omega⟩
  rw [by_0 hn, Int.one_mul, si_one he (fun s hs h => by
    show _ * Mx S k C (16 + s) e = 0
    rw [Mx_u (by omega)]
    unfold idm
    rw [if_neg (fun q => h q.symm), Int.mul_zero]), TT_0 hn he]
  show _ = _ * Mx S k C (16 + e) e
  rw [Mx_u (by omega)]
  unfold idm
  rw [if_pos rfl, Int.mul_one]
theorem zr_0 {j : Nat} (hn : n ≤ 10) (hk : k ≤ 16) : zr n (Mx S k C) (obx k) b0x j = - obx k j := by
  unfold zr
  rw [si_z (fun s hs => by
    have : obx k (b0x s) = 0 := if_neg (by unfold b0x; omega)
    rw [this, Int.zero_mul]), by_0 hn]
  omega
theorem col_x (hn1 : 1 ≤ n) (hn : n ≤ 10) (hk : k ≤ 16) (hS : ∀ i, i < k → 1 ≤ S i ∧ S i < 2 ^ n) : ColB n (Mx S k C) (obx k) := by
  refine ⟨Mx_nn, fun c hc => ?_⟩
  by_cases h1 : c < k
  · left
    rcases Classical.em (∃ e, e < n ∧ (S c).testBit e = true) with ⟨e, he, hb⟩ | q
    · refine ⟨e, he, ?_⟩
      unfold Mx
      rw [if_pos (by omega), if_pos ⟨h1, hb⟩]; omega
    · exfalso
      have : S c = 0 := by
        apply Nat.eq_of_testBit_eq
        intro e
        rw [Nat.zero_testBit]
        rcases Nat.lt_or_ge e n with z | z
        · cases hb : (S c).testBit e with
          | false => rfl
          | true => exact absurd ⟨e, z, hb⟩ q
        · exact Nat.testBit_lt_two_pow (Nat.lt_of_lt_of_le (hS c h1).2 (Nat.pow_le_pow_right (by omega) z))
      have := (hS c h1).1
      omega
  · by_cases h2 : c < 16
    · right
      refine ⟨fun e _ => ?_, if_neg h1⟩
      unfold Mx
      rw [if_pos h2, if_neg (fun q => h1 q.1)]
    · by_cases h3 : c - 16 < n
      · left
        refine ⟨c - 16, h3, ?_⟩
        unfold Mx
        rw [if_neg h2, if_pos hc, if_pos (by omega)]; omega
      · right
        refine ⟨fun e he => ?_, if_neg h1⟩
        unfold Mx
        rw [if_neg h2, if_pos hc, if_neg (by omega)]
theorem Mx_abs {j e : Nat} (hj : j < 26) : (Mx S k C j e).natAbs ≤ 1 := by
  unfold Mx
  split
  · split <;> simp
  · split <;> simp
theorem Mx_abs20 {j e : Nat} (hC : ∀ e, C e ≤ 20) : (Mx S k C j e).natAbs ≤ 20 := by
  rcases Nat.lt_or_ge j 26 with q | q
  · have := Mx_abs (S := S) (k := k) (C := C) (e := e) q; omega
  · unfold Mx
    rw [if_neg (by omega), if_neg (by omega)]
    have := hC e
    omega
theorem pr_1 {A : Nat → Nat} : ∀ {m : Nat}, (∀ i, i < m → A i = 1) → pr A m = 1
  | 0, _ => rfl
  | m + 1, h => by rw [pr, pr_1 (fun i hi => h i (by omega)), h m (by omega)]
theorem pr_20 {A : Nat → Nat} {s : Nat} : ∀ {m : Nat}, (∀ i, i < m → i ≠ s → A i = 1) → A s ≤ 20 → pr A m ≤ 20
  | 0, _, _ => by rw [pr]; omega
  | m + 1, h, h2 => by
    rw [pr]
    by_cases c : m = s
    · subst c
      rw [pr_1 (fun i hi => h i (by omega) (by omega))]; omega
    · rw [h m (by omega) c, Nat.one_mul]
      exact pr_20 (fun i hi => h i (by omega)) h2
theorem by_abs {bs : Nat → Nat} (hn : n ≤ 10) (hb : ∀ s, s < n → bs s < 26) : (byD n (Mx S k C) bs).natAbs ≤ 3628800 := by
  have := Dt_abs (K := 1) hn (B := Bc (Mx S k C) bs) (A := fun _ => 1) (fun i hi e _ => Mx_abs (hb i hi)) (by rw [pr_1 (fun _ _ => rfl)]; exact Nat.le_refl 1)
  exact this
theorem TT_abs {bs : Nat → Nat} {s j : Nat} (hn : n ≤ 10) (hb : ∀ s, s < n → bs s < 26) (hj : j < 26) : (TT n (Mx S k C) bs s j).natAbs ≤ 3628800 := by
  have := Dt_abs (K := 1) hn (B := sv (Bc (Mx S k C) bs) s (Mx S k C j)) (A := fun _ => 1) (fun i hi e _ => by
    unfold sv
    by_cases c : i = s
    · rw [if_pos c]; exact Mx_abs hj
    · rw [if_neg c]; exact Mx_abs (hb i hi)) (by rw [pr_1 (fun _ _ => rfl)]; exact Nat.le_refl 1)
  exact this
theorem TT_abs20 {bs : Nat → Nat} {s j : Nat} (hn : n ≤ 10) (hb : ∀ s, s < n → bs s < 26) (hC : ∀ e, C e ≤ 20) : (TT n (Mx S k C) bs s j).natAbs ≤ 72576000 := by
  have := Dt_abs (K := 20) hn (B := sv (Bc (Mx S k C) bs) s (Mx S k C j)) (A := fun i => if i = s then 20 else 1) (fun i hi e _ => by
    unfold sv
    by_cases c : i = s
    · rw [if_pos c, if_pos c]; exact Mx_abs20 hC
    · rw [if_neg c, if_neg c]; exact Mx_abs (hb i hi)) (pr_20 (s := s) (fun i _ h => if_neg h) (by rw [if_pos rfl]; omega))
  exact this
theorem zr_abs {bs : Nat → Nat} {j : Nat} (hn : n ≤ 10) (hb : ∀ s, s < n → bs s < 26) (hC : ∀ e, C e ≤ 20) : (zr n (Mx S k C) (obx k) bs j).natAbs ≤ 800000000 := by
  unfold zr
  have h1 := si_abs (f := fun s => obx k (bs s) * TT n (Mx S k C) bs s j) (Z := 2 ^ n - 1) (x := 72576000) (n := n) (fun s hs => by
    rw [Nat.testBit_two_pow_sub_one, decide_eq_true hs, if_pos rfl, Int.natAbs_mul]
    have h1 := TT_abs20 (S := S) (k := k) (s := s) (j := j) hn hb hC
    have h2 : (obx k (bs s)).natAbs ≤ 1 := by unfold obx; split <;> simp
    have := Nat.mul_le_mul h2 h1
    omega)
  have h2 := ct_le (fun e => (2 ^ n - 1).testBit e) n
  have h3 : ct (fun e => (2 ^ n - 1).testBit e) n * 72576000 ≤ 10 * 72576000 := Nat.mul_le_mul_right _ (by omega)
  have h4 := by_abs (S := S) (k := k) (C := C) hn hb
  have h5 : (byD n (Mx S k C) bs * obx k j).natAbs ≤ 3628800 := by
    rw [Int.natAbs_mul]
    have h2 : (obx k j).natAbs ≤ 1 := by unfold obx; split <;> simp
    have := Nat.mul_le_mul h4 h2
    omega
  omega
end
theorem big_of {x : Int} {K : Nat} (h : x.natAbs ≤ K) (hK : K < 2 ^ 62) : big x := by
  unfold big
  omega
theorem big_mul {x y : Int} {K L : Nat} (h1 : x.natAbs ≤ K) (h2 : y.natAbs ≤ L) : (x * y).natAbs ≤ K * L := by
  rw [Int.natAbs_mul]; exact Nat.mul_le_mul h1 h2
