/-! determinants by products of columns; a product of columns is a function on sets of rows (bits) -/
def si (f : Nat → Int) : Nat → Int
  | 0 => 0
  | n + 1 => si f n + f n
theorem si_cong {f g : Nat → Int} : ∀ {n : Nat}, (∀ i, i < n → f i = g i) → si f n = si g n
  | 0, _ => rfl
  | n + 1, h => by rw [si, si, si_cong (fun i hi => h i (by omega)), h n (by omega)]
theorem si_add {f g : Nat → Int} : ∀ {n : Nat}, si (fun i => f i + g i) n = si f n + si g n
  | 0 => rfl
  | n + 1 => by rw [si, si, si, si_add (n := n)]; omega
theorem si_mul {f : Nat → Int} {c : Int} : ∀ {n : Nat}, si (fun i => c * f i) n = c * si f n
  | 0 => by simp [si]
  | n + 1 => by rw [si, si, si_mul (n := n), Int.mul_add]
theorem si_0 : ∀ {n : Nat}, si (fun _ => 0) n = 0
  | 0 => rfl
  | n + 1 => by rw [si, si_0 (n := n)]; rfl
theorem si_z {f : Nat → Int} {n : Nat} (h : ∀ i, i < n → f i = 0) : si f n = 0 := by rw [si_cong h]; exact si_0
theorem si_neg {f : Nat → Int} {n : Nat} : si (fun i => - f i) n = - si f n := by
  have := si_mul (f := f) (c := -1) (n := n)
  rw [si_cong (g := fun i => - f i) (fun i _ => by omega)] at this
  omega
theorem si_swap {a : Nat → Nat → Int} {m : Nat} : ∀ {n : Nat}, si (fun e => si (fun f => a e f) m) n = si (fun f => si (fun e => a e f) n) m
  | 0 => (si_z (f := fun f => si (fun e => a e f) 0) (n := m) (fun i _ => rfl)).symm
  | n + 1 => by
    rw [si, si_swap (n := n)]
    show _ = si (fun f => si (fun e => a e f) n + a n f) m
    rw [si_add]
/-- one term alone -/
theorem si_one {f : Nat → Int} {j : Nat} : ∀ {n : Nat}, j < n → (∀ i, i < n → i ≠ j → f i = 0) → si f n = f j
  | 0, h, _ => absurd h (Nat.not_lt_zero j)
  | n + 1, h, hz => by
    rw [si]
    by_cases c : j = n
    · subst c
      rw [si_z (fun i hi => hz i (by omega) (by omega))]; omega
    · rw [si_one (j := j) (n := n) (by omega) (fun i hi hne => hz i (by omega) hne), hz n (by omega) (fun q => c q.symm)]; omega
/-- two terms alone -/
theorem si_two {f : Nat → Int} {j k n : Nat} (hj : j < n) (hk : k < n) (hjk : j ≠ k) (hz : ∀ i, i < n → i ≠ j → i ≠ k → f i = 0) : si f n = f j + f k := by
  have e : si f n = si (fun i => (if i = j then f i else 0) + (if i = k then f i else 0)) n := si_cong (fun i hi => by
    by_cases c : i = j
    · subst c; rw [if_pos rfl, if_neg hjk]; omega
    · by_cases c2 : i = k
      · subst c2; rw [if_neg c, if_pos rfl]; omega
      · rw [if_neg c, if_neg c2, hz i hi c c2]; omega)
  rw [e, si_add, si_one hj (fun i _ h => if_neg h), si_one hk (fun i _ h => if_neg h), if_pos rfl, if_pos rfl]
def abv (Z e : Nat) : Nat := ct (fun i => Z.testBit i && decide (e < i)) 16
def sgZ (Z e : Nat) : Int := if abv Z e % 2 = 0 then 1 else -1
theorem abv_up {Z e f : Nat} (hf : f < 16) (hef : e < f) (hZ : Z.testBit f = true) : abv Z e = abv (Z ^^^ 2 ^ f) e + 1 := by
  unfold abv
  refine ct_one hf (fun j hj => ?_) ?_ ?_
  · rw [xor_bit, decide_eq_false (show ¬ f = j from fun q => hj q.symm)]; cases Z.testBit j <;> rfl
  · rw [xor_bit, hZ, decide_eq_true rfl]; rfl
  · rw [hZ, decide_eq_true hef]; rfl
theorem abv_same {Z e f : Nat} (hef : f ≤ e) : abv (Z ^^^ 2 ^ f) e = abv Z e := by
  unfold abv
  refine ct_cong (fun j _ => ?_)
  by_cases c : e < j
  · rw [xor_bit, decide_eq_false (show ¬ f = j by omega)]; cases Z.testBit j <;> rfl
  · rw [decide_eq_false c, Bool.and_false, Bool.and_false]
theorem sg_flip {Z e f : Nat} (hf : f < 16) (hef : e < f) (hZ : Z.testBit f = true) : sgZ (Z ^^^ 2 ^ f) e = - sgZ Z e := by
  unfold sgZ
  rw [abv_up hf hef hZ]
  by_cases c : abv (Z ^^^ 2 ^ f) e % 2 = 0
  · rw [if_pos c, if_neg (by omega)]; rfl
  · rw [if_neg c, if_pos (by omega)]
theorem sg_same {Z e f : Nat} (hef : f ≤ e) : sgZ (Z ^^^ 2 ^ f) e = sgZ Z e := by unfold sgZ; rw [abv_same hef]
def El (e : Nat) (φ : Nat → Int) : Nat → Int := fun Z => if Z.testBit e then sgZ Z e * φ (Z ^^^ 2 ^ e) else 0
theorem El_El {e f : Nat} (he : e < 16) (hf : f < 16) (φ : Nat → Int) (Z : Nat) : El e (El f φ) Z = - El f (El e φ) Z := by
  unfold El
  have key : ∀ {e f : Nat}, e < 16 → f < 16 → e < f → (if Z.testBit e then sgZ Z e * (if (Z ^^^ 2 ^ e).testBit f then sgZ (Z ^^^ 2 ^ e) f * φ (Z ^^^ 2 ^ e ^^^ 2 ^ f) else 0) else 0) = - (if Z.testBit f then sgZ Z f * (if (Z ^^^ 2 ^ f).testBit e then sgZ (Z ^^^ 2 ^ f) e * φ (Z ^^^ 2 ^ f ^^^ 2 ^ e) else 0) else 0) := by
    intro e f he hf hef
    have b1 : (Z ^^^ 2 ^ e).testBit f = Z.testBit f := by rw [xor_bit, decide_eq_false (show ¬ e = f by omega)]; cases Z.testBit f <;> rfl
    have b2 : (Z ^^^ 2 ^ f).testBit e = Z.testBit e := by rw [xor_bit, decide_eq_false (show ¬ f = e by omega)]; cases Z.testBit e <;> rfl
    rw [b1, b2]
    cases h1 : Z.testBit e with
    | false => cases Z.testBit f <;> simp
    | true =>
      cases h2 : Z.testBit f with
      | false => simp
      | true =>
        rw [if_pos rfl, if_pos rfl, if_pos rfl, if_pos rfl, sg_same (show e ≤ f by omega), sg_flip hf hef h2, show Z ^^^ 2 ^ f ^^^ 2 ^ e = Z ^^^ 2 ^ e ^^^ 2 ^ f by rw [Nat.xor_assoc, Nat.xor_comm (2 ^ f), ← Nat.xor_assoc]]
        generalize φ (Z ^^^ 2 ^ e ^^^ 2 ^ f) = x
        generalize sgZ Z e = u
        generalize sgZ Z f = v
        rw [Int.neg_mul, Int.mul_neg, Int.neg_neg, Int.mul_left_comm]
  rcases Nat.lt_trichotomy e f with c | c | c
  · exact key he hf c
  · subst c
    have b : (Z ^^^ 2 ^ e).testBit e = !Z.testBit e := by rw [xor_bit, decide_eq_true rfl]; cases Z.testBit e <;> rfl
    rw [b]
    cases Z.testBit e <;> simp
  · rw [key hf he c]; omega
def Ev (n : Nat) (v : Nat → Int) (φ : Nat → Int) : Nat → Int := fun Z => si (fun e => v e * El e φ Z) n
theorem El_si {e n : Nat} {w : Nat → Int} {ψ : Nat → Nat → Int} {Z : Nat} : El e (fun Y => si (fun f => w f * ψ f Y) n) Z = si (fun f => w f * El e (ψ f) Z) n := by
  unfold El
  cases Z.testBit e with
  | false => simp [si_0]
  | true =>
    rw [if_pos rfl, ← si_mul]
    refine si_cong (fun f _ => ?_)
    rw [if_pos rfl, Int.mul_left_comm]
theorem Ev_Ev {n : Nat} (hn : n ≤ 16) {v w φ : Nat → Int} {Z : Nat} : Ev n v (Ev n w φ) Z = - Ev n w (Ev n v φ) Z := by
  have h : ∀ v w : Nat → Int, Ev n v (Ev n w φ) Z = si (fun e => si (fun f => v e * (w f * El e (El f φ) Z)) n) n := by
    intro v w
    show si (fun e => v e * El e (fun Y => si (fun f => w f * El f φ Y) n) Z) n = _
    refine si_cong (fun e _ => ?_)
    rw [El_si, si_mul]
  rw [h v w, h w v, si_swap, ← si_neg]
  refine si_cong (fun f hf => ?_)
  rw [← si_neg]
  refine si_cong (fun e he => ?_)
  rw [El_El (show e < 16 by omega) (show f < 16 by omega), Int.mul_neg, Int.mul_neg, Int.mul_left_comm]
theorem Ev_self {n : Nat} (hn : n ≤ 16) {v φ : Nat → Int} {Z : Nat} : Ev n v (Ev n v φ) Z = 0 := by
  have := Ev_Ev hn (v := v) (w := v) (φ := φ) (Z := Z)
  omega
theorem Ev_0 {n : Nat} {v φ : Nat → Int} {Z : Nat} (h : ∀ Y, φ Y = 0) : Ev n v φ Z = 0 := by
  refine si_z (fun e _ => ?_)
  unfold El
  rw [h]; simp
def Wg (n : Nat) (B : Nat → Nat → Int) : Nat → (Nat → Int)
  | 0 => fun Z => if Z = 0 then 1 else 0
  | i + 1 => Ev n (B i) (Wg n B i)
def Dt (n : Nat) (B : Nat → Nat → Int) : Int := Wg n B n (2 ^ n - 1)
theorem Ev_cong {n : Nat} {v w φ : Nat → Int} (h : ∀ e, e < n → v e = w e) : Ev n v φ = Ev n w φ := by
  funext Z
  exact si_cong (fun e he => by rw [h e he])
theorem Wg_cong {n : Nat} {B C : Nat → Nat → Int} : ∀ {m : Nat}, (∀ i, i < m → ∀ e, e < n → B i e = C i e) → Wg n B m = Wg n C m
  | 0, _ => rfl
  | m + 1, h => by rw [Wg, Wg, Wg_cong (fun i hi => h i (by omega)), Ev_cong (h m (by omega))]
theorem Dt_cong {n : Nat} {B C : Nat → Nat → Int} (h : ∀ i, i < n → ∀ e, e < n → B i e = C i e) : Dt n B = Dt n C := by unfold Dt; rw [Wg_cong h]
def sv (B : Nat → Nat → Int) (i : Nat) (v : Nat → Int) : Nat → Nat → Int := fun j => if j = i then v else B j
theorem sv_s {B : Nat → Nat → Int} {i : Nat} {v : Nat → Int} : sv B i v i = v := if_pos rfl
theorem sv_n {B : Nat → Nat → Int} {i j : Nat} {v : Nat → Int} (h : j ≠ i) : sv B i v j = B j := if_neg h
theorem El_lin {e : Nat} {φ ψ : Nat → Int} {a b : Int} {Z : Nat} : El e (fun Y => a * φ Y + b * ψ Y) Z = a * El e φ Z + b * El e ψ Z := by
  unfold El
  cases Z.testBit e with
  | false => simp
  | true => rw [if_pos rfl, if_pos rfl, if_pos rfl, Int.mul_add, Int.mul_left_comm, Int.mul_left_comm (sgZ Z e) b]
theorem Ev_lin {n : Nat} {v φ ψ : Nat → Int} {a b : Int} {Z : Nat} : Ev n v (fun Y => a * φ Y + b * ψ Y) Z = a * Ev n v φ Z + b * Ev n v ψ Z := by
  unfold Ev
  rw [← si_mul, ← si_mul, ← si_add]
  refine si_cong (fun e _ => ?_)
  rw [El_lin, Int.mul_add, Int.mul_left_comm, Int.mul_left_comm (v e) b]
theorem Ev_lin2 {n : Nat} {v w φ : Nat → Int} {a b : Int} {Z : Nat} : Ev n (fun e => a * v e + b * w e) φ Z = a * Ev n v φ Z + b * Ev n w φ Z := by
  unfold Ev
  rw [← si_mul, ← si_mul, ← si_add]
  refine si_cong (fun e _ => ?_)
  rw [Int.add_mul, Int.mul_assoc, Int.mul_assoc]
theorem Wg_lin {n : Nat} {B : Nat → Nat → Int} {i : Nat} {v w : Nat → Int} {a b : Int} : ∀ {m : Nat}, i < m → ∀ Z, Wg n (sv B i (fun e => a * v e + b * w e)) m Z = a * Wg n (sv B i v) m Z + b * Wg n (sv B i w) m Z
  | 0, h, _ => absurd h (Nat.not_lt_zero i)
  | m + 1, h, Z => by
    rw [Wg, Wg, Wg]
    by_cases c : m = i
    · subst c
      have hc : ∀ u, Wg n (sv B m u) m = Wg n B m := fun u => Wg_cong (fun j hj e _ => by rw [sv_n (by omega)])
      rw [sv_s, sv_s, sv_s, hc, hc, hc, Ev_lin2]
    · have ih := funext (Wg_lin (n := n) (B := B) (i := i) (v := v) (w := w) (a := a) (b := b) (m := m) (by omega))
      rw [ih, sv_n c, sv_n c, sv_n c, Ev_lin]
theorem Dt_lin {n : Nat} {B : Nat → Nat → Int} {i : Nat} {v w : Nat → Int} {a b : Int} (hi : i < n) : Dt n (sv B i (fun e => a * v e + b * w e)) = a * Dt n (sv B i v) + b * Dt n (sv B i w) := Wg_lin hi _
theorem Dt_zero {n : Nat} {B : Nat → Nat → Int} {i : Nat} (hi : i < n) : Dt n (sv B i (fun _ => 0)) = 0 := by
  have := Dt_lin (n := n) (B := B) (i := i) (v := fun _ => 0) (w := fun _ => 0) (a := 0) (b := 0) hi
  have e : (fun e => (0 : Int) * (fun _ : Nat => (0 : Int)) e + 0 * (fun _ : Nat => (0 : Int)) e) = fun _ : Nat => (0 : Int) := by funext e; simp
  rw [e] at this
  omega
theorem Dt_sum {n : Nat} {B : Nat → Nat → Int} {i : Nat} {a : Nat → Int} {v : Nat → Nat → Int} (hi : i < n) : ∀ {m : Nat}, Dt n (sv B i (fun e => si (fun s => a s * v s e) m)) = si (fun s => a s * Dt n (sv B i (v s))) m
  | 0 => by
    show Dt n (sv B i (fun _ => 0)) = 0
    exact Dt_zero hi
  | m + 1 => by
    rw [si, ← Dt_sum (m := m) hi]
    have := Dt_lin (n := n) (B := B) (i := i) (v := fun e => si (fun s => a s * v s e) m) (w := v m) (a := 1) (b := a m) hi
    rw [Int.one_mul] at this
    rw [← this]
    congr 2
    funext e
    rw [si, Int.one_mul]
theorem Wg_eq0 {n : Nat} (hn : n ≤ 16) {B : Nat → Nat → Int} {i : Nat} {v : Nat → Int} (hv : ∀ e, e < n → B i e = v e) : ∀ {m : Nat}, i < m → ∀ Z, Ev n v (Wg n B m) Z = 0
  | 0, h, _ => absurd h (Nat.not_lt_zero i)
  | m + 1, h, Z => by
    rw [Wg]
    by_cases c : m = i
    · subst c
      rw [Ev_cong hv]
      exact Ev_self hn
    · rw [Ev_Ev hn, Ev_0 (fun Y => Wg_eq0 hn hv (by omega) Y)]; rfl
theorem Dt_eq {n : Nat} (hn : n ≤ 16) {B : Nat → Nat → Int} {i j : Nat} (hij : i < j) (hj : j < n) (h : ∀ e, e < n → B i e = B j e) : Dt n B = 0 := by
  have key : ∀ m, j < m → ∀ Z, Wg n B m Z = 0 := by
    intro m
    induction m with
    | zero => intro h2; omega
    | succ m ih =>
      intro h2 Z
      rw [Wg]
      by_cases c : m = j
      · subst c
        exact Wg_eq0 hn h (by omega) Z
      · exact Ev_0 (ih (by omega))
  exact key n hj _
theorem Dt_eq' {n : Nat} (hn : n ≤ 16) {B : Nat → Nat → Int} {i j : Nat} (hi : i < n) (hj : j < n) (hne : i ≠ j) (h : ∀ e, e < n → B i e = B j e) : Dt n B = 0 := by
  rcases Nat.lt_or_gt_of_ne hne with c | c
  · exact Dt_eq hn c hj h
  · exact Dt_eq hn c hi (fun e he => (h e he).symm)
theorem sv_comm {B : Nat → Nat → Int} {i j : Nat} {v w : Nat → Int} (h : i ≠ j) : sv (sv B i v) j w = sv (sv B j w) i v := by
  funext x
  unfold sv
  by_cases c : x = j
  · subst c; rw [if_pos rfl, if_neg (fun q => h q.symm), if_pos rfl]
  · by_cases c2 : x = i
    · subst c2; rw [if_neg c, if_pos rfl, if_pos rfl]
    · rw [if_neg c, if_neg c2, if_neg c2, if_neg c]
theorem Dt_swap {n : Nat} (hn : n ≤ 16) {B : Nat → Nat → Int} {i j : Nat} {v w : Nat → Int} (hi : i < n) (hj : j < n) (hne : i ≠ j) : Dt n (sv (sv B i v) j w) = - Dt n (sv (sv B i w) j v) := by
  have h0 : ∀ u : Nat → Int, Dt n (sv (sv B i u) j u) = 0 := fun u => Dt_eq' hn hi hj hne (fun e _ => by rw [sv_n hne, sv_s, sv_s])
  have hl : ∀ u : Nat → Int, Dt n (sv (sv B i (fun e => 1 * v e + 1 * w e)) j u) = Dt n (sv (sv B i v) j u) + Dt n (sv (sv B i w) j u) := by
    intro u
    rw [sv_comm hne, Dt_lin hi, ← sv_comm hne, ← sv_comm hne]; omega
  have h1 := h0 (fun e => 1 * v e + 1 * w e)
  rw [Dt_lin hj, hl, hl, h0 v, h0 w] at h1
  omega
def idm : Nat → Nat → Int := fun i e => if e = i then 1 else 0
theorem abv_top {i : Nat} (hi : i < 16) : abv (2 ^ (i + 1) - 1) i = 0 := by
  unfold abv
  rw [ct_0]
  cases hx : exb (fun j => (2 ^ (i + 1) - 1).testBit j && decide (i < j)) 16 with
  | false => rfl
  | true =>
    obtain ⟨j, _, hh⟩ := exb_iff.mp hx
    rw [Nat.testBit_two_pow_sub_one, Bool.and_eq_true, decide_eq_true_eq, decide_eq_true_eq] at hh
    omega
theorem xor_top {i Z : Nat} (h : Z.testBit i = true) : Z ^^^ 2 ^ i = 2 ^ i - 1 ↔ Z = 2 ^ (i + 1) - 1 := by
  constructor
  · intro q
    apply Nat.eq_of_testBit_eq
    intro j
    have := congrArg (fun z => z.testBit j) q
    simp only [xor_bit, Nat.testBit_two_pow_sub_one] at this
    rw [Nat.testBit_two_pow_sub_one]
    by_cases c : i = j
    · subst c; rw [h, decide_eq_true (by omega)]
    · rw [decide_eq_false c] at this
      have e : Z.testBit j = decide (j < i) := by cases hz : Z.testBit j <;> simp [hz] at this ⊢ <;> omega
      rw [e]
      by_cases c2 : j < i
      · rw [decide_eq_true c2, decide_eq_true (by omega)]
      · rw [decide_eq_false c2, decide_eq_false (by omega)]
  · intro q
    subst q
    apply Nat.eq_of_testBit_eq
    intro j
    rw [xor_bit, Nat.testBit_two_pow_sub_one, Nat.testBit_two_pow_sub_one]
    by_cases c : i = j
    · subst c; rw [decide_eq_true rfl, decide_eq_true (by omega), decide_eq_false (by omega)]; rfl
    · rw [decide_eq_false c]
      by_cases c2 : j < i
      · rw [decide_eq_true c2, decide_eq_true (by omega)]; rfl
      · rw [decide_eq_false c2, decide_eq_false (by omega)]; rfl
theorem Wg_id {n : Nat} (hn : n ≤ 16) : ∀ {m : Nat}, m ≤ n → ∀ Z, Wg n idm m Z = if Z = 2 ^ m - 1 then 1 else 0
  | 0, _, Z => rfl
  | m + 1, h, Z => by
    rw [Wg]
    show si (fun e => idm m e * El e (Wg n idm m) Z) n = _
    rw [si_one (j := m) (by omega) (fun e _ hne => by unfold idm; rw [if_neg hne, Int.zero_mul])]
    have e1 : idm m m = 1 := if_pos rfl
    rw [e1, Int.one_mul]
    unfold El
    cases hz : Z.testBit m with
    | false =>
      rw [if_neg (by decide), if_neg]
      intro q
      rw [q, Nat.testBit_two_pow_sub_one, decide_eq_true (by omega)] at hz
      cases hz
    | true =>
      rw [if_pos rfl, Wg_id hn (m := m) (by omega)]
      by_cases c : Z = 2 ^ (m + 1) - 1
      · rw [if_pos ((xor_top hz).mpr c), if_pos c]
        unfold sgZ
        rw [c, abv_top (by omega)]; rfl
      · rw [if_neg (fun q => c ((xor_top hz).mp q)), if_neg c, Int.mul_zero]
theorem Dt_id {n : Nat} (hn : n ≤ 16) : Dt n idm = 1 := by unfold Dt; rw [Wg_id hn (Nat.le_refl n), if_pos rfl]
/-! how great it may be -/
def fac : Nat → Nat
  | 0 => 1
  | n + 1 => (n + 1) * fac n
theorem fac_1 : ∀ {n : Nat}, 1 ≤ fac n
  | 0 => Nat.le_refl 1
  | n + 1 => by
    have := fac_1 (n := n)
    rw [fac]
    exact Nat.le_trans this (Nat.le_mul_of_pos_left _ (by omega))
theorem fac_10 : ∀ {n : Nat}, n ≤ 10 → fac n ≤ 3628800 := by
  have h : (List.range 11).all (fun n => decide (fac n ≤ 3628800)) = true := by decide +kernel
  intro n hn
  exact co_dec (P := fun n => fac n ≤ 3628800) h (show n < 11 by omega)
theorem si_abs {f : Nat → Int} {Z x : Nat} : ∀ {n : Nat}, (∀ e, e < n → (f e).natAbs ≤ if Z.testBit e then x else 0) → (si f n).natAbs ≤ ct (fun e => Z.testBit e) n * x
  | 0, _ => by simp [si]
  | n + 1, h => by
    have ih := si_abs (f := f) (Z := Z) (x := x) (n := n) (fun e he => h e (by omega))
    have h2 := h n (by omega)
    have h3 := Int.natAbs_add_le (si f n) (f n)
    rw [si, ct]
    cases hb : Z.testBit n with
    | false =>
      rw [hb] at h2
      simp at h2 ⊢
      rw [h2] at h3 ⊢
      simpa using ih
    | true =>
      rw [hb, if_pos rfl] at h2
      rw [if_pos rfl, Nat.add_mul, Nat.one_mul]
      omega
theorem Ev_abs {n : Nat} (hn : n ≤ 16) {v φ : Nat → Int} {a b Z : Nat} (hv : ∀ e, e < n → (v e).natAbs ≤ a) (hφ : ∀ Y, (φ Y).natAbs ≤ b * fac (ct (fun e => Y.testBit e) n)) : (Ev n v φ Z).natAbs ≤ a * b * fac (ct (fun e => Z.testBit e) n) := by
  rcases Nat.eq_zero_or_pos (ct (fun e => Z.testBit e) n) with q | q
  · have hz : Ev n v φ Z = 0 := si_z (fun e he => by
      unfold El
      rw [ct_0] at q
      cases hb : Z.testBit e with
      | false => simp
      | true =>
        have : exb (fun e => Z.testBit e) n = true := exb_iff.mpr ⟨e, he, hb⟩
        rw [q] at this; cases this)
    rw [hz]; simp
  · obtain ⟨m, hm⟩ : ∃ m, ct (fun e => Z.testBit e) n = m + 1 := ⟨ct (fun e => Z.testBit e) n - 1, by omega⟩
    have := si_abs (f := fun e => v e * El e φ Z) (Z := Z) (x := a * (b * fac m)) (n := n) (fun e he => by
      rw [Int.natAbs_mul]
      unfold El
      cases hb : Z.testBit e with
      | false => simp
      | true =>
        rw [if_pos rfl, if_pos rfl, Int.natAbs_mul]
        have h1 : (sgZ Z e).natAbs = 1 := by unfold sgZ; split <;> rfl
        have h2 := hφ (Z ^^^ 2 ^ e)
        have h3 : ct (fun e => Z.testBit e) n = ct (fun j => (Z ^^^ 2 ^ e).testBit j) n + 1 := ct_one he (fun j hj => by rw [xor_bit, decide_eq_false (fun q => hj q.symm)]; cases Z.testBit j <;> rfl) (by rw [xor_bit, hb, decide_eq_true rfl]; rfl) hb
        rw [h1, Nat.one_mul, show m = ct (fun j => (Z ^^^ 2 ^ e).testBit j) n by omega]
        exact Nat.mul_le_mul (hv e he) h2)
    rw [hm] at this ⊢
    rw [fac]
    refine Nat.le_trans this ?_
    rw [Nat.mul_assoc a b, Nat.mul_left_comm, Nat.mul_left_comm (m + 1)]
    exact Nat.le_refl _
def pr (A : Nat → Nat) : Nat → Nat
  | 0 => 1
  | m + 1 => A m * pr A m
theorem Wg_abs {n : Nat} (hn : n ≤ 16) {B : Nat → Nat → Int} {A : Nat → Nat} : ∀ {m : Nat}, (∀ i, i < m → ∀ e, e < n → (B i e).natAbs ≤ A i) → ∀ Z, (Wg n B m Z).natAbs ≤ pr A m * fac (ct (fun e => Z.testBit e) n)
  | 0, _, Z => by
    rw [Wg, pr]
    have : 1 ≤ fac (ct (fun e => Z.testBit e) n) := fac_1
    show (if Z = 0 then (1 : Int) else 0).natAbs ≤ _
    split
    · simpa using this
    · simp
  | m + 1, h, Z => by
    rw [Wg, pr]
    exact Ev_abs hn (h m (by omega)) (Wg_abs hn (fun i hi => h i (by omega)))
theorem Dt_abs {n K : Nat} (hn : n ≤ 10) {B : Nat → Nat → Int} {A : Nat → Nat} (h : ∀ i, i < n → ∀ e, e < n → (B i e).natAbs ≤ A i) (hp : pr A n ≤ K) : (Dt n B).natAbs ≤ K * 3628800 := by
  have h1 := Wg_abs (show n ≤ 16 by omega) h (2 ^ n - 1)
  have h2 := ct_le (fun e => (2 ^ n - 1).testBit e) n
  have h3 : fac (ct (fun e => (2 ^ n - 1).testBit e) n) ≤ 3628800 := fac_10 (by omega)
  exact Nat.le_trans h1 (Nat.mul_le_mul hp h3)
