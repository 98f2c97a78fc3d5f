/-! ears: who holds an element; both sides take the least that one set alone holds -/
def hold (L : Nat) (R : Nat → Nat) (e i : Nat) : Bool := L.testBit i && (R i).testBit e
def hc (L : Nat) (R : Nat → Nat) (e k : Nat) : Nat := ct (hold L R e) k
def on (L : Nat) (R : Nat → Nat) : Nat → Nat
  | 0 => 0
  | i + 1 => if L.testBit i then on L R i ||| R i else on L R i
def ag (L : Nat) (R : Nat → Nat) : Nat → Nat
  | 0 => 0
  | i + 1 => if L.testBit i then ag L R i ||| (on L R i &&& R i) else ag L R i
theorem on_bit {L : Nat} {R : Nat → Nat} {e : Nat} : ∀ {k : Nat}, (on L R k).testBit e = decide (0 < hc L R e k)
  | 0 => by simp [on, hc, ct]
  | k + 1 => by
    have ih := on_bit (L := L) (R := R) (e := e) (k := k)
    unfold hc at *
    rw [on, ct]
    cases hL : L.testBit k with
    | false => simp [hold, hL, ih]
    | true =>
      rw [if_pos rfl, Nat.testBit_or, ih]
      cases hr : (R k).testBit e <;> simp [hold, hL, hr]
theorem ag_bit {L : Nat} {R : Nat → Nat} {e : Nat} : ∀ {k : Nat}, (ag L R k).testBit e = decide (1 < hc L R e k)
  | 0 => by simp [ag, hc, ct]
  | k + 1 => by
    have ih := ag_bit (L := L) (R := R) (e := e) (k := k)
    have io := on_bit (L := L) (R := R) (e := e) (k := k)
    unfold hc at *
    rw [ag, ct]
    cases hL : L.testBit k with
    | false => simp [hold, hL, ih]
    | true =>
      rw [if_pos rfl, Nat.testBit_or, Nat.testBit_and, ih, io]
      cases hr : (R k).testBit e
      · simp [hold, hL, hr]
      · simp [hold, hL, hr]
        omega
/-- the least bit -/
def lb (x : Nat) : Nat := (fst (fun i => x.testBit i) 10).elim 0 (fun e => 2 ^ e)
theorem lb_all : (List.range 1024).all (fun x => decide (nI x &&& -(nI x) = nI (lb x))) = true := by decide +kernel
theorem lb_eq {x : Nat} (h : x < 1024) : nI x &&& -(nI x) = nI (lb x) := co_dec (P := fun x => nI x &&& -(nI x) = nI (lb x)) lb_all h
theorem on_lt {L : Nat} {R : Nat → Nat} {k : Nat} (h : ∀ i, i < k → R i < 1024) : on L R k < 1024 := by
  induction k with
  | zero => show 0 < 1024; omega
  | succ k ih =>
    have i1 := ih (fun i hi => h i (by omega))
    rw [on]
    split
    · exact or_lt (n := 10) i1 (h k (by omega))
    · exact i1
theorem ag_lt {L : Nat} {R : Nat → Nat} {k : Nat} (h : ∀ i, i < k → R i < 1024) : ag L R k < 1024 := by
  induction k with
  | zero => show 0 < 1024; omega
  | succ k ih =>
    have i1 := ih (fun i hi => h i (by omega))
    rw [ag]
    split
    · exact or_lt (n := 10) i1 (Nat.lt_of_le_of_lt Nat.and_le_right (h k (by omega)))
    · exact i1
theorem cel1 {L k : Nat} {R : Nat → Nat} {rest : Nat → Int32} (hk : k ≤ 16) (hL : L < 65536) (hR : ∀ i, i < k → rest i = nI (R i)) : lp (pX2_elementGoes_L6 (nI k) (nI L) rest) (0, 0, 0) = some (nI (on L R k), nI (ag L R k)) := by
  refine lp_det (step := pX2_elementGoes_L6 (nI k) (nI L) rest) (fun i => (nI (on L R i), nI (ag L R i), nI i)) _ k (fun i hi => ?_) ?_
  · unfold pX2_elementGoes_L6
    dsimp only
    rw [if_neg (nI_ge hi (by omega)), has_eq (by omega) (by omega), Option.bind_some, if_bI, on, ag, nI_1]
    cases L.testBit i with
    | false => simp
    | true => simp [gd_t (vp_in_nI (show i < 16 by omega) (by omega)), nI_clamp (show i < 2 ^ 31 by omega), hR i hi, tI_and, tI_or]
  · unfold pX2_elementGoes_L6
    dsimp only
    rw [if_pos (nI_le (Nat.le_refl k) (by omega))]
