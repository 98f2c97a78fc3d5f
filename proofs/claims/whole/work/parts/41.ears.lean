/-! ears: who holds an element; both sides take the least that one set alone holds -/
def hold (L : Nat) (R : Nat → Nat) (e i : Nat) : Bool := L.testBit i && (R i).testBit e
def hc (L : Nat) (R : Nat → Nat) (e k : Nat) : Nat := ct (hold L R e) k
def on (L : Nat) (R : Nat → Nat) : Nat → Nat
  | 0 => 0
  | i + 1 => if L.testBit i then on L R i ||| R i else on L R i
def ag (L : Nat) (R : Nat → Nat) : Nat → Nat
  | 0 => 0
  | i + 1 => if L.testBit i then ag L R i ||| (on L R i &&& R i) else ag L R i
theorem on_bit {L : Nat} {R : Nat → Nat} {e : Nat} : ∀ {k : Nat}, (on L R k).testBit e = decide (0 < hc L R e k)
  | 0 => by simp [on, hc, ct]
  | k + 1 => by
    have ih := on_bit (L := L) (R := R) (e := e) (k := k)
    unfold hc at *
    rw [on, ct]
    cases hL : L.testBit k with
    | false => simp [hold, hL, ih]
    | true =>
      rw [if_pos rfl, Nat.testBit_or, ih]
      cases hr : (R k).testBit e <;> simp [hold, hL, hr]
theorem ag_bit {L : Nat} {R : Nat → Nat} {e : Nat} : ∀ {k : Nat}, (ag L R k).testBit e = decide (1 < hc L R e k)
  | 0 => by simp [ag, hc, ct]
  | k + 1 => by
    have ih := ag_bit (L := L) (R := R) (e := e) (k := k)
    have io := on_bit (L := L) (R := R) (e := e) (k := k)
    unfold hc at *
    rw [ag, ct]
    cases hL : L.testBit k with
    | false => simp [hold, hL, ih]
    | true =>
      rw [if_pos rfl, Nat.testBit_or, Nat.testBit_and, ih, io]
      cases hr : (R k).testBit e
      · simp [hold, hL, hr]
      · simp [hold, hL, hr]
        omega
/-- the least bit -/
def lb (x : Nat) : Nat := (fst (fun i => x.testBit i) 10).elim 0 (fun e => 2 ^ e)
theorem lb_all : (List.range 1024).all (fun x => decide (nI x &&& -(nI x) = nI (lb x))) = true := by decide +kernel
theorem lb_eq {x : Nat} (h : x < 1024) : nI x &&& -(nI x) = nI (lb x) := co_dec (P := fun x => nI x &&& -(nI x) = nI (lb x)) lb_all h
