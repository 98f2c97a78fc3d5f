/-! the table of whole numbers: every number of it is a determinant of what was laid -/
def Bc (M : Nat → Nat → Int) (bs : Nat → Nat) : Nat → Nat → Int := fun s => M (bs s)
def byD (n : Nat) (M : Nat → Nat → Int) (bs : Nat → Nat) : Int := Dt n (Bc M bs)
def TT (n : Nat) (M : Nat → Nat → Int) (bs : Nat → Nat) (s j : Nat) : Int := Dt n (sv (Bc M bs) s (M j))
def CI (n : Nat) (M : Nat → Nat → Int) (bs : Nat → Nat) : Prop := ∀ j e, e < n → byD n M bs * M j e = si (fun s => TT n M bs s j * M (bs s) e) n
theorem Bc_put {M : Nat → Nat → Int} {bs : Nat → Nat} {r c : Nat} : Bc M (put bs r c) = sv (Bc M bs) r (M c) := by
  funext s
  unfold Bc put sv
  by_cases h : s = r
  · rw [if_pos h, if_pos h]
  · rw [if_neg h, if_neg h]
theorem sv_own {B : Nat → Nat → Int} {i : Nat} : sv B i (B i) = B := by
  funext j
  unfold sv
  by_cases h : j = i
  · rw [if_pos h, h]
  · rw [if_neg h]
theorem sv_sv {B : Nat → Nat → Int} {i : Nat} {v w : Nat → Int} : sv (sv B i v) i w = sv B i w := by
  funext j
  unfold sv
  by_cases h : j = i
  · rw [if_pos h, if_pos h]
  · rw [if_neg h, if_neg h, if_neg h]
theorem by_put {n r c : Nat} {M : Nat → Nat → Int} {bs : Nat → Nat} : byD n M (put bs r c) = TT n M bs r c := by
  unfold byD TT; rw [Bc_put]
theorem TT_r {n r c j : Nat} {M : Nat → Nat → Int} {bs : Nat → Nat} : TT n M (put bs r c) r j = TT n M bs r j := by
  unfold TT; rw [Bc_put, sv_sv]
theorem TT_bs {n s s' : Nat} {M : Nat → Nat → Int} {bs : Nat → Nat} (hn : n ≤ 16) (hs : s < n) (hs' : s' < n) : TT n M bs s (bs s') = if s = s' then byD n M bs else 0 := by
  unfold TT byD
  by_cases h : s = s'
  · subst h
    rw [if_pos rfl]
    show Dt n (sv (Bc M bs) s (Bc M bs s)) = _
    rw [sv_own]
  · rw [if_neg h]
    exact Dt_eq' hn hs hs' h (fun e _ => by rw [sv_s, sv_n (fun q => h q.symm)]; rfl)
theorem Dt_mul {n i : Nat} {B : Nat → Nat → Int} {v : Nat → Int} {a : Int} (hi : i < n) : Dt n (sv B i (fun e => a * v e)) = a * Dt n (sv B i v) := by
  have := Dt_sum (n := n) (B := B) (i := i) (a := fun _ => a) (v := fun _ => v) hi (m := 1)
  have e1 : (fun e => si (fun s => (fun _ : Nat => a) s * (fun _ : Nat => v) s e) 1) = fun e => a * v e := by funext e; show 0 + a * v e = _; omega
  rw [e1] at this
  rw [this]
  show 0 + a * Dt n (sv B i v) = a * Dt n (sv B i v)
  omega
theorem sv_cong {n i : Nat} {B : Nat → Nat → Int} {v w : Nat → Int} (h : ∀ e, e < n → v e = w e) : Dt n (sv B i v) = Dt n (sv B i w) := Dt_cong (fun j _ e he => by
  unfold sv
  by_cases c : j = i
  · rw [if_pos c, if_pos c]; exact h e he
  · rw [if_neg c, if_neg c])
/-- the step of the table -/
theorem TT_piv {n r c i j : Nat} {M : Nat → Nat → Int} {bs : Nat → Nat} (hn : n ≤ 16) (hr : r < n) (hi : i < n) (hne : i ≠ r) (hC : CI n M bs) : byD n M bs * TT n M (put bs r c) i j = TT n M bs i j * TT n M bs r c - TT n M bs i c * TT n M bs r j := by
  show byD n M bs * Dt n (sv (Bc M (put bs r c)) i (M j)) = _
  rw [← Dt_mul hi, sv_cong (fun e he => hC j e he), Dt_sum hi, si_two hi hr hne (fun s hs h1 h2 => by
    have : Dt n (sv (Bc M (put bs r c)) i (M (bs s))) = 0 := Dt_eq' hn hi hs (fun q => h1 q.symm) (fun e _ => by
      rw [sv_s, sv_n h1]
      show _ = M (put bs r c s) e
      rw [put_n h2])
    rw [this, Int.mul_zero])]
  have e1 : Dt n (sv (Bc M (put bs r c)) i (M (bs i))) = TT n M bs r c := by
    have : M (bs i) = Bc M (put bs r c) i := by show _ = M (put bs r c i); rw [put_n hne]
    rw [this, sv_own]
    exact by_put
  have e2 : Dt n (sv (Bc M (put bs r c)) i (M (bs r))) = - TT n M bs i c := by
    rw [Bc_put, Dt_swap hn hr hi (fun q => hne q.symm)]
    have : M (bs r) = Bc M bs r := rfl
    rw [this, sv_own]
    rfl
  rw [e1, e2, Int.mul_neg, Int.mul_comm (TT n M bs r j)]
  omega
theorem CI_put {n r c : Nat} {M : Nat → Nat → Int} {bs : Nat → Nat} (hn : n ≤ 16) (hr : r < n) (hC : CI n M bs) (hb : byD n M bs ≠ 0) : CI n M (put bs r c) := by
  intro j e he
  apply Int.eq_of_mul_eq_mul_left hb
  rw [← si_mul]
  have h1 : si (fun s => byD n M bs * (TT n M (put bs r c) s j * M (put bs r c s) e)) n = si (fun s => (TT n M bs r c * (TT n M bs s j * M (bs s) e) + (- TT n M bs r j) * (TT n M bs s c * M (bs s) e)) + (if s = r then byD n M bs * TT n M bs r j * M c e else 0)) n := si_cong (fun s hs => by
    by_cases q : s = r
    · subst q
      rw [if_pos rfl, TT_r, put_s]
      have : TT n M bs s c * (TT n M bs s j * M (bs s) e) + - TT n M bs s j * (TT n M bs s c * M (bs s) e) = 0 := by
        rw [Int.mul_left_comm, Int.neg_mul]; omega
      rw [this, Int.mul_assoc]; omega
    · rw [if_neg q, put_n q, ← Int.mul_assoc, TT_piv hn hr hs q hC, Int.sub_mul, Int.neg_mul, Int.add_zero, Int.mul_comm (TT n M bs s j), Int.mul_assoc, Int.mul_comm (TT n M bs s c), Int.mul_assoc]
      omega)
  rw [h1, si_add, si_add, si_mul, si_mul, ← hC j e he, ← hC c e he, si_one hr (fun s _ h => if_neg h), if_pos rfl, by_put]
  have : TT n M bs r c * (byD n M bs * M j e) + - TT n M bs r j * (byD n M bs * M c e) + byD n M bs * TT n M bs r j * M c e = TT n M bs r c * (byD n M bs * M j e) := by
    rw [Int.neg_mul, Int.mul_comm (byD n M bs) (TT n M bs r j), Int.mul_assoc]; omega
  rw [this, Int.mul_left_comm]
/-! the last row -/
def zr (n : Nat) (M : Nat → Nat → Int) (ob : Nat → Int) (bs : Nat → Nat) (j : Nat) : Int := si (fun s => ob (bs s) * TT n M bs s j) n - byD n M bs * ob j
theorem zr_bs {n s : Nat} {M : Nat → Nat → Int} {ob : Nat → Int} {bs : Nat → Nat} (hn : n ≤ 16) (hs : s < n) : zr n M ob bs (bs s) = 0 := by
  unfold zr
  rw [si_one hs (fun i hi h => by rw [TT_bs hn hi hs, if_neg h, Int.mul_zero]), TT_bs hn hs hs, if_pos rfl, Int.mul_comm]
  omega
theorem zr_piv {n r c j : Nat} {M : Nat → Nat → Int} {ob : Nat → Int} {bs : Nat → Nat} (hn : n ≤ 16) (hr : r < n) (hC : CI n M bs) : byD n M bs * zr n M ob (put bs r c) j = zr n M ob bs j * TT n M bs r c - zr n M ob bs c * TT n M bs r j := by
  unfold zr
  rw [Int.mul_sub, ← si_mul]
  have h1 : si (fun s => byD n M bs * (ob (put bs r c s) * TT n M (put bs r c) s j)) n = si (fun s => (TT n M bs r c * (ob (bs s) * TT n M bs s j) + (- TT n M bs r j) * (ob (bs s) * TT n M bs s c)) + (if s = r then byD n M bs * (ob c * TT n M bs r j) else 0)) n := si_cong (fun s hs => by
    by_cases q : s = r
    · subst q
      rw [if_pos rfl, TT_r, put_s]
      have : TT n M bs s c * (ob (bs s) * TT n M bs s j) + - TT n M bs s j * (ob (bs s) * TT n M bs s c) = 0 := by
        rw [Int.neg_mul, Int.mul_left_comm, Int.mul_left_comm (TT n M bs s j), Int.mul_comm (TT n M bs s j)]; omega
      rw [this]; omega
    · rw [if_neg q, put_n q, Int.mul_left_comm, TT_piv hn hr hs q hC, Int.mul_sub, Int.neg_mul, Int.add_zero, Int.mul_comm (TT n M bs s j), Int.mul_left_comm, Int.mul_comm (TT n M bs s c), Int.mul_left_comm (TT n M bs r j)]
      omega)
  rw [h1, si_add, si_add, si_mul, si_mul, si_one hr (fun s _ h => if_neg h), if_pos rfl, by_put]
  generalize si (fun s => ob (bs s) * TT n M bs s j) n = X
  generalize si (fun s => ob (bs s) * TT n M bs s c) n = Y
  generalize TT n M bs r c = a
  generalize TT n M bs r j = b
  generalize byD n M bs = d
  rw [Int.sub_mul, Int.sub_mul, Int.neg_mul, Int.mul_comm a X, Int.mul_comm b Y, Int.mul_assoc d, Int.mul_assoc d, Int.mul_comm (ob j) a]
  omega
/-- what the columns make nothing of, the table makes nothing of -/
theorem TT_ker {n s : Nat} {M : Nat → Nat → Int} {bs : Nat → Nat} {x : Nat → Int} {m : Nat} (hs : s < n) (hx : ∀ e, e < n → si (fun j => x j * M j e) m = 0) : si (fun j => x j * TT n M bs s j) m = 0 := by
  unfold TT
  rw [← Dt_sum hs, sv_cong (w := fun _ => 0) hx]
  exact Dt_zero hs
theorem zr_ker {n : Nat} {M : Nat → Nat → Int} {ob : Nat → Int} {bs : Nat → Nat} {x : Nat → Int} {m : Nat} (hx : ∀ e, e < n → si (fun j => x j * M j e) m = 0) : si (fun j => x j * zr n M ob bs j) m = - (byD n M bs * si (fun j => x j * ob j) m) := by
  unfold zr
  have h1 : si (fun j => x j * (si (fun s => ob (bs s) * TT n M bs s j) n - byD n M bs * ob j)) m = si (fun j => si (fun s => ob (bs s) * (x j * TT n M bs s j)) n + (- byD n M bs) * (x j * ob j)) m := si_cong (fun j _ => by
    rw [Int.mul_sub, ← si_mul, Int.neg_mul, Int.mul_left_comm (byD n M bs), si_cong (g := fun s => ob (bs s) * (x j * TT n M bs s j)) (fun s _ => Int.mul_left_comm _ _ _)]
    omega)
  rw [h1, si_add, si_mul, si_swap, si_z (fun s hs => by rw [si_mul, TT_ker hs hx, Int.mul_zero])]
  rw [Int.neg_mul]; omega
