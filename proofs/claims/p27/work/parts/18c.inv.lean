/-! what holds between the two sides before each call -/
/-- how many k < n have p -/
def ct (p : Nat → Bool) : Nat → Nat
  | 0 => 0
  | n + 1 => ct p n + (if p n then 1 else 0)
/-- a set lies in x -/
def sub (a x : Nat) : Bool := a &&& x == a
/-- the state in plain numbers: n elements, k sets S, o other sets O, costs C, and M: no mark is greater -/
def InvN (t n k o M : Nat) (S O C : Nat → Nat) (x_costs : Nat → Int32) (r_size r_n r_parts : Int32) (r_rows r_ins : Nat → Int32) (u_size u_n u_parts : Int32) (u_rows u_ins : Nat → Int32) (q_above q_below : Int64) (w_mark : Int32) (w_marks : Nat → Int32) (y_n y_sets y_otherMany : Int32) (y_above y_below : Int64) (y_list y_others y_costs : Nat → Int32) : Prop :=
  (1 ≤ n ∧ n ≤ 10 ∧ k ≤ 16 ∧ o ≤ 40 ∧ M ≤ 1024 * t) ∧
  (r_n = nI n ∧ r_parts = nI (2 ^ n) ∧ r_size = nI k ∧ u_n = nI n ∧ u_parts = nI (2 ^ n) ∧ u_size = nI o ∧ y_n = nI n ∧ y_sets = nI k ∧ y_otherMany = nI o) ∧
  (∀ i, i < k → r_rows i = nI (S i) ∧ y_list i = nI (S i) ∧ 1 ≤ S i ∧ S i < 2 ^ n) ∧ (∀ i j, i < j → j < k → S i ≠ S j) ∧
  (∀ i, i < o → u_rows i = nI (O i) ∧ y_others i = nI (O i) ∧ O i < 2 ^ n) ∧
  (∀ x, x < 2 ^ n → r_ins x = nI (ct (fun i => sub (S i) x) k)) ∧ (∀ x, x < 2 ^ n → u_ins x = nI (ct (fun i => sub (O i) x) o)) ∧
  (∀ e, e < 10 → x_costs e = nI (C e) ∧ y_costs e = nI (C e) ∧ C e ≤ 20) ∧ (q_above = y_above ∧ q_below = y_below) ∧
  (w_mark = nI M ∧ ∀ j, j < 1024 → ∃ v, v ≤ M ∧ w_marks j = nI v)
def Inv (t : Nat) (x_costs : Nat → Int32) (r_size r_n r_parts : Int32) (r_rows r_ins : Nat → Int32) (u_size u_n u_parts : Int32) (u_rows u_ins : Nat → Int32) (q_above q_below : Int64) (w_mark : Int32) (w_marks : Nat → Int32) (y_n y_sets y_otherMany : Int32) (y_above y_below : Int64) (y_list y_others y_costs : Nat → Int32) : Prop :=
  ∃ (n k o M : Nat) (S O C : Nat → Nat), InvN t n k o M S O C x_costs r_size r_n r_parts r_rows r_ins u_size u_n u_parts u_rows u_ins q_above q_below w_mark w_marks y_n y_sets y_otherMany y_above y_below y_list y_others y_costs
