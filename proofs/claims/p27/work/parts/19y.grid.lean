/-! a world that ends in the table's rows: what is read and set of it, without unfolding the rows -/
theorem gA_ {w0 w10 : va_W} {ad : Nat → Nat} {cy : ClassId} {G G1 : Nat → Nat → Int64} (h : w10.map Prod.fst = w0.map Prod.fst) : (w10 ++ gR ad cy G1).map Prod.fst = (w0 ++ gR ad cy G).map Prod.fst := by
  rw [List.map_append, List.map_append, h]
  congr 1
theorem setA_app : ∀ (is : List Nat) (cs X Y : va_W) (js : List Nat) (ds : va_W), is.length = cs.length → (∀ i ∈ is, i < X.length) → setA (X ++ Y) (is ++ js) (cs ++ ds) = setA (setA X is cs ++ Y) js ds
  | [], [], X, Y, js, ds, _, _ => by simp only [List.nil_append, setA]
  | i :: is, c :: cs, X, Y, js, ds, h, hi => by
    have e : (X ++ Y).set i c = X.set i c ++ Y := List.set_append_left _ _ (hi i List.mem_cons_self)
    have ih := setA_app is cs (X.set i c) Y js ds (Nat.succ.inj h) (fun k hk => by rw [List.length_set]; exact hi k (List.mem_cons_of_mem _ hk))
    simp only [List.cons_append, setA]
    rw [e]
    exact ih
  | [], _ :: _, _, _, _, _, h, _ => nomatch h
  | _ :: _, [], _, _, _, _, h, _ => nomatch h
theorem setA_all : ∀ (Y Z X : va_W), Y.length = Z.length → setA (X ++ Y) (List.range' X.length Y.length) Z = X ++ Z
  | [], [], X, _ => by simp [setA]
  | y :: Y, z :: Z, X, h => by
    have ih := setA_all Y Z (X ++ [z]) (Nat.succ.inj h)
    have e : (X ++ y :: Y).set X.length z = (X ++ [z]) ++ Y := by
      rw [List.set_append_right _ _ (Nat.le_refl _), Nat.sub_self]
      simp
    rw [List.length_append, List.length_singleton] at ih
    rw [List.length_cons, List.range'_succ]
    simp only [setA]
    rw [e, ih]
    simp
  | [], _ :: _, _, h => nomatch h
  | _ :: _, [], _, h => nomatch h
theorem setA_lenG : ∀ (is : List Nat) (cs X : va_W), (setA X is cs).length = X.length
  | [], _, X => by simp [setA]
  | _ :: _, [], X => by simp [setA]
  | i :: is, c :: cs, X => by
    simp only [setA]
    rw [setA_lenG is cs, List.length_set]
theorem gS_ {X w10 X1 : va_W} {is0 : List Nat} {n : Nat} {ad : Nat → Nat} {cy : ClassId} {G G1 : Nat → Nat → Int64} (hn : X.length = n) (hl : is0.length = w10.length) (hi : is0.all (fun i => decide (i < n)) = true) (h : setA X is0 w10 = X1) : setA (X ++ gR ad cy G) (is0 ++ List.range' n 11) (w10 ++ gR ad cy G1) = X1 ++ gR ad cy G1 := by
  subst hn
  rw [setA_app is0 w10 X (gR ad cy G) _ _ hl (fun i hi' => of_decide_eq_true (List.all_eq_true.mp hi i hi')), ← h]
  have e := setA_all (gR ad cy G) (gR ad cy G1) (setA X is0 w10) (by simp [gR])
  rw [setA_lenG, show (gR ad cy G).length = 11 by simp [gR]] at e
  exact e
