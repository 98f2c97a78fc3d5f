/-! words of one list among another's, by terms: nothing is compared -/
theorem h1_ {a : Cond} {l : List Cond} : a ∈ a :: l := List.mem_cons_self
theorem t1_ {a b : Cond} {l : List Cond} (h : a ∈ l) : a ∈ b :: l := List.mem_cons_of_mem _ h
theorem t4_ {a b0 b1 b2 b3 : Cond} {l : List Cond} (h : a ∈ l) : a ∈ b0 :: b1 :: b2 :: b3 :: l := (t1_ (t1_ (t1_ (t1_ h))))
theorem t16_ {a b0 b1 b2 b3 b4 b5 b6 b7 b8 b9 b10 b11 b12 b13 b14 b15 : Cond} {l : List Cond} (h : a ∈ l) : a ∈ b0 :: b1 :: b2 :: b3 :: b4 :: b5 :: b6 :: b7 :: b8 :: b9 :: b10 :: b11 :: b12 :: b13 :: b14 :: b15 :: l := (t4_ (t4_ (t4_ (t4_ h))))
theorem t64_ {a b0 b1 b2 b3 b4 b5 b6 b7 b8 b9 b10 b11 b12 b13 b14 b15 b16 b17 b18 b19 b20 b21 b22 b23 b24 b25 b26 b27 b28 b29 b30 b31 b32 b33 b34 b35 b36 b37 b38 b39 b40 b41 b42 b43 b44 b45 b46 b47 b48 b49 b50 b51 b52 b53 b54 b55 b56 b57 b58 b59 b60 b61 b62 b63 : Cond} {l : List Cond} (h : a ∈ l) : a ∈ b0 :: b1 :: b2 :: b3 :: b4 :: b5 :: b6 :: b7 :: b8 :: b9 :: b10 :: b11 :: b12 :: b13 :: b14 :: b15 :: b16 :: b17 :: b18 :: b19 :: b20 :: b21 :: b22 :: b23 :: b24 :: b25 :: b26 :: b27 :: b28 :: b29 :: b30 :: b31 :: b32 :: b33 :: b34 :: b35 :: b36 :: b37 :: b38 :: b39 :: b40 :: b41 :: b42 :: b43 :: b44 :: b45 :: b46 :: b47 :: b48 :: b49 :: b50 :: b51 :: b52 :: b53 :: b54 :: b55 :: b56 :: b57 :: b58 :: b59 :: b60 :: b61 :: b62 :: b63 :: l := (t16_ (t16_ (t16_ (t16_ h))))
theorem al_ {a : Cond} {l r : List Cond} (h : a ∈ l) : a ∈ l ++ r := List.mem_append_left _ h
theorem ar_ {a : Cond} {l r : List Cond} (h : a ∈ r) : a ∈ l ++ r := List.mem_append_right _ h
def SubW (big ws : List Cond) : Prop := ∀ w ∈ ws, w ∈ big
theorem sw_nil {big : List Cond} : SubW big [] := fun _ h => absurd h List.not_mem_nil
theorem sw_cons {big l : List Cond} {a : Cond} (h1 : a ∈ big) (h2 : SubW big l) : SubW big (a :: l) := fun w h => (List.mem_cons.mp h).elim (fun e => e ▸ h1) (h2 w)
theorem sw_app {big l r : List Cond} (h1 : SubW big l) (h2 : SubW big r) : SubW big (l ++ r) := fun w h => (List.mem_append.mp h).elim (h1 w) (h2 w)
theorem sw_good {big ws : List Cond} (hm : SubW big ws) (h : ws.all goodWord = true) : GoodIn big ws := fun w hw => ⟨hm w hw, good_of_word (List.all_eq_true.mp h w hw)⟩
theorem nm_half {T : u_T} {N : Nat} (h : ∀ a, a < N → ∀ b, b < a → (T a).2.1 ≠ (T b).2.1) : ∀ a, a < N → ∀ b, b < N → a ≠ b → (T a).2.1 ≠ (T b).2.1 := by
  intro a ha b hb hne
  rcases Nat.lt_or_gt_of_ne hne with q | q
  · exact fun e => h b hb a q e.symm
  · exact h a ha b q
