/-! the frame rule for a world of many cells: only the callee's cells are set -/
def setA : va_W → List Nat → va_W → va_W
  | ws, i :: is, c :: cs => setA (ws.set i c) is cs
  | ws, _, _ => ws
theorem nd_head {i : Nat} {is : List Nat} (h : va_nd (i :: is) = true) : i ∉ is ∧ va_nd is = true := by
  simp only [va_nd, Bool.and_eq_true] at h
  exact ⟨by simpa using h.1, h.2⟩
theorem setA_out : ∀ (is : List Nat) (cs ws : va_W) (p : Nat), p ∉ is → (setA ws is cs)[p]? = ws[p]?
  | [], _, ws, p, _ => by simp [setA]
  | _ :: _, [], ws, p, _ => by simp [setA]
  | i :: is, c :: cs, ws, p, h => by
    rw [setA, setA_out is cs _ p (fun q => h (List.mem_cons_of_mem _ q)), List.getElem?_set_ne (fun q => h (List.mem_cons.mpr (Or.inl q.symm)))]
theorem setA_len : ∀ (is : List Nat) (cs ws : va_W), (setA ws is cs).length = ws.length
  | [], _, ws => by simp [setA]
  | _ :: _, [], ws => by simp [setA]
  | i :: is, c :: cs, ws => by rw [setA, setA_len is cs, List.length_set]
theorem setA_in : ∀ (is : List Nat) (cs ws : va_W) (j : Nat) (p : Nat) (x : Nat × va_E), va_nd is = true → is[j]? = some p → cs[j]? = some x → p < ws.length → (setA ws is cs)[p]? = some x
  | [], _, _, j, p, x, _, h, _, _ => by simp at h
  | _ :: _, [], _, j, p, x, _, _, h, _ => by simp at h
  | i :: is, c :: cs, ws, 0, p, x, hn, h1, h2, hp => by
    cases h1
    cases h2
    rw [setA, setA_out is cs _ _ (nd_head hn).1, List.getElem?_set_self hp]
  | i :: is, c :: cs, ws, j + 1, p, x, hn, h1, h2, hp => by
    rw [setA]
    exact setA_in is cs _ j p x (nd_head hn).2 h1 h2 (by rw [List.length_set]; exact hp)
theorem map_at {α β : Type} {f : α → β} {l : List α} {j : Nat} {x : α} (h : l[j]? = some x) : (l.map f)[j]? = some (f x) := by
  rw [List.getElem?_map, h]; rfl
section KF
variable {p : Program} {l : Launch} {e : Env} {R : Room} {s : State} {m : MethodId} {args : Array Value} {below : List Frame} {meth : Method} {c : Code} {H : Heap} {locs : List Loc} {cells slots : Nat} {Q : State → Prop}
variable {D : va_G} {A : Nat → Prop} {tys tysc : List (ClassId × FieldType)} {ws wc w1 w2 : va_W} {isC isT : List Nat}
theorem kf {t : State} {H1 : Heap} (ht : t.heap = H1) (hB : sB D tysc (va_A wc H.size) w1 () t) (hk1 : ∀ q : Nat, q < H.size → ¬ va_A wc H.size q → H1[q]? = H[q]?) (hP : va_P D vwCl ws H) (hD : va_D A ws) (hC : isC.map (fun i => ws[i]?) = wc.map some) (hn : va_nd isC = true) (ha : w1.map Prod.fst = wc.map Prod.fst) (h2 : setA ws isC w1 = w2) : va_P D vwCl w2 H1 ∧ va_D A w2 := by
  obtain ⟨hP1, -, -⟩ := hB
  rw [ht] at hP1
  subst h2
  have hcat : ∀ (j p : Nat), isC[j]? = some p → ∃ x, wc[j]? = some x ∧ ws[p]? = some x := by
    intro j p hj
    have h1 := map_at (f := fun i => ws[i]?) hj
    rw [hC, List.getElem?_map] at h1
    cases hw : wc[j]? with
    | none => rw [hw] at h1; cases h1
    | some x =>
      rw [hw] at h1
      exact ⟨x, rfl, (Option.some.inj h1).symm⟩
  have hw1 : ∀ (j : Nat) (x : Nat × va_E), wc[j]? = some x → ∃ y, w1[j]? = some y ∧ y.1 = x.1 := by
    intro j x hx
    have h1 := map_at (f := Prod.fst) hx
    rw [← ha, List.getElem?_map] at h1
    cases hw : w1[j]? with
    | none => rw [hw] at h1; cases h1
    | some y =>
      rw [hw] at h1
      exact ⟨y, rfl, Option.some.inj h1⟩
  have hcase : ∀ (q : Nat) (x : Nat × va_E), (setA ws isC w1)[q]? = some x → (∃ j : Nat, isC[j]? = some q ∧ w1[j]? = some x ∧ ∃ z, ws[q]? = some z ∧ z.1 = x.1) ∨ (q ∉ isC ∧ ws[q]? = some x) := by
    intro q x hx
    by_cases hq : q ∈ isC
    · obtain ⟨j, hj⟩ := List.getElem?_of_mem hq
      obtain ⟨z, hz1, hz2⟩ := hcat j q hj
      obtain ⟨y, hy1, hy2⟩ := hw1 j z hz1
      have := setA_in isC w1 ws j q y hn hj hy1 (List.getElem?_eq_some_iff.mp hz2).1
      rw [this] at hx
      cases hx
      exact Or.inl ⟨j, hj, hy1, z, hz2, hy2.symm⟩
    · rw [setA_out isC w1 ws q hq] at hx
      exact Or.inr ⟨hq, hx⟩
  refine ⟨fun q x hx => ?_, fun i j a b hi hj hab => ?_, fun q x hx => ?_⟩
  · rcases hcase q x hx with ⟨j, hj, hy, -⟩ | ⟨hq, hz⟩
    · exact hP1 j x hy
    · have hat := hP q x hz
      refine hat.kept (hk1 x.1 hat.lt (fun hv => ?_))
      rcases hv with ⟨j, e0, hj⟩ | hle
      · have hl : j < isC.length := by
          have h1 := (List.getElem?_eq_some_iff.mp hj).1
          have h2 := congrArg List.length hC
          rw [List.length_map, List.length_map] at h2
          omega
        obtain ⟨z, hz1, hz2⟩ := hcat j isC[j] (List.getElem?_eq_getElem hl)
        rw [hj] at hz1
        cases hz1
        have := hD.1 q isC[j] x _ hz hz2 rfl
        exact hq (this ▸ List.getElem_mem hl)
      · have := hat.lt
        omega
  · rcases hcase i a hi with ⟨j1, h1, -, z1, g1, k1⟩ | ⟨h1, g1⟩ <;> rcases hcase j b hj with ⟨j2, h2, -, z2, g2, k2⟩ | ⟨h2, g2⟩
    · exact hD.1 i j z1 z2 g1 g2 (by rw [k1, k2, hab])
    · exact hD.1 i j z1 b g1 g2 (by rw [k1, hab])
    · exact hD.1 i j a z2 g1 g2 (by rw [k2, hab])
    · exact hD.1 i j a b g1 g2 hab
  · rcases hcase q x hx with ⟨j, hj, hy, z, hz, hz2⟩ | ⟨hq, hz⟩
    · rw [← hz2]
      exact hD.2 q z hz
    · exact hD.2 q x hz
variable {pc : Nat} {ls : Array Slot} {rest st0 : List Value} {a : Array Value}
theorem kd_i {rv : Int32} (hr : va_Run p l e R s m args below meth c H locs cells slots 0 0 (F0 m pc ls st0) rest (va_Qi (fun (r : Int32) (_ : Unit) => r = rv) (sB D tysc (va_A wc H.size) w1) (va_A wc H.size) a) (va_A wc H.size)) (hP : va_P D vwCl ws H) (hD : va_D A ws) (hS : va_S A s.heap H locs) (hA : ∀ q, s.heap.size ≤ q → A q) (hC : isC.map (fun i => ws[i]?) = wc.map some) (hn : va_nd isC = true) (ha : w1.map Prod.fst = wc.map Prod.fst) (h2 : setA ws isC w1 = w2)
    (kk : ∀ (H1 : Heap) (locs1 : List Loc), va_P D vwCl w2 H1 → va_D A w2 → va_S A s.heap H1 locs1 → W p l e R s m args below meth c H1 locs1 cells slots Q (F0 m (pc + 3) ls (.int rv :: rest))) : W p l e R s m args below meth c H locs cells slots Q (F0 m pc ls st0) := by
  have hF := va_free (wc := wc) hD hS hA isC hC
  refine va_calli hr hS (fun q _ h => hF q h) hF (fun r u t H1 locs1 ht hvm hw hB hz1 hk1 hS1 => ?_)
  obtain ⟨hP2, hD2⟩ := kf ht hB hk1 hP hD hC hn ha h2
  subst hw
  exact kk H1 locs1 hP2 hD2 hS1
theorem kd_l {rv : Int64} (hr : va_Run p l e R s m args below meth c H locs cells slots 0 0 (F0 m pc ls st0) rest (va_Ql (fun (r : Int64) (_ : Unit) => r = rv) (sB D tysc (va_A wc H.size) w1) (va_A wc H.size) a) (va_A wc H.size)) (hP : va_P D vwCl ws H) (hD : va_D A ws) (hS : va_S A s.heap H locs) (hA : ∀ q, s.heap.size ≤ q → A q) (hC : isC.map (fun i => ws[i]?) = wc.map some) (hn : va_nd isC = true) (ha : w1.map Prod.fst = wc.map Prod.fst) (h2 : setA ws isC w1 = w2)
    (kk : ∀ (H1 : Heap) (locs1 : List Loc), va_P D vwCl w2 H1 → va_D A w2 → va_S A s.heap H1 locs1 → W p l e R s m args below meth c H1 locs1 cells slots Q (F0 m (pc + 3) ls (.long rv :: rest))) : W p l e R s m args below meth c H locs cells slots Q (F0 m pc ls st0) := by
  have hF := va_free (wc := wc) hD hS hA isC hC
  refine va_calll hr hS (fun q _ h => hF q h) hF (fun r u t H1 locs1 ht hvm hw hB hz1 hk1 hS1 => ?_)
  obtain ⟨hP2, hD2⟩ := kf ht hB hk1 hP hD hC hn ha h2
  subst hw
  exact kk H1 locs1 hP2 hD2 hS1
end KF
