/-! the table of Shares: eleven rows of seventeen longs, behind the other cells of the world -/
def gR (ad : Nat → Nat) (cy : ClassId) (G : Nat → Nat → Int64) : va_W := [(ad 0, .inl (cy, 17, .inr (.inl (G 0)))), (ad 1, .inl (cy, 17, .inr (.inl (G 1)))), (ad 2, .inl (cy, 17, .inr (.inl (G 2)))), (ad 3, .inl (cy, 17, .inr (.inl (G 3)))), (ad 4, .inl (cy, 17, .inr (.inl (G 4)))), (ad 5, .inl (cy, 17, .inr (.inl (G 5)))), (ad 6, .inl (cy, 17, .inr (.inl (G 6)))), (ad 7, .inl (cy, 17, .inr (.inl (G 7)))), (ad 8, .inl (cy, 17, .inr (.inl (G 8)))), (ad 9, .inl (cy, 17, .inr (.inl (G 9)))), (ad 10, .inl (cy, 17, .inr (.inl (G 10))))]
theorem gR_eq {ad : Nat → Nat} {cy : ClassId} {G : Nat → Nat → Int64} : gR ad cy G = (List.range 11).map (fun i => (ad i, .inl (cy, 17, .inr (.inl (G i))))) := rfl
def gU (G : Nat → Nat → Int64) (i : Nat) (r : Nat → Int64) : Nat → Nat → Int64 := fun k => if k = i then r else G k
theorem gU_s {G : Nat → Nat → Int64} {i : Nat} {r : Nat → Int64} : gU G i r i = r := if_pos rfl
theorem gU_n {G : Nat → Nat → Int64} {i k : Nat} {r : Nat → Int64} (h : k ≠ i) : gU G i r k = G k := if_neg h
theorem gR_at (X : va_W) {ad : Nat → Nat} {cy : ClassId} {G : Nat → Nat → Int64} {i : Nat} (h : i < 11) : (X ++ gR ad cy G)[X.length + i]? = some (ad i, .inl (cy, 17, .inr (.inl (G i)))) := by
  rw [List.getElem?_append_right (by omega), gR_eq, Nat.add_sub_cancel_left, List.getElem?_map, List.getElem?_range h]
  rfl
theorem gR_set (X : va_W) {ad : Nat → Nat} {cy : ClassId} {G : Nat → Nat → Int64} {i : Nat} {r : Nat → Int64} (h : i < 11) : (X ++ gR ad cy G).set (X.length + i) (ad i, .inl (cy, 17, .inr (.inl r))) = X ++ gR ad cy (gU G i r) := by
  rw [List.set_append_right _ _ (by omega), Nat.add_sub_cancel_left]
  congr 1
  apply List.ext_getElem?
  intro k
  by_cases hk : k = i
  · subst hk
    rw [List.getElem?_set_self (by simp [gR]; exact h)]
    rw [gR_eq, List.getElem?_map, List.getElem?_range h]
    simp [gU]
  · rw [List.getElem?_set_ne (fun q => hk q.symm)]
    rw [gR_eq, gR_eq, List.getElem?_map, List.getElem?_map]
    by_cases h2 : k < 11
    · rw [List.getElem?_range h2]
      simp [gU, hk]
    · rw [List.getElem?_eq_none (by rw [List.length_range]; omega)]
      rfl
section KG
variable {p : Program} {l : Launch} {e : Env} {R : Room} {s : State} {m : MethodId} {args : Array Value} {below : List Frame} {meth : Method} {c : Code} {H : Heap} {locs : List Loc} {cells slots : Nat} {Q : State → Prop}
variable {cc : ByteArray} {pc : Nat} {ls : Array Slot} {rest st0 : List Value} {D : va_G} {A : Nat → Prop} {a : Nat} {tys tysc : List (ClassId × FieldType)} {ws : va_W}
theorem va_aldG (hexec : p.tables.exec = Jvm.exec) (hb : c.code = cc) (hK : va_K D vwCl tys s) (hP : va_P D vwCl ws H) (q0 t0 : Nat) {cA : ClassId} {ad : Nat → Nat} (ha : ws[q0]? = some (a, .inl (cA, 11, .inr (.inr (.inr (.inr (fun i => if i < 11 then some (ad i) else none))))))) (ht : tys[t0]? = some (cA, .array .long)) {i : Int32} (hin : vp_in i 11) (hdg : decode cc pc = .ok (.aaload, 1))
    (kk : W p l e R s m args below meth c H locs cells slots Q (F0 m (pc + 1) ls (.ref (ad i.toNatClampNeg) :: rest))) : W p l e R s m args below meth c H locs cells slots Q (F0 m pc ls (.int i :: .ref a :: rest)) := by
  have hlt : i.toNatClampNeg < 11 := Nat.not_le.mp fun q => hin (Or.inr q)
  have e : va_rf ((fun i => if i < 11 then some (ad i) else none) i.toNatClampNeg) = .ref (ad i.toNatClampNeg) := by
    show va_rf (if i.toNatClampNeg < 11 then some (ad i.toNatClampNeg) else none) = _
    rw [if_pos hlt]; rfl
  refine W.aald (v := va_rf ((fun i => if i < 11 then some (ad i) else none) i.toNatClampNeg)) (ty := .array .long) hexec hb (hP q0 _ ha) ((hK.2 t0 _ ht).1 11 (fun j => va_rf ((fun i => if i < 11 then some (ad i) else none) j))) rfl (fun q => by cases q) (by show ¬ (i < 0 ∨ (arrV _ _ _).slots.size ≤ _); rw [arrV_size]; exact hin) (by show (arrV _ _ _).slots[_]? = _; rw [arrV_read _ _ hlt]) rfl rfl hdg ?_
  rw [e]
  exact kk
theorem va_laldG {X : va_W} {ad : Nat → Nat} {cy : ClassId} {G : Nat → Nat → Int64} (hexec : p.tables.exec = Jvm.exec) (hb : c.code = cc) (hK : va_K D vwCl tys s) (hP : va_P D vwCl (X ++ gR ad cy G) H) (t0 : Nat) (ht : tys[t0]? = some (cy, .long)) {i j : Int32} (hi : vp_in i 11) (hj : vp_in j 17) (hdg : decode cc pc = .ok (.laload, 1))
    (kk : W p l e R s m args below meth c H locs cells slots Q (F0 m (pc + 1) ls (.long (G i.toNatClampNeg j.toNatClampNeg) :: rest))) : W p l e R s m args below meth c H locs cells slots Q (F0 m pc ls (.int j :: .ref (ad i.toNatClampNeg) :: rest)) :=
  va_lald hexec hb hK hP (X.length + i.toNatClampNeg) t0 (gR_at X (Nat.not_le.mp fun q => hi (Or.inr q))) ht hj hdg kk
theorem va_lastG {X : va_W} {ad : Nat → Nat} {cy : ClassId} {G : Nat → Nat → Int64} (hexec : p.tables.exec = Jvm.exec) (hb : c.code = cc) (hK : va_K D vwCl tys s) (hP : va_P D vwCl (X ++ gR ad cy G) H) (hD : va_D A (X ++ gR ad cy G)) (hS : va_S A s.heap H locs) (t0 : Nat) (ht : tys[t0]? = some (cy, .long)) {i j : Int32} {x : Int64} (hi : vp_in i 11) (hj : vp_in j 17) (hdg : decode cc pc = .ok (.lastore, 1))
    (kk : ∀ (H1 : Heap) (locs1 : List Loc), va_P D vwCl (X ++ gR ad cy (gU G i.toNatClampNeg (vp_updL (G i.toNatClampNeg) j.toNatClampNeg x))) H1 → va_D A (X ++ gR ad cy (gU G i.toNatClampNeg (vp_updL (G i.toNatClampNeg) j.toNatClampNeg x))) → va_S A s.heap H1 locs1 → W p l e R s m args below meth c H1 locs1 cells slots Q (F0 m (pc + 1) ls rest)) : W p l e R s m args below meth c H locs cells slots Q (F0 m pc ls (.long x :: .int j :: .ref (ad i.toNatClampNeg) :: rest)) := by
  have hlt : i.toNatClampNeg < 11 := Nat.not_le.mp fun q => hi (Or.inr q)
  refine va_last hexec hb hK hP hD hS (X.length + i.toNatClampNeg) t0 (gR_at X hlt) ht hj hdg (fun H1 locs1 hP1 hD1 hS1 => ?_)
  rw [gR_set X hlt] at hP1 hD1
  exact kk H1 locs1 hP1 hD1 hS1
theorem kp_G {X : va_W} {ad : Nat → Nat} {cy : ClassId} {G : Nat → Nat → Int64} {i k : Int32} {q tp b ci : Nat} {fs : List Value} {C : String} {T : u_T} {N : Nat} {As : List Value} (hK : va_K D vwCl tys s) (hP : va_P D vwCl (X ++ gR ad cy G) H) (hD : va_D A (X ++ gR ad cy G)) (hS : va_S A s.heap H locs) (hA : ∀ q, s.heap.size ≤ q → A q) (hN : nw A s s.heap) (hi : vp_in i 11) (hk : vp_in k 11) (hne : ¬ i.toNatClampNeg = k.toNatClampNeg) (hq : X[q]? = some (b, .inr (ci, fs))) (ht : tys[tp]? = some (cy, .long)) (hc : vwCl[ci]? = some (C, T, N)) : PreV s H C b (sPc (.ref b :: As) D [(cy, .long), (cy, .long)] [(b, .inr (ci, fs)), (ad i.toNatClampNeg, .inl (cy, 17, .inr (.inl (G i.toNatClampNeg)))), (ad k.toNatClampNeg, .inl (cy, 17, .inr (.inl (G k.toNatClampNeg))))] H.size) As := by
  have hil : i.toNatClampNeg < 11 := Nat.not_le.mp fun q => hi (Or.inr q)
  have hkl : k.toNatClampNeg < 11 := Nat.not_le.mp fun q => hk (Or.inr q)
  have hql : q < X.length := (List.getElem?_eq_some_iff.mp hq).1
  have hq2 : (X ++ gR ad cy G)[q]? = some (b, .inr (ci, fs)) := by rw [List.getElem?_append_left hql]; exact hq
  refine kp_V (isC := [q, X.length + i.toNatClampNeg, X.length + k.toNatClampNeg]) (isT := [tp, tp]) (q0 := 0) hK hP hD hS hA hN ?_ ?_ ?_ hc rfl
  · simp only [List.map_cons, List.map_nil]
    rw [hq2, gR_at X hil, gR_at X hkl]
  · have h1 : ¬ q = X.length + i.toNatClampNeg := by omega
    have h2 : ¬ q = X.length + k.toNatClampNeg := by omega
    have h3 : ¬ X.length + i.toNatClampNeg = X.length + k.toNatClampNeg := by omega
    simp [va_nd, h1, h2, h3, hne]
  · simp [ht]
theorem kc_G {X : va_W} {ad : Nat → Nat} {cy : ClassId} {G : Nat → Nat → Int64} {i k : Int32} {q b ci : Nat} {fs : List Value} {r : Nat → Int64} {ar : Array Value}
    (hr : va_Run p l e R s m args below meth c H locs cells slots 0 0 (F0 m pc ls st0) rest (va_Qv (fun (_ : Unit) => True) (sB D tysc (va_A [(b, .inr (ci, fs)), (ad i.toNatClampNeg, .inl (cy, 17, .inr (.inl (G i.toNatClampNeg)))), (ad k.toNatClampNeg, .inl (cy, 17, .inr (.inl (G k.toNatClampNeg))))] H.size) [(b, .inr (ci, fs)), (ad i.toNatClampNeg, .inl (cy, 17, .inr (.inl r))), (ad k.toNatClampNeg, .inl (cy, 17, .inr (.inl (G k.toNatClampNeg))))]) (va_A [(b, .inr (ci, fs)), (ad i.toNatClampNeg, .inl (cy, 17, .inr (.inl (G i.toNatClampNeg)))), (ad k.toNatClampNeg, .inl (cy, 17, .inr (.inl (G k.toNatClampNeg))))] H.size) ar) (va_A [(b, .inr (ci, fs)), (ad i.toNatClampNeg, .inl (cy, 17, .inr (.inl (G i.toNatClampNeg)))), (ad k.toNatClampNeg, .inl (cy, 17, .inr (.inl (G k.toNatClampNeg))))] H.size))
    (hP : va_P D vwCl (X ++ gR ad cy G) H) (hD : va_D A (X ++ gR ad cy G)) (hS : va_S A s.heap H locs) (hA : ∀ q, s.heap.size ≤ q → A q) (hi : vp_in i 11) (hk : vp_in k 11) (hne : ¬ i.toNatClampNeg = k.toNatClampNeg) (hq : X[q]? = some (b, .inr (ci, fs)))
    (kk : ∀ (H1 : Heap) (locs1 : List Loc), va_P D vwCl (X ++ gR ad cy (gU G i.toNatClampNeg r)) H1 → va_D A (X ++ gR ad cy (gU G i.toNatClampNeg r)) → va_S A s.heap H1 locs1 → W p l e R s m args below meth c H1 locs1 cells slots Q (F0 m (pc + 3) ls rest)) : W p l e R s m args below meth c H locs cells slots Q (F0 m pc ls st0) := by
  have hil : i.toNatClampNeg < 11 := Nat.not_le.mp fun q => hi (Or.inr q)
  have hkl : k.toNatClampNeg < 11 := Nat.not_le.mp fun q => hk (Or.inr q)
  have hql : q < X.length := (List.getElem?_eq_some_iff.mp hq).1
  have hq2 : (X ++ gR ad cy G)[q]? = some (b, .inr (ci, fs)) := by rw [List.getElem?_append_left hql]; exact hq
  have hC : ([q, X.length + i.toNatClampNeg, X.length + k.toNatClampNeg] : List Nat).map (fun j => (X ++ gR ad cy G)[j]?) = ([(b, .inr (ci, fs)), (ad i.toNatClampNeg, .inl (cy, 17, .inr (.inl (G i.toNatClampNeg)))), (ad k.toNatClampNeg, .inl (cy, 17, .inr (.inl (G k.toNatClampNeg))))] : va_W).map some := by
    simp only [List.map_cons, List.map_nil]
    rw [hq2, gR_at X hil, gR_at X hkl]
  have hF := va_free hD hS hA _ hC
  refine va_callv hr hS (fun q _ h => hF q h) hF (fun u t H1 locs1 ht hvm hw hB hz1 hk1 hS1 => ?_)
  obtain ⟨hP1, -, -⟩ := hB
  rw [ht] at hP1
  have hD2 : va_D A (X ++ gR ad cy (gU G i.toNatClampNeg r)) := by
    rw [← gR_set X hil]
    exact hD.set (gR_at X hil)
  refine kk H1 locs1 ?_ hD2 hS1
  rw [← gR_set X hil]
  intro j x hx
  by_cases h1 : j = X.length + i.toNatClampNeg
  · subst h1
    rw [List.getElem?_set_self (by have := (List.getElem?_eq_some_iff.mp (gR_at X (ad := ad) (cy := cy) (G := G) hil)).1; exact this)] at hx
    cases hx
    exact hP1 1 _ rfl
  · rw [List.getElem?_set_ne (fun q => h1 q.symm)] at hx
    by_cases h2 : j = q
    · subst h2
      rw [hq2] at hx
      cases hx
      exact hP1 0 _ rfl
    · by_cases h3 : j = X.length + k.toNatClampNeg
      · subst h3
        rw [gR_at X hkl] at hx
        cases hx
        exact hP1 2 _ rfl
      · have hat := hP j x hx
        refine hat.kept (hk1 x.1 hat.lt (fun hv => ?_))
        rcases hv with ⟨z, e0, hz⟩ | hz
        · have hz3 : z < 3 := (List.getElem?_eq_some_iff.mp hz).1
          rcases (show z = 0 ∨ z = 1 ∨ z = 2 by omega) with rfl | rfl | rfl
          · have e1 : b = x.1 := by have := Option.some.inj hz; exact congrArg Prod.fst this
            exact h2 (hD.1 j q x _ hx hq2 e1.symm)
          · have e1 : ad i.toNatClampNeg = x.1 := by have := Option.some.inj hz; exact congrArg Prod.fst this
            exact h1 (hD.1 j _ x _ hx (gR_at X hil) e1.symm)
          · have e1 : ad k.toNatClampNeg = x.1 := by have := Option.some.inj hz; exact congrArg Prod.fst this
            exact h3 (hD.1 j _ x _ hx (gR_at X hkl) e1.symm)
        · have := hat.lt
          omega
end KG
