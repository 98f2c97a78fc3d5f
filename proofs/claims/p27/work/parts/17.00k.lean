/-! a world that ends in the table's rows: what is read of it, without unfolding the rows -/
theorem gC_ {X w0 : va_W} {is0 : List Nat} {n : Nat} {ad : Nat → Nat} {cy : ClassId} {G : Nat → Nat → Int64} (hn : X.length = n) (h : is0.map (fun i => X[i]?) = w0.map some) : (is0 ++ List.range' n 11).map (fun i => (X ++ gR ad cy G)[i]?) = (w0 ++ gR ad cy G).map some := by
  subst hn
  rw [List.map_append, List.map_append]
  have e1 : is0.map (fun i => (X ++ gR ad cy G)[i]?) = w0.map some := by
    rw [← h]
    apply List.map_congr_left
    intro i hi
    have hm : X[i]? ∈ is0.map (fun i => X[i]?) := List.mem_map.mpr ⟨i, hi, rfl⟩
    rw [h] at hm
    obtain ⟨c, _, hc⟩ := List.mem_map.mp hm
    exact List.getElem?_append_left (List.getElem?_eq_some_iff.mp hc.symm).1
  have e2 : (List.range' X.length 11).map (fun i => (X ++ gR ad cy G)[i]?) = (gR ad cy G).map some := by
    rw [List.range'_eq_map_range, List.map_map, gR_eq, List.map_map]
    apply List.map_congr_left
    intro i hi
    exact gR_at X (List.mem_range.mp hi)
  rw [e1, e2]
theorem gP_ {wr w10 X2 : va_W} {pm0 : List Nat} {n : Nat} {ad : Nat → Nat} {cy : ClassId} {G : Nat → Nat → Int64} (hn : (wr ++ w10).length = n) (h : pm0.map (fun i => (wr ++ w10)[i]?) = X2.map some) : (pm0 ++ List.range' n 11).map (fun i => (wr ++ (w10 ++ gR ad cy G))[i]?) = (X2 ++ gR ad cy G).map some := by
  rw [← List.append_assoc]
  exact gC_ hn h
theorem gQ_ {wr0 w1 X2 : va_W} {pm0 : List Nat} {n : Nat} {ad : Nat → Nat} {cy : ClassId} {G : Nat → Nat → Int64} (hn : wr0.length = n) (h : pm0.map (fun i => ((wr0 ++ gR ad cy G) ++ w1)[i]?) = X2.map some) : (pm0 ++ List.range' n 11).map (fun i => ((wr0 ++ gR ad cy G) ++ w1)[i]?) = (X2 ++ gR ad cy G).map some := by
  subst hn
  rw [List.map_append, List.map_append, h]
  have e2 : (List.range' wr0.length 11).map (fun i => ((wr0 ++ gR ad cy G) ++ w1)[i]?) = (gR ad cy G).map some := by
    rw [List.range'_eq_map_range, List.map_map]
    refine Eq.trans ?_ (by rw [gR_eq, List.map_map])
    apply List.map_congr_left
    intro i hi
    have hi := List.mem_range.mp hi
    have hl : wr0.length + i < (wr0 ++ gR ad cy G).length := by
      rw [List.length_append, show (gR ad cy G).length = 11 from rfl]; omega
    exact (List.getElem?_append_left hl).trans (gR_at wr0 hi)
  rw [e2]
