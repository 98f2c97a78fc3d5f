/-! loops, guards, calls: what every walk here stands on -/
def itr {σ ρ : Type} (step : σ → Option (σ ⊕ ρ)) : Nat → σ → Option ρ
  | 0, _ => none
  | n + 1, s => (step s).bind (fun y => Sum.elim (fun s' => itr step n s') (fun r => some r) y)
theorem itr_0 {σ ρ : Type} {step : σ → Option (σ ⊕ ρ)} {s : σ} {r : ρ} (h : itr step 0 s = some r) : False := by
  rw [itr] at h
  cases h
theorem itr_s {σ ρ : Type} {step : σ → Option (σ ⊕ ρ)} {n : Nat} {s : σ} {r : ρ} (h : itr step (n + 1) s = some r) : ∃ y, step s = some y ∧ Sum.elim (fun s' => itr step n s' = some r) (fun r' => r' = r) y := by
  rw [itr] at h
  cases hs : step s with
  | none => rw [hs] at h; cases h
  | some y =>
    rw [hs] at h
    refine ⟨y, rfl, ?_⟩
    cases y with
    | inl s' => exact h
    | inr r' => exact Option.some.inj h
theorem itr_mono {σ ρ : Type} {step : σ → Option (σ ⊕ ρ)} {r : ρ} : ∀ {n k : Nat} {s : σ}, itr step n s = some r → n ≤ k → itr step k s = some r
  | 0, _, _, h, _ => (itr_0 h).elim
  | n + 1, 0, _, _, hk => absurd hk (by omega)
  | n + 1, k + 1, s, h, hk => by
    obtain ⟨y, hy, hn⟩ := itr_s h
    rw [itr, hy]
    cases y with
    | inl s' => exact itr_mono (n := n) (k := k) hn (by omega)
    | inr r' => exact congrArg some hn
noncomputable def lp {σ ρ : Type} (step : σ → Option (σ ⊕ ρ)) (s : σ) : Option ρ :=
  @dite _ (∃ (n : Nat) (r : ρ), itr step n s = some r) (Classical.propDecidable _) (fun h => some (Classical.choose (Classical.choose_spec h))) (fun _ => none)
theorem lp_ex {σ ρ : Type} {step : σ → Option (σ ⊕ ρ)} {s : σ} {r : ρ} (h : lp step s = some r) : ∃ n, itr step n s = some r := by
  unfold lp at h
  by_cases hc : ∃ (n : Nat) (r : ρ), itr step n s = some r
  · rw [dif_pos hc] at h
    have := Classical.choose_spec (Classical.choose_spec hc)
    rw [Option.some.inj h] at this
    exact ⟨_, this⟩
  · rw [dif_neg hc] at h
    cases h
theorem lp_of {σ ρ : Type} {step : σ → Option (σ ⊕ ρ)} {s : σ} {r : ρ} {n : Nat} (h : itr step n s = some r) : lp step s = some r := by
  have hc : ∃ (n : Nat) (r : ρ), itr step n s = some r := ⟨n, r, h⟩
  unfold lp
  rw [dif_pos hc]
  have h2 := Classical.choose_spec (Classical.choose_spec hc)
  have h3 := itr_mono h (Nat.le_max_left n (Classical.choose hc))
  have h4 := itr_mono h2 (Nat.le_max_right n (Classical.choose hc))
  rw [h3] at h4
  exact h4.symm
theorem lp_c {σ ρ : Type} {step : σ → Option (σ ⊕ ρ)} {s s' : σ} (h : step s = some (.inl s')) : lp step s = lp step s' := by
  cases h2 : lp step s' with
  | some r =>
    obtain ⟨n, hn⟩ := lp_ex h2
    refine lp_of (n := n + 1) ?_
    rw [itr, h]
    exact hn
  | none =>
    cases h3 : lp step s with
    | none => rfl
    | some r =>
      obtain ⟨n, hn⟩ := lp_ex h3
      cases n with
      | zero => exact (itr_0 hn).elim
      | succ n =>
        obtain ⟨y, hy, hk⟩ := itr_s hn
        rw [h] at hy
        cases hy
        rw [lp_of (n := n) hk] at h2
        cases h2
theorem lp_x {σ ρ : Type} {step : σ → Option (σ ⊕ ρ)} {s : σ} {r : ρ} (h : step s = some (.inr r)) : lp step s = some r := by
  refine lp_of (n := 1) ?_
  rw [itr, h]
  rfl
noncomputable def gd {α : Type} (c : Prop) (k : Option α) : Option α := @ite _ c (Classical.propDecidable c) k none
theorem gd_s {α : Type} {c : Prop} {k : Option α} {y : α} (h : gd c k = some y) : c ∧ k = some y := by
  unfold gd at h
  by_cases hc : c
  · rw [if_pos hc] at h; exact ⟨hc, h⟩
  · rw [if_neg hc] at h; cases h
theorem gd_t {α : Type} {c : Prop} {k : Option α} (h : c) : gd c k = k := by
  unfold gd
  rw [if_pos h]
theorem bd_s {α β : Type} {x : Option α} {k : α → Option β} {y : β} (h : x.bind k = some y) : ∃ r, x = some r ∧ k r = some y := by
  cases x with
  | none => cases h
  | some r => exact ⟨r, rfl, h⟩
theorem it_t {c : Prop} {i : Decidable c} {α : Type} {a b r : α} (hc : c) (h : @ite α c i a b = r) : a = r := by
  rw [if_pos hc] at h; exact h
theorem it_f {c : Prop} {i : Decidable c} {α : Type} {a b r : α} (hc : ¬ c) (h : @ite α c i a b = r) : b = r := by
  rw [if_neg hc] at h; exact h
theorem sm_l {α β γ : Type} {f : α → γ} {g : β → γ} {a : α} {r : γ} (h : Sum.elim f g (.inl a) = r) : f a = r := h
theorem sm_r {α β γ : Type} {f : α → γ} {g : β → γ} {a : β} {r : γ} (h : Sum.elim f g (.inr a) = r) : g a = r := h
/-- the words that aren't in a method's own list: private methods of the nest; the static array -/
def nwL : List Cond := [.methodLinkNest RX6 46 yX9_has "MeetSets", .methodLinkNest RX7 61 yX9_has "MeetSets", .methodLinkNest RX2 38 yX9_has "MeetSets", .methodLinkNest RX5 57 yX9_has "MeetSets", .methodLinkNest RX0 40 yX9_has "MeetSets"]
def nw (A : Nat → Prop) (U : State) (H : Heap) : Prop := (va_Nw (.methodLinkNest RX6 46 yX9_has "MeetSets") U ∧ va_Nw (.methodLinkNest RX7 61 yX9_has "MeetSets") U ∧ va_Nw (.methodLinkNest RX2 38 yX9_has "MeetSets") U ∧ va_Nw (.methodLinkNest RX5 57 yX9_has "MeetSets") U ∧ va_Nw (.methodLinkNest RX0 40 yX9_has "MeetSets") U) ∧ ∃ t : Nat, va_Z "MeetSets$Match" "THREES" "[I" (.ref t) A U H ∧ va_T .int t 10 (fun j => .int (nI (3 ^ j))) A U H
theorem nw.warm {A : Nat → Prop} {s U : State} {H : Heap} (h : nw A s H) (hW : s.WarmedH U.vm) : nw A U H := by
  obtain ⟨⟨h1, h2, h3, h4, h5⟩, t, hZ, hT⟩ := h
  exact ⟨⟨va_Nw.warmM hW h1, va_Nw.warmM hW h2, va_Nw.warmM hW h3, va_Nw.warmM hW h4, va_Nw.warmM hW h5⟩, t, hZ.moved hW.alike, hT.moved hW.alike⟩
theorem nw.same {A : Nat → Prop} {s U : State} {H : Heap} (h : nw A s H) (hv : s.vm = U.vm) : nw A U H := by
  obtain ⟨⟨h1, h2, h3, h4, h5⟩, t, hZ, hT⟩ := h
  have ha : s.vm.Alike U.vm := by rw [hv]; exact Vm.Alike.refl U.vm
  exact ⟨⟨va_Nw.same rfl hv h1, va_Nw.same rfl hv h2, va_Nw.same rfl hv h3, va_Nw.same rfl hv h4, va_Nw.same rfl hv h5⟩, t, hZ.moved ha, hT.moved ha⟩
theorem nw.kept {A : Nat → Prop} {s : State} {H H1 : Heap} (h : nw A s H) (hq : ∀ a : Nat, a < H.size → ¬ A a → H1[a]? = H[a]?) : nw A s H1 := by
  obtain ⟨h1, t, hZ, hT⟩ := h
  exact ⟨h1, t, hZ.kept hq, hT.kept hq⟩
theorem nw.narrow {A B : Nat → Prop} {s : State} {H : Heap} (h : nw A s H) (hq : ∀ q, B q → A q) : nw B s H := by
  obtain ⟨h1, t, hZ, hT⟩ := h
  exact ⟨h1, t, hZ.narrow hq, hT.narrow hq⟩
def sPc (av : List Value) (D : va_G) (tys : List (ClassId × FieldType)) (ws : va_W) (sz : Nat) : Array Value → State → Prop := va_Pc av (fun U => U.heap.size = sz ∧ va_P D vwCl ws U.heap ∧ va_K D vwCl tys U ∧ va_D (fun _ => True) ws ∧ nw (va_A ws sz) U U.heap)
def sB (D : va_G) (tys : List (ClassId × FieldType)) (A : Nat → Prop) (ws : va_W) : Unit → State → Prop := fun _ t => va_P D vwCl ws t.heap ∧ va_K D vwCl tys t ∧ va_D A ws
theorem sPc_blind {av : List Value} {D : va_G} {tys : List (ClassId × FieldType)} {ws : va_W} {sz : Nat} : FrameBlind (sPc av D tys ws sz) := by
  intro a U g mk q
  obtain ⟨q0, q1, qP, qK, qD, qN⟩ := q
  exact ⟨q0, q1, qP, va_K.moved (u := U) (U := U.calling g mk a) (Vm.Alike.refl U.vm) qK, qD, qN.same (U := U.calling g mk a) rfl⟩
theorem fm_of {α : Type} {f : Nat → Option α} : ∀ {is : List Nat} {w : List α}, is.map f = w.map some → is.filterMap f = w
  | [], [], _ => rfl
  | [], _ :: _, h => by simp at h
  | _ :: _, [], h => by simp at h
  | i :: is, x :: w, h => by
    simp only [List.map_cons, List.cons.injEq] at h
    rw [List.filterMap_cons, h.1, fm_of h.2]
section KC
variable {p : Program} {l : Launch} {e : Env} {R : Room} {s : State} {m : MethodId} {args : Array Value} {below : List Frame} {meth : Method} {c : Code} {H : Heap} {locs : List Loc} {cells slots : Nat} {Q : State → Prop}
variable {D : va_G} {A : Nat → Prop} {tys tysc : List (ClassId × FieldType)} {ws wc wr w1 w2 : va_W} {isC isR isT pm : List Nat}
theorem w_abs {g : JFrame} (k : ∀ Z : Heap → List Loc → Nat → Nat → JFrame → Prop, (∀ {H : Heap} {locs : List Loc} {k n : Nat} {g : JFrame}, W p l e R s m args below meth c H locs k n Q g → Z H locs k n g) → (∀ {H : Heap} {locs : List Loc} {k n : Nat} {g : JFrame}, Z H locs k n g → W p l e R s m args below meth c H locs k n Q g) → Z H locs cells slots g) : W p l e R s m args below meth c H locs cells slots Q g :=
  k (fun H locs k n g => W p l e R s m args below meth c H locs k n Q g) (fun h => h) (fun h => h)
theorem kp_S {As : List Value} (hK : va_K D vwCl tys s) (hP : va_P D vwCl ws H) (hD : va_D A ws) (hS : va_S A s.heap H locs) (hA : ∀ q, s.heap.size ≤ q → A q) (hN : nw A s s.heap) (hC : isC.map (fun i => ws[i]?) = wc.map some) (hn : va_nd isC = true) (hT : isT.filterMap (fun i => tys[i]?) = tysc) : PreS s H (sPc As D tysc wc H.size) As := by
  have hF := va_free (wc := wc) hD hS hA isC hC
  refine ⟨sPc_blind, fun U hU hW => ⟨rfl, by rw [hU], by rw [hU]; exact hP.sub isC (fm_of hC), va_K.moved hW.alike (hK.sub isT hT), (hD.sub isC hn hC).weaken (fun _ _ _ _ => trivial), ?_⟩⟩
  rw [hU]
  exact ((hN.kept hS.2.1).narrow hF).warm hW
theorem kp_V {As : List Value} {C : String} {T : u_T} {N ci q0 b : Nat} {fs : List Value} (hK : va_K D vwCl tys s) (hP : va_P D vwCl ws H) (hD : va_D A ws) (hS : va_S A s.heap H locs) (hA : ∀ q, s.heap.size ≤ q → A q) (hN : nw A s s.heap) (hC : isC.map (fun i => ws[i]?) = wc.map some) (hn : va_nd isC = true) (hT : isT.filterMap (fun i => tys[i]?) = tysc) (hc : vwCl[ci]? = some (C, T, N)) (hq : wc[q0]? = some (b, .inr (ci, fs))) : PreV s H C b (sPc (.ref b :: As) D tysc wc H.size) As :=
  ⟨sPc_blind, va_recv (hK.sub isT hT) (hP.sub isC (fm_of hC)) hc hq, (kp_S (As := .ref b :: As) hK hP hD hS hA hN hC hn hT).2⟩
theorem kj {t : State} {H1 : Heap} (ht : t.heap = H1) (hB : sB D tysc (va_A wc H.size) w1 () t) (hk1 : ∀ q : Nat, q < H.size → ¬ va_A wc H.size q → H1[q]? = H[q]?) (hP : va_P D vwCl ws H) (hD : va_D A ws) (hS : va_S A s.heap H locs) (hA : ∀ q, s.heap.size ≤ q → A q) (hC : isC.map (fun i => ws[i]?) = wc.map some) (hR : isR.map (fun i => ws[i]?) = wr.map some) (hnR : va_nd isR = true) (hdis : ∀ i ∈ isR, i ∉ isC) (hpm : pm.map (fun i => (wr ++ w1)[i]?) = w2.map some) (hnp : va_nd pm = true) : va_P D vwCl w2 H1 ∧ va_D A w2 := by
  obtain ⟨hP1, hK1, hD1⟩ := hB
  rw [ht] at hP1
  obtain ⟨hP2, hD2⟩ := va_join (wr := wr) (w1 := w1) hP hD isC isR hC hR hnR hdis hk1 (va_free (wc := wc) hD hS hA isC hC) hP1 hD1
  exact ⟨hP2.sub pm (fm_of hpm), hD2.sub pm hnp hpm⟩
variable {pc : Nat} {ls : Array Slot} {rest st0 : List Value} {a : Array Value}
theorem kc_i {rv : Int32} (hr : va_Run p l e R s m args below meth c H locs cells slots 0 0 (F0 m pc ls st0) rest (va_Qi (fun (r : Int32) (_ : Unit) => r = rv) (sB D tysc (va_A wc H.size) w1) (va_A wc H.size) a) (va_A wc H.size)) (hP : va_P D vwCl ws H) (hD : va_D A ws) (hS : va_S A s.heap H locs) (hA : ∀ q, s.heap.size ≤ q → A q) (hC : isC.map (fun i => ws[i]?) = wc.map some) (hR : isR.map (fun i => ws[i]?) = wr.map some) (hnR : va_nd isR = true) (hdis : ∀ i ∈ isR, i ∉ isC) (hpm : pm.map (fun i => (wr ++ w1)[i]?) = w2.map some) (hnp : va_nd pm = true)
    (kk : ∀ (H1 : Heap) (locs1 : List Loc), va_P D vwCl w2 H1 → va_D A w2 → va_S A s.heap H1 locs1 → W p l e R s m args below meth c H1 locs1 cells slots Q (F0 m (pc + 3) ls (.int rv :: rest))) : W p l e R s m args below meth c H locs cells slots Q (F0 m pc ls st0) := by
  have hF := va_free (wc := wc) hD hS hA isC hC
  refine va_calli hr hS (fun q _ h => hF q h) hF (fun r u t H1 locs1 ht hvm hw hB hz1 hk1 hS1 => ?_)
  obtain ⟨hP2, hD2⟩ := kj ht hB hk1 hP hD hS hA hC hR hnR hdis hpm hnp
  subst hw
  exact kk H1 locs1 hP2 hD2 hS1
theorem kc_l {rv : Int64} (hr : va_Run p l e R s m args below meth c H locs cells slots 0 0 (F0 m pc ls st0) rest (va_Ql (fun (r : Int64) (_ : Unit) => r = rv) (sB D tysc (va_A wc H.size) w1) (va_A wc H.size) a) (va_A wc H.size)) (hP : va_P D vwCl ws H) (hD : va_D A ws) (hS : va_S A s.heap H locs) (hA : ∀ q, s.heap.size ≤ q → A q) (hC : isC.map (fun i => ws[i]?) = wc.map some) (hR : isR.map (fun i => ws[i]?) = wr.map some) (hnR : va_nd isR = true) (hdis : ∀ i ∈ isR, i ∉ isC) (hpm : pm.map (fun i => (wr ++ w1)[i]?) = w2.map some) (hnp : va_nd pm = true)
    (kk : ∀ (H1 : Heap) (locs1 : List Loc), va_P D vwCl w2 H1 → va_D A w2 → va_S A s.heap H1 locs1 → W p l e R s m args below meth c H1 locs1 cells slots Q (F0 m (pc + 3) ls (.long rv :: rest))) : W p l e R s m args below meth c H locs cells slots Q (F0 m pc ls st0) := by
  have hF := va_free (wc := wc) hD hS hA isC hC
  refine va_calll hr hS (fun q _ h => hF q h) hF (fun r u t H1 locs1 ht hvm hw hB hz1 hk1 hS1 => ?_)
  obtain ⟨hP2, hD2⟩ := kj ht hB hk1 hP hD hS hA hC hR hnR hdis hpm hnp
  subst hw
  exact kk H1 locs1 hP2 hD2 hS1
theorem kc_v (hr : va_Run p l e R s m args below meth c H locs cells slots 0 0 (F0 m pc ls st0) rest (va_Qv (fun (_ : Unit) => True) (sB D tysc (va_A wc H.size) w1) (va_A wc H.size) a) (va_A wc H.size)) (hP : va_P D vwCl ws H) (hD : va_D A ws) (hS : va_S A s.heap H locs) (hA : ∀ q, s.heap.size ≤ q → A q) (hC : isC.map (fun i => ws[i]?) = wc.map some) (hR : isR.map (fun i => ws[i]?) = wr.map some) (hnR : va_nd isR = true) (hdis : ∀ i ∈ isR, i ∉ isC) (hpm : pm.map (fun i => (wr ++ w1)[i]?) = w2.map some) (hnp : va_nd pm = true)
    (kk : ∀ (H1 : Heap) (locs1 : List Loc), va_P D vwCl w2 H1 → va_D A w2 → va_S A s.heap H1 locs1 → W p l e R s m args below meth c H1 locs1 cells slots Q (F0 m (pc + 3) ls rest)) : W p l e R s m args below meth c H locs cells slots Q (F0 m pc ls st0) := by
  have hF := va_free (wc := wc) hD hS hA isC hC
  refine va_callv hr hS (fun q _ h => hF q h) hF (fun u t H1 locs1 ht hvm hw hB hz1 hk1 hS1 => ?_)
  obtain ⟨hP2, hD2⟩ := kj ht hB hk1 hP hD hS hA hC hR hnR hdis hpm hnp
  exact kk H1 locs1 hP2 hD2 hS1
end KC
theorem tb_out3 {x : Int32} (h0 : ¬ x = 0) (h1 : ¬ x = 1) (h2 : ¬ x = 2) : x.toInt < 0 ∨ 2 < x.toInt := by
  have e0 : ¬ x.toInt = 0 := fun h => h0 (Int32.toInt_inj.mp (h.trans (by decide)))
  have e1 : ¬ x.toInt = 1 := fun h => h1 (Int32.toInt_inj.mp (h.trans (by decide)))
  have e2 : ¬ x.toInt = 2 := fun h => h2 (Int32.toInt_inj.mp (h.trans (by decide)))
  omega
