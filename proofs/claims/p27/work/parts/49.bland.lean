/-! which row leaves; the table stays feasible -/
theorem cr_lt {a b x : Int} (hx : 0 < x) (h : a * x < b * x) : a < b := Int.lt_of_mul_lt_mul_right h (Int.le_of_lt hx)
theorem cr_le {a b x : Int} (hx : 0 < x) (h : a * x ≤ b * x) : a ≤ b := Int.le_of_mul_le_mul_right h hx
def lxo (a p : Int) (l : Nat) (b q : Int) (m : Nat) : Prop := a * q < b * p ∨ (a * q = b * p ∧ l ≤ m)
theorem lx_tr {a p b q c s : Int} {l m k : Nat} (hp : 0 < p) (hq : 0 < q) (hs : 0 < s) (h1 : lxo a p l b q m) (h2 : lxo b q m c s k) : lxo a p l c s k := by
  have e1 : a * s * q = a * q * s := Int.mul_right_comm a s q
  have e2 : b * p * s = b * s * p := Int.mul_right_comm b p s
  have e3 : c * q * p = c * p * q := Int.mul_right_comm c q p
  rcases h1 with h1 | ⟨h1, l1⟩
  · left
    have a1 : a * q * s < b * p * s := Int.mul_lt_mul_of_pos_right h1 hs
    have a2 : b * s * p ≤ c * q * p := by
      rcases h2 with h2 | ⟨h2, _⟩
      · exact Int.mul_le_mul_of_nonneg_right (Int.le_of_lt h2) (Int.le_of_lt hp)
      · rw [h2]; exact Int.le_refl _
    refine cr_lt (x := q) hq ?_
    omega
  · rcases h2 with h2 | ⟨h2, l2⟩
    · left
      have a1 : a * q * s = b * p * s := by rw [h1]
      have a2 : b * s * p < c * q * p := Int.mul_lt_mul_of_pos_right h2 hp
      refine cr_lt (x := q) hq ?_
      omega
    · right
      have a1 : a * q * s = b * p * s := by rw [h1]
      have a2 : b * s * p = c * q * p := by rw [h2]
      refine ⟨?_, by omega⟩
      refine Int.eq_of_mul_eq_mul_right (a := q) (by omega) ?_
      omega
def lvs (n : Nat) (M : Nat → Nat → Int) (bs : Nat → Nat) (c : Nat) : Nat → Option Nat
  | 0 => none
  | i + 1 => if 0 < TT n M bs i c then (match lvs n M bs c i with
    | none => some i
    | some b => if TT n M bs i 26 * TT n M bs b c - TT n M bs b 26 * TT n M bs i c < 0 ∨ (TT n M bs i 26 * TT n M bs b c - TT n M bs b 26 * TT n M bs i c = 0 ∧ bs i < bs b) then some i else some b) else lvs n M bs c i
theorem lvs_none {n : Nat} {M : Nat → Nat → Int} {bs : Nat → Nat} {c : Nat} : ∀ {m : Nat}, lvs n M bs c m = none → ∀ i, i < m → ¬ 0 < TT n M bs i c
  | 0, _, i, hi => absurd hi (Nat.not_lt_zero i)
  | m + 1, h, i, hi => by
    rw [lvs] at h
    by_cases q : 0 < TT n M bs m c
    · rw [if_pos q] at h
      cases hl : lvs n M bs c m with
      | none => rw [hl] at h; cases h
      | some b =>
        rw [hl] at h
        dsimp only at h
        split at h <;> cases h
    · rw [if_neg q] at h
      rcases Nat.lt_or_ge i m with a | a
      · exact lvs_none h i a
      · rw [show i = m by omega]; exact q
theorem lvs_some {n : Nat} {M : Nat → Nat → Int} {bs : Nat → Nat} {c : Nat} : ∀ {m r : Nat}, lvs n M bs c m = some r → r < m ∧ 0 < TT n M bs r c ∧ ∀ i, i < m → 0 < TT n M bs i c → lxo (TT n M bs r 26) (TT n M bs r c) (bs r) (TT n M bs i 26) (TT n M bs i c) (bs i)
  | 0, r, h => by cases h
  | m + 1, r, h => by
    have hrefl : ∀ i, lxo (TT n M bs i 26) (TT n M bs i c) (bs i) (TT n M bs i 26) (TT n M bs i c) (bs i) := fun i => Or.inr ⟨rfl, Nat.le_refl _⟩
    rw [lvs] at h
    by_cases q : 0 < TT n M bs m c
    · rw [if_pos q] at h
      cases hl : lvs n M bs c m with
      | none =>
        rw [hl] at h
        cases h
        refine ⟨by omega, q, fun i hi hp => ?_⟩
        rcases Nat.lt_or_ge i m with a | a
        · exact absurd hp (lvs_none hl i a)
        · rw [show i = m by omega]; exact hrefl m
      | some b =>
        rw [hl] at h
        dsimp only at h
        obtain ⟨h1, h2, h3⟩ := lvs_some hl
        by_cases q2 : TT n M bs m 26 * TT n M bs b c - TT n M bs b 26 * TT n M bs m c < 0 ∨ (TT n M bs m 26 * TT n M bs b c - TT n M bs b 26 * TT n M bs m c = 0 ∧ bs m < bs b)
        · rw [if_pos q2] at h
          cases h
          have hmb : lxo (TT n M bs m 26) (TT n M bs m c) (bs m) (TT n M bs b 26) (TT n M bs b c) (bs b) := by
            rcases q2 with q2 | ⟨q2, q3⟩
            · left; omega
            · right; exact ⟨by omega, by omega⟩
          refine ⟨by omega, q, fun i hi hp => ?_⟩
          rcases Nat.lt_or_ge i m with a | a
          · exact lx_tr q h2 hp hmb (h3 i a hp)
          · rw [show i = m by omega]; exact hrefl m
        · rw [if_neg q2] at h
          cases h
          refine ⟨by omega, h2, fun i hi hp => ?_⟩
          rcases Nat.lt_or_ge i m with a | a
          · exact h3 i a hp
          · rw [show i = m by omega]
            unfold lxo
            by_cases q3 : TT n M bs m 26 * TT n M bs r c - TT n M bs r 26 * TT n M bs m c = 0
            · right
              exact ⟨by omega, by
                rcases Nat.lt_or_ge (bs m) (bs r) with z | z
                · exact absurd (Or.inr ⟨q3, z⟩) q2
                · exact z⟩
            · left
              have : ¬ TT n M bs m 26 * TT n M bs r c - TT n M bs r 26 * TT n M bs m c < 0 := fun z => q2 (Or.inl z)
              omega
    · rw [if_neg q] at h
      obtain ⟨h1, h2, h3⟩ := lvs_some h
      refine ⟨by omega, h2, fun i hi hp => ?_⟩
      rcases Nat.lt_or_ge i m with a | a
      · exact h3 i a hp
      · rw [show i = m by omega] at hp; exact absurd hp q
def OkB (n : Nat) (M : Nat → Nat → Int) (bs : Nat → Nat) : Prop := 0 < byD n M bs ∧ CI n M bs ∧ ∀ s, s < n → 0 ≤ TT n M bs s 26
theorem nn_mul {a x : Int} (ha : 0 < a) (h : 0 ≤ a * x) : 0 ≤ x := by
  rcases Int.lt_or_le x 0 with q | q
  · have := Int.mul_neg_of_pos_of_neg ha q; omega
  · exact q
theorem Ok_put {n r c : Nat} {M : Nat → Nat → Int} {bs : Nat → Nat} (hn : n ≤ 16) (hO : OkB n M bs) (hl : lvs n M bs c n = some r) : OkB n M (put bs r c) := by
  obtain ⟨h1, h2, h3⟩ := hO
  obtain ⟨hr, hp, hx⟩ := lvs_some hl
  refine ⟨by rw [by_put]; exact hp, CI_put hn hr h2 (by omega), fun s hs => ?_⟩
  by_cases q : s = r
  · subst q; rw [TT_r]; exact h3 s hs
  · refine nn_mul h1 ?_
    rw [TT_piv hn hr hs q h2]
    by_cases q2 : 0 < TT n M bs s c
    · have : TT n M bs r 26 * TT n M bs s c ≤ TT n M bs s 26 * TT n M bs r c := by
        rcases hx s hs q2 with z | ⟨z, _⟩
        · exact Int.le_of_lt z
        · exact Int.le_of_eq z
      rw [Int.mul_comm (TT n M bs s c)]
      omega
    · have a1 : 0 ≤ TT n M bs s 26 * TT n M bs r c := Int.mul_nonneg (h3 s hs) (Int.le_of_lt hp)
      have a2 : TT n M bs s c * TT n M bs r 26 ≤ 0 := Int.mul_nonpos_of_nonpos_of_nonneg (by omega) (h3 r hr)
      omega
theorem si_np {f : Nat → Int} : ∀ {n : Nat}, (∀ i, i < n → f i ≤ 0) → si f n ≤ 0
  | 0, _ => Int.le_refl 0
  | n + 1, h => by
    have := si_np (f := f) (n := n) (fun i hi => h i (by omega))
    have := h n (by omega)
    rw [si]; omega
theorem si_nn {f : Nat → Int} : ∀ {n : Nat}, (∀ i, i < n → 0 ≤ f i) → 0 ≤ si f n
  | 0, _ => Int.le_refl 0
  | n + 1, h => by
    have := si_nn (f := f) (n := n) (fun i hi => h i (by omega))
    have := h n (by omega)
    rw [si]; omega
theorem lvs_ex {n c e : Nat} {M : Nat → Nat → Int} {bs : Nat → Nat} (hM : ∀ j e, 0 ≤ M j e) (hO : OkB n M bs) (he : e < n) (hc : 0 < M c e) : ∃ r, lvs n M bs c n = some r := by
  cases hl : lvs n M bs c n with
  | some r => exact ⟨r, rfl⟩
  | none =>
    exfalso
    have h0 := lvs_none hl
    have h1 := hO.2.1 c e he
    have h2 : si (fun s => TT n M bs s c * M (bs s) e) n ≤ 0 := si_np (fun s hs => Int.mul_nonpos_of_nonpos_of_nonneg (by have := h0 s hs; omega) (hM _ _))
    have h3 : 0 < byD n M bs * M c e := Int.mul_pos hO.1 hc
    omega
theorem bs_inj {n s s' : Nat} {M : Nat → Nat → Int} {bs : Nat → Nat} (hn : n ≤ 16) (hO : 0 < byD n M bs) (hs : s < n) (hs' : s' < n) (h : bs s = bs s') : s = s' := by
  rcases Classical.em (s = s') with q | q
  · exact q
  · exfalso
    have : byD n M bs = 0 := Dt_eq' hn hs hs' q (fun e _ => by show M (bs s) e = M (bs s') e; rw [h])
    omega
/-! a run of steps never comes back -/
def StpB (n : Nat) (M : Nat → Nat → Int) (ob : Nat → Int) (st : Nat → Nat → Nat) (cs rs : Nat → Nat) (t : Nat) : Prop := cs t < 26 ∧ zr n M ob (st t) (cs t) < 0 ∧ (∀ j, j < cs t → 0 ≤ zr n M ob (st t) j) ∧ lvs n M (st t) (cs t) n = some (rs t) ∧ st (t + 1) = put (st t) (rs t) (cs t)
theorem same_tab {n : Nat} {M : Nat → Nat → Int} {b1 b2 : Nat → Nat} (h : ∀ s, s < n → b1 s = b2 s) : byD n M b1 = byD n M b2 ∧ ∀ s j, TT n M b1 s j = TT n M b2 s j := by
  have hB : ∀ s, s < n → ∀ e, e < n → Bc M b1 s e = Bc M b2 s e := fun s hs e _ => by unfold Bc; rw [h s hs]
  refine ⟨Dt_cong hB, fun s j => Dt_cong (fun i hi e he => ?_)⟩
  unfold sv
  by_cases c : i = s
  · rw [if_pos c, if_pos c]
  · rw [if_neg c, if_neg c]; exact hB i hi e he
theorem same_zr {n j : Nat} {M : Nat → Nat → Int} {ob : Nat → Int} {b1 b2 : Nat → Nat} (h : ∀ s, s < n → b1 s = b2 s) : zr n M ob b1 j = zr n M ob b2 j := by
  unfold zr
  rw [(same_tab (M := M) h).1, si_cong (fun s hs => by rw [h s hs, (same_tab (M := M) h).2 s j])]
set_option maxHeartbeats 1000000 in
theorem bland {n : Nat} {M : Nat → Nat → Int} {ob : Nat → Int} {st : Nat → Nat → Nat} {cs rs : Nat → Nat} {i j : Nat} (hn : n ≤ 16) (hij : i < j) (hO : ∀ t, i ≤ t → t ≤ j → OkB n M (st t)) (hS : ∀ t, i ≤ t → t < j → StpB n M ob st cs rs t) (hlab : ∀ t s, i ≤ t → t ≤ j → s < n → st t s < 26) (heq : ∀ s, s < n → st i s = st j s) : False := by
  -- the value never falls
  have hval : ∀ t, i ≤ t → t < j → byD n M (st t) * zr n M ob (st (t + 1)) 26 = zr n M ob (st t) 26 * byD n M (st (t + 1)) - zr n M ob (st t) (cs t) * TT n M (st t) (rs t) 26 := by
    intro t h1 h2
    obtain ⟨_, _, _, hl, hp⟩ := hS t h1 h2
    have hr := (lvs_some hl).1
    rw [hp, zr_piv hn hr (hO t h1 (by omega)).2.1, by_put]
  have hstep : ∀ t, i ≤ t → t < j → zr n M ob (st t) 26 * byD n M (st (t + 1)) ≤ zr n M ob (st (t + 1)) 26 * byD n M (st t) := by
    intro t h1 h2
    obtain ⟨_, hz, _, hl, _⟩ := hS t h1 h2
    have hr := (lvs_some hl).1
    have h3 := hval t h1 h2
    have h4 : zr n M ob (st t) (cs t) * TT n M (st t) (rs t) 26 ≤ 0 := Int.mul_nonpos_of_nonpos_of_nonneg (Int.le_of_lt hz) ((hO t h1 (by omega)).2.2 _ hr)
    rw [Int.mul_comm (zr n M ob (st (t + 1)) 26)]
    omega
  have hmono : ∀ d t, i ≤ t → t + d ≤ j → zr n M ob (st t) 26 * byD n M (st (t + d)) ≤ zr n M ob (st (t + d)) 26 * byD n M (st t) := by
    intro d
    induction d with
    | zero => intro t _ _; exact Int.le_refl _
    | succ d ih =>
      intro t h1 h2
      have a1 := ih t h1 (by omega)
      have a2 := hstep (t + d) (by omega) (by omega)
      have p0 := (hO t h1 (by omega)).1
      have p1 := (hO (t + d) (by omega) (by omega)).1
      have p2 := (hO (t + d + 1) (by omega) (by omega)).1
      have hl : lxo (zr n M ob (st t) 26) (byD n M (st t)) 0 (zr n M ob (st (t + d)) 26) (byD n M (st (t + d))) 0 := by
        rcases Int.lt_or_eq_of_le a1 with z | z
        · exact Or.inl z
        · exact Or.inr ⟨z, Nat.le_refl 0⟩
      have hl2 : lxo (zr n M ob (st (t + d)) 26) (byD n M (st (t + d))) 0 (zr n M ob (st (t + d + 1)) 26) (byD n M (st (t + d + 1))) 0 := by
        rcases Int.lt_or_eq_of_le a2 with z | z
        · exact Or.inl z
        · exact Or.inr ⟨z, Nat.le_refl 0⟩
      rcases lx_tr p0 p1 p2 hl hl2 with z | ⟨z, _⟩
      · exact Int.le_of_lt z
      · exact Int.le_of_eq z
  have hsame := same_tab (M := M) heq
  have hz0 : zr n M ob (st i) 26 = zr n M ob (st j) 26 := same_zr heq
  -- no step in between moves
  have hdeg : ∀ t, i ≤ t → t < j → TT n M (st t) (rs t) 26 = 0 := by
    intro t h1 h2
    obtain ⟨_, hz, _, hl, _⟩ := hS t h1 h2
    have hr := (lvs_some hl).1
    have hge := (hO t h1 (by omega)).2.2 _ hr
    rcases Int.lt_or_eq_of_le hge with q | q
    · exfalso
      have h3 := hval t h1 h2
      have h4 : zr n M ob (st t) (cs t) * TT n M (st t) (rs t) 26 < 0 := Int.mul_neg_of_neg_of_pos hz q
      have hs1 : lxo (zr n M ob (st t) 26) (byD n M (st t)) 1 (zr n M ob (st (t + 1)) 26) (byD n M (st (t + 1))) 0 := by
        left; rw [Int.mul_comm (zr n M ob (st (t + 1)) 26)]; omega
      have a1 := hmono (t - i) i (Nat.le_refl i) (by omega)
      rw [show i + (t - i) = t by omega] at a1
      have a2 := hmono (j - (t + 1)) (t + 1) (by omega) (by omega)
      rw [show t + 1 + (j - (t + 1)) = j by omega] at a2
      have p0 := (hO i (Nat.le_refl i) (by omega)).1
      have p1 := (hO t h1 (by omega)).1
      have p2 := (hO (t + 1) (by omega) (by omega)).1
      have p3 := (hO j (by omega) (Nat.le_refl j)).1
      have l1 : lxo (zr n M ob (st i) 26) (byD n M (st i)) 1 (zr n M ob (st t) 26) (byD n M (st t)) 1 := by
        rcases Int.lt_or_eq_of_le a1 with z | z
        · exact Or.inl z
        · exact Or.inr ⟨z, Nat.le_refl 1⟩
      have l2 : lxo (zr n M ob (st (t + 1)) 26) (byD n M (st (t + 1))) 0 (zr n M ob (st j) 26) (byD n M (st j)) 0 := by
        rcases Int.lt_or_eq_of_le a2 with z | z
        · exact Or.inl z
        · exact Or.inr ⟨z, Nat.le_refl 0⟩
      have := lx_tr p0 p2 p3 (lx_tr p0 p1 p2 l1 hs1) l2
      rw [hz0, hsame.1] at this
      rcases this with z | ⟨_, z⟩
      · omega
      · omega
    · exact q.symm
  -- who is in the basis
  have hin : ∀ t l, i ≤ t → t < j → (∃ s, s < n ∧ st t s = l) → l ≠ st t (rs t) → ∃ s, s < n ∧ st (t + 1) s = l := by
    intro t l h1 h2 ⟨s, hs, hl⟩ hne
    obtain ⟨_, _, _, _, hp⟩ := hS t h1 h2
    refine ⟨s, hs, ?_⟩
    rw [hp, put_n (fun q => hne (by rw [← q, hl]))]
    exact hl
  have hout : ∀ t l, i ≤ t → t < j → ¬ (∃ s, s < n ∧ st t s = l) → l ≠ cs t → ¬ ∃ s, s < n ∧ st (t + 1) s = l := by
    intro t l h1 h2 hno hne ⟨s, hs, hl⟩
    obtain ⟨_, _, _, _, hp⟩ := hS t h1 h2
    rw [hp] at hl
    by_cases q : s = rs t
    · rw [q, put_s] at hl; exact hne hl.symm
    · rw [put_n q] at hl; exact hno ⟨s, hs, hl⟩
  have hrow : ∀ l, (∃ s, s < n ∧ st i s = l) ↔ ∃ s, s < n ∧ st j s = l := fun l => ⟨fun ⟨s, hs, h⟩ => ⟨s, hs, by rw [← heq s hs]; exact h⟩, fun ⟨s, hs, h⟩ => ⟨s, hs, by rw [heq s hs]; exact h⟩⟩
  -- the greatest label that enters
  have hmax : ∃ τ, i ≤ τ ∧ τ < j ∧ ∀ t, i ≤ t → t < j → cs t ≤ cs τ := by
    have : ∀ d, i + d < j → ∃ τ, i ≤ τ ∧ τ ≤ i + d ∧ ∀ t, i ≤ t → t ≤ i + d → cs t ≤ cs τ := by
      intro d
      induction d with
      | zero => intro _; exact ⟨i, Nat.le_refl i, Nat.le_refl i, fun t h1 h2 => by rw [show t = i by omega]; exact Nat.le_refl _⟩
      | succ d ih =>
        intro hd
        obtain ⟨τ, q1, q2, q3⟩ := ih (by omega)
        by_cases c : cs (i + (d + 1)) ≤ cs τ
        · refine ⟨τ, q1, by omega, fun t h1 h2 => ?_⟩
          rcases Nat.lt_or_ge (i + d) t with z | z
          · rw [show t = i + (d + 1) by omega]; exact c
          · exact q3 t h1 z
        · refine ⟨i + (d + 1), by omega, Nat.le_refl _, fun t h1 h2 => ?_⟩
          rcases Nat.lt_or_ge (i + d) t with z | z
          · rw [show t = i + (d + 1) by omega]; exact Nat.le_refl _
          · have := q3 t h1 z; omega
    obtain ⟨τ, q1, q2, q3⟩ := this (j - 1 - i) (by omega)
    exact ⟨τ, q1, by omega, fun t h1 h2 => q3 t h1 (by omega)⟩
  obtain ⟨τ, hτ1, hτ2, hτ3⟩ := hmax
  obtain ⟨hc26, hzτ, hlow, _, hpτ⟩ := hS τ hτ1 hτ2
  have hτout : ¬ ∃ s, s < n ∧ st τ s = cs τ := by
    rintro ⟨s, hs, h⟩
    have := zr_bs (M := M) (ob := ob) (bs := st τ) hn hs
    rw [h] at this
    omega
  -- it leaves, too
  have hleave : ∃ υ, i ≤ υ ∧ υ < j ∧ st υ (rs υ) = cs τ := by
    rcases Classical.em (∃ υ, i ≤ υ ∧ υ < j ∧ st υ (rs υ) = cs τ) with q | q
    · exact q
    · exfalso
      have hstay : ∀ d t, i ≤ t → t + d ≤ j → (∃ s, s < n ∧ st t s = cs τ) → ∃ s, s < n ∧ st (t + d) s = cs τ := by
        intro d
        induction d with
        | zero => intro t _ _ h; exact h
        | succ d ih =>
          intro t h1 h2 h
          exact hin (t + d) (cs τ) (by omega) (by omega) (ih t h1 (by omega) h) (fun z => q ⟨t + d, by omega, by omega, z.symm⟩)
      have h1 : ∃ s, s < n ∧ st (τ + 1) s = cs τ := by
        obtain ⟨_, _, _, hl, _⟩ := hS τ hτ1 hτ2
        exact ⟨rs τ, (lvs_some hl).1, by rw [hpτ, put_s]⟩
      have h2 := hstay (j - (τ + 1)) (τ + 1) (by omega) (by omega) h1
      rw [show τ + 1 + (j - (τ + 1)) = j by omega] at h2
      have h3 := hstay (τ - i) i (Nat.le_refl i) (by omega) ((hrow _).mpr h2)
      rw [show i + (τ - i) = τ by omega] at h3
      exact hτout h3
  obtain ⟨υ, hυ1, hυ2, hυ3⟩ := hleave
  obtain ⟨hs26, hzυ, _, hlυ, _⟩ := hS υ hυ1 hυ2
  obtain ⟨hr, hpr, hlex⟩ := lvs_some hlυ
  have hOυ := hO υ hυ1 (by omega)
  have hOτ := hO τ hτ1 (by omega)
  -- what is outside at τ and inside at υ has entered, so its label is not greater, and its value is 0
  have hent : ∀ l, ¬ (∃ s, s < n ∧ st τ s = l) → (∃ s, s < n ∧ st υ s = l) → l ≤ cs τ := by
    intro l hno hyes
    rcases Classical.em (∃ t, i ≤ t ∧ t < j ∧ cs t = l) with ⟨t, h1, h2, h3⟩ | q
    · rw [← h3]; exact hτ3 t h1 h2
    · exfalso
      have hstay : ∀ d t, i ≤ t → t + d ≤ j → ¬ (∃ s, s < n ∧ st t s = l) → ¬ ∃ s, s < n ∧ st (t + d) s = l := by
        intro d
        induction d with
        | zero => intro t _ _ h; exact h
        | succ d ih =>
          intro t h1 h2 h
          exact hout (t + d) l (by omega) (by omega) (ih t h1 (by omega) h) (fun z => q ⟨t + d, by omega, by omega, z.symm⟩)
      have h2 := hstay (j - τ) τ hτ1 (by omega) hno
      rw [show τ + (j - τ) = j by omega] at h2
      have h3 := hstay (υ - i) i (Nat.le_refl i) (by omega) (fun z => h2 ((hrow l).mp z))
      rw [show i + (υ - i) = υ by omega] at h3
      exact h3 hyes
  have hzero : ∀ l, ¬ (∃ s, s < n ∧ st τ s = l) → ∀ s, s < n → st υ s = l → TT n M (st υ) s 26 = 0 := by
    intro l hno
    have hstay : ∀ d t, i ≤ t → t + d ≤ j → (∀ s, s < n → st t s = l → TT n M (st t) s 26 = 0) → ∀ s, s < n → st (t + d) s = l → TT n M (st (t + d)) s 26 = 0 := by
      intro d
      induction d with
      | zero => intro t _ _ h; exact h
      | succ d ih =>
        intro t h1 h2 h s hs hl
        have h3 := ih t h1 (by omega) h
        obtain ⟨_, _, _, hl2, hp⟩ := hS (t + d) (by omega) (by omega)
        have hd := hdeg (t + d) (by omega) (by omega)
        have hr2 := (lvs_some hl2).1
        show TT n M (st (t + d + 1)) s 26 = 0
        have hl : st (t + d + 1) s = l := hl
        rw [hp] at hl ⊢
        by_cases q : s = rs (t + d)
        · rw [q, TT_r]; exact hd
        · rw [put_n q] at hl
          have h4 := h3 s hs hl
          have h5 := TT_piv (c := cs (t + d)) (j := 26) hn hr2 hs q (hO (t + d) (by omega) (by omega)).2.1
          rw [h4, hd, Int.zero_mul, Int.mul_zero] at h5
          have h6 := (hO (t + d) (by omega) (by omega)).1
          rcases Int.mul_eq_zero.mp (show byD n M (st (t + d)) * TT n M (put (st (t + d)) (rs (t + d)) (cs (t + d))) s 26 = 0 by omega) with z | z
          · omega
          · exact z
    have h2 := hstay (j - τ) τ hτ1 (by omega) (fun s hs h => absurd ⟨s, hs, h⟩ hno)
    rw [show τ + (j - τ) = j by omega] at h2
    have h3 := hstay (υ - i) i (Nat.le_refl i) (by omega) (fun s hs h => by
      rw [hsame.2 s 26]
      exact h2 s hs (by rw [← heq s hs]; exact h))
    rw [show i + (υ - i) = υ by omega] at h3
    exact h3
  -- the direction of the step at υ
  have hsum : ∀ F : Nat → Int, si (fun l => ((if l = cs υ then byD n M (st υ) else 0) - si (fun s => if st υ s = l then TT n M (st υ) s (cs υ) else 0) n) * F l) 26 = byD n M (st υ) * F (cs υ) - si (fun s => TT n M (st υ) s (cs υ) * F (st υ s)) n := by
    intro F
    have e1 : si (fun l => ((if l = cs υ then byD n M (st υ) else 0) - si (fun s => if st υ s = l then TT n M (st υ) s (cs υ) else 0) n) * F l) 26 = si (fun l => (if l = cs υ then byD n M (st υ) * F l else 0) + - si (fun s => if st υ s = l then TT n M (st υ) s (cs υ) * F l else 0) n) 26 := si_cong (fun l _ => by
      rw [Int.sub_mul]
      have a1 : (if l = cs υ then byD n M (st υ) else 0) * F l = if l = cs υ then byD n M (st υ) * F l else 0 := by split <;> simp
      have a2 : si (fun s => if st υ s = l then TT n M (st υ) s (cs υ) else 0) n * F l = si (fun s => if st υ s = l then TT n M (st υ) s (cs υ) * F l else 0) n := by
        rw [Int.mul_comm, ← si_mul]
        refine si_cong (fun s _ => ?_)
        split
        · rw [Int.mul_comm]
        · rw [Int.mul_zero]
      rw [a1, a2]; omega)
    rw [e1, si_add, si_neg, si_one hs26 (fun l _ h => if_neg h), if_pos rfl, si_swap]
    have e2 : si (fun s => si (fun l => if st υ s = l then TT n M (st υ) s (cs υ) * F l else 0) 26) n = si (fun s => TT n M (st υ) s (cs υ) * F (st υ s)) n := si_cong (fun s hs => by
      rw [si_one (hlab υ s hυ1 (by omega) hs) (fun l _ h => if_neg (fun z => h z.symm)), if_pos rfl])
    rw [e2]; omega
  have hker : ∀ e, e < n → si (fun l => ((if l = cs υ then byD n M (st υ) else 0) - si (fun s => if st υ s = l then TT n M (st υ) s (cs υ) else 0) n) * M l e) 26 = 0 := by
    intro e he
    rw [hsum (fun l => M l e), hOυ.2.1 (cs υ) e he]; omega
  have k1 := zr_ker (ob := ob) (bs := st υ) hker
  have k2 := zr_ker (ob := ob) (bs := st τ) hker
  rw [hsum (fun l => zr n M ob (st υ) l), si_z (fun s hs => by rw [zr_bs hn hs, Int.mul_zero])] at k1
  rw [hsum (fun l => zr n M ob (st τ) l)] at k2
  generalize si (fun l => ((if l = cs υ then byD n M (st υ) else 0) - si (fun s => if st υ s = l then TT n M (st υ) s (cs υ) else 0) n) * ob l) 26 = X at k1 k2
  have hX : X = - zr n M ob (st υ) (cs υ) := by
    refine Int.eq_of_mul_eq_mul_left (a := byD n M (st υ)) (by have := hOυ.1; omega) ?_
    rw [Int.mul_neg]; omega
  have hneg : byD n M (st υ) * zr n M ob (st τ) (cs υ) - si (fun s => TT n M (st υ) s (cs υ) * zr n M ob (st τ) (st υ s)) n < 0 := by
    rw [k2, hX, Int.mul_neg, Int.neg_neg]
    exact Int.mul_neg_of_pos_of_neg hOτ.1 hzυ
  have hq : cs υ ≠ cs τ := by
    intro z
    have := zr_bs (M := M) (ob := ob) (bs := st υ) hn hr
    rw [hυ3, ← z] at this
    omega
  have hA : 0 ≤ byD n M (st υ) * zr n M ob (st τ) (cs υ) := Int.mul_nonneg (Int.le_of_lt hOυ.1) (hlow _ (by have := hτ3 υ hυ1 hυ2; omega))
  have hB : si (fun s => TT n M (st υ) s (cs υ) * zr n M ob (st τ) (st υ s)) n ≤ 0 := si_np (fun s hs => by
    rcases Classical.em (∃ s', s' < n ∧ st τ s' = st υ s) with ⟨s', hs', h⟩ | hno
    · rw [← h, zr_bs hn hs', Int.mul_zero]; exact Int.le_refl 0
    · have hle := hent _ hno ⟨s, hs, rfl⟩
      by_cases c : st υ s = cs τ
      · have : s = rs υ := bs_inj hn hOυ.1 hs hr (by rw [c, hυ3])
        rw [this, hυ3]
        exact Int.le_of_lt (Int.mul_neg_of_pos_of_neg hpr hzτ)
      · have hz1 := hlow (st υ s) (by omega)
        rcases Int.lt_or_le 0 (TT n M (st υ) s (cs υ)) with q | q
        · exfalso
          have h0 := hzero _ hno s hs rfl
          have h1 := hdeg υ hυ1 hυ2
          rcases hlex s hs q with z | ⟨_, z⟩
          · rw [h0, h1, Int.zero_mul, Int.zero_mul] at z; omega
          · rw [hυ3] at z; omega
        · exact Int.mul_nonpos_of_nonpos_of_nonneg q hz1)
  omega
