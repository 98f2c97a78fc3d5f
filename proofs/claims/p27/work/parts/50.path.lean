/-! the run of steps ends -/
theorem php : ∀ (N : Nat) (f : Nat → Nat), (∀ t, t ≤ N → f t < N) → ∃ i j, i < j ∧ j ≤ N ∧ f i = f j
  | 0, f, h => absurd (h 0 (Nat.le_refl 0)) (Nat.not_lt_zero _)
  | N + 1, f, h => by
    rcases Classical.em (∃ i, i < N + 1 ∧ f i = f (N + 1)) with ⟨i, h1, h2⟩ | q
    · exact ⟨i, N + 1, h1, Nat.le_refl _, h2⟩
    · have hg : ∀ t, t ≤ N → (if f (N + 1) < f t then f t - 1 else f t) < N := by
        intro t ht
        have h1 := h t (by omega)
        have h2 := h (N + 1) (Nat.le_refl _)
        have h3 : f t ≠ f (N + 1) := fun z => q ⟨t, by omega, z⟩
        split <;> omega
      obtain ⟨i, j, h1, h2, h3⟩ := php N (fun t => if f (N + 1) < f t then f t - 1 else f t) hg
      refine ⟨i, j, h1, by omega, ?_⟩
      have n1 : f i ≠ f (N + 1) := fun z => q ⟨i, by omega, z⟩
      have n2 : f j ≠ f (N + 1) := fun z => q ⟨j, by omega, z⟩
      try dsimp only at h3
      split at h3 <;> split at h3 <;> omega
def cdB (b : Nat → Nat) : Nat → Nat
  | 0 => 0
  | s + 1 => cdB b s + b s * 26 ^ s
theorem cdB_lt {b : Nat → Nat} : ∀ {n : Nat}, (∀ s, s < n → b s < 26) → cdB b n < 26 ^ n
  | 0, _ => by show 0 < 1; omega
  | n + 1, h => by
    have h1 := cdB_lt (b := b) (n := n) (fun s hs => h s (by omega))
    have h2 := h n (by omega)
    rw [cdB, Nat.pow_succ]
    have h3 : b n * 26 ^ n ≤ 25 * 26 ^ n := Nat.mul_le_mul_right _ (by omega)
    omega
theorem cdB_inj {b c : Nat → Nat} : ∀ {n : Nat}, (∀ s, s < n → b s < 26) → (∀ s, s < n → c s < 26) → cdB b n = cdB c n → ∀ s, s < n → b s = c s
  | 0, _, _, _, s, hs => absurd hs (Nat.not_lt_zero s)
  | n + 1, hb, hc, h, s, hs => by
    have h1 := cdB_lt (b := b) (n := n) (fun s hs => hb s (by omega))
    have h2 := cdB_lt (b := c) (n := n) (fun s hs => hc s (by omega))
    have hp : 0 < 26 ^ n := Nat.pow_pos (by omega)
    rw [cdB, cdB] at h
    have d1 := congrArg (fun z => z / 26 ^ n) h
    have d2 := congrArg (fun z => z % 26 ^ n) h
    simp only [Nat.add_mul_div_right _ _ hp, Nat.div_eq_of_lt h1, Nat.div_eq_of_lt h2, Nat.add_mul_mod_self_right, Nat.mod_eq_of_lt h1, Nat.mod_eq_of_lt h2, Nat.zero_add] at d1 d2
    rcases Nat.lt_or_ge s n with q | q
    · exact cdB_inj (fun s hs => hb s (by omega)) (fun s hs => hc s (by omega)) d2 s q
    · rw [show s = n by omega]; exact d1
def entC (n : Nat) (M : Nat → Nat → Int) (ob : Nat → Int) (bs : Nat → Nat) : Option Nat := fst (fun c => decide (zr n M ob bs c < 0)) 26
def nxtB (n : Nat) (M : Nat → Nat → Int) (ob : Nat → Int) (bs : Nat → Nat) : Nat → Nat := match entC n M ob bs with
  | none => bs
  | some c => match lvs n M bs c n with
    | none => bs
    | some r => put bs r c
def pth (n : Nat) (M : Nat → Nat → Int) (ob : Nat → Int) (b0 : Nat → Nat) : Nat → (Nat → Nat)
  | 0 => b0
  | t + 1 => nxtB n M ob (pth n M ob b0 t)
def GoodB (n : Nat) (M : Nat → Nat → Int) (bs : Nat → Nat) : Prop := OkB n M bs ∧ ∀ s, s < n → bs s < 26
def ColB (n : Nat) (M : Nat → Nat → Int) (ob : Nat → Int) : Prop := (∀ j e, 0 ≤ M j e) ∧ ∀ c, c < 26 → (∃ e, e < n ∧ 0 < M c e) ∨ ((∀ e, e < n → M c e = 0) ∧ ob c = 0)
theorem TT_z {n s j : Nat} {M : Nat → Nat → Int} {bs : Nat → Nat} (hs : s < n) (h : ∀ e, e < n → M j e = 0) : TT n M bs s j = 0 := by
  unfold TT
  rw [sv_cong (w := fun _ => 0) h]
  exact Dt_zero hs
theorem ent_step {n c : Nat} {M : Nat → Nat → Int} {ob : Nat → Int} {bs : Nat → Nat} (hM : ColB n M ob) (hO : GoodB n M bs) (h : entC n M ob bs = some c) : c < 26 ∧ zr n M ob bs c < 0 ∧ (∀ j, j < c → 0 ≤ zr n M ob bs j) ∧ ∃ r, lvs n M bs c n = some r := by
  obtain ⟨h1, h2, h3⟩ := fst_some h
  have h2 := of_decide_eq_true h2
  refine ⟨h1, h2, fun j hj => ?_, ?_⟩
  · have := of_decide_eq_false (h3 j hj)
    omega
  · rcases hM.2 c h1 with ⟨e, he, hp⟩ | ⟨hz, ho⟩
    · exact lvs_ex hM.1 hO.1 he hp
    · exfalso
      unfold zr at h2
      rw [si_z (fun s hs => by rw [TT_z hs hz, Int.mul_zero]), ho, Int.mul_zero] at h2
      omega
theorem nxt_eq {n c r : Nat} {M : Nat → Nat → Int} {ob : Nat → Int} {bs : Nat → Nat} (h : entC n M ob bs = some c) (hl : lvs n M bs c n = some r) : nxtB n M ob bs = put bs r c := by
  unfold nxtB
  rw [h]
  dsimp only
  rw [hl]
theorem good_put {n c r : Nat} {M : Nat → Nat → Int} {bs : Nat → Nat} (hn : n ≤ 16) (hO : GoodB n M bs) (hc : c < 26) (hl : lvs n M bs c n = some r) : GoodB n M (put bs r c) := by
  refine ⟨Ok_put hn hO.1 hl, fun s hs => ?_⟩
  by_cases q : s = r
  · rw [q, put_s]; exact hc
  · rw [put_n q]; exact hO.2 s hs
theorem pth_good {n : Nat} {M : Nat → Nat → Int} {ob : Nat → Int} {b0 : Nat → Nat} (hn : n ≤ 16) (hM : ColB n M ob) (h0 : GoodB n M b0) : ∀ t, GoodB n M (pth n M ob b0 t)
  | 0 => h0
  | t + 1 => by
    have ih := pth_good hn hM h0 t
    rw [pth]
    cases he : entC n M ob (pth n M ob b0 t) with
    | none =>
      have : nxtB n M ob (pth n M ob b0 t) = pth n M ob b0 t := by unfold nxtB; rw [he]
      rw [this]; exact ih
    | some c =>
      obtain ⟨h1, _, _, r, hl⟩ := ent_step hM ih he
      rw [nxt_eq he hl]
      exact good_put hn ih h1 hl
theorem pth_end {n : Nat} {M : Nat → Nat → Int} {ob : Nat → Int} {b0 : Nat → Nat} (hn : n ≤ 16) (hM : ColB n M ob) (h0 : GoodB n M b0) : ∃ L, entC n M ob (pth n M ob b0 L) = none ∧ ∀ t, t < L → ∃ c r, entC n M ob (pth n M ob b0 t) = some c ∧ lvs n M (pth n M ob b0 t) c n = some r ∧ pth n M ob b0 (t + 1) = put (pth n M ob b0 t) r c := by
  have hg := pth_good hn hM h0
  have hex : ∃ L, entC n M ob (pth n M ob b0 L) = none := by
    rcases Classical.em (∃ L, entC n M ob (pth n M ob b0 L) = none) with q | q
    · exact q
    · exfalso
      have hs : ∀ t, ∃ c, entC n M ob (pth n M ob b0 t) = some c := by
        intro t
        cases he : entC n M ob (pth n M ob b0 t) with
        | none => exact absurd ⟨t, he⟩ q
        | some c => exact ⟨c, rfl⟩
      obtain ⟨i, j, h1, h2, h3⟩ := php (26 ^ n) (fun t => cdB (pth n M ob b0 t) n) (fun t _ => cdB_lt (hg t).2)
      have heq := cdB_inj (hg i).2 (hg j).2 h3
      refine bland (ob := ob) (st := pth n M ob b0) (cs := fun t => (entC n M ob (pth n M ob b0 t)).getD 0) (rs := fun t => (lvs n M (pth n M ob b0 t) ((entC n M ob (pth n M ob b0 t)).getD 0) n).getD 0) hn h1 (fun t _ _ => (hg t).1) (fun t _ _ => ?_) (fun t s _ _ hs => (hg t).2 s hs) heq
      obtain ⟨c, he⟩ := hs t
      obtain ⟨a1, a2, a3, r, hl⟩ := ent_step hM (hg t) he
      unfold StpB
      dsimp only
      rw [he]
      show c < 26 ∧ zr n M ob (pth n M ob b0 t) c < 0 ∧ (∀ j, j < c → 0 ≤ zr n M ob (pth n M ob b0 t) j) ∧ lvs n M (pth n M ob b0 t) c n = some ((lvs n M (pth n M ob b0 t) c n).getD 0) ∧ pth n M ob b0 (t + 1) = put (pth n M ob b0 t) ((lvs n M (pth n M ob b0 t) c n).getD 0) c
      rw [hl]
      refine ⟨a1, a2, a3, rfl, ?_⟩
      rw [pth, nxt_eq he hl]
      rfl
  obtain ⟨L, hL, hmin⟩ := pk_least (fun L => entC n M ob (pth n M ob b0 L) = none) hex
  refine ⟨L, hL, fun t ht => ?_⟩
  cases he : entC n M ob (pth n M ob b0 t) with
  | none => exact absurd he (hmin t ht)
  | some c =>
    obtain ⟨_, _, _, r, hl⟩ := ent_step hM (hg t) he
    exact ⟨c, r, rfl, hl, by rw [pth, nxt_eq he hl]⟩
