/-! the game: the reference -/
theorem t3_le {n : Nat} (h : n ≤ 10) : 3 ^ n ≤ 59049 := by
  have := Nat.pow_le_pow_right (n := 3) (by omega) h
  simpa using this
theorem t3_lt {e n : Nat} (h : e < n) : 3 * 3 ^ e ≤ 3 ^ n := by
  have := Nat.pow_le_pow_right (n := 3) (by omega) (show e + 1 ≤ n by omega)
  rw [Nat.pow_succ] at this
  omega
theorem t3_pos (e : Nat) : 0 < 3 ^ e := Nat.pow_pos (by omega)
theorem i3 : (3 : Int32) = nI 3 := rfl
theorem mk_s {q : Nat → Bool} {i : Nat} : mk q (i + 1) = mk q i ||| (if q i then 2 ^ i else 0) := by
  apply Nat.eq_of_testBit_eq
  intro j
  rw [Nat.testBit_or, mk_bit, mk_bit]
  by_cases c : i = j
  · subst c
    cases hb : q i <;> simp [Nat.testBit_two_pow]
  · have : decide (j < i + 1) = decide (j < i) := by
      by_cases c2 : j < i
      · rw [decide_eq_true c2, decide_eq_true (by omega)]
      · rw [decide_eq_false c2, decide_eq_false (by omega)]
    rw [this]
    cases hb : q i <;> simp [Nat.testBit_two_pow, c]
theorem d3_s {s i : Nat} : s / 3 ^ i / 3 = s / 3 ^ (i + 1) := by rw [Nat.div_div_eq_div_mul, Nat.pow_succ]
theorem y_taken {n s : Nat} (hn : n ≤ 10) (hs : s < 3 ^ n) : pX10_taken (nI s) = some (nI (tk n s)) := by
  have h3 := t3_le hn
  have h := lp_first (step := pX10_taken_L4) (fun i => (nI (ct (fun e => dg s e != 0) i), nI (s / 3 ^ i))) (fun i => s / 3 ^ i == 0) (fun i => nI (ct (fun e => dg s e != 0) i)) (nI (tk n s)) n (fun i hi => by
    unfold pX10_taken_L4
    dsimp only
    have hd : s / 3 ^ i ≤ s := Nat.div_le_self _ _
    by_cases q : s / 3 ^ i = 0
    · rw [if_pos (by rw [q]; decide), q]; rfl
    · rw [if_neg (by show ¬ _ ≤ nI 0; exact nI_ge (Nat.pos_of_ne_zero q) (Nat.lt_of_le_of_lt hd (by omega))), i3, pk_rem (by omega) (by omega) (by omega), pk_div (by omega) (by omega) (by omega), d3_s, show (s / 3 ^ i == 0) = false by rw [beq_eq_false_iff_ne]; exact q, ct]
      have hm : s / 3 ^ i % 3 = dg s i := rfl
      have hdl := dg_lt (s := s) (e := i)
      rw [hm]
      by_cases c : dg s i = 0
      · rw [if_pos (by rw [c]; decide), c, Option.bind_some, tI_0, nI_add]; rfl
      · rw [if_neg (by show ¬ _ ≤ nI 0; exact nI_ge (by omega) (by omega)), Option.bind_some, tI_1, nI_add, show (dg s i != 0) = true by rw [bne_iff_ne]; exact c]; rfl) (by
    unfold pX10_taken_L4
    dsimp only
    rw [if_pos (by rw [Nat.div_eq_of_lt hs]; decide)]
    rfl)
  have e0 : ((nI (ct (fun e => dg s e != 0) 0), nI (s / 3 ^ 0)) : Int32 × Int32) = (0, nI s) := by
    rw [Nat.pow_zero, Nat.div_one]; rfl
  try dsimp only at h
  rw [e0] at h
  unfold pX10_taken
  rw [h, Option.bind_some]
  cases hf : fst (fun i => s / 3 ^ i == 0) n with
  | none => rfl
  | some j =>
    obtain ⟨h1, h2, h3⟩ := fst_some hf
    rw [beq_iff_eq] at h2
    have : ∀ m, j ≤ m → ct (fun e => dg s e != 0) m = ct (fun e => dg s e != 0) j := by
      intro m
      induction m with
      | zero => intro hm; rw [show j = 0 by omega]
      | succ m ih =>
        intro hm
        rcases Nat.lt_or_ge m j with c | c
        · rw [show j = m + 1 by omega]
        · rw [ct, ih c]
          have hz : dg s m = 0 := by
            unfold dg
            obtain ⟨x, rfl⟩ : ∃ x, m = j + x := ⟨m - j, by omega⟩
            rw [Nat.pow_add, ← Nat.div_div_eq_div_mul, h2, Nat.zero_div]
          rw [hz]; rfl
    show some (nI (ct (fun e => dg s e != 0) j)) = some (nI (tk n s))
    unfold tk
    rw [this n (by omega)]
theorem y_turn {n s b : Nat} (hn : n ≤ 10) (hs : s < 3 ^ n) (hb : b ≤ 1) : pX10_turn (nI b) (nI s) = some (nI ((b + tk n s) % 2)) := by
  have := tk_le (n := n) (s := s)
  unfold pX10_turn
  rw [y_taken hn hs, Option.bind_some, nI_add, show (2 : Int32) = nI 2 from rfl, pk_rem (by omega) (by omega) (by omega)]
theorem y_made {n k s : Nat} {S : Nat → Nat} {ls : Nat → Int32} (h : YN n k S ls) (hs : s < 3 ^ n) : pX10_isMade (nI n) (nI k) ls (nI s) = some (bI (hsb S k (mOf n s))) := by
  obtain ⟨hn1, hn2, hk, h4⟩ := h
  have hp := tI_p hn2
  have h3 := t3_le hn2
  have h1 := lp_det (step := pX10_isMade_L7 (nI n)) (fun e => (nI (mk (fun e => dg s e == 1) e), nI (s / 3 ^ e), nI e)) (nI (mOf n s)) n (fun e he => by
    unfold pX10_isMade_L7
    dsimp only
    have hd : s / 3 ^ e ≤ s := Nat.div_le_self _ _
    have hm : s / 3 ^ e % 3 = dg s e := rfl
    have hdl := dg_lt (s := s) (e := e)
    rw [if_neg (nI_ge he (by omega)), i3, pk_rem (by omega) (by omega) (by omega), pk_div (by omega) (by omega) (by omega), d3_s, hm, tI_shl (by omega), nI_1, mk_s]
    by_cases c : dg s e = 1
    · rw [if_pos (by rw [c]; rfl), Option.bind_some, tI_or, c]; rfl
    · rw [if_neg (by rw [tI_1, nI_eq (by omega) (by omega)]; exact c), Option.bind_some, tI_0, tI_or, show (dg s e == 1) = false by rw [beq_eq_false_iff_ne]; exact c]; rfl) (by
    unfold pX10_isMade_L7
    dsimp only
    rw [if_pos (nI_le (Nat.le_refl n) (by omega))]
    rfl)
  have e0 : ((nI (mk (fun e => dg s e == 1) 0), nI (s / 3 ^ 0), nI 0) : Int32 × Int32 × Int32) = (0, nI s, 0) := by
    rw [Nat.pow_zero, Nat.div_one]; rfl
  try dsimp only at h1
  rw [e0] at h1
  have hml : mOf n s < 2 ^ n := mk_lt
  have h2 := lp_det (step := pX10_isMade_L50 (nI k) ls (nI (mOf n s))) (fun i => (bI (exb (fun i => sub (S i) (mOf n s)) i), nI i)) (bI (hsb S k (mOf n s))) k (fun i hi => by
    unfold pX10_isMade_L50 pX10_isMade_J78_3
    dsimp only
    rw [if_neg (nI_ge hi (by omega)), if_bI, nI_1, exb]
    cases exb (fun i => sub (S i) (mOf n s)) i with
    | true => rfl
    | false =>
      have hls := (h4 i hi).2
      rw [if_neg (by decide), gd_t (vp_in_nI (show i < 16 by omega) (by omega)), nI_clamp (show i < 2 ^ 31 by omega), (h4 i hi).1]
      cases hb : sub (S i) (mOf n s) with
      | true => rw [if_pos ((andn_0 (by omega)).mpr hb)]; rfl
      | false => rw [if_neg (fun q => by rw [(andn_0 (by omega)).mp q] at hb; cases hb)]; rfl) (by
    unfold pX10_isMade_L50
    dsimp only
    rw [if_pos (nI_le (Nat.le_refl k) (by omega))]
    rfl)
  have h2 : lp (pX10_isMade_L50 (nI k) ls (nI (mOf n s))) (0, 0) = _ := h2
  unfold pX10_isMade
  rw [h1, Option.bind_some, h2, Option.bind_some, gd_t (bI_nar _)]
theorem vnar_bI (b : Bool) : vp_nar .boolean (bI b) = bI b := Value.int.inj (bI_nar b)
theorem y_codes {n : Nat} (hn : n ≤ 10) : lp (pX10_plays_L4 (nI n)) (1, 0) = some (nI (3 ^ n)) := by
  refine lp_det (step := pX10_plays_L4 (nI n)) (fun e => (nI (3 ^ e), nI e)) _ n (fun e he => ?_) ?_
  · unfold pX10_plays_L4
    dsimp only
    rw [if_neg (nI_ge he (by omega)), i3, pk_mul, nI_1, Nat.pow_succ]
  · unfold pX10_plays_L4
    dsimp only
    rw [if_pos (nI_le (Nat.le_refl n) (by omega))]
set_option maxHeartbeats 1000000 in
theorem y_inner {n k s b w : Nat} {S : Nat → Nat} {mks : Nat → Int32} (hn : n ≤ 10) (hs : s < 3 ^ n) (hw : w = (b + tk n s) % 2) (hm : ∀ x, s < x → x < 3 ^ n → mks x = bI (Vc S k n b x)) (ht : tk n s < n) : Option.bind (if nI w = 1 then (some 1) else (some 0) : Option Int32) (fun t73 => lp (pX10_plays_L81_5 (nI n) (nI s, mks) (nI w)) (t73, 1, 0)) = some (bI (Vc S k n b s)) := by
  have h3 := t3_le hn
  have hw2 : w = 0 ∨ w = 1 := by omega
  have hstep : ∀ e, e < n → ∀ q : Bool, pX10_plays_L81_5 (nI n) (nI s, mks) (nI w) (bI q, nI (3 ^ e), nI e) = some (.inl (bI (if dg s e == 0 then (if w = 0 then q || Vc S k n b (s + (1 + w) * 3 ^ e) else q && Vc S k n b (s + (1 + w) * 3 ^ e)) else q), nI (3 ^ (e + 1)), nI (e + 1))) := by
    intro e he q
    unfold pX10_plays_L81_5 pX10_plays_J152_9 pX10_plays_J130_10
    dsimp only
    have hpe := t3_pos e
    have h3e := t3_lt he
    have hd : s / 3 ^ e ≤ s := Nat.div_le_self _ _
    have hmd : s / 3 ^ e % 3 = dg s e := rfl
    have hdl := dg_lt (s := s) (e := e)
    rw [if_neg (nI_ge he (by omega)), gd_t (nI_ne0 hpe (by omega)), i3, pk_div (by omega) hpe (by omega), pk_rem (by omega) (by omega) (by omega), hmd, pk_mul, ← Nat.pow_succ, nI_1, tI_1, nI_add, pk_mul, nI_add]
    by_cases c : dg s e = 0
    · have hroom := dg_room (v := 1 + w) (by omega) he hs c
      have hpos : 0 < (1 + w) * 3 ^ e := Nat.mul_pos (by omega) hpe
      rw [if_pos (by rw [c]; rfl), gd_t (vp_in_nI (show s + (1 + w) * 3 ^ e < 59049 by omega) (by omega)), nI_clamp (by omega), show (dg s e == 0) = true by rw [beq_iff_eq]; exact c, if_pos rfl]
      simp only [hm (s + (1 + w) * 3 ^ e) (by omega) hroom]
      rcases hw2 with rfl | rfl
      · cases q <;> cases Vc S k n b (s + (1 + 0) * 3 ^ e) <;> rfl
      · cases q <;> cases Vc S k n b (s + (1 + 1) * 3 ^ e) <;> rfl
    · rw [if_neg (by rw [tI_0, nI_eq (by omega) (by omega)]; exact c), show (dg s e == 0) = false by rw [beq_eq_false_iff_ne]; exact c, Option.bind_some]
      rfl
  have hexit : ∀ q : Bool, pX10_plays_L81_5 (nI n) (nI s, mks) (nI w) (bI q, nI (3 ^ n), nI n) = some (.inr (bI q)) := by
    intro q
    unfold pX10_plays_L81_5
    dsimp only
    rw [if_pos (nI_le (Nat.le_refl n) (by omega))]
  rw [Vc_free ht]
  rcases hw2 with rfl | rfl
  · have htr : trn n b s = true := by unfold trn; rw [← hw]; rfl
    rw [htr, if_pos rfl, if_neg (by decide), Option.bind_some]
    exact lp_det (step := pX10_plays_L81_5 (nI n) (nI s, mks) (nI 0)) (fun e => (bI (exb (fun e => dg s e == 0 && Vc S k n b (s + 1 * 3 ^ e)) e), nI (3 ^ e), nI e)) _ n (fun e he => by
      rw [hstep e he, exb]
      congr 3
      cases hz : (dg s e == 0) with
      | true => rfl
      | false => rw [Bool.false_and, Bool.or_false]; rfl) (hexit _)
  · have htr : trn n b s = false := by unfold trn; rw [← hw]; rfl
    rw [htr, if_pos (by rfl), Option.bind_some, if_neg (show ¬ false = true by decide)]
    exact lp_det (step := pX10_plays_L81_5 (nI n) (nI s, mks) (nI 1)) (fun e => (bI (allb (fun e => !(dg s e == 0) || Vc S k n b (s + 2 * 3 ^ e)) e), nI (3 ^ e), nI e)) _ n (fun e he => by
      rw [hstep e he, allb]
      congr 3
      cases hz : (dg s e == 0) with
      | true => rfl
      | false => rw [Bool.not_false, Bool.true_or, Bool.and_true]; rfl) (hexit _)
set_option maxHeartbeats 1000000 in
theorem y_plays {n k b : Nat} {S : Nat → Nat} {ls : Nat → Int32} (h : YN n k S ls) (hb : b ≤ 1) (mks : Nat → Int32) : ∃ r, pX10_plays (nI n) (nI k) ls mks (nI b) = some r ∧ ∀ x, x < 3 ^ n → r x = bI (Vc S k n b x) := by
  have hn := h.2.1
  have h3 := t3_le hn
  have hp3 := t3_pos n
  have hl := lp_for (step := pX10_plays_L26 (nI n) (nI k) ls (nI b)) (3 ^ n) (fun j st => ∃ m1, st = (nI (3 ^ n - j) - 1, m1) ∧ ∀ x, 3 ^ n - j ≤ x → x < 3 ^ n → m1 x = bI (Vc S k n b x)) (fun r => ∀ x, x < 3 ^ n → r x = bI (Vc S k n b x)) (fun j st hj hI => by
    obtain ⟨m1, rfl, hm1⟩ := hI
    obtain ⟨c, hc⟩ : ∃ c, 3 ^ n - j = c + 1 := ⟨3 ^ n - j - 1, by omega⟩
    have hcl : c < 3 ^ n := by omega
    left
    rw [hc, nI_pred]
    have htl := tk_le (n := n) (s := c)
    have e1 : nI (3 ^ n - (j + 1)) - 1 = nI c + (-1) := by rw [show 3 ^ n - (j + 1) = c by omega, Int32.sub_eq_add_neg]
    refine ⟨(nI c + (-1), upd m1 c (bI (Vc S k n b c))), ?_, upd m1 c (bI (Vc S k n b c)), by rw [e1], fun x h1 h2 => ?_⟩
    · unfold pX10_plays_L26
      dsimp only
      rw [if_neg (nI_pos (by omega)), y_taken hn hcl, Option.bind_some]
      by_cases q : tk n c = n
      · rw [if_pos (by rw [q]), y_made h hcl, Option.bind_some, gd_t (vp_in_nI (show c < 59049 by omega) (by omega)), nI_clamp (by omega), vnar_bI, Vc_end q]
      · rw [if_neg (by rw [nI_eq (by omega) (by omega)]; exact q), y_turn hn hcl hb, Option.bind_some]
        have hin := y_inner (k := k) (S := S) (b := b) (w := (b + tk n c) % 2) (mks := m1) hn hcl rfl (fun x h1 h2 => hm1 x (by omega) h2) (by omega)
        cases ht : (if nI ((b + tk n c) % 2) = 1 then (some 1) else (some 0) : Option Int32) with
        | none => rw [ht] at hin; cases hin
        | some t =>
          rw [ht, Option.bind_some] at hin
          rw [Option.bind_some, hin, Option.bind_some, gd_t (vp_in_nI (show c < 59049 by omega) (by omega)), nI_clamp (by omega), vnar_bI]
    · by_cases q : x = c
      · subst q; exact u_s
      · rw [u_n q]; exact hm1 x (by omega) h2) (fun st hI => by
    obtain ⟨m1, rfl, hm1⟩ := hI
    unfold pX10_plays_L26
    dsimp only
    rw [if_pos (by rw [Nat.sub_self]; decide)]
    exact ⟨_, rfl, fun x hx => hm1 x (by omega) hx⟩) (3 ^ n) 0 (nI (3 ^ n) - 1, mks) (by omega) ⟨mks, rfl, fun x h1 h2 => by omega⟩
  obtain ⟨r, hr, hr2⟩ := hl
  refine ⟨r, ?_, hr2⟩
  unfold pX10_plays
  rw [y_codes hn, Option.bind_some, hr]
  rfl
def mvB (S : Nat → Nat) (k n b e : Nat) : Bool := Vc S k n b (0 + (1 + b) * 3 ^ e) == (b == 0)
theorem y_move {n k b : Nat} {S : Nat → Nat} {r : Nat → Int32} (hn : n ≤ 10) (hb : b ≤ 1) (hr : ∀ x, x < 3 ^ n → r x = bI (Vc S k n b x)) : lp (pX10_game_L52 (nI n) (nI b) r) (1, 0) = some ((fst (mvB S k n b) n).elim (Sum.inr ()) (fun e => Sum.inl (nI e))) := by
  have h3 := t3_le hn
  refine lp_first (step := pX10_game_L52 (nI n) (nI b) r) (fun e => (nI (3 ^ e), nI e)) _ _ _ n (fun e he => ?_) ?_
  · unfold pX10_game_L52
    dsimp only
    have hpe := t3_pos e
    have h3e := t3_lt he
    have hroom := dg_room (s := 0) (v := 1 + b) (by omega) he (t3_pos n) (by unfold dg; rw [Nat.zero_div])
    rw [if_neg (nI_ge he (by omega)), tI_1, nI_add, pk_mul, ← Nat.zero_add ((1 + b) * 3 ^ e), gd_t (vp_in_nI (show 0 + (1 + b) * 3 ^ e < 59049 by omega) (by omega)), nI_clamp (by omega), hr _ hroom, i3, pk_mul, ← Nat.pow_succ, nI_add]
    have et : (if nI b = 0 then (some (nI 1)) else (some 0) : Option Int32) = some (bI (b == 0)) := by
      rcases (show b = 0 ∨ b = 1 by omega) with rfl | rfl <;> rfl
    rw [et, Option.bind_some]
    unfold mvB
    by_cases c : Vc S k n b (0 + (1 + b) * 3 ^ e) = (b == 0)
    · rw [if_pos (by rw [c]), c]; simp
    · rw [if_neg (fun q => c (bI_eq.mp q)), show (Vc S k n b (0 + (1 + b) * 3 ^ e) == (b == 0)) = false by rw [beq_eq_false_iff_ne]; exact c]; rfl
  · unfold pX10_game_L52
    dsimp only
    rw [if_pos (nI_le (Nat.le_refl n) (by omega))]
