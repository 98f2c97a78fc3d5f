/-! the game: the class; two bits a state -/
def gb (w : Int32) (j : Nat) : Bool := w.toBitVec.getLsbD j
def Tb (b1 b0 : Bool) : Int32 := if b1 then (if b0 then 3 else 2) else (if b0 then 1 else 0)
theorem Tb_bit : ∀ (b1 b0 : Bool) (i : Nat), i < 32 → gb (Tb b1 b0) i = (if i = 0 then b0 else if i = 1 then b1 else false) := by
  intro b1 b0
  cases b1 <;> cases b0 <;> decide +kernel
theorem three_bit : ∀ i : Nat, i < 32 → gb 3 i = decide (i < 2) := by decide +kernel
theorem gb_and (a b : Int32) (j : Nat) : gb (a &&& b) j = (gb a j && gb b j) := by
  unfold gb; rw [Int32.toBitVec_and, BitVec.getLsbD_and]
theorem gb_or (a b : Int32) (j : Nat) : gb (a ||| b) j = (gb a j || gb b j) := by
  unfold gb; rw [Int32.toBitVec_or, BitVec.getLsbD_or]
theorem gb_ext {a b : Int32} (h : ∀ j, j < 32 → gb a j = gb b j) : a = b := by
  apply Int32.toBitVec_inj.1
  apply BitVec.eq_of_getLsbD_eq
  intro i hi
  exact h i hi
theorem gb_shr {w : Int32} {sh i : Nat} (hs : sh + i < 32) : gb (w >>> (nI sh &&& 31)) i = gb w (sh + i) := by
  unfold gb
  rw [Int32.toBitVec_shiftRight, BitVec.sshiftRight']
  have e := tI_s sh (by omega)
  have e2 : ((nI sh &&& 31).toBitVec.smod 32).toNat = sh := e
  rw [e2, BitVec.getLsbD_sshiftRight]
  simp [hs, show i < 32 by omega]
theorem told_eq {w : Int32} {sh : Nat} (hs : sh < 31) : (w >>> (nI sh &&& 31)) &&& 3 = Tb (gb w (sh + 1)) (gb w sh) := by
  apply gb_ext
  intro j hj
  rw [gb_and, three_bit j hj, Tb_bit _ _ j hj]
  by_cases c0 : j = 0
  · subst c0
    rw [gb_shr (by omega)]
    simp
  · by_cases c1 : j = 1
    · subst c1
      rw [gb_shr (by omega)]
      simp
    · rw [decide_eq_false (by omega), Bool.and_false, if_neg c0, if_neg c1]
theorem set_bit : ∀ V : Bool, ∀ r : Nat, r < 16 → ∀ j : Nat, j < 32 → gb ((if V then 3 else 2 : Int32) <<< (nI (r * 2) &&& 31)) j = (decide (j = r * 2 + 1) || (decide (j = r * 2) && V)) := by
  intro V
  cases V <;> decide +kernel
def MIg (S : Nat → Nat) (k n b : Nat) (kn : Nat → Int32) : Prop := ∀ s, s < 3 ^ n → (gb (kn (s / 16)) (s % 16 * 2 + 1) = false ∧ gb (kn (s / 16)) (s % 16 * 2) = false) ∨ (gb (kn (s / 16)) (s % 16 * 2 + 1) = true ∧ gb (kn (s / 16)) (s % 16 * 2) = Vc S k n b s)
theorem MIg_set {S : Nat → Nat} {k n b s : Nat} {kn : Nat → Int32} (h : MIg S k n b kn) (hs : s < 3 ^ n) : MIg S k n b (upd kn (s / 16) (kn (s / 16) ||| ((if Vc S k n b s then 3 else 2 : Int32) <<< (nI (s % 16 * 2) &&& 31)))) := by
  intro x hx
  have hxm : x % 16 < 16 := Nat.mod_lt _ (by omega)
  have hsm : s % 16 < 16 := Nat.mod_lt _ (by omega)
  by_cases c : x / 16 = s / 16
  · rw [c, u_s, gb_or, gb_or, set_bit _ _ hsm _ (by omega), set_bit _ _ hsm _ (by omega)]
    by_cases c2 : x = s
    · subst c2
      right
      rw [decide_eq_true rfl, decide_eq_true rfl, decide_eq_false (show ¬ x % 16 * 2 = x % 16 * 2 + 1 by omega)]
      refine ⟨by simp, ?_⟩
      rcases h x hx with q | q
      · rw [q.2]; simp
      · rw [q.2]; cases Vc S k n b x <;> rfl
    · have hne : x % 16 ≠ s % 16 := by omega
      rw [decide_eq_false (show ¬ x % 16 * 2 + 1 = s % 16 * 2 + 1 by omega), decide_eq_false (show ¬ x % 16 * 2 + 1 = s % 16 * 2 by omega), decide_eq_false (show ¬ x % 16 * 2 = s % 16 * 2 + 1 by omega), decide_eq_false (show ¬ x % 16 * 2 = s % 16 * 2 by omega)]
      have := h x hx
      rw [c] at this
      simpa using this
  · rw [u_n c]; exact h x hx
theorem fm_bit {n s e : Nat} (he : e < n) : ((2 ^ n - 1) ^^^ ((2 ^ n - 1) &&& (mOf n s ||| bOf n s))).testBit e = (dg s e == 0) := by
  rw [Nat.testBit_xor, Nat.testBit_and, Nat.testBit_or, Nat.testBit_two_pow_sub_one, decide_eq_true he]
  unfold mOf bOf
  rw [mk_bit, mk_bit, decide_eq_true he]
  have hl := dg_lt (s := s) (e := e)
  rcases (show dg s e = 0 ∨ dg s e = 1 ∨ dg s e = 2 by omega) with q | q | q <;> rw [q] <;> rfl
set_option maxHeartbeats 1000000 in
theorem c_worth {n k s : Nat} {S : Nat → Nat} {ins : Nat → Int32} (h : RowN n k S ins) : ∃ X, pX5_worthTaking (nI n) (nI (2 ^ n)) ins (nI (mOf n s)) (nI (bOf n s)) = some (nI X) ∧ X < 2 ^ n ∧ ∀ e, e < n → X.testBit e = trB S k n s e := by
  have hn := h.1
  have hp := tI_p hn
  have hpp := tI_pp n
  have hml : mOf n s < 2 ^ n := mk_lt
  have hbl : bOf n s < 2 ^ n := mk_lt
  have hfl : (2 ^ n - 1) ^^^ ((2 ^ n - 1) &&& (mOf n s ||| bOf n s)) < 2 ^ n := xor_lt (by omega) (Nat.lt_of_le_of_lt Nat.and_le_left (by omega))
  have ef : (nI (2 ^ n) - 1) &&& ((nI (mOf n s) ||| nI (bOf n s)) ^^^ (-1)) = nI ((2 ^ n - 1) ^^^ ((2 ^ n - 1) &&& (mOf n s ||| bOf n s))) := by
    have e1 : nI (2 ^ n) - 1 = nI (2 ^ n - 1) := by rw [tI_1, pk_sub hpp]
    rw [e1, tI_or, tI_andn]
  have hl := lp_det (step := pX5_worthTaking_L22 (nI n) (nI (2 ^ n)) ins (nI (mOf n s)) (nI (bOf n s))) (fun e => (nI (mk (deB S k n s) e), nI e)) (nI (mk (deB S k n s) n)) n (fun e he => by
    unfold pX5_worthTaking_L22 pX5_worthTaking_J78_4
    dsimp only
    rw [if_neg (nI_ge he (by omega)), ef, has_eq (by omega) (by omega), Option.bind_some, if_bI, fm_bit he, nI_1, mk_s, tI_shl (by omega), tI_or, tI_or, tI_or, hasSetIn_eq h (or_lt hml (tp_lt he)), Option.bind_some, if_bI, isMeeter_eq h (or_lt hbl (tp_lt he)), Option.bind_some, if_bI]
    unfold deB
    cases hz : (dg s e == 0) with
    | false => simp
    | true =>
      cases hsb S k (mOf n s ||| 2 ^ e) with
      | true => rfl
      | false =>
        cases mt S k (bOf n s ||| 2 ^ e) with
        | true => rfl
        | false => simp) (by
    unfold pX5_worthTaking_L22
    dsimp only
    rw [if_pos (nI_le (Nat.le_refl n) (by omega))])
  have hl : lp (pX5_worthTaking_L22 (nI n) (nI (2 ^ n)) ins (nI (mOf n s)) (nI (bOf n s))) (0, 0) = _ := hl
  unfold pX5_worthTaking
  rw [hl, Option.bind_some, ef]
  have hmk := mk_lt (q := deB S k n s) (k := n)
  cases hD : exb (deB S k n s) n with
  | false =>
    rw [if_pos (by rw [mk_0.mpr hD]; rfl)]
    refine ⟨_, rfl, hfl, fun e he => ?_⟩
    rw [fm_bit he]
    unfold trB; rw [hD]; rfl
  | true =>
    rw [if_neg (by
      rw [tI_0, nI_eq (by omega) (by omega), mk_0, hD]
      decide)]
    refine ⟨_, rfl, hmk, fun e he => ?_⟩
    rw [mk_bit, decide_eq_true he]
    unfold trB; rw [hD]; rfl
theorem c_after {n k b s e d : Nat} {S : Nat → Nat} {ins kn : Nat → Int32} (hn : n ≤ 10) (hs : s < 3 ^ n) (he : e < n) (hz : dg s e = 0) (ht : tk n s < n)
    (ih : ∀ s' kn, n - tk n s' < d → s' < 3 ^ n → MIg S k n b kn → ∃ kn', pX5_makerWins d (nI n) (nI (2 ^ n)) ins kn (nI (mOf n s')) (nI (bOf n s')) (nI s') (bI (trn n b s')) (nI (n - tk n s')) = some (bI (Vc S k n b s'), kn') ∧ MIg S k n b kn') (hd : n - tk n s < d + 1) (hk : MIg S k n b kn) : ∃ kn', pX5_makerWinsAfter_B (pX5_makerWins d) (nI n) (nI (2 ^ n)) ins kn (nI e) (nI (mOf n s)) (nI (bOf n s)) (nI s) (bI (trn n b s)) (nI (n - tk n s)) = some (bI (Vc S k n b (s + (if trn n b s then 1 else 2) * 3 ^ e)), kn') ∧ MIg S k n b kn' := by
  have h3 := t3_le hn
  unfold pX5_makerWinsAfter_B
  rw [if_bI, nI_clamp (by omega), tI_shl (by omega), tI_or, tI_or, show (2 : Int32) = nI 2 from rfl, pk_mul, nI_add, nI_add]
  have hleft : nI (n - tk n s) - 1 = nI (n - tk n s - 1) := by rw [tI_1, pk_sub (by omega)]
  rw [hleft]
  cases htr : trn n b s with
  | true =>
    have hroom := dg_room (v := 1) (by omega) he hs hz
    have htu := tk_up (n := n) (v := 1) (by omega) (by omega) he hz
    obtain ⟨q1, q2⟩ := mOf_1 (n := n) he hz
    have hu := trn_up (n := n) (b := b) (v := 1) (by omega) (by omega) he hz
    obtain ⟨kn', r1, r2⟩ := ih (s + 1 * 3 ^ e) kn (by omega) hroom hk
    rw [q1, q2, hu, htr, htu, show n - (tk n s + 1) = n - tk n s - 1 by omega, Nat.one_mul] at r1
    have r1 : pX5_makerWins d (nI n) (nI (2 ^ n)) ins kn (nI (mOf n s ||| 2 ^ e)) (nI (bOf n s)) (nI (s + 3 ^ e)) 0 (nI (n - tk n s - 1)) = _ := r1
    rw [if_pos rfl, if_pos rfl, gd_t (vp_in_nI (show e < 10 by omega) (by omega)), r1, Option.bind_some, Nat.one_mul]
    dsimp only
    rw [gd_t (bI_nar _)]
    exact ⟨kn', rfl, r2⟩
  | false =>
    have hroom := dg_room (v := 2) (by omega) he hs hz
    have htu := tk_up (n := n) (v := 2) (by omega) (by omega) he hz
    obtain ⟨q1, q2⟩ := mOf_2 (n := n) he hz
    have hu := trn_up (n := n) (b := b) (v := 2) (by omega) (by omega) he hz
    obtain ⟨kn', r1, r2⟩ := ih (s + 2 * 3 ^ e) kn (by omega) hroom hk
    rw [q1, q2, hu, htr, htu, show n - (tk n s + 1) = n - tk n s - 1 by omega] at r1
    have r1 : pX5_makerWins d (nI n) (nI (2 ^ n)) ins kn (nI (mOf n s)) (nI (bOf n s ||| 2 ^ e)) (nI (s + 2 * 3 ^ e)) 1 (nI (n - tk n s - 1)) = _ := r1
    rw [if_neg (by decide), if_neg (by decide), gd_t (vp_in_nI (show e < 10 by omega) (by omega)), r1, Option.bind_some]
    dsimp only
    rw [gd_t (bI_nar _)]
    exact ⟨kn', rfl, r2⟩
set_option maxHeartbeats 2000000 in
theorem c_mw {n k b : Nat} {S : Nat → Nat} {ins : Nat → Int32} (h : RowN n k S ins) : ∀ (d s : Nat) (kn : Nat → Int32), n - tk n s < d → s < 3 ^ n → MIg S k n b kn → ∃ kn', pX5_makerWins d (nI n) (nI (2 ^ n)) ins kn (nI (mOf n s)) (nI (bOf n s)) (nI s) (bI (trn n b s)) (nI (n - tk n s)) = some (bI (Vc S k n b s), kn') ∧ MIg S k n b kn' := by
  have hn := h.1
  have h3 := t3_le hn
  intro d
  induction d with
  | zero => intro s kn hd; omega
  | succ d ih =>
    intro s kn hd hs hk
    have hml : mOf n s < 2 ^ n := mk_lt
    have hbl : bOf n s < 2 ^ n := mk_lt
    have htl := tk_le (n := n) (s := s)
    show ∃ kn', pX5_makerWins_B (pX5_makerWinsAfter_B (pX5_makerWins d)) (nI n) (nI (2 ^ n)) ins kn (nI (mOf n s)) (nI (bOf n s)) (nI s) (bI (trn n b s)) (nI (n - tk n s)) = _ ∧ _
    unfold pX5_makerWins_B
    rw [hasSetIn_eq h hml, Option.bind_some, if_bI]
    cases hA : hsb S k (mOf n s) with
    | true =>
      rw [if_pos rfl, Vc_A hA]
      exact ⟨kn, rfl, hk⟩
    | false =>
      rw [if_neg (by decide)]
      by_cases ht : tk n s = n
      · rw [if_pos (by rw [ht, Nat.sub_self]; decide), Vc_end ht, hA]
        exact ⟨kn, rfl, hk⟩
      · rw [if_neg (by show ¬ _ ≤ nI 0; exact nI_ge (by omega) (by omega)), isMeeter_eq h hbl, Option.bind_some, if_bI]
        cases hB : mt S k (bOf n s) with
        | true =>
          rw [if_pos rfl, Vc_B hB]
          exact ⟨kn, rfl, hk⟩
        | false =>
          have hdv : s / 16 < 3691 := by omega
          have hmd : s % 16 < 16 := Nat.mod_lt _ (by omega)
          have esh : pX5_shiftOf (nI s) = some (nI (s % 16 * 2)) := by
            unfold pX5_shiftOf
            rw [show (16 : Int32) = nI 16 from rfl, pk_rem (by omega) (by omega) (by omega), show (2 : Int32) = nI 2 from rfl, pk_mul]
          have edv : nI s / 16 = nI (s / 16) := by
            rw [show (16 : Int32) = nI 16 from rfl, pk_div (by omega) (by omega) (by omega)]
          rw [if_neg (by decide), edv, gd_t (vp_in_nI hdv (by omega)), esh, Option.bind_some, nI_clamp (by omega), told_eq (by omega)]
          rcases hk s hs with ⟨k1, k0⟩ | ⟨k1, k0⟩
          · rw [k1, k0, if_pos (by decide)]
            obtain ⟨X, x1, x2, x3⟩ := c_worth (s := s) h
            have hp := tI_p hn
            rw [x1, Option.bind_some]
            have et : (if bI (trn n b s) = 0 then (some 1) else (some 0) : Option Int32) = some (bI (!trn n b s)) := by cases trn n b s <;> rfl
            rw [et, Option.bind_some]
            have hV := Vc_try (S := S) (k := k) (b := b) (show tk n s < n by omega)
            have hl : ∃ r, lp (pX5_makerWins_L89 (nI n) (nI (2 ^ n)) ins (nI (mOf n s)) (nI (bOf n s)) (nI s) (bI (trn n b s)) (nI (n - tk n s)) (pX5_makerWinsAfter_B (pX5_makerWins d)) (nI X)) (bI (!trn n b s), 0, kn) = some r ∧ ∃ kn1, r = (bI (Vc S k n b s), kn1) ∧ MIg S k n b kn1 := by
              cases htr : trn n b s with
              | true =>
                have hV1 : Vc S k n b s = exb (fun e => trB S k n s e && Vc S k n b (s + 1 * 3 ^ e)) n := by rw [hV, htr, if_pos rfl]
                refine lp_for (step := pX5_makerWins_L89 (nI n) (nI (2 ^ n)) ins (nI (mOf n s)) (nI (bOf n s)) (nI s) (bI true) (nI (n - tk n s)) (pX5_makerWinsAfter_B (pX5_makerWins d)) (nI X)) n (fun e st => ∃ kn1, st = (bI (exb (fun e => trB S k n s e && Vc S k n b (s + 1 * 3 ^ e)) e), nI e, kn1) ∧ MIg S k n b kn1) (fun r => ∃ kn1, r = (bI (Vc S k n b s), kn1) ∧ MIg S k n b kn1) (fun e st he hI => ?_) (fun st hI => ?_) n 0 (bI (!true), 0, kn) (by omega) ⟨kn, rfl, hk⟩
                · obtain ⟨kn1, rfl, hk1⟩ := hI
                  unfold pX5_makerWins_L89
                  dsimp only
                  rw [if_neg (nI_ge he (by omega)), has_eq (by omega) (by omega), Option.bind_some, if_bI, x3 e he, nI_1]
                  cases hx : exb (fun e => trB S k n s e && Vc S k n b (s + 1 * 3 ^ e)) e with
                  | true =>
                    right
                    rw [if_pos rfl]
                    refine ⟨_, rfl, kn1, ?_, hk1⟩
                    obtain ⟨i, hi, hh⟩ := exb_iff.mp hx
                    rw [hV1, exb_iff.mpr ⟨i, by omega, hh⟩]
                  | false =>
                    left
                    rw [if_neg (by decide), exb, hx, Bool.false_or]
                    cases htB : trB S k n s e with
                    | false => exact ⟨_, rfl, kn1, rfl, hk1⟩
                    | true =>
                      obtain ⟨kn2, c1, c2⟩ := c_after (e := e) (kn := kn1) hn hs he (tr_fr htB) (by omega) ih hd hk1
                      rw [htr, if_pos rfl] at c1
                      rw [if_pos rfl, c1, Option.bind_some]
                      exact ⟨_, rfl, kn2, rfl, c2⟩
                · obtain ⟨kn1, rfl, hk1⟩ := hI
                  unfold pX5_makerWins_L89
                  dsimp only
                  rw [if_pos (nI_le (Nat.le_refl n) (by omega)), ← hV1]
                  exact ⟨_, rfl, kn1, rfl, hk1⟩
              | false =>
                have hV1 : Vc S k n b s = allb (fun e => !(trB S k n s e) || Vc S k n b (s + 2 * 3 ^ e)) n := by rw [hV, htr, if_neg (by decide)]
                refine lp_for (step := pX5_makerWins_L89 (nI n) (nI (2 ^ n)) ins (nI (mOf n s)) (nI (bOf n s)) (nI s) (bI false) (nI (n - tk n s)) (pX5_makerWinsAfter_B (pX5_makerWins d)) (nI X)) n (fun e st => ∃ kn1, st = (bI (allb (fun e => !(trB S k n s e) || Vc S k n b (s + 2 * 3 ^ e)) e), nI e, kn1) ∧ MIg S k n b kn1) (fun r => ∃ kn1, r = (bI (Vc S k n b s), kn1) ∧ MIg S k n b kn1) (fun e st he hI => ?_) (fun st hI => ?_) n 0 (bI (!false), 0, kn) (by omega) ⟨kn, rfl, hk⟩
                · obtain ⟨kn1, rfl, hk1⟩ := hI
                  unfold pX5_makerWins_L89
                  dsimp only
                  rw [if_neg (nI_ge he (by omega)), has_eq (by omega) (by omega), Option.bind_some, if_bI, x3 e he, nI_1]
                  cases hx : allb (fun e => !(trB S k n s e) || Vc S k n b (s + 2 * 3 ^ e)) e with
                  | false =>
                    right
                    rw [if_pos rfl]
                    refine ⟨_, rfl, kn1, ?_, hk1⟩
                    rw [hV1]
                    cases hx2 : allb (fun e => !(trB S k n s e) || Vc S k n b (s + 2 * 3 ^ e)) n with
                    | false => rfl
                    | true =>
                      have := allb_iff.mp hx2
                      rw [allb_iff.mpr (fun i hi => this i (by omega))] at hx
                      cases hx
                  | true =>
                    left
                    rw [if_neg (by decide), allb, hx, Bool.true_and]
                    cases htB : trB S k n s e with
                    | false => exact ⟨_, rfl, kn1, rfl, hk1⟩
                    | true =>
                      obtain ⟨kn2, c1, c2⟩ := c_after (e := e) (kn := kn1) hn hs he (tr_fr htB) (by omega) ih hd hk1
                      rw [htr, if_neg (by decide)] at c1
                      rw [if_pos rfl, c1, Option.bind_some]
                      exact ⟨_, rfl, kn2, rfl, c2⟩
                · obtain ⟨kn1, rfl, hk1⟩ := hI
                  unfold pX5_makerWins_L89
                  dsimp only
                  rw [if_pos (nI_le (Nat.le_refl n) (by omega)), ← hV1]
                  exact ⟨_, rfl, kn1, rfl, hk1⟩
            obtain ⟨r, r1, kn1, rfl, r3⟩ := hl
            have ev : (if bI (Vc S k n b s) = 0 then (some 2) else (some 3) : Option Int32) = some (if Vc S k n b s then 3 else 2) := by cases Vc S k n b s <;> rfl
            rw [r1, Option.bind_some, gd_t (vp_in_nI hdv (by omega))]
            dsimp only
            rw [ev, Option.bind_some, Option.bind_some, gd_t (vp_in_nI hdv (by omega)), gd_t (bI_nar _)]
            exact ⟨_, rfl, MIg_set r3 hs⟩
          · rw [k1, k0, if_neg (by cases Vc S k n b s <;> decide)]
            refine ⟨kn, ?_, hk⟩
            cases Vc S k n b s <;> rfl
theorem mOf_0 {n : Nat} : mOf n 0 = 0 ∧ bOf n 0 = 0 ∧ tk n 0 = 0 := by
  have hz : ∀ e, dg 0 e = 0 := fun e => by unfold dg; rw [Nat.zero_div]
  refine ⟨?_, ?_, ?_⟩
  · apply Nat.eq_of_testBit_eq
    intro i
    unfold mOf
    rw [mk_bit, hz, Nat.zero_testBit]; simp
  · apply Nat.eq_of_testBit_eq
    intro i
    unfold bOf
    rw [mk_bit, hz, Nat.zero_testBit]; simp
  · unfold tk
    rw [ct_0]
    cases hx : exb (fun e => dg 0 e != 0) n with
    | false => rfl
    | true =>
      obtain ⟨e, he, hh⟩ := exb_iff.mp hx
      rw [hz] at hh
      cases hh
set_option maxHeartbeats 1000000 in
theorem c_move {n k b : Nat} {S : Nat → Nat} {ins : Nat → Int32} (h : RowN n k S ins) (hn1 : 1 ≤ n) (hb : b ≤ 1) (kn : Nat → Int32) : ∃ kn', pX5_winningMove (nI n) (nI (2 ^ n)) ins kn (nI b) = some ((fst (mvB S k n b) n).elim (-1) (fun e => nI e), kn') := by
  have hn := h.1
  have h3 := t3_le hn
  obtain ⟨m0, b0, t0⟩ := mOf_0 (n := n)
  have htr : trn n b 0 = (b == 0) := by
    unfold trn
    rw [t0]
    rcases (show b = 0 ∨ b = 1 by omega) with rfl | rfl <;> rfl
  have hl := lp_for (step := pX5_winningMove_L20 (nI n) (nI (2 ^ n)) ins (bI (b == 0))) n (fun e st => ∃ kn1, st = (nI e, kn1) ∧ MIg S k n b kn1 ∧ ∀ i, i < e → mvB S k n b i = false) (fun r => ∃ kn1, r = (fst (mvB S k n b) n).elim (Sum.inr kn1) (fun e => Sum.inl (nI e, kn1))) (fun e st he hI => by
    obtain ⟨kn1, rfl, hk1, h0⟩ := hI
    unfold pX5_winningMove_L20
    dsimp only
    obtain ⟨kn2, c1, c2⟩ := c_after (S := S) (k := k) (b := b) (s := 0) (d := 12) (ins := ins) (kn := kn1) hn (t3_pos n) he (by unfold dg; rw [Nat.zero_div]) (by omega) (fun s' kn' h1 h2 h3 => c_mw h 12 s' kn' h1 h2 h3) (by omega) hk1
    rw [m0, b0, t0, htr, Nat.sub_zero] at c1
    have c1 : pX5_makerWinsAfter_B (pX5_makerWins 12) (nI n) (nI (2 ^ n)) ins kn1 (nI e) 0 0 0 (bI (b == 0)) (nI n) = _ := c1
    have ev : (if (b == 0) = true then 1 else 2) = 1 + b := by rcases (show b = 0 ∨ b = 1 by omega) with rfl | rfl <;> rfl
    rw [ev] at c1
    rw [if_neg (nI_ge he (by omega)), c1, Option.bind_some, nI_1]
    dsimp only
    by_cases c : Vc S k n b (0 + (1 + b) * 3 ^ e) = (b == 0)
    · right
      rw [if_pos (by rw [c])]
      refine ⟨_, rfl, kn2, ?_⟩
      rw [fst_is he (by unfold mvB; rw [c]; simp) h0]; rfl
    · left
      rw [if_neg (fun q => c (bI_eq.mp q))]
      refine ⟨_, rfl, kn2, rfl, c2, fun i hi => ?_⟩
      by_cases c3 : i = e
      · subst c3; unfold mvB; rw [beq_eq_false_iff_ne]; exact c
      · exact h0 i (by omega)) (fun st hI => by
    obtain ⟨kn1, rfl, hk1, h0⟩ := hI
    unfold pX5_winningMove_L20
    dsimp only
    rw [if_pos (nI_le (Nat.le_refl n) (by omega))]
    refine ⟨_, rfl, kn1, ?_⟩
    rw [fst_none.mpr h0]; rfl) n 0 (0, fun j => if j < 3691 then 0 else kn j) (by omega) ⟨_, rfl, fun s hs => by
      left
      dsimp only
      rw [if_pos (by omega)]
      have hz : ∀ j, gb 0 j = false := fun j => by unfold gb; simp
      exact ⟨hz _, hz _⟩, fun i hi => absurd hi (Nat.not_lt_zero i)⟩
  obtain ⟨r, r1, kn1, r2⟩ := hl
  have et : (if nI b = 0 then (some 1) else (some 0) : Option Int32) = some (bI (b == 0)) := by
    rcases (show b = 0 ∨ b = 1 by omega) with rfl | rfl <;> rfl
  refine ⟨kn1, ?_⟩
  unfold pX5_winningMove
  rw [fill_eq (by omega), Option.bind_some, et, Option.bind_some, r1, r2]
  cases fst (mvB S k n b) n <;> rfl
theorem Vc_0 {n k b : Nat} {S : Nat → Nat} (hn1 : 1 ≤ n) (hb : b ≤ 1) : Vc S k n b 0 = ((fst (mvB S k n b) n).isSome == (b == 0)) := by
  obtain ⟨m0, b0, t0⟩ := mOf_0 (n := n)
  have hz : ∀ e, dg 0 e = 0 := fun e => by unfold dg; rw [Nat.zero_div]
  have htr : trn n b 0 = (b == 0) := by
    unfold trn
    rw [t0]
    rcases (show b = 0 ∨ b = 1 by omega) with rfl | rfl <;> rfl
  rw [Vc_free (by omega), htr, ← exb_fst]
  rcases (show b = 0 ∨ b = 1 by omega) with rfl | rfl
  · rw [if_pos (by rfl)]
    have : exb (mvB S k n 0) n = exb (fun e => dg 0 e == 0 && Vc S k n 0 (0 + 1 * 3 ^ e)) n := exb_cong (fun e _ => by
      unfold mvB
      rw [hz]
      cases Vc S k n 0 (0 + (1 + 0) * 3 ^ e) <;> rfl)
    rw [this]
    cases exb (fun e => dg 0 e == 0 && Vc S k n 0 (0 + 1 * 3 ^ e)) n <;> rfl
  · rw [if_neg (by decide)]
    have : exb (mvB S k n 1) n = !allb (fun e => !(dg 0 e == 0) || Vc S k n 1 (0 + 2 * 3 ^ e)) n := by
      rw [Bool.eq_iff_iff, exb_iff, Bool.not_eq_true', ← Bool.not_eq_true, allb_iff]
      constructor
      · rintro ⟨e, he, hh⟩ hall
        have := hall e he
        unfold mvB at hh
        rw [hz] at this
        have hh2 : Vc S k n 1 (0 + 2 * 3 ^ e) = false := by simpa using hh
        rw [hh2] at this
        exact absurd this (by decide)
      · intro hall
        rcases Classical.em (∃ e, e < n ∧ mvB S k n 1 e = true) with q | q
        · exact q
        · exfalso
          apply hall
          intro e he
          cases hv : Vc S k n 1 (0 + 2 * 3 ^ e) with
          | true => simp
          | false => exact absurd ⟨e, he, by unfold mvB; show (Vc S k n 1 (0 + 2 * 3 ^ e) == false) = true; rw [hv]; rfl⟩ q
    rw [this]
    cases allb (fun e => !(dg 0 e == 0) || Vc S k n 1 (0 + 2 * 3 ^ e)) n <;> rfl
