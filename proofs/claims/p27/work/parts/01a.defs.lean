/-! ===== BEGIN words of one list among another's, by their places ===== -/
theorem goodIn_r {big : List Cond} (ws : List Cond) (ps : List Nat) (hp : ws = ps.filterMap (fun i => big[i]?)) (h : ws.all goodWord = true) : GoodIn big ws := by
  intro w hw
  have h1 := List.all_eq_true.mp h w hw
  rw [hp] at hw
  obtain ⟨i, -, hi⟩ := List.mem_filterMap.mp hw
  have hm : w ∈ big := by first | exact List.mem_of_getElem? hi | exact List.getElem?_mem hi
  exact ⟨hm, good_of_word h1⟩
theorem goodIn_app {big a b : List Cond} (ha : GoodIn big a) (hb : GoodIn big b) : GoodIn big (a ++ b) := fun w h => (List.mem_append.mp h).elim (ha w) (hb w)
theorem goodIn_ca {big a b : List Cond} {c : Cond} (ha : GoodIn big (c :: a)) (hb : GoodIn big b) : GoodIn big (c :: (a ++ b)) := fun w h => (List.mem_cons.mp h).elim (fun e => ha w (List.mem_cons.mpr (Or.inl e))) (fun h => (List.mem_append.mp h).elim (fun h => ha w (List.mem_cons.mpr (Or.inr h))) (hb w))
theorem goodIn_sub {big ws : List Cond} (hm : ∀ w ∈ ws, w ∈ big) (h : ws.all goodWord = true) : GoodIn big ws := fun w hw => ⟨hm w hw, good_of_word (List.all_eq_true.mp h w hw)⟩
/-! ===== END ===== -/

/-! ===== BEGIN printed: names, fields, word lists, decode rows ===== -/
theorem pd0_ : parseFieldDescriptor "LMeetSets$SetRow;" = some (.object "MeetSets$SetRow") := by decide +kernel
theorem pd1_ : parseFieldDescriptor "[I" = some (.array .int) := by decide +kernel
theorem pd2_ : parseFieldDescriptor "I" = some (.int) := by decide +kernel
theorem pd3_ : parseFieldDescriptor "J" = some (.long) := by decide +kernel
theorem pd4_ : parseFieldDescriptor "[[J" = some (.array (.array .long)) := by decide +kernel
theorem pd5_ : parseFieldDescriptor "LMeetSets$Fraction;" = some (.object "MeetSets$Fraction") := by decide +kernel
theorem pd6_ : parseFieldDescriptor "LMeetSets$Shares;" = some (.object "MeetSets$Shares") := by decide +kernel
theorem pd7_ : parseFieldDescriptor "LMeetSets$Families;" = some (.object "MeetSets$Families") := by decide +kernel
theorem pd8_ : parseFieldDescriptor "LMeetSets$Sight;" = some (.object "MeetSets$Sight") := by decide +kernel
theorem pd9_ : parseFieldDescriptor "LMeetSets$Colours;" = some (.object "MeetSets$Colours") := by decide +kernel
theorem pd10_ : parseFieldDescriptor "LMeetSets$Ears;" = some (.object "MeetSets$Ears") := by decide +kernel
theorem pd11_ : parseFieldDescriptor "LMeetSets$Match;" = some (.object "MeetSets$Match") := by decide +kernel
theorem pd12_ : parseFieldDescriptor "LMeetSets$Asking;" = some (.object "MeetSets$Asking") := by decide +kernel
theorem pd13_ : parseFieldDescriptor "[J" = some (.array .long) := by decide +kernel
theorem pd14_ : parseFieldDescriptor "[Z" = some (.array .boolean) := by decide +kernel
def RX0 : String := "MeetSets$Asking"
def TX0 : u_T := fun k => match k with
  | 0 => ("MeetSets$Asking", "list", "LMeetSets$SetRow;", true)
  | 1 => ("MeetSets$Asking", "having", "[I", true)
  | _ => ("MeetSets$Asking", "fewest", "[I", true)
def tyX0 : Nat → FieldType := fun k => match k with
  | 0 => .object "MeetSets$SetRow"
  | 1 => .array .int
  | _ => .array .int
abbrev wsX00 : List Cond := u_ws RX0 TX0 3
theorem nmX0 : ∀ a, a < 3 → ∀ b, b < 3 → a ≠ b → (TX0 a).2.1 ≠ (TX0 b).2.1 := nm_half (by decide +kernel)
theorem tyX0_ok : ∀ k, k < 3 → parseFieldDescriptor (TX0 k).2.2.1 = some (tyX0 k) := by
  intro k hk
  match k, hk with
  | 0, _ => exact pd0_
  | 1, _ => exact pd1_
  | 2, _ => exact pd1_
  | n + 3, h => exact absurd h (by omega)
abbrev cX0_init : ByteArray := prog_2_method_1_code
def yX0_init : MethodName := ⟨RX0, "<init>", "(LMeetSets$SetRow;)V"⟩
abbrev cX0_prepare : ByteArray := prog_2_method_2_code
def yX0_prepare : MethodName := ⟨RX0, "prepare", "()V"⟩
abbrev cX0_fewestAtWorst : ByteArray := prog_2_method_3_code
def yX0_fewestAtWorst : MethodName := ⟨RX0, "fewestAtWorst", "()I"⟩
abbrev cX0_firstToAsk : ByteArray := prog_2_method_4_code
def yX0_firstToAsk : MethodName := ⟨RX0, "firstToAsk", "()I"⟩
abbrev cX0_allHidden : ByteArray := prog_2_method_5_code
def yX0_allHidden : MethodName := ⟨RX0, "allHidden", "()I"⟩
abbrev cX0_splits : ByteArray := prog_2_method_6_code
def yX0_splits : MethodName := ⟨RX0, "splits", "(II)Z"⟩
abbrev cX0_fewestBy : ByteArray := prog_2_method_7_code
def yX0_fewestBy : MethodName := ⟨RX0, "fewestBy", "(III)I"⟩
abbrev cX0_fewestFor : ByteArray := prog_2_method_8_code
def yX0_fewestFor : MethodName := ⟨RX0, "fewestFor", "(II)I"⟩
abbrev cX0_leastThinkable : ByteArray := prog_2_method_9_code
def yX0_leastThinkable : MethodName := ⟨RX0, "leastThinkable", "(I)I"⟩
def RX1 : String := "MeetSets$Colours"
def TX1 : u_T := fun k => match k with
  | _ => ("MeetSets$Colours", "list", "LMeetSets$SetRow;", true)
def tyX1 : Nat → FieldType := fun k => match k with
  | _ => .object "MeetSets$SetRow"
abbrev wsX10 : List Cond := u_ws RX1 TX1 1
theorem nmX1 : ∀ a, a < 1 → ∀ b, b < 1 → a ≠ b → (TX1 a).2.1 ≠ (TX1 b).2.1 := nm_half (by decide +kernel)
theorem tyX1_ok : ∀ k, k < 1 → parseFieldDescriptor (TX1 k).2.2.1 = some (tyX1 k) := by
  intro k hk
  match k, hk with
  | 0, _ => exact pd0_
  | n + 1, h => exact absurd h (by omega)
abbrev cX1_init : ByteArray := prog_3_method_1_code
def yX1_init : MethodName := ⟨RX1, "<init>", "(LMeetSets$SetRow;)V"⟩
abbrev cX1_waysBy : ByteArray := prog_3_method_2_code
def yX1_waysBy : MethodName := ⟨RX1, "waysBy", "(I)I"⟩
abbrev cX1_waysByOne : ByteArray := prog_3_method_3_code
def yX1_waysByOne : MethodName := ⟨RX1, "waysByOne", "(I)I"⟩
abbrev cX1_waysByTwo : ByteArray := prog_3_method_4_code
def yX1_waysByTwo : MethodName := ⟨RX1, "waysByTwo", "(I)I"⟩
def RX2 : String := "MeetSets$Ears"
def TX2 : u_T := fun k => match k with
  | 0 => ("MeetSets$Ears", "list", "LMeetSets$SetRow;", true)
  | 1 => ("MeetSets$Ears", "rest", "[I", true)
  | _ => ("MeetSets$Ears", "left", "I", false)
def tyX2 : Nat → FieldType := fun k => match k with
  | 0 => .object "MeetSets$SetRow"
  | 1 => .array .int
  | _ => .int
abbrev wsX20 : List Cond := u_ws RX2 TX2 3
theorem nmX2 : ∀ a, a < 3 → ∀ b, b < 3 → a ≠ b → (TX2 a).2.1 ≠ (TX2 b).2.1 := nm_half (by decide +kernel)
theorem tyX2_ok : ∀ k, k < 3 → parseFieldDescriptor (TX2 k).2.2.1 = some (tyX2 k) := by
  intro k hk
  match k, hk with
  | 0, _ => exact pd0_
  | 1, _ => exact pd1_
  | 2, _ => exact pd2_
  | n + 3, h => exact absurd h (by omega)
abbrev cX2_init : ByteArray := prog_4_method_1_code
def yX2_init : MethodName := ⟨RX2, "<init>", "(LMeetSets$SetRow;)V"⟩
abbrev cX2_whatIsLeft : ByteArray := prog_4_method_2_code
def yX2_whatIsLeft : MethodName := ⟨RX2, "whatIsLeft", "()I"⟩
abbrev cX2_elementGoes : ByteArray := prog_4_method_3_code
def yX2_elementGoes : MethodName := ⟨RX2, "elementGoes", "()Z"⟩
abbrev cX2_setGoes : ByteArray := prog_4_method_4_code
def yX2_setGoes : MethodName := ⟨RX2, "setGoes", "()Z"⟩
abbrev cX2_liesInAnother : ByteArray := prog_4_method_5_code
def yX2_liesInAnother : MethodName := ⟨RX2, "liesInAnother", "(I)Z"⟩
def RX3 : String := "MeetSets$Families"
def TX3 : u_T := fun k => match k with
  | 0 => ("MeetSets$Families", "list", "LMeetSets$SetRow;", true)
  | 1 => ("MeetSets$Families", "bestBits", "I", false)
  | 2 => ("MeetSets$Families", "bestCore", "I", false)
  | _ => ("MeetSets$Families", "bestCount", "I", false)
def tyX3 : Nat → FieldType := fun k => match k with
  | 0 => .object "MeetSets$SetRow"
  | 1 => .int
  | 2 => .int
  | _ => .int
abbrev wsX30 : List Cond := u_ws RX3 TX3 4
theorem nmX3 : ∀ a, a < 4 → ∀ b, b < 4 → a ≠ b → (TX3 a).2.1 ≠ (TX3 b).2.1 := nm_half (by decide +kernel)
theorem tyX3_ok : ∀ k, k < 4 → parseFieldDescriptor (TX3 k).2.2.1 = some (tyX3 k) := by
  intro k hk
  match k, hk with
  | 0, _ => exact pd0_
  | 1, _ => exact pd2_
  | 2, _ => exact pd2_
  | 3, _ => exact pd2_
  | n + 4, h => exact absurd h (by omega)
abbrev cX3_init : ByteArray := prog_5_method_1_code
def yX3_init : MethodName := ⟨RX3, "<init>", "(LMeetSets$SetRow;)V"⟩
abbrev cX3_findApart : ByteArray := prog_5_method_2_code
def yX3_findApart : MethodName := ⟨RX3, "findApart", "()V"⟩
abbrev cX3_findStar : ByteArray := prog_5_method_3_code
def yX3_findStar : MethodName := ⟨RX3, "findStar", "()V"⟩
abbrev cX3_start : ByteArray := prog_5_method_4_code
def yX3_start : MethodName := ⟨RX3, "start", "(II)V"⟩
abbrev cX3_search : ByteArray := prog_5_method_5_code
def yX3_search : MethodName := ⟨RX3, "search", "(IIIII)V"⟩
def RX4 : String := "MeetSets$Fraction"
def TX4 : u_T := fun k => match k with
  | 0 => ("MeetSets$Fraction", "above", "J", false)
  | _ => ("MeetSets$Fraction", "below", "J", false)
def tyX4 : Nat → FieldType := fun k => match k with
  | 0 => .long
  | _ => .long
abbrev wsX40 : List Cond := u_ws RX4 TX4 2
theorem nmX4 : ∀ a, a < 2 → ∀ b, b < 2 → a ≠ b → (TX4 a).2.1 ≠ (TX4 b).2.1 := nm_half (by decide +kernel)
theorem tyX4_ok : ∀ k, k < 2 → parseFieldDescriptor (TX4 k).2.2.1 = some (tyX4 k) := by
  intro k hk
  match k, hk with
  | 0, _ => exact pd3_
  | 1, _ => exact pd3_
  | n + 2, h => exact absurd h (by omega)
abbrev cX4_init : ByteArray := prog_6_method_1_code
def yX4_init : MethodName := ⟨RX4, "<init>", "()V"⟩
abbrev cX4_become : ByteArray := prog_6_method_2_code
def yX4_become : MethodName := ⟨RX4, "become", "(JJ)V"⟩
abbrev cX4_commonDivisor : ByteArray := prog_6_method_3_code
def yX4_commonDivisor : MethodName := ⟨RX4, "commonDivisor", "(JJ)J"⟩
def RX5 : String := "MeetSets$Match"
def TX5 : u_T := fun k => match k with
  | 0 => ("MeetSets$Match", "list", "LMeetSets$SetRow;", true)
  | _ => ("MeetSets$Match", "known", "[I", true)
def tyX5 : Nat → FieldType := fun k => match k with
  | 0 => .object "MeetSets$SetRow"
  | _ => .array .int
abbrev wsX50 : List Cond := u_ws RX5 TX5 2
theorem nmX5 : ∀ a, a < 2 → ∀ b, b < 2 → a ≠ b → (TX5 a).2.1 ≠ (TX5 b).2.1 := nm_half (by decide +kernel)
theorem tyX5_ok : ∀ k, k < 2 → parseFieldDescriptor (TX5 k).2.2.1 = some (tyX5 k) := by
  intro k hk
  match k, hk with
  | 0, _ => exact pd0_
  | 1, _ => exact pd1_
  | n + 2, h => exact absurd h (by omega)
abbrev cX5_init : ByteArray := prog_7_method_1_code
def yX5_init : MethodName := ⟨RX5, "<init>", "(LMeetSets$SetRow;)V"⟩
abbrev cX5_winningMove : ByteArray := prog_7_method_2_code
def yX5_winningMove : MethodName := ⟨RX5, "winningMove", "(I)I"⟩
abbrev cX5_makerWinsAfter : ByteArray := prog_7_method_3_code
def yX5_makerWinsAfter : MethodName := ⟨RX5, "makerWinsAfter", "(IIIIZI)Z"⟩
abbrev cX5_makerWins : ByteArray := prog_7_method_4_code
def yX5_makerWins : MethodName := ⟨RX5, "makerWins", "(IIIZI)Z"⟩
abbrev cX5_worthTaking : ByteArray := prog_7_method_5_code
def yX5_worthTaking : MethodName := ⟨RX5, "worthTaking", "(II)I"⟩
abbrev cX5_shiftOf : ByteArray := prog_7_method_6_code
def yX5_shiftOf : MethodName := ⟨RX5, "shiftOf", "(I)I"⟩
def RX6 : String := "MeetSets$SetRow"
def TX6 : u_T := fun k => match k with
  | 0 => ("MeetSets$SetRow", "rows", "[I", true)
  | 1 => ("MeetSets$SetRow", "inside", "[I", true)
  | 2 => ("MeetSets$SetRow", "size", "I", false)
  | 3 => ("MeetSets$SetRow", "n", "I", false)
  | _ => ("MeetSets$SetRow", "parts", "I", false)
def tyX6 : Nat → FieldType := fun k => match k with
  | 0 => .array .int
  | 1 => .array .int
  | 2 => .int
  | 3 => .int
  | _ => .int
abbrev wsX60 : List Cond := u_ws RX6 TX6 5
theorem nmX6 : ∀ a, a < 5 → ∀ b, b < 5 → a ≠ b → (TX6 a).2.1 ≠ (TX6 b).2.1 := nm_half (by decide +kernel)
theorem tyX6_ok : ∀ k, k < 5 → parseFieldDescriptor (TX6 k).2.2.1 = some (tyX6 k) := by
  intro k hk
  match k, hk with
  | 0, _ => exact pd1_
  | 1, _ => exact pd1_
  | 2, _ => exact pd2_
  | 3, _ => exact pd2_
  | 4, _ => exact pd2_
  | n + 5, h => exact absurd h (by omega)
abbrev cX6_init : ByteArray := prog_8_method_1_code
def yX6_init : MethodName := ⟨RX6, "<init>", "([II)V"⟩
abbrev cX6_clearFor : ByteArray := prog_8_method_2_code
def yX6_clearFor : MethodName := ⟨RX6, "clearFor", "(I)V"⟩
abbrev cX6_isPart : ByteArray := prog_8_method_3_code
def yX6_isPart : MethodName := ⟨RX6, "isPart", "(I)Z"⟩
abbrev cX6_isFull : ByteArray := prog_8_method_4_code
def yX6_isFull : MethodName := ⟨RX6, "isFull", "()Z"⟩
abbrev cX6_holds : ByteArray := prog_8_method_5_code
def yX6_holds : MethodName := ⟨RX6, "holds", "(I)Z"⟩
abbrev cX6_append : ByteArray := prog_8_method_6_code
def yX6_append : MethodName := ⟨RX6, "append", "(I)V"⟩
abbrev cX6_removeLast : ByteArray := prog_8_method_7_code
def yX6_removeLast : MethodName := ⟨RX6, "removeLast", "()I"⟩
abbrev cX6_hasSetIn : ByteArray := prog_8_method_8_code
def yX6_hasSetIn : MethodName := ⟨RX6, "hasSetIn", "(I)Z"⟩
abbrev cX6_isMeeter : ByteArray := prog_8_method_9_code
def yX6_isMeeter : MethodName := ⟨RX6, "isMeeter", "(I)Z"⟩
abbrev cX6_isLeastMeeter : ByteArray := prog_8_method_10_code
def yX6_isLeastMeeter : MethodName := ⟨RX6, "isLeastMeeter", "(I)Z"⟩
abbrev cX6_mixedInto : ByteArray := prog_8_method_11_code
def yX6_mixedInto : MethodName := ⟨RX6, "mixedInto", "(J)J"⟩
abbrev cX6_tally : ByteArray := prog_8_method_12_code
def yX6_tally : MethodName := ⟨RX6, "tally", "(II)V"⟩
def RX7 : String := "MeetSets$Shares"
def TX7 : u_T := fun k => match k with
  | 0 => ("MeetSets$Shares", "table", "[[J", true)
  | 1 => ("MeetSets$Shares", "rowLabels", "[I", true)
  | 2 => ("MeetSets$Shares", "columnLabels", "[I", true)
  | 3 => ("MeetSets$Shares", "rows", "I", false)
  | 4 => ("MeetSets$Shares", "columns", "I", false)
  | _ => ("MeetSets$Shares", "divisor", "J", false)
def tyX7 : Nat → FieldType := fun k => match k with
  | 0 => .array (.array .long)
  | 1 => .array .int
  | 2 => .array .int
  | 3 => .int
  | 4 => .int
  | _ => .long
abbrev wsX70 : List Cond := u_ws RX7 TX7 6
theorem nmX7 : ∀ a, a < 6 → ∀ b, b < 6 → a ≠ b → (TX7 a).2.1 ≠ (TX7 b).2.1 := nm_half (by decide +kernel)
theorem tyX7_ok : ∀ k, k < 6 → parseFieldDescriptor (TX7 k).2.2.1 = some (tyX7 k) := by
  intro k hk
  match k, hk with
  | 0, _ => exact pd4_
  | 1, _ => exact pd1_
  | 2, _ => exact pd1_
  | 3, _ => exact pd2_
  | 4, _ => exact pd2_
  | 5, _ => exact pd3_
  | n + 6, h => exact absurd h (by omega)
abbrev cX7_init : ByteArray := prog_9_method_1_code
def yX7_init : MethodName := ⟨RX7, "<init>", "()V"⟩
abbrev cX7_above : ByteArray := prog_9_method_2_code
def yX7_above : MethodName := ⟨RX7, "above", "()J"⟩
abbrev cX7_below : ByteArray := prog_9_method_3_code
def yX7_below : MethodName := ⟨RX7, "below", "()J"⟩
abbrev cX7_solve : ByteArray := prog_9_method_4_code
def yX7_solve : MethodName := ⟨RX7, "solve", "(LMeetSets$SetRow;[I)V"⟩
abbrev cX7_lay : ByteArray := prog_9_method_5_code
def yX7_lay : MethodName := ⟨RX7, "lay", "(LMeetSets$SetRow;[I)V"⟩
abbrev cX7_enteringColumn : ByteArray := prog_9_method_6_code
def yX7_enteringColumn : MethodName := ⟨RX7, "enteringColumn", "()I"⟩
abbrev cX7_leavingRow : ByteArray := prog_9_method_7_code
def yX7_leavingRow : MethodName := ⟨RX7, "leavingRow", "(I)I"⟩
abbrev cX7_bindsBefore : ByteArray := prog_9_method_8_code
def yX7_bindsBefore : MethodName := ⟨RX7, "bindsBefore", "(III)Z"⟩
abbrev cX7_pivot : ByteArray := prog_9_method_9_code
def yX7_pivot : MethodName := ⟨RX7, "pivot", "(II)V"⟩
abbrev cX7_clearFromRow : ByteArray := prog_9_method_10_code
def yX7_clearFromRow : MethodName := ⟨RX7, "clearFromRow", "([J[JIJ)V"⟩
def RX8 : String := "MeetSets$Sight"
def TX8 : u_T := fun k => match k with
  | 0 => ("MeetSets$Sight", "list", "LMeetSets$SetRow;", true)
  | 1 => ("MeetSets$Sight", "marks", "[I", true)
  | _ => ("MeetSets$Sight", "mark", "I", false)
def tyX8 : Nat → FieldType := fun k => match k with
  | 0 => .object "MeetSets$SetRow"
  | 1 => .array .int
  | _ => .int
abbrev wsX80 : List Cond := u_ws RX8 TX8 3
theorem nmX8 : ∀ a, a < 3 → ∀ b, b < 3 → a ≠ b → (TX8 a).2.1 ≠ (TX8 b).2.1 := nm_half (by decide +kernel)
theorem tyX8_ok : ∀ k, k < 3 → parseFieldDescriptor (TX8 k).2.2.1 = some (tyX8 k) := by
  intro k hk
  match k, hk with
  | 0, _ => exact pd0_
  | 1, _ => exact pd1_
  | 2, _ => exact pd2_
  | n + 3, h => exact absurd h (by omega)
abbrev cX8_init : ByteArray := prog_10_method_1_code
def yX8_init : MethodName := ⟨RX8, "<init>", "(LMeetSets$SetRow;)V"⟩
abbrev cX8_manySeenOf : ByteArray := prog_10_method_2_code
def yX8_manySeenOf : MethodName := ⟨RX8, "manySeenOf", "(I)I"⟩
abbrev cX8_greatestAllSeen : ByteArray := prog_10_method_3_code
def yX8_greatestAllSeen : MethodName := ⟨RX8, "greatestAllSeen", "()I"⟩
def RX9 : String := "MeetSets"
def TX9 : u_T := fun k => match k with
  | 0 => ("MeetSets", "costs", "[I", true)
  | 1 => ("MeetSets", "list", "LMeetSets$SetRow;", true)
  | 2 => ("MeetSets", "others", "LMeetSets$SetRow;", true)
  | 3 => ("MeetSets", "fraction", "LMeetSets$Fraction;", true)
  | 4 => ("MeetSets", "sharing", "LMeetSets$Shares;", true)
  | 5 => ("MeetSets", "families", "LMeetSets$Families;", true)
  | 6 => ("MeetSets", "sight", "LMeetSets$Sight;", true)
  | 7 => ("MeetSets", "colours", "LMeetSets$Colours;", true)
  | 8 => ("MeetSets", "falling", "LMeetSets$Ears;", true)
  | 9 => ("MeetSets", "match", "LMeetSets$Match;", true)
  | _ => ("MeetSets", "asking", "LMeetSets$Asking;", true)
def tyX9 : Nat → FieldType := fun k => match k with
  | 0 => .array .int
  | 1 => .object "MeetSets$SetRow"
  | 2 => .object "MeetSets$SetRow"
  | 3 => .object "MeetSets$Fraction"
  | 4 => .object "MeetSets$Shares"
  | 5 => .object "MeetSets$Families"
  | 6 => .object "MeetSets$Sight"
  | 7 => .object "MeetSets$Colours"
  | 8 => .object "MeetSets$Ears"
  | 9 => .object "MeetSets$Match"
  | _ => .object "MeetSets$Asking"
abbrev wsX90 : List Cond := u_ws RX9 TX9 11
theorem nmX9 : ∀ a, a < 11 → ∀ b, b < 11 → a ≠ b → (TX9 a).2.1 ≠ (TX9 b).2.1 := nm_half (by decide +kernel)
theorem tyX9_ok : ∀ k, k < 11 → parseFieldDescriptor (TX9 k).2.2.1 = some (tyX9 k) := by
  intro k hk
  match k, hk with
  | 0, _ => exact pd1_
  | 1, _ => exact pd0_
  | 2, _ => exact pd0_
  | 3, _ => exact pd5_
  | 4, _ => exact pd6_
  | 5, _ => exact pd7_
  | 6, _ => exact pd8_
  | 7, _ => exact pd9_
  | 8, _ => exact pd10_
  | 9, _ => exact pd11_
  | 10, _ => exact pd12_
  | n + 11, h => exact absurd h (by omega)
abbrev cX9_init : ByteArray := prog_1_method_1_code
def yX9_init : MethodName := ⟨RX9, "<init>", "()V"⟩
abbrev cX9_ground : ByteArray := prog_1_method_2_code
def yX9_ground : MethodName := ⟨RX9, "ground", "(I)I"⟩
abbrev cX9_set : ByteArray := prog_1_method_3_code
def yX9_set : MethodName := ⟨RX9, "set", "(I)I"⟩
abbrev cX9_drop : ByteArray := prog_1_method_4_code
def yX9_drop : MethodName := ⟨RX9, "drop", "()I"⟩
abbrev cX9_cost : ByteArray := prog_1_method_5_code
def yX9_cost : MethodName := ⟨RX9, "cost", "(II)I"⟩
abbrev cX9_meeters : ByteArray := prog_1_method_6_code
def yX9_meeters : MethodName := ⟨RX9, "meeters", "()I"⟩
abbrev cX9_meeter : ByteArray := prog_1_method_7_code
def yX9_meeter : MethodName := ⟨RX9, "meeter", "(I)I"⟩
abbrev cX9_best : ByteArray := prog_1_method_8_code
def yX9_best : MethodName := ⟨RX9, "best", "(I)I"⟩
abbrev cX9_other : ByteArray := prog_1_method_9_code
def yX9_other : MethodName := ⟨RX9, "other", "(I)I"⟩
abbrev cX9_otherless : ByteArray := prog_1_method_10_code
def yX9_otherless : MethodName := ⟨RX9, "otherless", "()I"⟩
abbrev cX9_take : ByteArray := prog_1_method_11_code
def yX9_take : MethodName := ⟨RX9, "take", "()I"⟩
abbrev cX9_witness : ByteArray := prog_1_method_12_code
def yX9_witness : MethodName := ⟨RX9, "witness", "()I"⟩
abbrev cX9_shares : ByteArray := prog_1_method_13_code
def yX9_shares : MethodName := ⟨RX9, "shares", "()I"⟩
abbrev cX9_apart : ByteArray := prog_1_method_14_code
def yX9_apart : MethodName := ⟨RX9, "apart", "()I"⟩
abbrev cX9_star : ByteArray := prog_1_method_15_code
def yX9_star : MethodName := ⟨RX9, "star", "(I)I"⟩
abbrev cX9_seen : ByteArray := prog_1_method_16_code
def yX9_seen : MethodName := ⟨RX9, "seen", "(I)I"⟩
abbrev cX9_dimension : ByteArray := prog_1_method_17_code
def yX9_dimension : MethodName := ⟨RX9, "dimension", "(I)I"⟩
abbrev cX9_colourings : ByteArray := prog_1_method_18_code
def yX9_colourings : MethodName := ⟨RX9, "colourings", "(I)I"⟩
abbrev cX9_colouring : ByteArray := prog_1_method_19_code
def yX9_colouring : MethodName := ⟨RX9, "colouring", "()I"⟩
abbrev cX9_ears : ByteArray := prog_1_method_20_code
def yX9_ears : MethodName := ⟨RX9, "ears", "()I"⟩
abbrev cX9_twoByTwo : ByteArray := prog_1_method_21_code
def yX9_twoByTwo : MethodName := ⟨RX9, "twoByTwo", "()I"⟩
abbrev cX9_game : ByteArray := prog_1_method_22_code
def yX9_game : MethodName := ⟨RX9, "game", "(II)I"⟩
abbrev cX9_chance : ByteArray := prog_1_method_23_code
def yX9_chance : MethodName := ⟨RX9, "chance", "(II)I"⟩
abbrev cX9_part : ByteArray := prog_1_method_24_code
def yX9_part : MethodName := ⟨RX9, "part", "(I)J"⟩
abbrev cX9_swings : ByteArray := prog_1_method_25_code
def yX9_swings : MethodName := ⟨RX9, "swings", "(I)I"⟩
abbrev cX9_questions : ByteArray := prog_1_method_26_code
def yX9_questions : MethodName := ⟨RX9, "questions", "(I)I"⟩
abbrev cX9_count : ByteArray := prog_1_method_27_code
def yX9_count : MethodName := ⟨RX9, "count", "(I)I"⟩
abbrev cX9_digest : ByteArray := prog_1_method_28_code
def yX9_digest : MethodName := ⟨RX9, "digest", "()J"⟩
abbrev cX9_isElement : ByteArray := prog_1_method_29_code
def yX9_isElement : MethodName := ⟨RX9, "isElement", "(I)Z"⟩
abbrev cX9_has : ByteArray := prog_1_method_30_code
def yX9_has : MethodName := ⟨RX9, "has", "(II)Z"⟩
abbrev cX9_isZeroOrOne : ByteArray := prog_1_method_31_code
def yX9_isZeroOrOne : MethodName := ⟨RX9, "isZeroOrOne", "(I)Z"⟩
abbrev cX9_priceOf : ByteArray := prog_1_method_32_code
def yX9_priceOf : MethodName := ⟨RX9, "priceOf", "(I)I"⟩
abbrev cX9_power : ByteArray := prog_1_method_33_code
def yX9_power : MethodName := ⟨RX9, "power", "(II)J"⟩
abbrev cX9_nothingInCommon : ByteArray := prog_1_method_34_code
def yX9_nothingInCommon : MethodName := ⟨RX9, "nothingInCommon", "(I)Z"⟩
def RX10 : String := "MeetSetsModel"
def TX10 : u_T := fun k => match k with
  | 0 => ("MeetSetsModel", "n", "I", false)
  | 1 => ("MeetSetsModel", "list", "[I", true)
  | 2 => ("MeetSetsModel", "sets", "I", false)
  | 3 => ("MeetSetsModel", "others", "[I", true)
  | 4 => ("MeetSetsModel", "otherMany", "I", false)
  | 5 => ("MeetSetsModel", "costs", "[I", true)
  | 6 => ("MeetSetsModel", "above", "J", false)
  | 7 => ("MeetSetsModel", "below", "J", false)
  | 8 => ("MeetSetsModel", "table", "[J", true)
  | 9 => ("MeetSetsModel", "by", "J", false)
  | 10 => ("MeetSetsModel", "basis", "[I", true)
  | 11 => ("MeetSetsModel", "isSeen", "[Z", true)
  | 12 => ("MeetSetsModel", "colour", "[I", true)
  | 13 => ("MeetSetsModel", "rest", "[I", true)
  | 14 => ("MeetSetsModel", "makes", "[Z", true)
  | _ => ("MeetSetsModel", "worst", "[I", true)
def tyX10 : Nat → FieldType := fun k => match k with
  | 0 => .int
  | 1 => .array .int
  | 2 => .int
  | 3 => .array .int
  | 4 => .int
  | 5 => .array .int
  | 6 => .long
  | 7 => .long
  | 8 => .array .long
  | 9 => .long
  | 10 => .array .int
  | 11 => .array .boolean
  | 12 => .array .int
  | 13 => .array .int
  | 14 => .array .boolean
  | _ => .array .int
abbrev wsX100 : List Cond := u_ws RX10 TX10 16
theorem nmX10 : ∀ a, a < 16 → ∀ b, b < 16 → a ≠ b → (TX10 a).2.1 ≠ (TX10 b).2.1 := nm_half (by decide +kernel)
theorem tyX10_ok : ∀ k, k < 16 → parseFieldDescriptor (TX10 k).2.2.1 = some (tyX10 k) := by
  intro k hk
  match k, hk with
  | 0, _ => exact pd2_
  | 1, _ => exact pd1_
  | 2, _ => exact pd2_
  | 3, _ => exact pd1_
  | 4, _ => exact pd2_
  | 5, _ => exact pd1_
  | 6, _ => exact pd3_
  | 7, _ => exact pd3_
  | 8, _ => exact pd13_
  | 9, _ => exact pd3_
  | 10, _ => exact pd1_
  | 11, _ => exact pd14_
  | 12, _ => exact pd1_
  | 13, _ => exact pd1_
  | 14, _ => exact pd14_
  | 15, _ => exact pd1_
  | n + 16, h => exact absurd h (by omega)
abbrev cX10_in : ByteArray := prog_12_method_2_code
def yX10_in : MethodName := ⟨RX10, "in", "(JJJ)Z"⟩
abbrev cX10_sizeOf : ByteArray := prog_12_method_3_code
def yX10_sizeOf : MethodName := ⟨RX10, "sizeOf", "(I)I"⟩
abbrev cX10_init : ByteArray := prog_12_method_4_code
def yX10_init : MethodName := ⟨RX10, "<init>", "()V"⟩
abbrev cX10_all : ByteArray := prog_12_method_5_code
def yX10_all : MethodName := ⟨RX10, "all", "()I"⟩
abbrev cX10_isElement : ByteArray := prog_12_method_6_code
def yX10_isElement : MethodName := ⟨RX10, "isElement", "(I)Z"⟩
abbrev cX10_isPart : ByteArray := prog_12_method_7_code
def yX10_isPart : MethodName := ⟨RX10, "isPart", "(I)Z"⟩
abbrev cX10_ground : ByteArray := prog_12_method_8_code
def yX10_ground : MethodName := ⟨RX10, "ground", "(I)I"⟩
abbrev cX10_set : ByteArray := prog_12_method_9_code
def yX10_set : MethodName := ⟨RX10, "set", "(I)I"⟩
abbrev cX10_drop : ByteArray := prog_12_method_10_code
def yX10_drop : MethodName := ⟨RX10, "drop", "()I"⟩
abbrev cX10_cost : ByteArray := prog_12_method_11_code
def yX10_cost : MethodName := ⟨RX10, "cost", "(II)I"⟩
abbrev cX10_meets : ByteArray := prog_12_method_12_code
def yX10_meets : MethodName := ⟨RX10, "meets", "(I)Z"⟩
abbrev cX10_isLeast : ByteArray := prog_12_method_13_code
def yX10_isLeast : MethodName := ⟨RX10, "isLeast", "(I)Z"⟩
abbrev cX10_many : ByteArray := prog_12_method_14_code
def yX10_many : MethodName := ⟨RX10, "many", "()I"⟩
abbrev cX10_meeters : ByteArray := prog_12_method_15_code
def yX10_meeters : MethodName := ⟨RX10, "meeters", "()I"⟩
abbrev cX10_meeter : ByteArray := prog_12_method_16_code
def yX10_meeter : MethodName := ⟨RX10, "meeter", "(I)I"⟩
abbrev cX10_costOf : ByteArray := prog_12_method_17_code
def yX10_costOf : MethodName := ⟨RX10, "costOf", "(I)I"⟩
abbrev cX10_rank : ByteArray := prog_12_method_18_code
def yX10_rank : MethodName := ⟨RX10, "rank", "(II)I"⟩
abbrev cX10_bestOf : ByteArray := prog_12_method_19_code
def yX10_bestOf : MethodName := ⟨RX10, "bestOf", "(I)I"⟩
abbrev cX10_best : ByteArray := prog_12_method_20_code
def yX10_best : MethodName := ⟨RX10, "best", "(I)I"⟩
abbrev cX10_other : ByteArray := prog_12_method_21_code
def yX10_other : MethodName := ⟨RX10, "other", "(I)I"⟩
abbrev cX10_otherless : ByteArray := prog_12_method_22_code
def yX10_otherless : MethodName := ⟨RX10, "otherless", "()I"⟩
abbrev cX10_take : ByteArray := prog_12_method_23_code
def yX10_take : MethodName := ⟨RX10, "take", "()I"⟩
abbrev cX10_witness : ByteArray := prog_12_method_24_code
def yX10_witness : MethodName := ⟨RX10, "witness", "()I"⟩
abbrev cX10_lays : ByteArray := prog_12_method_25_code
def yX10_lays : MethodName := ⟨RX10, "lays", "()V"⟩
abbrev cX10_enters : ByteArray := prog_12_method_26_code
def yX10_enters : MethodName := ⟨RX10, "enters", "()I"⟩
abbrev cX10_leaves : ByteArray := prog_12_method_27_code
def yX10_leaves : MethodName := ⟨RX10, "leaves", "(I)I"⟩
abbrev cX10_turns : ByteArray := prog_12_method_28_code
def yX10_turns : MethodName := ⟨RX10, "turns", "(II)V"⟩
abbrev cX10_divisor : ByteArray := prog_12_method_29_code
def yX10_divisor : MethodName := ⟨RX10, "divisor", "(JJ)J"⟩
abbrev cX10_tells : ByteArray := prog_12_method_30_code
def yX10_tells : MethodName := ⟨RX10, "tells", "(JJ)I"⟩
abbrev cX10_shares : ByteArray := prog_12_method_31_code
def yX10_shares : MethodName := ⟨RX10, "shares", "()I"⟩
abbrev cX10_part : ByteArray := prog_12_method_32_code
def yX10_part : MethodName := ⟨RX10, "part", "(I)J"⟩
abbrev cX10_areApart : ByteArray := prog_12_method_33_code
def yX10_areApart : MethodName := ⟨RX10, "areApart", "(I)Z"⟩
abbrev cX10_apartOf : ByteArray := prog_12_method_34_code
def yX10_apartOf : MethodName := ⟨RX10, "apartOf", "()I"⟩
abbrev cX10_apart : ByteArray := prog_12_method_35_code
def yX10_apart : MethodName := ⟨RX10, "apart", "()I"⟩
abbrev cX10_common : ByteArray := prog_12_method_36_code
def yX10_common : MethodName := ⟨RX10, "common", "(I)I"⟩
abbrev cX10_isStar : ByteArray := prog_12_method_37_code
def yX10_isStar : MethodName := ⟨RX10, "isStar", "(I)Z"⟩
abbrev cX10_star : ByteArray := prog_12_method_38_code
def yX10_star : MethodName := ⟨RX10, "star", "(I)I"⟩
abbrev cX10_seenOf : ByteArray := prog_12_method_39_code
def yX10_seenOf : MethodName := ⟨RX10, "seenOf", "(I)I"⟩
abbrev cX10_seen : ByteArray := prog_12_method_40_code
def yX10_seen : MethodName := ⟨RX10, "seen", "(I)I"⟩
abbrev cX10_dimension : ByteArray := prog_12_method_41_code
def yX10_dimension : MethodName := ⟨RX10, "dimension", "(I)I"⟩
abbrev cX10_isOne : ByteArray := prog_12_method_42_code
def yX10_isOne : MethodName := ⟨RX10, "isOne", "(I)Z"⟩
abbrev cX10_colourings : ByteArray := prog_12_method_43_code
def yX10_colourings : MethodName := ⟨RX10, "colourings", "(I)I"⟩
abbrev cX10_colouring : ByteArray := prog_12_method_44_code
def yX10_colouring : MethodName := ⟨RX10, "colouring", "()I"⟩
abbrev cX10_holder : ByteArray := prog_12_method_45_code
def yX10_holder : MethodName := ⟨RX10, "holder", "(II)I"⟩
abbrev cX10_lies : ByteArray := prog_12_method_46_code
def yX10_lies : MethodName := ⟨RX10, "lies", "(II)Z"⟩
abbrev cX10_earsOf : ByteArray := prog_12_method_47_code
def yX10_earsOf : MethodName := ⟨RX10, "earsOf", "()I"⟩
abbrev cX10_ears : ByteArray := prog_12_method_48_code
def yX10_ears : MethodName := ⟨RX10, "ears", "()I"⟩
abbrev cX10_twoByTwo : ByteArray := prog_12_method_49_code
def yX10_twoByTwo : MethodName := ⟨RX10, "twoByTwo", "()I"⟩
abbrev cX10_isMade : ByteArray := prog_12_method_50_code
def yX10_isMade : MethodName := ⟨RX10, "isMade", "(I)Z"⟩
abbrev cX10_taken : ByteArray := prog_12_method_51_code
def yX10_taken : MethodName := ⟨RX10, "taken", "(I)I"⟩
abbrev cX10_turn : ByteArray := prog_12_method_52_code
def yX10_turn : MethodName := ⟨RX10, "turn", "(II)I"⟩
abbrev cX10_plays : ByteArray := prog_12_method_53_code
def yX10_plays : MethodName := ⟨RX10, "plays", "(I)V"⟩
abbrev cX10_game : ByteArray := prog_12_method_54_code
def yX10_game : MethodName := ⟨RX10, "game", "(II)I"⟩
abbrev cX10_power : ByteArray := prog_12_method_55_code
def yX10_power : MethodName := ⟨RX10, "power", "(JI)J"⟩
abbrev cX10_chance : ByteArray := prog_12_method_56_code
def yX10_chance : MethodName := ⟨RX10, "chance", "(II)I"⟩
abbrev cX10_swings : ByteArray := prog_12_method_57_code
def yX10_swings : MethodName := ⟨RX10, "swings", "(I)I"⟩
abbrev cX10_asked : ByteArray := prog_12_method_58_code
def yX10_asked : MethodName := ⟨RX10, "asked", "(II)I"⟩
abbrev cX10_questions : ByteArray := prog_12_method_59_code
def yX10_questions : MethodName := ⟨RX10, "questions", "(I)I"⟩
abbrev cX10_count : ByteArray := prog_12_method_60_code
def yX10_count : MethodName := ⟨RX10, "count", "(I)I"⟩
abbrev cX10_digest : ByteArray := prog_12_method_61_code
def yX10_digest : MethodName := ⟨RX10, "digest", "()J"⟩
def RJ6 : String := "java/lang/Integer"
def TJ6 : u_T := fun k => match k with
  | _ => ("", "", "", false)
def tyJ6 : Nat → FieldType := fun k => match k with
  | _ => .int
abbrev wsJ60 : List Cond := u_ws RJ6 TJ6 0
theorem nmJ6 : ∀ a, a < 0 → ∀ b, b < 0 → a ≠ b → (TJ6 a).2.1 ≠ (TJ6 b).2.1 := nm_half (by decide +kernel)
theorem tyJ6_ok : ∀ k, k < 0 → parseFieldDescriptor (TJ6 k).2.2.1 = some (tyJ6 k) := by decide +kernel
abbrev cJ6_bitCount_0f7a4 : ByteArray := prog_13_method_49_code
def yJ6_bitCount_0f7a4 : MethodName := ⟨RJ6, "bitCount", "(I)I"⟩
def RJ9 : String := "java/lang/Math"
def TJ9 : u_T := fun k => match k with
  | _ => ("", "", "", false)
def tyJ9 : Nat → FieldType := fun k => match k with
  | _ => .int
abbrev wsJ90 : List Cond := u_ws RJ9 TJ9 0
theorem nmJ9 : ∀ a, a < 0 → ∀ b, b < 0 → a ≠ b → (TJ9 a).2.1 ≠ (TJ9 b).2.1 := nm_half (by decide +kernel)
theorem tyJ9_ok : ∀ k, k < 0 → parseFieldDescriptor (TJ9 k).2.2.1 = some (tyJ9 k) := by decide +kernel
abbrev cJ9_max_7cf53 : ByteArray := prog_14_method_65_code
def yJ9_max_7cf53 : MethodName := ⟨RJ9, "max", "(II)I"⟩
abbrev cJ9_min_7cf53 : ByteArray := prog_14_method_69_code
def yJ9_min_7cf53 : MethodName := ⟨RJ9, "min", "(II)I"⟩
def RJ7 : String := "java/util/Arrays"
def TJ7 : u_T := fun k => match k with
  | _ => ("", "", "", false)
def tyJ7 : Nat → FieldType := fun k => match k with
  | _ => .int
abbrev wsJ70 : List Cond := u_ws RJ7 TJ7 0
theorem nmJ7 : ∀ a, a < 0 → ∀ b, b < 0 → a ≠ b → (TJ7 a).2.1 ≠ (TJ7 b).2.1 := nm_half (by decide +kernel)
theorem tyJ7_ok : ∀ k, k < 0 → parseFieldDescriptor (TJ7 k).2.2.1 = some (tyJ7 k) := by decide +kernel
abbrev cJ7_fill_53178 : ByteArray := prog_15_method_103_code
def yJ7_fill_53178 : MethodName := ⟨RJ7, "fill", "([II)V"⟩
def RL : String := "MeetSetsLaw"
abbrev cL_law : ByteArray := code
def yL_law : MethodName := ⟨RL, "law", "([I)Z"⟩
