/-! ===== BEGIN words of one list among another's, by their places ===== -/
theorem goodIn_r {big : List Cond} (ws : List Cond) (ps : List Nat) (hp : ws = ps.filterMap (fun i => big[i]?)) (h : ws.all goodWord = true) : GoodIn big ws := by
  intro w hw
  have h1 := List.all_eq_true.mp h w hw
  rw [hp] at hw
  obtain ⟨i, -, hi⟩ := List.mem_filterMap.mp hw
  have hm : w ∈ big := by first | exact List.mem_of_getElem? hi | exact List.getElem?_mem hi
  exact ⟨hm, good_of_word h1⟩
theorem goodIn_app {big a b : List Cond} (ha : GoodIn big a) (hb : GoodIn big b) : GoodIn big (a ++ b) := fun w h => (List.mem_append.mp h).elim (ha w) (hb w)
theorem goodIn_ca {big a b : List Cond} {c : Cond} (ha : GoodIn big (c :: a)) (hb : GoodIn big b) : GoodIn big (c :: (a ++ b)) := fun w h => (List.mem_cons.mp h).elim (fun e => ha w (List.mem_cons.mpr (Or.inl e))) (fun h => (List.mem_append.mp h).elim (fun h => ha w (List.mem_cons.mpr (Or.inr h))) (hb w))
theorem goodIn_sub {big ws : List Cond} (hm : ∀ w ∈ ws, w ∈ big) (h : ws.all goodWord = true) : GoodIn big ws := fun w hw => ⟨hm w hw, good_of_word (List.all_eq_true.mp h w hw)⟩
/-! ===== END ===== -/

/-! ===== BEGIN printed: names, fields, word lists, decode rows ===== -/
def RX0 : String := "SailCargo$Harbour"
def TX0 : u_T := fun k => match k with
  | 0 => ("SailCargo$Harbour", "berthsOf", "[I", true)
  | 1 => ("SailCargo$Harbour", "port", "[I", true)
  | 2 => ("SailCargo$Harbour", "berth", "[I", true)
  | 3 => ("SailCargo$Harbour", "first", "[I", true)
  | 4 => ("SailCargo$Harbour", "last", "[I", true)
  | 5 => ("SailCargo$Harbour", "isGivenUp", "[Z", true)
  | 6 => ("SailCargo$Harbour", "told", "I", false)
  | _ => ("SailCargo$Harbour", "held", "I", false)
def tyX0 : Nat → FieldType := fun k => match k with
  | 0 => .array .int
  | 1 => .array .int
  | 2 => .array .int
  | 3 => .array .int
  | 4 => .array .int
  | 5 => .array .boolean
  | 6 => .int
  | _ => .int
abbrev wsX00 : List Cond := u_ws RX0 TX0 8
theorem nmX0 : ∀ a, a < 8 → ∀ b, b < 8 → a ≠ b → (TX0 a).2.1 ≠ (TX0 b).2.1 := by decide +kernel
theorem tyX0_ok : ∀ k, k < 8 → parseFieldDescriptor (TX0 k).2.2.1 = some (tyX0 k) := by decide +kernel
abbrev cX0_init : ByteArray := prog_2_method_1_code
def yX0_init : MethodName := ⟨RX0, "<init>", "()V"⟩
abbrev cX0_setBerths : ByteArray := prog_2_method_2_code
def yX0_setBerths : MethodName := ⟨RX0, "setBerths", "(II)I"⟩
abbrev cX0_grant : ByteArray := prog_2_method_3_code
def yX0_grant : MethodName := ⟨RX0, "grant", "(III)I"⟩
abbrev cX0_keep : ByteArray := prog_2_method_4_code
def yX0_keep : MethodName := ⟨RX0, "keep", "(IIII)I"⟩
abbrev cX0_firstFree : ByteArray := prog_2_method_5_code
def yX0_firstFree : MethodName := ⟨RX0, "firstFree", "(IIII)I"⟩
abbrev cX0_slotInTheWay : ByteArray := prog_2_method_6_code
def yX0_slotInTheWay : MethodName := ⟨RX0, "slotInTheWay", "(IIII)I"⟩
abbrev cX0_tell : ByteArray := prog_2_method_7_code
def yX0_tell : MethodName := ⟨RX0, "tell", "(II)I"⟩
abbrev cX0_giveUp : ByteArray := prog_2_method_8_code
def yX0_giveUp : MethodName := ⟨RX0, "giveUp", "(I)I"⟩
abbrev cX0_isHeld : ByteArray := prog_2_method_9_code
def yX0_isHeld : MethodName := ⟨RX0, "isHeld", "(I)Z"⟩
abbrev cX0_isPort : ByteArray := prog_2_method_10_code
def yX0_isPort : MethodName := ⟨RX0, "isPort", "(I)Z"⟩
def RX1 : String := "SailCargo$Hold"
def TX1 : u_T := fun k => match k with
  | 0 => ("SailCargo$Hold", "tons", "[I", true)
  | 1 => ("SailCargo$Hold", "worth", "[I", true)
  | 2 => ("SailCargo$Hold", "apartBits", "[I", true)
  | 3 => ("SailCargo$Hold", "loads", "I", false)
  | 4 => ("SailCargo$Hold", "room", "I", false)
  | 5 => ("SailCargo$Hold", "bestBits", "I", false)
  | 6 => ("SailCargo$Hold", "bestTons", "I", false)
  | _ => ("SailCargo$Hold", "bestWorth", "I", false)
def tyX1 : Nat → FieldType := fun k => match k with
  | 0 => .array .int
  | 1 => .array .int
  | 2 => .array .int
  | 3 => .int
  | 4 => .int
  | 5 => .int
  | 6 => .int
  | _ => .int
abbrev wsX10 : List Cond := u_ws RX1 TX1 8
theorem nmX1 : ∀ a, a < 8 → ∀ b, b < 8 → a ≠ b → (TX1 a).2.1 ≠ (TX1 b).2.1 := by decide +kernel
theorem tyX1_ok : ∀ k, k < 8 → parseFieldDescriptor (TX1 k).2.2.1 = some (tyX1 k) := by decide +kernel
abbrev cX1_init : ByteArray := prog_3_method_1_code
def yX1_init : MethodName := ⟨RX1, "<init>", "()V"⟩
abbrev cX1_has : ByteArray := prog_3_method_2_code
def yX1_has : MethodName := ⟨RX1, "has", "(I)Z"⟩
abbrev cX1_add : ByteArray := prog_3_method_3_code
def yX1_add : MethodName := ⟨RX1, "add", "(II)I"⟩
abbrev cX1_setApart : ByteArray := prog_3_method_4_code
def yX1_setApart : MethodName := ⟨RX1, "setApart", "(IIZ)I"⟩
abbrev cX1_markApart : ByteArray := prog_3_method_5_code
def yX1_markApart : MethodName := ⟨RX1, "markApart", "(IIZ)V"⟩
abbrev cX1_fill : ByteArray := prog_3_method_6_code
def yX1_fill : MethodName := ⟨RX1, "fill", "(I)V"⟩
abbrev cX1_choose : ByteArray := prog_3_method_7_code
def yX1_choose : MethodName := ⟨RX1, "choose", "(IIII)V"⟩
abbrev cX1_keepIfBetter : ByteArray := prog_3_method_8_code
def yX1_keepIfBetter : MethodName := ⟨RX1, "keepIfBetter", "(III)V"⟩
def RX2 : String := "SailCargo$Passage"
def TX2 : u_T := fun k => match k with
  | 0 => ("SailCargo$Passage", "sailMiles", "[I", true)
  | 1 => ("SailCargo$Passage", "weights", "[I", true)
  | 2 => ("SailCargo$Passage", "chance", "[J", true)
  | 3 => ("SailCargo$Passage", "burnt", "[J", true)
  | 4 => ("SailCargo$Passage", "engineMiles", "I", false)
  | 5 => ("SailCargo$Passage", "daysReckoned", "I", false)
  | 6 => ("SailCargo$Passage", "milesReckoned", "I", false)
  | _ => ("SailCargo$Passage", "coalReckoned", "I", false)
def tyX2 : Nat → FieldType := fun k => match k with
  | 0 => .array .int
  | 1 => .array .int
  | 2 => .array .long
  | 3 => .array .long
  | 4 => .int
  | 5 => .int
  | 6 => .int
  | _ => .int
abbrev wsX20 : List Cond := u_ws RX2 TX2 8
theorem nmX2 : ∀ a, a < 8 → ∀ b, b < 8 → a ≠ b → (TX2 a).2.1 ≠ (TX2 b).2.1 := by decide +kernel
theorem tyX2_ok : ∀ k, k < 8 → parseFieldDescriptor (TX2 k).2.2.1 = some (tyX2 k) := by decide +kernel
abbrev cX2_init : ByteArray := prog_4_method_1_code
def yX2_init : MethodName := ⟨RX2, "<init>", "()V"⟩
abbrev cX2_setSails : ByteArray := prog_4_method_2_code
def yX2_setSails : MethodName := ⟨RX2, "setSails", "(II)I"⟩
abbrev cX2_setEngine : ByteArray := prog_4_method_3_code
def yX2_setEngine : MethodName := ⟨RX2, "setEngine", "(I)I"⟩
abbrev cX2_know : ByteArray := prog_4_method_4_code
def yX2_know : MethodName := ⟨RX2, "know", "(LSailCargo$Weather;I)V"⟩
abbrev cX2_reckon : ByteArray := prog_4_method_5_code
def yX2_reckon : MethodName := ⟨RX2, "reckon", "(III)V"⟩
abbrev cX2_chanceOf : ByteArray := prog_4_method_6_code
def yX2_chanceOf : MethodName := ⟨RX2, "chanceOf", "(III)J"⟩
abbrev cX2_burntOf : ByteArray := prog_4_method_7_code
def yX2_burntOf : MethodName := ⟨RX2, "burntOf", "(III)J"⟩
abbrev cX2_fewestDays : ByteArray := prog_4_method_8_code
def yX2_fewestDays : MethodName := ⟨RX2, "fewestDays", "(III)I"⟩
abbrev cX2_bestChoice : ByteArray := prog_4_method_9_code
def yX2_bestChoice : MethodName := ⟨RX2, "bestChoice", "(IIII)I"⟩
abbrev cX2_reckonDay : ByteArray := prog_4_method_10_code
def yX2_reckonDay : MethodName := ⟨RX2, "reckonDay", "(I)V"⟩
abbrev cX2_reckonPlace : ByteArray := prog_4_method_11_code
def yX2_reckonPlace : MethodName := ⟨RX2, "reckonPlace", "(III)V"⟩
abbrev cX2_calmChoice : ByteArray := prog_4_method_12_code
def yX2_calmChoice : MethodName := ⟨RX2, "calmChoice", "(III)I"⟩
abbrev cX2_afterCalm : ByteArray := prog_4_method_13_code
def yX2_afterCalm : MethodName := ⟨RX2, "afterCalm", "(IIII)I"⟩
abbrev cX2_afterSails : ByteArray := prog_4_method_14_code
def yX2_afterSails : MethodName := ⟨RX2, "afterSails", "(IIII)I"⟩
abbrev cX2_fuel : ByteArray := prog_4_method_15_code
def yX2_fuel : MethodName := ⟨RX2, "fuel", "(II)J"⟩
abbrev cX2_isBetter : ByteArray := prog_4_method_16_code
def yX2_isBetter : MethodName := ⟨RX2, "isBetter", "(IJIJ)Z"⟩
abbrev cX2_at : ByteArray := prog_4_method_17_code
def yX2_at : MethodName := ⟨RX2, "at", "(III)I"⟩
abbrev cX2_parts : ByteArray := prog_4_method_18_code
def yX2_parts : MethodName := ⟨RX2, "parts", "(I)J"⟩
def RX3 : String := "SailCargo$Reader"
def TX3 : u_T := fun k => match k with
  | 0 => ("SailCargo$Reader", "tape", "LSailCargo$Tape;", true)
  | 1 => ("SailCargo$Reader", "tokenStart", "I", false)
  | _ => ("SailCargo$Reader", "tokenEnd", "I", false)
def tyX3 : Nat → FieldType := fun k => match k with
  | 0 => .object "SailCargo$Tape"
  | 1 => .int
  | _ => .int
abbrev wsX30 : List Cond := u_ws RX3 TX3 3
theorem nmX3 : ∀ a, a < 3 → ∀ b, b < 3 → a ≠ b → (TX3 a).2.1 ≠ (TX3 b).2.1 := by decide +kernel
theorem tyX3_ok : ∀ k, k < 3 → parseFieldDescriptor (TX3 k).2.2.1 = some (tyX3 k) := by decide +kernel
abbrev cX3_init : ByteArray := prog_5_method_1_code
def yX3_init : MethodName := ⟨RX3, "<init>", "(LSailCargo$Tape;)V"⟩
abbrev cX3_read : ByteArray := prog_5_method_2_code
def yX3_read : MethodName := ⟨RX3, "read", "(LSailCargo$Terms;)I"⟩
abbrev cX3_readClause : ByteArray := prog_5_method_3_code
def yX3_readClause : MethodName := ⟨RX3, "readClause", "(LSailCargo$Terms;)Z"⟩
abbrev cX3_kindHere : ByteArray := prog_5_method_4_code
def yX3_kindHere : MethodName := ⟨RX3, "kindHere", "()I"⟩
abbrev cX3_numberHere : ByteArray := prog_5_method_5_code
def yX3_numberHere : MethodName := ⟨RX3, "numberHere", "()I"⟩
abbrev cX3_passes : ByteArray := prog_5_method_6_code
def yX3_passes : MethodName := ⟨RX3, "passes", "(Ljava/lang/String;)Z"⟩
abbrev cX3_isHere : ByteArray := prog_5_method_7_code
def yX3_isHere : MethodName := ⟨RX3, "isHere", "(Ljava/lang/String;)Z"⟩
abbrev cX3_isAtEnd : ByteArray := prog_5_method_8_code
def yX3_isAtEnd : MethodName := ⟨RX3, "isAtEnd", "()Z"⟩
abbrev cX3_advance : ByteArray := prog_5_method_9_code
def yX3_advance : MethodName := ⟨RX3, "advance", "()V"⟩
abbrev cX3_sortOf : ByteArray := prog_5_method_10_code
def yX3_sortOf : MethodName := ⟨RX3, "sortOf", "(I)I"⟩
def RX4 : String := "SailCargo$Tape"
def TX4 : u_T := fun k => match k with
  | 0 => ("SailCargo$Tape", "bytes", "[I", true)
  | _ => ("SailCargo$Tape", "length", "I", false)
def tyX4 : Nat → FieldType := fun k => match k with
  | 0 => .array .int
  | _ => .int
abbrev wsX40 : List Cond := u_ws RX4 TX4 2
theorem nmX4 : ∀ a, a < 2 → ∀ b, b < 2 → a ≠ b → (TX4 a).2.1 ≠ (TX4 b).2.1 := by decide +kernel
theorem tyX4_ok : ∀ k, k < 2 → parseFieldDescriptor (TX4 k).2.2.1 = some (tyX4 k) := by decide +kernel
abbrev cX4_init : ByteArray := prog_6_method_1_code
def yX4_init : MethodName := ⟨RX4, "<init>", "()V"⟩
abbrev cX4_hasRoom : ByteArray := prog_6_method_2_code
def yX4_hasRoom : MethodName := ⟨RX4, "hasRoom", "()Z"⟩
abbrev cX4_add : ByteArray := prog_6_method_3_code
def yX4_add : MethodName := ⟨RX4, "add", "(I)V"⟩
def RX5 : String := "SailCargo$Terms"
def TX5 : u_T := fun k => match k with
  | 0 => ("SailCargo$Terms", "kind", "[I", true)
  | 1 => ("SailCargo$Terms", "amount", "[I", true)
  | 2 => ("SailCargo$Terms", "mark", "[I", true)
  | _ => ("SailCargo$Terms", "clauses", "I", false)
def tyX5 : Nat → FieldType := fun k => match k with
  | 0 => .array .int
  | 1 => .array .int
  | 2 => .array .int
  | _ => .int
abbrev wsX50 : List Cond := u_ws RX5 TX5 4
theorem nmX5 : ∀ a, a < 4 → ∀ b, b < 4 → a ≠ b → (TX5 a).2.1 ≠ (TX5 b).2.1 := by decide +kernel
theorem tyX5_ok : ∀ k, k < 4 → parseFieldDescriptor (TX5 k).2.2.1 = some (tyX5 k) := by decide +kernel
abbrev cX5_init : ByteArray := prog_7_method_1_code
def yX5_init : MethodName := ⟨RX5, "<init>", "()V"⟩
abbrev cX5_add : ByteArray := prog_7_method_2_code
def yX5_add : MethodName := ⟨RX5, "add", "(III)V"⟩
abbrev cX5_sum : ByteArray := prog_7_method_3_code
def yX5_sum : MethodName := ⟨RX5, "sum", "(III)J"⟩
abbrev cX5_after : ByteArray := prog_7_method_4_code
def yX5_after : MethodName := ⟨RX5, "after", "(IJIII)J"⟩
abbrev cX5_firstWord : ByteArray := prog_7_method_5_code
def yX5_firstWord : MethodName := ⟨RX5, "firstWord", "(I)Ljava/lang/String;"⟩
abbrev cX5_wordBetween : ByteArray := prog_7_method_6_code
def yX5_wordBetween : MethodName := ⟨RX5, "wordBetween", "(I)Ljava/lang/String;"⟩
def RX6 : String := "SailCargo$Voyage"
def TX6 : u_T := fun k => match k with
  | 0 => ("SailCargo$Voyage", "hold", "LSailCargo$Hold;", true)
  | 1 => ("SailCargo$Voyage", "legSmoke", "[I", true)
  | 2 => ("SailCargo$Voyage", "firstLeg", "[I", true)
  | 3 => ("SailCargo$Voyage", "lastLeg", "[I", true)
  | _ => ("SailCargo$Voyage", "legs", "I", false)
def tyX6 : Nat → FieldType := fun k => match k with
  | 0 => .object "SailCargo$Hold"
  | 1 => .array .int
  | 2 => .array .int
  | 3 => .array .int
  | _ => .int
abbrev wsX60 : List Cond := u_ws RX6 TX6 5
theorem nmX6 : ∀ a, a < 5 → ∀ b, b < 5 → a ≠ b → (TX6 a).2.1 ≠ (TX6 b).2.1 := by decide +kernel
theorem tyX6_ok : ∀ k, k < 5 → parseFieldDescriptor (TX6 k).2.2.1 = some (tyX6 k) := by decide +kernel
abbrev cX6_init : ByteArray := prog_8_method_1_code
def yX6_init : MethodName := ⟨RX6, "<init>", "(LSailCargo$Hold;)V"⟩
abbrev cX6_has : ByteArray := prog_8_method_2_code
def yX6_has : MethodName := ⟨RX6, "has", "(I)Z"⟩
abbrev cX6_add : ByteArray := prog_8_method_3_code
def yX6_add : MethodName := ⟨RX6, "add", "(I)I"⟩
abbrev cX6_take : ByteArray := prog_8_method_4_code
def yX6_take : MethodName := ⟨RX6, "take", "(III)I"⟩
abbrev cX6_partOf : ByteArray := prog_8_method_5_code
def yX6_partOf : MethodName := ⟨RX6, "partOf", "(II)I"⟩
abbrev cX6_isServedFirst : ByteArray := prog_8_method_6_code
def yX6_isServedFirst : MethodName := ⟨RX6, "isServedFirst", "(IIII)Z"⟩
abbrev cX6_smokeOf : ByteArray := prog_8_method_7_code
def yX6_smokeOf : MethodName := ⟨RX6, "smokeOf", "(I)I"⟩
abbrev cX6_ownSmoke : ByteArray := prog_8_method_8_code
def yX6_ownSmoke : MethodName := ⟨RX6, "ownSmoke", "()I"⟩
abbrev cX6_tonsAboard : ByteArray := prog_8_method_9_code
def yX6_tonsAboard : MethodName := ⟨RX6, "tonsAboard", "(I)I"⟩
abbrev cX6_isAboard : ByteArray := prog_8_method_10_code
def yX6_isAboard : MethodName := ⟨RX6, "isAboard", "(II)Z"⟩
def RX7 : String := "SailCargo$Weather"
def TX7 : u_T := fun k => match k with
  | 0 => ("SailCargo$Weather", "weights", "[I", true)
  | 1 => ("SailCargo$Weather", "knownFrom", "[I", true)
  | _ => ("SailCargo$Weather", "told", "I", false)
def tyX7 : Nat → FieldType := fun k => match k with
  | 0 => .array .int
  | 1 => .array .int
  | _ => .int
abbrev wsX70 : List Cond := u_ws RX7 TX7 3
theorem nmX7 : ∀ a, a < 3 → ∀ b, b < 3 → a ≠ b → (TX7 a).2.1 ≠ (TX7 b).2.1 := by decide +kernel
theorem tyX7_ok : ∀ k, k < 3 → parseFieldDescriptor (TX7 k).2.2.1 = some (tyX7 k) := by decide +kernel
abbrev cX7_init : ByteArray := prog_9_method_1_code
def yX7_init : MethodName := ⟨RX7, "<init>", "()V"⟩
abbrev cX7_tell : ByteArray := prog_9_method_2_code
def yX7_tell : MethodName := ⟨RX7, "tell", "(IIIII)I"⟩
abbrev cX7_weightOf : ByteArray := prog_9_method_3_code
def yX7_weightOf : MethodName := ⟨RX7, "weightOf", "(II)I"⟩
abbrev cX7_isWeight : ByteArray := prog_9_method_4_code
def yX7_isWeight : MethodName := ⟨RX7, "isWeight", "(I)Z"⟩
def RX8 : String := "SailCargo"
def TX8 : u_T := fun k => match k with
  | 0 => ("SailCargo", "weather", "LSailCargo$Weather;", true)
  | 1 => ("SailCargo", "passage", "LSailCargo$Passage;", true)
  | 2 => ("SailCargo", "hold", "LSailCargo$Hold;", true)
  | 3 => ("SailCargo", "harbour", "LSailCargo$Harbour;", true)
  | 4 => ("SailCargo", "tape", "LSailCargo$Tape;", true)
  | 5 => ("SailCargo", "reader", "LSailCargo$Reader;", true)
  | 6 => ("SailCargo", "voyage", "LSailCargo$Voyage;", true)
  | 7 => ("SailCargo", "agreed", "LSailCargo$Terms;", false)
  | 8 => ("SailCargo", "draft", "LSailCargo$Terms;", false)
  | 9 => ("SailCargo", "faultPlace", "I", false)
  | _ => ("SailCargo", "refusedBy", "I", false)
def tyX8 : Nat → FieldType := fun k => match k with
  | 0 => .object "SailCargo$Weather"
  | 1 => .object "SailCargo$Passage"
  | 2 => .object "SailCargo$Hold"
  | 3 => .object "SailCargo$Harbour"
  | 4 => .object "SailCargo$Tape"
  | 5 => .object "SailCargo$Reader"
  | 6 => .object "SailCargo$Voyage"
  | 7 => .object "SailCargo$Terms"
  | 8 => .object "SailCargo$Terms"
  | 9 => .int
  | _ => .int
abbrev wsX80 : List Cond := u_ws RX8 TX8 11
theorem nmX8 : ∀ a, a < 11 → ∀ b, b < 11 → a ≠ b → (TX8 a).2.1 ≠ (TX8 b).2.1 := by decide +kernel
theorem tyX8_ok : ∀ k, k < 11 → parseFieldDescriptor (TX8 k).2.2.1 = some (tyX8 k) := by decide +kernel
abbrev cX8_init : ByteArray := prog_1_method_1_code
def yX8_init : MethodName := ⟨RX8, "<init>", "()V"⟩
abbrev cX8_winds : ByteArray := prog_1_method_2_code
def yX8_winds : MethodName := ⟨RX8, "winds", "(IIIII)I"⟩
abbrev cX8_weight : ByteArray := prog_1_method_3_code
def yX8_weight : MethodName := ⟨RX8, "weight", "(II)I"⟩
abbrev cX8_sails : ByteArray := prog_1_method_4_code
def yX8_sails : MethodName := ⟨RX8, "sails", "(II)I"⟩
abbrev cX8_engine : ByteArray := prog_1_method_5_code
def yX8_engine : MethodName := ⟨RX8, "engine", "(I)I"⟩
abbrev cX8_luck : ByteArray := prog_1_method_6_code
def yX8_luck : MethodName := ⟨RX8, "luck", "(IIIII)J"⟩
abbrev cX8_choice : ByteArray := prog_1_method_7_code
def yX8_choice : MethodName := ⟨RX8, "choice", "(IIIII)I"⟩
abbrev cX8_promise : ByteArray := prog_1_method_8_code
def yX8_promise : MethodName := ⟨RX8, "promise", "(IIII)I"⟩
abbrev cX8_load : ByteArray := prog_1_method_9_code
def yX8_load : MethodName := ⟨RX8, "load", "(II)I"⟩
abbrev cX8_apart : ByteArray := prog_1_method_10_code
def yX8_apart : MethodName := ⟨RX8, "apart", "(IIZ)I"⟩
abbrev cX8_stow : ByteArray := prog_1_method_11_code
def yX8_stow : MethodName := ⟨RX8, "stow", "(II)I"⟩
abbrev cX8_berths : ByteArray := prog_1_method_12_code
def yX8_berths : MethodName := ⟨RX8, "berths", "(II)I"⟩
abbrev cX8_slot : ByteArray := prog_1_method_13_code
def yX8_slot : MethodName := ⟨RX8, "slot", "(III)I"⟩
abbrev cX8_of : ByteArray := prog_1_method_14_code
def yX8_of : MethodName := ⟨RX8, "of", "(II)I"⟩
abbrev cX8_free : ByteArray := prog_1_method_15_code
def yX8_free : MethodName := ⟨RX8, "free", "(I)I"⟩
abbrev cX8_feed : ByteArray := prog_1_method_16_code
def yX8_feed : MethodName := ⟨RX8, "feed", "(IIIII)I"⟩
abbrev cX8_end : ByteArray := prog_1_method_17_code
def yX8_end : MethodName := ⟨RX8, "end", "(I)I"⟩
abbrev cX8_contract : ByteArray := prog_1_method_18_code
def yX8_contract : MethodName := ⟨RX8, "contract", "()I"⟩
abbrev cX8_fault : ByteArray := prog_1_method_19_code
def yX8_fault : MethodName := ⟨RX8, "fault", "()I"⟩
abbrev cX8_due : ByteArray := prog_1_method_20_code
def yX8_due : MethodName := ⟨RX8, "due", "(III)J"⟩
abbrev cX8_leg : ByteArray := prog_1_method_21_code
def yX8_leg : MethodName := ⟨RX8, "leg", "(I)I"⟩
abbrev cX8_aboard : ByteArray := prog_1_method_22_code
def yX8_aboard : MethodName := ⟨RX8, "aboard", "(III)I"⟩
abbrev cX8_part : ByteArray := prog_1_method_23_code
def yX8_part : MethodName := ⟨RX8, "part", "(II)I"⟩
abbrev cX8_smoke : ByteArray := prog_1_method_24_code
def yX8_smoke : MethodName := ⟨RX8, "smoke", "(I)I"⟩
abbrev cX8_count : ByteArray := prog_1_method_25_code
def yX8_count : MethodName := ⟨RX8, "count", "(I)I"⟩
abbrev cX8_status : ByteArray := prog_1_method_26_code
def yX8_status : MethodName := ⟨RX8, "status", "()I"⟩
abbrev cX8_answered : ByteArray := prog_1_method_27_code
def yX8_answered : MethodName := ⟨RX8, "answered", "(I)I"⟩
abbrev cX8_isWithin : ByteArray := prog_1_method_28_code
def yX8_isWithin : MethodName := ⟨RX8, "isWithin", "(III)Z"⟩
abbrev cX8_isWind : ByteArray := prog_1_method_29_code
def yX8_isWind : MethodName := ⟨RX8, "isWind", "(I)Z"⟩
abbrev cX8_isKnownDay : ByteArray := prog_1_method_30_code
def yX8_isKnownDay : MethodName := ⟨RX8, "isKnownDay", "(I)Z"⟩
abbrev cX8_isPassage : ByteArray := prog_1_method_31_code
def yX8_isPassage : MethodName := ⟨RX8, "isPassage", "(III)Z"⟩
abbrev cX8_isTerm : ByteArray := prog_1_method_32_code
def yX8_isTerm : MethodName := ⟨RX8, "isTerm", "(I)Z"⟩
def RX9 : String := "SailCargoModel"
def TX9 : u_T := fun k => match k with
  | 0 => ("SailCargoModel", "thrown", "I", false)
  | 1 => ("SailCargoModel", "status", "I", false)
  | 2 => ("SailCargoModel", "windsTold", "I", false)
  | 3 => ("SailCargoModel", "weights", "[I", true)
  | 4 => ("SailCargoModel", "windKnown", "[I", true)
  | 5 => ("SailCargoModel", "sails", "[I", true)
  | 6 => ("SailCargoModel", "engine", "I", false)
  | 7 => ("SailCargoModel", "chance", "[J", true)
  | 8 => ("SailCargoModel", "burnt", "[J", true)
  | 9 => ("SailCargoModel", "weighs", "[I", true)
  | 10 => ("SailCargoModel", "wayOf", "I", false)
  | 11 => ("SailCargoModel", "wayChance", "J", false)
  | 12 => ("SailCargoModel", "wayBurnt", "J", false)
  | 13 => ("SailCargoModel", "loads", "I", false)
  | 14 => ("SailCargoModel", "lTons", "[I", true)
  | 15 => ("SailCargoModel", "lWorth", "[I", true)
  | 16 => ("SailCargoModel", "lApart", "[I", true)
  | 17 => ("SailCargoModel", "lFrom", "[I", true)
  | 18 => ("SailCargoModel", "lTo", "[I", true)
  | 19 => ("SailCargoModel", "berths", "[I", true)
  | 20 => ("SailCargoModel", "slots", "I", false)
  | 21 => ("SailCargoModel", "sPort", "[I", true)
  | 22 => ("SailCargoModel", "sBerth", "[I", true)
  | 23 => ("SailCargoModel", "sFirst", "[I", true)
  | 24 => ("SailCargoModel", "sLast", "[I", true)
  | 25 => ("SailCargoModel", "clauses", "I", false)
  | 26 => ("SailCargoModel", "cSort", "[I", true)
  | 27 => ("SailCargoModel", "cA", "[I", true)
  | 28 => ("SailCargoModel", "cB", "[I", true)
  | 29 => ("SailCargoModel", "nMany", "I", false)
  | 30 => ("SailCargoModel", "nClause", "[I", true)
  | 31 => ("SailCargoModel", "tape", "[I", true)
  | 32 => ("SailCargoModel", "taped", "I", false)
  | 33 => ("SailCargoModel", "from", "I", false)
  | 34 => ("SailCargoModel", "to", "I", false)
  | 35 => ("SailCargoModel", "sort", "I", false)
  | 36 => ("SailCargoModel", "worth", "J", false)
  | 37 => ("SailCargoModel", "fault", "I", false)
  | 38 => ("SailCargoModel", "bad", "Z", false)
  | 39 => ("SailCargoModel", "legs", "I", false)
  | _ => ("SailCargoModel", "smokes", "[I", true)
def tyX9 : Nat → FieldType := fun k => match k with
  | 0 => .int
  | 1 => .int
  | 2 => .int
  | 3 => .array .int
  | 4 => .array .int
  | 5 => .array .int
  | 6 => .int
  | 7 => .array .long
  | 8 => .array .long
  | 9 => .array .int
  | 10 => .int
  | 11 => .long
  | 12 => .long
  | 13 => .int
  | 14 => .array .int
  | 15 => .array .int
  | 16 => .array .int
  | 17 => .array .int
  | 18 => .array .int
  | 19 => .array .int
  | 20 => .int
  | 21 => .array .int
  | 22 => .array .int
  | 23 => .array .int
  | 24 => .array .int
  | 25 => .int
  | 26 => .array .int
  | 27 => .array .int
  | 28 => .array .int
  | 29 => .int
  | 30 => .array .int
  | 31 => .array .int
  | 32 => .int
  | 33 => .int
  | 34 => .int
  | 35 => .int
  | 36 => .long
  | 37 => .int
  | 38 => .boolean
  | 39 => .int
  | _ => .array .int
abbrev wsX90 : List Cond := u_ws RX9 TX9 41
theorem nmX9 : ∀ a, a < 41 → ∀ b, b < 41 → a ≠ b → (TX9 a).2.1 ≠ (TX9 b).2.1 := by decide +kernel
theorem tyX9_ok : ∀ k, k < 41 → parseFieldDescriptor (TX9 k).2.2.1 = some (tyX9 k) := by decide +kernel
abbrev cX9_init : ByteArray := prog_11_method_1_code
def yX9_init : MethodName := ⟨RX9, "<init>", "()V"⟩
abbrev cX9_in : ByteArray := prog_11_method_3_code
def yX9_in : MethodName := ⟨RX9, "in", "(JJJ)Z"⟩
abbrev cX9_told : ByteArray := prog_11_method_4_code
def yX9_told : MethodName := ⟨RX9, "told", "(I)I"⟩
abbrev cX9_isKnown : ByteArray := prog_11_method_5_code
def yX9_isKnown : MethodName := ⟨RX9, "isKnown", "(I)Z"⟩
abbrev cX9_winds : ByteArray := prog_11_method_6_code
def yX9_winds : MethodName := ⟨RX9, "winds", "(IIIII)I"⟩
abbrev cX9_findWeights : ByteArray := prog_11_method_7_code
def yX9_findWeights : MethodName := ⟨RX9, "findWeights", "(I)V"⟩
abbrev cX9_weight : ByteArray := prog_11_method_8_code
def yX9_weight : MethodName := ⟨RX9, "weight", "(II)I"⟩
abbrev cX9_sails : ByteArray := prog_11_method_9_code
def yX9_sails : MethodName := ⟨RX9, "sails", "(II)I"⟩
abbrev cX9_engine : ByteArray := prog_11_method_10_code
def yX9_engine : MethodName := ⟨RX9, "engine", "(I)I"⟩
abbrev cX9_at : ByteArray := prog_11_method_11_code
def yX9_at : MethodName := ⟨RX9, "at", "(III)I"⟩
abbrev cX9_take : ByteArray := prog_11_method_12_code
def yX9_take : MethodName := ⟨RX9, "take", "(IIJ)V"⟩
abbrev cX9_choose : ByteArray := prog_11_method_13_code
def yX9_choose : MethodName := ⟨RX9, "choose", "(IIIIJ)V"⟩
abbrev cX9_find : ByteArray := prog_11_method_14_code
def yX9_find : MethodName := ⟨RX9, "find", "(IIII)V"⟩
abbrev cX9_areVoyage : ByteArray := prog_11_method_15_code
def yX9_areVoyage : MethodName := ⟨RX9, "areVoyage", "(IIII)Z"⟩
abbrev cX9_luck : ByteArray := prog_11_method_16_code
def yX9_luck : MethodName := ⟨RX9, "luck", "(IIIII)J"⟩
abbrev cX9_choice : ByteArray := prog_11_method_17_code
def yX9_choice : MethodName := ⟨RX9, "choice", "(IIIII)I"⟩
abbrev cX9_promise : ByteArray := prog_11_method_18_code
def yX9_promise : MethodName := ⟨RX9, "promise", "(IIII)I"⟩
abbrev cX9_isLoad : ByteArray := prog_11_method_19_code
def yX9_isLoad : MethodName := ⟨RX9, "isLoad", "(I)Z"⟩
abbrev cX9_load : ByteArray := prog_11_method_20_code
def yX9_load : MethodName := ⟨RX9, "load", "(II)I"⟩
abbrev cX9_apart : ByteArray := prog_11_method_21_code
def yX9_apart : MethodName := ⟨RX9, "apart", "(IIZ)I"⟩
abbrev cX9_stow : ByteArray := prog_11_method_22_code
def yX9_stow : MethodName := ⟨RX9, "stow", "(II)I"⟩
abbrev cX9_isPort : ByteArray := prog_11_method_23_code
def yX9_isPort : MethodName := ⟨RX9, "isPort", "(I)Z"⟩
abbrev cX9_isSlot : ByteArray := prog_11_method_24_code
def yX9_isSlot : MethodName := ⟨RX9, "isSlot", "(I)Z"⟩
abbrev cX9_berths : ByteArray := prog_11_method_25_code
def yX9_berths : MethodName := ⟨RX9, "berths", "(II)I"⟩
abbrev cX9_isFree : ByteArray := prog_11_method_26_code
def yX9_isFree : MethodName := ⟨RX9, "isFree", "(IIII)Z"⟩
abbrev cX9_slot : ByteArray := prog_11_method_27_code
def yX9_slot : MethodName := ⟨RX9, "slot", "(III)I"⟩
abbrev cX9_of : ByteArray := prog_11_method_28_code
def yX9_of : MethodName := ⟨RX9, "of", "(II)I"⟩
abbrev cX9_free : ByteArray := prog_11_method_29_code
def yX9_free : MethodName := ⟨RX9, "free", "(I)I"⟩
abbrev cX9_four : ByteArray := prog_11_method_30_code
def yX9_four : MethodName := ⟨RX9, "four", "(I)V"⟩
abbrev cX9_feed : ByteArray := prog_11_method_31_code
def yX9_feed : MethodName := ⟨RX9, "feed", "(IIIII)I"⟩
abbrev cX9_end : ByteArray := prog_11_method_32_code
def yX9_end : MethodName := ⟨RX9, "end", "(I)I"⟩
abbrev cX9_isSmall : ByteArray := prog_11_method_33_code
def yX9_isSmall : MethodName := ⟨RX9, "isSmall", "(I)Z"⟩
abbrev cX9_isDigit : ByteArray := prog_11_method_34_code
def yX9_isDigit : MethodName := ⟨RX9, "isDigit", "(I)Z"⟩
abbrev cX9_next : ByteArray := prog_11_method_35_code
def yX9_next : MethodName := ⟨RX9, "next", "()V"⟩
abbrev cX9_isWord : ByteArray := prog_11_method_36_code
def yX9_isWord : MethodName := ⟨RX9, "isWord", "(IIIIII)Z"⟩
abbrev cX9_must : ByteArray := prog_11_method_37_code
def yX9_must : MethodName := ⟨RX9, "must", "(Z)V"⟩
abbrev cX9_number : ByteArray := prog_11_method_38_code
def yX9_number : MethodName := ⟨RX9, "number", "()I"⟩
abbrev cX9_sortAt : ByteArray := prog_11_method_39_code
def yX9_sortAt : MethodName := ⟨RX9, "sortAt", "()I"⟩
abbrev cX9_readClause : ByteArray := prog_11_method_40_code
def yX9_readClause : MethodName := ⟨RX9, "readClause", "()V"⟩
abbrev cX9_contract : ByteArray := prog_11_method_41_code
def yX9_contract : MethodName := ⟨RX9, "contract", "()I"⟩
abbrev cX9_fault : ByteArray := prog_11_method_42_code
def yX9_fault : MethodName := ⟨RX9, "fault", "()I"⟩
abbrev cX9_due : ByteArray := prog_11_method_43_code
def yX9_due : MethodName := ⟨RX9, "due", "(III)J"⟩
abbrev cX9_isLeg : ByteArray := prog_11_method_44_code
def yX9_isLeg : MethodName := ⟨RX9, "isLeg", "(I)Z"⟩
abbrev cX9_leg : ByteArray := prog_11_method_45_code
def yX9_leg : MethodName := ⟨RX9, "leg", "(I)I"⟩
abbrev cX9_aboard : ByteArray := prog_11_method_46_code
def yX9_aboard : MethodName := ⟨RX9, "aboard", "(III)I"⟩
abbrev cX9_isAboard : ByteArray := prog_11_method_47_code
def yX9_isAboard : MethodName := ⟨RX9, "isAboard", "(II)Z"⟩
abbrev cX9_tonsOn : ByteArray := prog_11_method_48_code
def yX9_tonsOn : MethodName := ⟨RX9, "tonsOn", "(I)I"⟩
abbrev cX9_partOf : ByteArray := prog_11_method_49_code
def yX9_partOf : MethodName := ⟨RX9, "partOf", "(II)I"⟩
abbrev cX9_part : ByteArray := prog_11_method_50_code
def yX9_part : MethodName := ⟨RX9, "part", "(II)I"⟩
abbrev cX9_smoke : ByteArray := prog_11_method_51_code
def yX9_smoke : MethodName := ⟨RX9, "smoke", "(I)I"⟩
abbrev cX9_count : ByteArray := prog_11_method_52_code
def yX9_count : MethodName := ⟨RX9, "count", "(I)I"⟩
abbrev cX9_status : ByteArray := prog_11_method_53_code
def yX9_status : MethodName := ⟨RX9, "status", "()I"⟩
def RJ9 : String := "java/lang/Math"
def TJ9 : u_T := fun k => match k with
  | _ => ("", "", "", false)
def tyJ9 : Nat → FieldType := fun k => match k with
  | _ => .int
abbrev wsJ90 : List Cond := u_ws RJ9 TJ9 0
theorem nmJ9 : ∀ a, a < 0 → ∀ b, b < 0 → a ≠ b → (TJ9 a).2.1 ≠ (TJ9 b).2.1 := by decide +kernel
theorem tyJ9_ok : ∀ k, k < 0 → parseFieldDescriptor (TJ9 k).2.2.1 = some (tyJ9 k) := by decide +kernel
abbrev cJ9_max_7cf53 : ByteArray := prog_12_method_65_code
def yJ9_max_7cf53 : MethodName := ⟨RJ9, "max", "(II)I"⟩
abbrev cJ9_max_f86c9 : ByteArray := prog_12_method_66_code
def yJ9_max_f86c9 : MethodName := ⟨RJ9, "max", "(JJ)J"⟩
abbrev cJ9_min_7cf53 : ByteArray := prog_12_method_69_code
def yJ9_min_7cf53 : MethodName := ⟨RJ9, "min", "(II)I"⟩
abbrev cJ9_min_f86c9 : ByteArray := prog_12_method_70_code
def yJ9_min_f86c9 : MethodName := ⟨RJ9, "min", "(JJ)J"⟩
def RJ0 : String := "java/lang/String"
def TJ0 : u_T := fun k => match k with
  | _ => ("", "", "", false)
def tyJ0 : Nat → FieldType := fun k => match k with
  | _ => .int
abbrev wsJ00 : List Cond := u_ws RJ0 TJ0 0
theorem nmJ0 : ∀ a, a < 0 → ∀ b, b < 0 → a ≠ b → (TJ0 a).2.1 ≠ (TJ0 b).2.1 := by decide +kernel
theorem tyJ0_ok : ∀ k, k < 0 → parseFieldDescriptor (TJ0 k).2.2.1 = some (tyJ0 k) := by decide +kernel
abbrev cJ0_length_8abf5 : ByteArray := prog_13_method_54_code
def yJ0_length_8abf5 : MethodName := ⟨RJ0, "length", "()I"⟩
abbrev cJ0_isEmpty_aae02 : ByteArray := prog_13_method_55_code
def yJ0_isEmpty_aae02 : MethodName := ⟨RJ0, "isEmpty", "()Z"⟩
abbrev cJ0_charAt_5068e : ByteArray := prog_13_method_56_code
def yJ0_charAt_5068e : MethodName := ⟨RJ0, "charAt", "(I)C"⟩
abbrev cJ0_coder_7d493 : ByteArray := prog_13_method_152_code
def yJ0_coder_7d493 : MethodName := ⟨RJ0, "coder", "()B"⟩
abbrev cJ0_isLatin1_aae02 : ByteArray := prog_13_method_154_code
def yJ0_isLatin1_aae02 : MethodName := ⟨RJ0, "isLatin1", "()Z"⟩
abbrev cJ0_checkIndex_df160 : ByteArray := prog_13_method_155_code
def yJ0_checkIndex_df160 : MethodName := ⟨RJ0, "checkIndex", "(II)V"⟩
def RJ1 : String := "java/lang/StringLatin1"
def TJ1 : u_T := fun k => match k with
  | _ => ("", "", "", false)
def tyJ1 : Nat → FieldType := fun k => match k with
  | _ => .int
abbrev wsJ10 : List Cond := u_ws RJ1 TJ1 0
theorem nmJ1 : ∀ a, a < 0 → ∀ b, b < 0 → a ≠ b → (TJ1 a).2.1 ≠ (TJ1 b).2.1 := by decide +kernel
theorem tyJ1_ok : ∀ k, k < 0 → parseFieldDescriptor (TJ1 k).2.2.1 = some (tyJ1 k) := by decide +kernel
abbrev cJ1_charAt_3b067 : ByteArray := prog_14_method_2_code
def yJ1_charAt_3b067 : MethodName := ⟨RJ1, "charAt", "([BI)C"⟩
def RJ2 : String := "java/lang/StringUTF16"
def TJ2 : u_T := fun k => match k with
  | _ => ("", "", "", false)
def tyJ2 : Nat → FieldType := fun k => match k with
  | _ => .int
abbrev wsJ20 : List Cond := u_ws RJ2 TJ2 0
theorem nmJ2 : ∀ a, a < 0 → ∀ b, b < 0 → a ≠ b → (TJ2 a).2.1 ≠ (TJ2 b).2.1 := by decide +kernel
theorem tyJ2_ok : ∀ k, k < 0 → parseFieldDescriptor (TJ2 k).2.2.1 = some (tyJ2 k) := by decide +kernel
abbrev cJ2_getChar_3b067 : ByteArray := prog_15_method_5_code
def yJ2_getChar_3b067 : MethodName := ⟨RJ2, "getChar", "([BI)C"⟩
abbrev cJ2_length_9d52b : ByteArray := prog_15_method_6_code
def yJ2_length_9d52b : MethodName := ⟨RJ2, "length", "([B)I"⟩
abbrev cJ2_charAt_3b067 : ByteArray := prog_15_method_83_code
def yJ2_charAt_3b067 : MethodName := ⟨RJ2, "charAt", "([BI)C"⟩
abbrev cJ2_checkIndex_2214a : ByteArray := prog_15_method_91_code
def yJ2_checkIndex_2214a : MethodName := ⟨RJ2, "checkIndex", "(I[B)V"⟩
def RJ3 : String := "jdk/internal/util/Preconditions"
def TJ3 : u_T := fun k => match k with
  | _ => ("", "", "", false)
def tyJ3 : Nat → FieldType := fun k => match k with
  | _ => .int
abbrev wsJ30 : List Cond := u_ws RJ3 TJ3 0
theorem nmJ3 : ∀ a, a < 0 → ∀ b, b < 0 → a ≠ b → (TJ3 a).2.1 ≠ (TJ3 b).2.1 := by decide +kernel
theorem tyJ3_ok : ∀ k, k < 0 → parseFieldDescriptor (TJ3 k).2.2.1 = some (tyJ3 k) := by decide +kernel
abbrev cJ3_checkIndex_8e157 : ByteArray := prog_16_method_11_code
def yJ3_checkIndex_8e157 : MethodName := ⟨RJ3, "checkIndex", "(IILjava/util/function/BiFunction;)I"⟩
def wsX0_init : List Cond := .code yX0_init cX0_init 2 none :: ([.methodLink RX0 3 objectInit, .instanceMethod objectInit, .code objectInit ⟨#[0xb1]⟩ 1 none, .arrayClass .int, .fieldLink RX0 11 "SailCargo$Harbour" "berthsOf" "[I", .fieldLink RX0 15 "SailCargo$Harbour" "port" "[I", .fieldLink RX0 18 "SailCargo$Harbour" "berth" "[I", .fieldLink RX0 21 "SailCargo$Harbour" "first" "[I", .fieldLink RX0 24 "SailCargo$Harbour" "last" "[I", .arrayClass .boolean, .fieldLink RX0 27 "SailCargo$Harbour" "isGivenUp" "[Z"] ++ wsX00)
def wsX8_isWithin : List Cond := .code yX8_isWithin cX8_isWithin 3 (some .boolean) :: ([])
def wsX0_isPort : List Cond := .code yX0_isPort cX0_isPort 1 (some .boolean) :: ([.static yX8_isWithin, .initialized RX8, .code yX8_isWithin cX8_isWithin 3 (some .boolean)])
def wsX0_setBerths : List Cond := .code yX0_setBerths cX0_setBerths 4 (some .int) :: ([.fieldLink RX0 39 "SailCargo$Harbour" "told" "I", .fieldLink RX0 27 "SailCargo$Harbour" "isGivenUp" "[Z", .fieldLink RX0 15 "SailCargo$Harbour" "port" "[I", .fieldLink RX0 18 "SailCargo$Harbour" "berth" "[I", .fieldLink RX0 11 "SailCargo$Harbour" "berthsOf" "[I", .static yX8_isWithin, .initialized RX8, .code yX8_isWithin cX8_isWithin 3 (some .boolean), .methodLink RX0 35 yX0_isPort, .static yX0_isPort, .initialized RX0, .code yX0_isPort cX0_isPort 1 (some .boolean)] ++ wsX00)
def wsX0_slotInTheWay : List Cond := .code yX0_slotInTheWay cX0_slotInTheWay 6 (some .int) :: ([.fieldLink RX0 39 "SailCargo$Harbour" "told" "I", .fieldLink RX0 27 "SailCargo$Harbour" "isGivenUp" "[Z", .fieldLink RX0 15 "SailCargo$Harbour" "port" "[I", .fieldLink RX0 18 "SailCargo$Harbour" "berth" "[I", .fieldLink RX0 21 "SailCargo$Harbour" "first" "[I", .fieldLink RX0 24 "SailCargo$Harbour" "last" "[I"] ++ wsX00)
def wsX0_firstFree : List Cond := .code yX0_firstFree cX0_firstFree 8 (some .int) :: ([.fieldLink RX0 39 "SailCargo$Harbour" "told" "I", .fieldLink RX0 24 "SailCargo$Harbour" "last" "[I", .methodLink RX0 53 yX0_slotInTheWay, .instanceMethod yX0_slotInTheWay, .selects RX0 yX0_slotInTheWay yX0_slotInTheWay, .initialized RX0, .code yX0_slotInTheWay cX0_slotInTheWay 6 (some .int), .fieldLink RX0 27 "SailCargo$Harbour" "isGivenUp" "[Z", .fieldLink RX0 15 "SailCargo$Harbour" "port" "[I", .fieldLink RX0 18 "SailCargo$Harbour" "berth" "[I", .fieldLink RX0 21 "SailCargo$Harbour" "first" "[I"] ++ wsX00)
def wsX0_keep : List Cond := .code yX0_keep cX0_keep 5 (some .int) :: ([.fieldLink RX0 15 "SailCargo$Harbour" "port" "[I", .fieldLink RX0 39 "SailCargo$Harbour" "told" "I", .fieldLink RX0 18 "SailCargo$Harbour" "berth" "[I", .fieldLink RX0 21 "SailCargo$Harbour" "first" "[I", .fieldLink RX0 24 "SailCargo$Harbour" "last" "[I", .fieldLink RX0 50 "SailCargo$Harbour" "held" "I"] ++ wsX00)
def wsX0_grant_r1 : List Cond := [Cond.fieldLink RX0 11 "SailCargo$Harbour" "berthsOf" "[I", Cond.fieldLink RX0 39 "SailCargo$Harbour" "told" "I", Cond.static yX8_isWithin, Cond.initialized RX8, Cond.code yX8_isWithin cX8_isWithin 3 (some .boolean), Cond.methodLink RX0 35 yX0_isPort, Cond.static yX0_isPort, Cond.initialized RX0, Cond.code yX0_isPort cX0_isPort 1 (some .boolean), Cond.methodLink RX0 43 yX0_firstFree, Cond.instanceMethod yX0_firstFree, Cond.selects RX0 yX0_firstFree yX0_firstFree, Cond.code yX0_firstFree cX0_firstFree 8 (some .int), Cond.fieldLink RX0 24 "SailCargo$Harbour" "last" "[I", Cond.methodLink RX0 53 yX0_slotInTheWay, Cond.instanceMethod yX0_slotInTheWay, Cond.selects RX0 yX0_slotInTheWay yX0_slotInTheWay, Cond.code yX0_slotInTheWay cX0_slotInTheWay 6 (some .int), Cond.fieldLink RX0 27 "SailCargo$Harbour" "isGivenUp" "[Z", Cond.fieldLink RX0 15 "SailCargo$Harbour" "port" "[I", Cond.fieldLink RX0 18 "SailCargo$Harbour" "berth" "[I", Cond.fieldLink RX0 21 "SailCargo$Harbour" "first" "[I", Cond.methodLink RX0 47 yX0_keep, Cond.instanceMethod yX0_keep]
def wsX0_grant_r2 : List Cond := [Cond.selects RX0 yX0_keep yX0_keep, Cond.code yX0_keep cX0_keep 5 (some .int), Cond.fieldLink RX0 50 "SailCargo$Harbour" "held" "I"]
def wsX0_grant : List Cond := .code yX0_grant cX0_grant 8 (some .int) :: ((wsX0_grant_r1 ++ wsX0_grant_r2) ++ wsX00)
def wsX0_isHeld : List Cond := .code yX0_isHeld cX0_isHeld 2 (some .boolean) :: ([.fieldLink RX0 39 "SailCargo$Harbour" "told" "I", .fieldLink RX0 27 "SailCargo$Harbour" "isGivenUp" "[Z", .static yX8_isWithin, .initialized RX8, .code yX8_isWithin cX8_isWithin 3 (some .boolean)] ++ wsX00)
def wsX0_tell : List Cond := .code yX0_tell cX0_tell 3 (some .int) :: ([.fieldLink RX0 15 "SailCargo$Harbour" "port" "[I", .fieldLink RX0 18 "SailCargo$Harbour" "berth" "[I", .fieldLink RX0 21 "SailCargo$Harbour" "first" "[I", .fieldLink RX0 24 "SailCargo$Harbour" "last" "[I", .methodLink RX0 56 yX0_isHeld, .instanceMethod yX0_isHeld, .selects RX0 yX0_isHeld yX0_isHeld, .initialized RX0, .code yX0_isHeld cX0_isHeld 2 (some .boolean), .fieldLink RX0 39 "SailCargo$Harbour" "told" "I", .fieldLink RX0 27 "SailCargo$Harbour" "isGivenUp" "[Z", .static yX8_isWithin, .initialized RX8, .code yX8_isWithin cX8_isWithin 3 (some .boolean)] ++ wsX00)
def wsX0_giveUp : List Cond := .code yX0_giveUp cX0_giveUp 2 (some .int) :: ([.fieldLink RX0 27 "SailCargo$Harbour" "isGivenUp" "[Z", .fieldLink RX0 50 "SailCargo$Harbour" "held" "I", .methodLink RX0 56 yX0_isHeld, .instanceMethod yX0_isHeld, .selects RX0 yX0_isHeld yX0_isHeld, .initialized RX0, .code yX0_isHeld cX0_isHeld 2 (some .boolean), .fieldLink RX0 39 "SailCargo$Harbour" "told" "I", .static yX8_isWithin, .initialized RX8, .code yX8_isWithin cX8_isWithin 3 (some .boolean)] ++ wsX00)
def wsX1_init : List Cond := .code yX1_init cX1_init 1 none :: ([.methodLink RX1 3 objectInit, .instanceMethod objectInit, .code objectInit ⟨#[0xb1]⟩ 1 none, .arrayClass .int, .fieldLink RX1 9 "SailCargo$Hold" "tons" "[I", .fieldLink RX1 15 "SailCargo$Hold" "worth" "[I", .fieldLink RX1 18 "SailCargo$Hold" "apartBits" "[I"] ++ wsX10)
def wsX1_has : List Cond := .code yX1_has cX1_has 2 (some .boolean) :: ([.fieldLink RX1 21 "SailCargo$Hold" "loads" "I", .static yX8_isWithin, .initialized RX8, .code yX8_isWithin cX8_isWithin 3 (some .boolean)] ++ wsX10)
def wsX1_add : List Cond := .code yX1_add cX1_add 3 (some .int) :: ([.fieldLink RX1 21 "SailCargo$Hold" "loads" "I", .fieldLink RX1 9 "SailCargo$Hold" "tons" "[I", .fieldLink RX1 15 "SailCargo$Hold" "worth" "[I", .static yX8_isWithin, .initialized RX8, .code yX8_isWithin cX8_isWithin 3 (some .boolean)] ++ wsX10)
def wsX1_markApart : List Cond := .code yX1_markApart cX1_markApart 5 none :: ([.fieldLink RX1 18 "SailCargo$Hold" "apartBits" "[I"] ++ wsX10)
def wsX1_setApart : List Cond := .code yX1_setApart cX1_setApart 4 (some .int) :: ([.methodLink RX1 29 yX1_has, .instanceMethod yX1_has, .selects RX1 yX1_has yX1_has, .initialized RX1, .code yX1_has cX1_has 2 (some .boolean), .fieldLink RX1 21 "SailCargo$Hold" "loads" "I", .static yX8_isWithin, .initialized RX8, .code yX8_isWithin cX8_isWithin 3 (some .boolean), .methodLink RX1 33 yX1_markApart, .instanceMethod yX1_markApart, .selects RX1 yX1_markApart yX1_markApart, .code yX1_markApart cX1_markApart 5 none, .fieldLink RX1 18 "SailCargo$Hold" "apartBits" "[I"] ++ wsX10)
def wsX1_keepIfBetter : List Cond := .code yX1_keepIfBetter cX1_keepIfBetter 4 none :: ([.fieldLink RX1 46 "SailCargo$Hold" "bestWorth" "I", .fieldLink RX1 43 "SailCargo$Hold" "bestTons" "I", .fieldLink RX1 40 "SailCargo$Hold" "bestBits" "I"] ++ wsX10)
def wsX1_choose : List Cond := .code yX1_choose cX1_choose 5 none :: ([.fieldLink RX1 9 "SailCargo$Hold" "tons" "[I", .fieldLink RX1 37 "SailCargo$Hold" "room" "I", .fieldLink RX1 18 "SailCargo$Hold" "apartBits" "[I", .fieldLink RX1 15 "SailCargo$Hold" "worth" "[I", .methodLink RX1 53 yX1_keepIfBetter, .instanceMethod yX1_keepIfBetter, .selects RX1 yX1_keepIfBetter yX1_keepIfBetter, .initialized RX1, .code yX1_keepIfBetter cX1_keepIfBetter 4 none, .fieldLink RX1 46 "SailCargo$Hold" "bestWorth" "I", .fieldLink RX1 43 "SailCargo$Hold" "bestTons" "I", .fieldLink RX1 40 "SailCargo$Hold" "bestBits" "I", .methodLink RX1 49 yX1_choose, .instanceMethod yX1_choose, .selects RX1 yX1_choose yX1_choose] ++ wsX10)
def wsX1_fill : List Cond := .code yX1_fill cX1_fill 2 none :: ([.fieldLink RX1 37 "SailCargo$Hold" "room" "I", .fieldLink RX1 40 "SailCargo$Hold" "bestBits" "I", .fieldLink RX1 43 "SailCargo$Hold" "bestTons" "I", .fieldLink RX1 46 "SailCargo$Hold" "bestWorth" "I", .fieldLink RX1 21 "SailCargo$Hold" "loads" "I", .methodLink RX1 49 yX1_choose, .instanceMethod yX1_choose, .selects RX1 yX1_choose yX1_choose, .initialized RX1, .code yX1_choose cX1_choose 5 none, .fieldLink RX1 9 "SailCargo$Hold" "tons" "[I", .fieldLink RX1 18 "SailCargo$Hold" "apartBits" "[I", .fieldLink RX1 15 "SailCargo$Hold" "worth" "[I", .methodLink RX1 53 yX1_keepIfBetter, .instanceMethod yX1_keepIfBetter, .selects RX1 yX1_keepIfBetter yX1_keepIfBetter, .code yX1_keepIfBetter cX1_keepIfBetter 4 none] ++ wsX10)
def wsX2_at : List Cond := .code yX2_at cX2_at 3 (some .int) :: ([])
def wsX2_parts : List Cond := .code yX2_parts cX2_parts 1 (some .long) :: ([])
def wsX2_init : List Cond := .code yX2_init cX2_init 3 none :: ([.methodLink RX2 5 objectInit, .instanceMethod objectInit, .code objectInit ⟨#[0xb1]⟩ 1 none, .arrayClass .int, .fieldLink RX2 11 "SailCargo$Passage" "sailMiles" "[I", .fieldLink RX2 15 "SailCargo$Passage" "weights" "[I", .arrayClass .long, .fieldLink RX2 18 "SailCargo$Passage" "chance" "[J", .fieldLink RX2 22 "SailCargo$Passage" "burnt" "[J", .methodLink RX2 25 yX2_at, .static yX2_at, .initialized RX2, .code yX2_at cX2_at 3 (some .int), .methodLink RX2 29 yX2_parts, .static yX2_parts, .code yX2_parts cX2_parts 1 (some .long)] ++ wsX20)
def wsX8_isWind : List Cond := .code yX8_isWind cX8_isWind 1 (some .boolean) :: ([.methodLink RX8 108 yX8_isWithin, .static yX8_isWithin, .initialized RX8, .code yX8_isWithin cX8_isWithin 3 (some .boolean)])
def wsX2_setSails : List Cond := .code yX2_setSails cX2_setSails 3 (some .int) :: ([.fieldLink RX2 11 "SailCargo$Passage" "sailMiles" "[I", .fieldLink RX2 41 "SailCargo$Passage" "daysReckoned" "I", .static yX8_isWind, .initialized RX8, .code yX8_isWind cX8_isWind 1 (some .boolean), .methodLink RX8 108 yX8_isWithin, .static yX8_isWithin, .code yX8_isWithin cX8_isWithin 3 (some .boolean)] ++ wsX20)
def wsX2_setEngine : List Cond := .code yX2_setEngine cX2_setEngine 3 (some .int) :: ([.fieldLink RX2 45 "SailCargo$Passage" "engineMiles" "I", .fieldLink RX2 41 "SailCargo$Passage" "daysReckoned" "I", .static yX8_isWithin, .initialized RX8, .code yX8_isWithin cX8_isWithin 3 (some .boolean)] ++ wsX20)
def wsX7_weightOf : List Cond := .code yX7_weightOf cX7_weightOf 4 (some .int) :: ([.fieldLink RX7 25 "SailCargo$Weather" "told" "I", .fieldLink RX7 15 "SailCargo$Weather" "knownFrom" "[I", .fieldLink RX7 11 "SailCargo$Weather" "weights" "[I"] ++ wsX70)
def wsX2_know : List Cond := .code yX2_know cX2_know 5 none :: ([.fieldLink RX2 15 "SailCargo$Passage" "weights" "[I", .fieldLink RX2 41 "SailCargo$Passage" "daysReckoned" "I", .methodLink RX2 48 yX7_weightOf, .instanceMethod yX7_weightOf, .selects RX7 yX7_weightOf yX7_weightOf, .initialized RX7, .code yX7_weightOf cX7_weightOf 4 (some .int), .fieldLink RX7 25 "SailCargo$Weather" "told" "I", .fieldLink RX7 15 "SailCargo$Weather" "knownFrom" "[I", .fieldLink RX7 11 "SailCargo$Weather" "weights" "[I"] ++ wsX20 ++ wsX70)
def wsX2_afterCalm : List Cond := .code yX2_afterCalm cX2_afterCalm 5 (some .int) :: ([.fieldLink RX2 45 "SailCargo$Passage" "engineMiles" "I", .methodLink RX2 95 Lib.Math.max.name, .static Lib.Math.max.name, .initialized "java/lang/Math", .code Lib.Math.max.name Lib.Math.max.code 2 (some .int), .methodLink RX2 25 yX2_at, .static yX2_at, .initialized RX2, .code yX2_at cX2_at 3 (some .int)] ++ wsX20)
def wsX2_fuel : List Cond := .code yX2_fuel cX2_fuel 2 (some .long) :: ([.methodLink RX2 29 yX2_parts, .static yX2_parts, .initialized RX2, .code yX2_parts cX2_parts 1 (some .long)])
def wsX2_isBetter : List Cond := .code yX2_isBetter cX2_isBetter 7 (some .boolean) :: ([.fieldLink RX2 18 "SailCargo$Passage" "chance" "[J", .fieldLink RX2 22 "SailCargo$Passage" "burnt" "[J"] ++ wsX20)
def wsX2_calmChoice_r1 : List Cond := [Cond.methodLink RX2 77 yX2_afterCalm, Cond.instanceMethod yX2_afterCalm, Cond.selects RX2 yX2_afterCalm yX2_afterCalm, Cond.initialized RX2, Cond.code yX2_afterCalm cX2_afterCalm 5 (some .int), Cond.fieldLink RX2 45 "SailCargo$Passage" "engineMiles" "I", Cond.methodLink RX2 95 Lib.Math.max.name, Cond.static Lib.Math.max.name, Cond.initialized "java/lang/Math", Cond.code Lib.Math.max.name Lib.Math.max.code 2 (some .int), Cond.methodLink RX2 25 yX2_at, Cond.static yX2_at, Cond.code yX2_at cX2_at 3 (some .int), Cond.methodLink RX2 81 yX2_fuel, Cond.static yX2_fuel, Cond.code yX2_fuel cX2_fuel 2 (some .long), Cond.methodLink RX2 29 yX2_parts, Cond.static yX2_parts, Cond.code yX2_parts cX2_parts 1 (some .long), Cond.methodLink RX2 88 yX2_isBetter, Cond.instanceMethod yX2_isBetter, Cond.selects RX2 yX2_isBetter yX2_isBetter, Cond.code yX2_isBetter cX2_isBetter 7 (some .boolean), Cond.fieldLink RX2 18 "SailCargo$Passage" "chance" "[J"]
def wsX2_calmChoice_r2 : List Cond := [Cond.fieldLink RX2 22 "SailCargo$Passage" "burnt" "[J"]
def wsX2_calmChoice : List Cond := .code yX2_calmChoice cX2_calmChoice 5 (some .int) :: ((wsX2_calmChoice_r1 ++ wsX2_calmChoice_r2) ++ wsX20)
def wsX2_afterSails : List Cond := .code yX2_afterSails cX2_afterSails 5 (some .int) :: ([.fieldLink RX2 11 "SailCargo$Passage" "sailMiles" "[I", .methodLink RX2 95 Lib.Math.max.name, .static Lib.Math.max.name, .initialized "java/lang/Math", .code Lib.Math.max.name Lib.Math.max.code 2 (some .int), .methodLink RX2 25 yX2_at, .static yX2_at, .initialized RX2, .code yX2_at cX2_at 3 (some .int)] ++ wsX20)
def wsX2_reckonPlace_r1 : List Cond := [Cond.fieldLink RX2 15 "SailCargo$Passage" "weights" "[I", Cond.fieldLink RX2 18 "SailCargo$Passage" "chance" "[J", Cond.fieldLink RX2 22 "SailCargo$Passage" "burnt" "[J", Cond.methodLink RX2 74 yX2_calmChoice, Cond.instanceMethod yX2_calmChoice, Cond.selects RX2 yX2_calmChoice yX2_calmChoice, Cond.initialized RX2, Cond.code yX2_calmChoice cX2_calmChoice 5 (some .int), Cond.methodLink RX2 77 yX2_afterCalm, Cond.instanceMethod yX2_afterCalm, Cond.selects RX2 yX2_afterCalm yX2_afterCalm, Cond.code yX2_afterCalm cX2_afterCalm 5 (some .int), Cond.fieldLink RX2 45 "SailCargo$Passage" "engineMiles" "I", Cond.methodLink RX2 95 Lib.Math.max.name, Cond.static Lib.Math.max.name, Cond.initialized "java/lang/Math", Cond.code Lib.Math.max.name Lib.Math.max.code 2 (some .int), Cond.methodLink RX2 25 yX2_at, Cond.static yX2_at, Cond.code yX2_at cX2_at 3 (some .int), Cond.methodLink RX2 81 yX2_fuel, Cond.static yX2_fuel, Cond.code yX2_fuel cX2_fuel 2 (some .long), Cond.methodLink RX2 29 yX2_parts]
def wsX2_reckonPlace_r2 : List Cond := [Cond.static yX2_parts, Cond.code yX2_parts cX2_parts 1 (some .long), Cond.methodLink RX2 88 yX2_isBetter, Cond.instanceMethod yX2_isBetter, Cond.selects RX2 yX2_isBetter yX2_isBetter, Cond.code yX2_isBetter cX2_isBetter 7 (some .boolean), Cond.methodLink RX2 85 yX2_afterSails, Cond.instanceMethod yX2_afterSails, Cond.selects RX2 yX2_afterSails yX2_afterSails, Cond.code yX2_afterSails cX2_afterSails 5 (some .int), Cond.fieldLink RX2 11 "SailCargo$Passage" "sailMiles" "[I"]
def wsX2_reckonPlace : List Cond := .code yX2_reckonPlace cX2_reckonPlace 14 none :: ((wsX2_reckonPlace_r1 ++ wsX2_reckonPlace_r2) ++ wsX20)
def wsX2_reckonDay_r1 : List Cond := [Cond.fieldLink RX2 54 "SailCargo$Passage" "milesReckoned" "I", Cond.fieldLink RX2 57 "SailCargo$Passage" "coalReckoned" "I", Cond.methodLink RX2 92 yX2_reckonPlace, Cond.instanceMethod yX2_reckonPlace, Cond.selects RX2 yX2_reckonPlace yX2_reckonPlace, Cond.initialized RX2, Cond.code yX2_reckonPlace cX2_reckonPlace 14 none, Cond.fieldLink RX2 15 "SailCargo$Passage" "weights" "[I", Cond.fieldLink RX2 18 "SailCargo$Passage" "chance" "[J", Cond.fieldLink RX2 22 "SailCargo$Passage" "burnt" "[J", Cond.methodLink RX2 74 yX2_calmChoice, Cond.instanceMethod yX2_calmChoice, Cond.selects RX2 yX2_calmChoice yX2_calmChoice, Cond.code yX2_calmChoice cX2_calmChoice 5 (some .int), Cond.methodLink RX2 77 yX2_afterCalm, Cond.instanceMethod yX2_afterCalm, Cond.selects RX2 yX2_afterCalm yX2_afterCalm, Cond.code yX2_afterCalm cX2_afterCalm 5 (some .int), Cond.fieldLink RX2 45 "SailCargo$Passage" "engineMiles" "I", Cond.methodLink RX2 95 Lib.Math.max.name, Cond.static Lib.Math.max.name, Cond.initialized "java/lang/Math", Cond.code Lib.Math.max.name Lib.Math.max.code 2 (some .int), Cond.methodLink RX2 25 yX2_at]
def wsX2_reckonDay_r2 : List Cond := [Cond.static yX2_at, Cond.code yX2_at cX2_at 3 (some .int), Cond.methodLink RX2 81 yX2_fuel, Cond.static yX2_fuel, Cond.code yX2_fuel cX2_fuel 2 (some .long), Cond.methodLink RX2 29 yX2_parts, Cond.static yX2_parts, Cond.code yX2_parts cX2_parts 1 (some .long), Cond.methodLink RX2 88 yX2_isBetter, Cond.instanceMethod yX2_isBetter, Cond.selects RX2 yX2_isBetter yX2_isBetter, Cond.code yX2_isBetter cX2_isBetter 7 (some .boolean), Cond.methodLink RX2 85 yX2_afterSails, Cond.instanceMethod yX2_afterSails, Cond.selects RX2 yX2_afterSails yX2_afterSails, Cond.code yX2_afterSails cX2_afterSails 5 (some .int), Cond.fieldLink RX2 11 "SailCargo$Passage" "sailMiles" "[I"]
def wsX2_reckonDay : List Cond := .code yX2_reckonDay cX2_reckonDay 4 none :: ((wsX2_reckonDay_r1 ++ wsX2_reckonDay_r2) ++ wsX20)
def wsX2_reckon_r1 : List Cond := [Cond.fieldLink RX2 41 "SailCargo$Passage" "daysReckoned" "I", Cond.fieldLink RX2 54 "SailCargo$Passage" "milesReckoned" "I", Cond.fieldLink RX2 57 "SailCargo$Passage" "coalReckoned" "I", Cond.methodLink RX2 60 yX2_reckonDay, Cond.instanceMethod yX2_reckonDay, Cond.selects RX2 yX2_reckonDay yX2_reckonDay, Cond.initialized RX2, Cond.code yX2_reckonDay cX2_reckonDay 4 none, Cond.methodLink RX2 92 yX2_reckonPlace, Cond.instanceMethod yX2_reckonPlace, Cond.selects RX2 yX2_reckonPlace yX2_reckonPlace, Cond.code yX2_reckonPlace cX2_reckonPlace 14 none, Cond.fieldLink RX2 15 "SailCargo$Passage" "weights" "[I", Cond.fieldLink RX2 18 "SailCargo$Passage" "chance" "[J", Cond.fieldLink RX2 22 "SailCargo$Passage" "burnt" "[J", Cond.methodLink RX2 74 yX2_calmChoice, Cond.instanceMethod yX2_calmChoice, Cond.selects RX2 yX2_calmChoice yX2_calmChoice, Cond.code yX2_calmChoice cX2_calmChoice 5 (some .int), Cond.methodLink RX2 77 yX2_afterCalm, Cond.instanceMethod yX2_afterCalm, Cond.selects RX2 yX2_afterCalm yX2_afterCalm, Cond.code yX2_afterCalm cX2_afterCalm 5 (some .int), Cond.fieldLink RX2 45 "SailCargo$Passage" "engineMiles" "I"]
def wsX2_reckon_r2 : List Cond := [Cond.methodLink RX2 95 Lib.Math.max.name, Cond.static Lib.Math.max.name, Cond.initialized "java/lang/Math", Cond.code Lib.Math.max.name Lib.Math.max.code 2 (some .int), Cond.methodLink RX2 25 yX2_at, Cond.static yX2_at, Cond.code yX2_at cX2_at 3 (some .int), Cond.methodLink RX2 81 yX2_fuel, Cond.static yX2_fuel, Cond.code yX2_fuel cX2_fuel 2 (some .long), Cond.methodLink RX2 29 yX2_parts, Cond.static yX2_parts, Cond.code yX2_parts cX2_parts 1 (some .long), Cond.methodLink RX2 88 yX2_isBetter, Cond.instanceMethod yX2_isBetter, Cond.selects RX2 yX2_isBetter yX2_isBetter, Cond.code yX2_isBetter cX2_isBetter 7 (some .boolean), Cond.methodLink RX2 85 yX2_afterSails, Cond.instanceMethod yX2_afterSails, Cond.selects RX2 yX2_afterSails yX2_afterSails, Cond.code yX2_afterSails cX2_afterSails 5 (some .int), Cond.fieldLink RX2 11 "SailCargo$Passage" "sailMiles" "[I"]
def wsX2_reckon : List Cond := .code yX2_reckon cX2_reckon 4 none :: ((wsX2_reckon_r1 ++ wsX2_reckon_r2) ++ wsX20)
def wsX2_chanceOf : List Cond := .code yX2_chanceOf cX2_chanceOf 4 (some .long) :: ([.fieldLink RX2 18 "SailCargo$Passage" "chance" "[J", .methodLink RX2 25 yX2_at, .static yX2_at, .initialized RX2, .code yX2_at cX2_at 3 (some .int)] ++ wsX20)
def wsX2_burntOf : List Cond := .code yX2_burntOf cX2_burntOf 4 (some .long) :: ([.fieldLink RX2 22 "SailCargo$Passage" "burnt" "[J", .methodLink RX2 25 yX2_at, .static yX2_at, .initialized RX2, .code yX2_at cX2_at 3 (some .int)] ++ wsX20)
def wsX2_fewestDays_r1 : List Cond := [Cond.constantLong RX2 72 (16), Cond.methodLink RX2 64 yX2_reckon, Cond.instanceMethod yX2_reckon, Cond.selects RX2 yX2_reckon yX2_reckon, Cond.initialized RX2, Cond.code yX2_reckon cX2_reckon 4 none, Cond.fieldLink RX2 41 "SailCargo$Passage" "daysReckoned" "I", Cond.fieldLink RX2 54 "SailCargo$Passage" "milesReckoned" "I", Cond.fieldLink RX2 57 "SailCargo$Passage" "coalReckoned" "I", Cond.methodLink RX2 60 yX2_reckonDay, Cond.instanceMethod yX2_reckonDay, Cond.selects RX2 yX2_reckonDay yX2_reckonDay, Cond.code yX2_reckonDay cX2_reckonDay 4 none, Cond.methodLink RX2 92 yX2_reckonPlace, Cond.instanceMethod yX2_reckonPlace, Cond.selects RX2 yX2_reckonPlace yX2_reckonPlace, Cond.code yX2_reckonPlace cX2_reckonPlace 14 none, Cond.fieldLink RX2 15 "SailCargo$Passage" "weights" "[I", Cond.fieldLink RX2 18 "SailCargo$Passage" "chance" "[J", Cond.fieldLink RX2 22 "SailCargo$Passage" "burnt" "[J", Cond.methodLink RX2 74 yX2_calmChoice, Cond.instanceMethod yX2_calmChoice, Cond.selects RX2 yX2_calmChoice yX2_calmChoice, Cond.code yX2_calmChoice cX2_calmChoice 5 (some .int)]
def wsX2_fewestDays_r2 : List Cond := [Cond.methodLink RX2 77 yX2_afterCalm, Cond.instanceMethod yX2_afterCalm, Cond.selects RX2 yX2_afterCalm yX2_afterCalm, Cond.code yX2_afterCalm cX2_afterCalm 5 (some .int), Cond.fieldLink RX2 45 "SailCargo$Passage" "engineMiles" "I", Cond.methodLink RX2 95 Lib.Math.max.name, Cond.static Lib.Math.max.name, Cond.initialized "java/lang/Math", Cond.code Lib.Math.max.name Lib.Math.max.code 2 (some .int), Cond.methodLink RX2 25 yX2_at, Cond.static yX2_at, Cond.code yX2_at cX2_at 3 (some .int), Cond.methodLink RX2 81 yX2_fuel, Cond.static yX2_fuel, Cond.code yX2_fuel cX2_fuel 2 (some .long), Cond.methodLink RX2 29 yX2_parts, Cond.static yX2_parts, Cond.code yX2_parts cX2_parts 1 (some .long), Cond.methodLink RX2 88 yX2_isBetter, Cond.instanceMethod yX2_isBetter, Cond.selects RX2 yX2_isBetter yX2_isBetter, Cond.code yX2_isBetter cX2_isBetter 7 (some .boolean), Cond.methodLink RX2 85 yX2_afterSails, Cond.instanceMethod yX2_afterSails]
def wsX2_fewestDays_r3 : List Cond := [Cond.selects RX2 yX2_afterSails yX2_afterSails, Cond.code yX2_afterSails cX2_afterSails 5 (some .int), Cond.fieldLink RX2 11 "SailCargo$Passage" "sailMiles" "[I", Cond.methodLink RX2 68 yX2_chanceOf, Cond.instanceMethod yX2_chanceOf, Cond.selects RX2 yX2_chanceOf yX2_chanceOf, Cond.code yX2_chanceOf cX2_chanceOf 4 (some .long)]
def wsX2_fewestDays : List Cond := .code yX2_fewestDays cX2_fewestDays 5 (some .int) :: ((wsX2_fewestDays_r1 ++ (wsX2_fewestDays_r2 ++ wsX2_fewestDays_r3)) ++ wsX20)
def wsX2_bestChoice_r1 : List Cond := [Cond.methodLink RX2 74 yX2_calmChoice, Cond.instanceMethod yX2_calmChoice, Cond.selects RX2 yX2_calmChoice yX2_calmChoice, Cond.initialized RX2, Cond.code yX2_calmChoice cX2_calmChoice 5 (some .int), Cond.methodLink RX2 77 yX2_afterCalm, Cond.instanceMethod yX2_afterCalm, Cond.selects RX2 yX2_afterCalm yX2_afterCalm, Cond.code yX2_afterCalm cX2_afterCalm 5 (some .int), Cond.fieldLink RX2 45 "SailCargo$Passage" "engineMiles" "I", Cond.methodLink RX2 95 Lib.Math.max.name, Cond.static Lib.Math.max.name, Cond.initialized "java/lang/Math", Cond.code Lib.Math.max.name Lib.Math.max.code 2 (some .int), Cond.methodLink RX2 25 yX2_at, Cond.static yX2_at, Cond.code yX2_at cX2_at 3 (some .int), Cond.methodLink RX2 81 yX2_fuel, Cond.static yX2_fuel, Cond.code yX2_fuel cX2_fuel 2 (some .long), Cond.methodLink RX2 29 yX2_parts, Cond.static yX2_parts, Cond.code yX2_parts cX2_parts 1 (some .long), Cond.methodLink RX2 88 yX2_isBetter]
def wsX2_bestChoice_r2 : List Cond := [Cond.instanceMethod yX2_isBetter, Cond.selects RX2 yX2_isBetter yX2_isBetter, Cond.code yX2_isBetter cX2_isBetter 7 (some .boolean), Cond.fieldLink RX2 18 "SailCargo$Passage" "chance" "[J", Cond.fieldLink RX2 22 "SailCargo$Passage" "burnt" "[J", Cond.methodLink RX2 85 yX2_afterSails, Cond.instanceMethod yX2_afterSails, Cond.selects RX2 yX2_afterSails yX2_afterSails, Cond.code yX2_afterSails cX2_afterSails 5 (some .int), Cond.fieldLink RX2 11 "SailCargo$Passage" "sailMiles" "[I"]
def wsX2_bestChoice : List Cond := .code yX2_bestChoice cX2_bestChoice 7 (some .int) :: ((wsX2_bestChoice_r1 ++ wsX2_bestChoice_r2) ++ wsX20)
def wsX3_init : List Cond := .code yX3_init cX3_init 2 none :: ([.methodLink RX3 3 objectInit, .instanceMethod objectInit, .code objectInit ⟨#[0xb1]⟩ 1 none, .fieldLink RX3 9 "SailCargo$Reader" "tape" "LSailCargo$Tape;"] ++ wsX30)
def wsX3_isAtEnd : List Cond := .code yX3_isAtEnd cX3_isAtEnd 1 (some .boolean) :: ([.fieldLink RX3 35 "SailCargo$Reader" "tokenStart" "I", .fieldLink RX3 9 "SailCargo$Reader" "tape" "LSailCargo$Tape;"] ++ wsX30 ++ wsX40)
def wsX3_sortOf : List Cond := .code yX3_sortOf cX3_sortOf 1 (some .int) :: ([.static yX8_isWithin, .initialized RX8, .code yX8_isWithin cX8_isWithin 3 (some .boolean)])
def wsX3_advance : List Cond := .code yX3_advance cX3_advance 2 none :: ([.fieldLink RX3 21 "SailCargo$Reader" "tokenEnd" "I", .fieldLink RX3 35 "SailCargo$Reader" "tokenStart" "I", .fieldLink RX3 9 "SailCargo$Reader" "tape" "LSailCargo$Tape;", .methodLink RX3 27 yX3_isAtEnd, .instanceMethod yX3_isAtEnd, .selects RX3 yX3_isAtEnd yX3_isAtEnd, .initialized RX3, .code yX3_isAtEnd cX3_isAtEnd 1 (some .boolean), .methodLink RX3 78 yX3_sortOf, .static yX3_sortOf, .code yX3_sortOf cX3_sortOf 1 (some .int), .static yX8_isWithin, .initialized RX8, .code yX8_isWithin cX8_isWithin 3 (some .boolean)] ++ wsX30 ++ wsX40)
def wsX5_firstWord : List Cond := .code yX5_firstWord cX5_firstWord 1 (some (.object "java/lang/String")) :: ([])
def wsJ0_coder_7d493 : List Cond := .code yJ0_coder_7d493 cJ0_coder_7d493 1 (some .byte) :: ([.fieldLink RJ0 38 "java/lang/String" "COMPACT_STRINGS" "Z", .fieldLink RJ0 15 "java/lang/String" "coder" "B"])
def wsJ0_length_8abf5 : List Cond := .code yJ0_length_8abf5 cJ0_length_8abf5 1 (some .int) :: ([.fieldLink RJ0 9 "java/lang/String" "value" "[B", .methodLink RJ0 335 yJ0_coder_7d493, .instanceMethod yJ0_coder_7d493, .selects RJ0 yJ0_coder_7d493 yJ0_coder_7d493, .initialized RJ0, .code yJ0_coder_7d493 cJ0_coder_7d493 1 (some .byte), .fieldLink RJ0 38 "java/lang/String" "COMPACT_STRINGS" "Z", .fieldLink RJ0 15 "java/lang/String" "coder" "B"])
def wsJ0_isLatin1_aae02 : List Cond := .code yJ0_isLatin1_aae02 cJ0_isLatin1_aae02 1 (some .boolean) :: ([.fieldLink RJ0 38 "java/lang/String" "COMPACT_STRINGS" "Z", .fieldLink RJ0 15 "java/lang/String" "coder" "B"])
def wsJ3_checkIndex_8e157 : List Cond := .code yJ3_checkIndex_8e157 cJ3_checkIndex_8e157 3 (some .int) :: ([])
def wsJ0_checkIndex_df160 : List Cond := .code yJ0_checkIndex_df160 cJ0_checkIndex_df160 2 none :: ([.fieldLink RJ0 1053 "jdk/internal/util/Preconditions" "SIOOBE_FORMATTER" "Ljava/util/function/BiFunction;", .methodLink RJ0 1059 yJ3_checkIndex_8e157, .static yJ3_checkIndex_8e157, .initialized RJ3, .code yJ3_checkIndex_8e157 cJ3_checkIndex_8e157 3 (some .int)])
def wsJ1_charAt_3b067 : List Cond := .code yJ1_charAt_3b067 cJ1_charAt_3b067 2 (some .char) :: ([.methodLink RJ1 9 yJ0_checkIndex_df160, .static yJ0_checkIndex_df160, .initialized RJ0, .code yJ0_checkIndex_df160 cJ0_checkIndex_df160 2 none, .fieldLink RJ0 1053 "jdk/internal/util/Preconditions" "SIOOBE_FORMATTER" "Ljava/util/function/BiFunction;", .methodLink RJ0 1059 yJ3_checkIndex_8e157, .static yJ3_checkIndex_8e157, .initialized RJ3, .code yJ3_checkIndex_8e157 cJ3_checkIndex_8e157 3 (some .int)])
def wsJ2_length_9d52b : List Cond := .code yJ2_length_9d52b cJ2_length_9d52b 1 (some .int) :: ([])
def wsJ2_checkIndex_2214a : List Cond := .code yJ2_checkIndex_2214a cJ2_checkIndex_2214a 2 none :: ([.methodLink RJ2 48 yJ2_length_9d52b, .static yJ2_length_9d52b, .initialized RJ2, .code yJ2_length_9d52b cJ2_length_9d52b 1 (some .int), .methodLink RJ2 414 yJ0_checkIndex_df160, .static yJ0_checkIndex_df160, .initialized RJ0, .code yJ0_checkIndex_df160 cJ0_checkIndex_df160 2 none, .fieldLink RJ0 1053 "jdk/internal/util/Preconditions" "SIOOBE_FORMATTER" "Ljava/util/function/BiFunction;", .methodLink RJ0 1059 yJ3_checkIndex_8e157, .static yJ3_checkIndex_8e157, .initialized RJ3, .code yJ3_checkIndex_8e157 cJ3_checkIndex_8e157 3 (some .int)])
def wsJ2_getChar_3b067 : List Cond := .code yJ2_getChar_3b067 cJ2_getChar_3b067 2 (some .char) :: ([.fieldLink RJ2 44 "java/lang/StringUTF16" "$assertionsDisabled" "Z", .fieldLink RJ2 59 "java/lang/StringUTF16" "HI_BYTE_SHIFT" "I", .fieldLink RJ2 63 "java/lang/StringUTF16" "LO_BYTE_SHIFT" "I", .methodLink RJ2 48 yJ2_length_9d52b, .static yJ2_length_9d52b, .initialized RJ2, .code yJ2_length_9d52b cJ2_length_9d52b 1 (some .int)])
def wsJ2_charAt_3b067 : List Cond := .code yJ2_charAt_3b067 cJ2_charAt_3b067 2 (some .char) :: ([.methodLink RJ2 67 yJ2_checkIndex_2214a, .static yJ2_checkIndex_2214a, .initialized RJ2, .code yJ2_checkIndex_2214a cJ2_checkIndex_2214a 2 none, .methodLink RJ2 48 yJ2_length_9d52b, .static yJ2_length_9d52b, .code yJ2_length_9d52b cJ2_length_9d52b 1 (some .int), .methodLink RJ2 414 yJ0_checkIndex_df160, .static yJ0_checkIndex_df160, .initialized RJ0, .code yJ0_checkIndex_df160 cJ0_checkIndex_df160 2 none, .fieldLink RJ0 1053 "jdk/internal/util/Preconditions" "SIOOBE_FORMATTER" "Ljava/util/function/BiFunction;", .methodLink RJ0 1059 yJ3_checkIndex_8e157, .static yJ3_checkIndex_8e157, .initialized RJ3, .code yJ3_checkIndex_8e157 cJ3_checkIndex_8e157 3 (some .int), .methodLink RJ2 71 yJ2_getChar_3b067, .static yJ2_getChar_3b067, .code yJ2_getChar_3b067 cJ2_getChar_3b067 2 (some .char), .fieldLink RJ2 44 "java/lang/StringUTF16" "$assertionsDisabled" "Z", .fieldLink RJ2 59 "java/lang/StringUTF16" "HI_BYTE_SHIFT" "I", .fieldLink RJ2 63 "java/lang/StringUTF16" "LO_BYTE_SHIFT" "I"])
def wsJ0_charAt_5068e_r1 : List Cond := [Cond.fieldLink RJ0 9 "java/lang/String" "value" "[B", Cond.methodLink RJ0 492 yJ0_isLatin1_aae02, Cond.instanceMethod yJ0_isLatin1_aae02, Cond.selects RJ0 yJ0_isLatin1_aae02 yJ0_isLatin1_aae02, Cond.initialized RJ0, Cond.code yJ0_isLatin1_aae02 cJ0_isLatin1_aae02 1 (some .boolean), Cond.fieldLink RJ0 38 "java/lang/String" "COMPACT_STRINGS" "Z", Cond.fieldLink RJ0 15 "java/lang/String" "coder" "B", Cond.methodLink RJ0 495 yJ1_charAt_3b067, Cond.static yJ1_charAt_3b067, Cond.initialized RJ1, Cond.code yJ1_charAt_3b067 cJ1_charAt_3b067 2 (some .char), Cond.methodLink RJ1 9 yJ0_checkIndex_df160, Cond.static yJ0_checkIndex_df160, Cond.code yJ0_checkIndex_df160 cJ0_checkIndex_df160 2 none, Cond.fieldLink RJ0 1053 "jdk/internal/util/Preconditions" "SIOOBE_FORMATTER" "Ljava/util/function/BiFunction;", Cond.methodLink RJ0 1059 yJ3_checkIndex_8e157, Cond.static yJ3_checkIndex_8e157, Cond.initialized RJ3, Cond.code yJ3_checkIndex_8e157 cJ3_checkIndex_8e157 3 (some .int), Cond.methodLink RJ0 498 yJ2_charAt_3b067, Cond.static yJ2_charAt_3b067, Cond.initialized RJ2, Cond.code yJ2_charAt_3b067 cJ2_charAt_3b067 2 (some .char)]
def wsJ0_charAt_5068e_r2 : List Cond := [Cond.methodLink RJ2 67 yJ2_checkIndex_2214a, Cond.static yJ2_checkIndex_2214a, Cond.code yJ2_checkIndex_2214a cJ2_checkIndex_2214a 2 none, Cond.methodLink RJ2 48 yJ2_length_9d52b, Cond.static yJ2_length_9d52b, Cond.code yJ2_length_9d52b cJ2_length_9d52b 1 (some .int), Cond.methodLink RJ2 414 yJ0_checkIndex_df160, Cond.methodLink RJ2 71 yJ2_getChar_3b067, Cond.static yJ2_getChar_3b067, Cond.code yJ2_getChar_3b067 cJ2_getChar_3b067 2 (some .char), Cond.fieldLink RJ2 44 "java/lang/StringUTF16" "$assertionsDisabled" "Z", Cond.fieldLink RJ2 59 "java/lang/StringUTF16" "HI_BYTE_SHIFT" "I", Cond.fieldLink RJ2 63 "java/lang/StringUTF16" "LO_BYTE_SHIFT" "I"]
def wsJ0_charAt_5068e : List Cond := .code yJ0_charAt_5068e cJ0_charAt_5068e 2 (some .char) :: ((wsJ0_charAt_5068e_r1 ++ wsJ0_charAt_5068e_r2))
def wsX3_isHere_r1 : List Cond := [Cond.fieldLink RX3 21 "SailCargo$Reader" "tokenEnd" "I", Cond.fieldLink RX3 35 "SailCargo$Reader" "tokenStart" "I", Cond.fieldLink RX3 9 "SailCargo$Reader" "tape" "LSailCargo$Tape;", Cond.methodLink RX3 82 yJ0_length_8abf5, Cond.instanceMethod yJ0_length_8abf5, Cond.selects RJ0 yJ0_length_8abf5 yJ0_length_8abf5, Cond.initialized RJ0, Cond.code yJ0_length_8abf5 cJ0_length_8abf5 1 (some .int), Cond.fieldLink RJ0 9 "java/lang/String" "value" "[B", Cond.methodLink RJ0 335 yJ0_coder_7d493, Cond.instanceMethod yJ0_coder_7d493, Cond.selects RJ0 yJ0_coder_7d493 yJ0_coder_7d493, Cond.code yJ0_coder_7d493 cJ0_coder_7d493 1 (some .byte), Cond.fieldLink RJ0 38 "java/lang/String" "COMPACT_STRINGS" "Z", Cond.fieldLink RJ0 15 "java/lang/String" "coder" "B", Cond.methodLink RX3 85 yJ0_charAt_5068e, Cond.instanceMethod yJ0_charAt_5068e, Cond.selects RJ0 yJ0_charAt_5068e yJ0_charAt_5068e, Cond.code yJ0_charAt_5068e cJ0_charAt_5068e 2 (some .char), Cond.methodLink RJ0 492 yJ0_isLatin1_aae02, Cond.instanceMethod yJ0_isLatin1_aae02, Cond.selects RJ0 yJ0_isLatin1_aae02 yJ0_isLatin1_aae02, Cond.code yJ0_isLatin1_aae02 cJ0_isLatin1_aae02 1 (some .boolean), Cond.methodLink RJ0 495 yJ1_charAt_3b067]
def wsX3_isHere_r2 : List Cond := [Cond.static yJ1_charAt_3b067, Cond.initialized RJ1, Cond.code yJ1_charAt_3b067 cJ1_charAt_3b067 2 (some .char), Cond.methodLink RJ1 9 yJ0_checkIndex_df160, Cond.static yJ0_checkIndex_df160, Cond.code yJ0_checkIndex_df160 cJ0_checkIndex_df160 2 none, Cond.fieldLink RJ0 1053 "jdk/internal/util/Preconditions" "SIOOBE_FORMATTER" "Ljava/util/function/BiFunction;", Cond.methodLink RJ0 1059 yJ3_checkIndex_8e157, Cond.static yJ3_checkIndex_8e157, Cond.initialized RJ3, Cond.code yJ3_checkIndex_8e157 cJ3_checkIndex_8e157 3 (some .int), Cond.methodLink RJ0 498 yJ2_charAt_3b067, Cond.static yJ2_charAt_3b067, Cond.initialized RJ2, Cond.code yJ2_charAt_3b067 cJ2_charAt_3b067 2 (some .char), Cond.methodLink RJ2 67 yJ2_checkIndex_2214a, Cond.static yJ2_checkIndex_2214a, Cond.code yJ2_checkIndex_2214a cJ2_checkIndex_2214a 2 none, Cond.methodLink RJ2 48 yJ2_length_9d52b, Cond.static yJ2_length_9d52b, Cond.code yJ2_length_9d52b cJ2_length_9d52b 1 (some .int), Cond.methodLink RJ2 414 yJ0_checkIndex_df160, Cond.methodLink RJ2 71 yJ2_getChar_3b067, Cond.static yJ2_getChar_3b067]
def wsX3_isHere_r3 : List Cond := [Cond.code yJ2_getChar_3b067 cJ2_getChar_3b067 2 (some .char), Cond.fieldLink RJ2 44 "java/lang/StringUTF16" "$assertionsDisabled" "Z", Cond.fieldLink RJ2 59 "java/lang/StringUTF16" "HI_BYTE_SHIFT" "I", Cond.fieldLink RJ2 63 "java/lang/StringUTF16" "LO_BYTE_SHIFT" "I"]
def wsX3_isHere : List Cond := .code yX3_isHere cX3_isHere 3 (some .boolean) :: ((wsX3_isHere_r1 ++ (wsX3_isHere_r2 ++ wsX3_isHere_r3)) ++ wsX30 ++ wsX40)
def wsX3_kindHere_r1 : List Cond := [Cond.methodLink RX3 66 yX5_firstWord, Cond.static yX5_firstWord, Cond.initialized RX5, Cond.code yX5_firstWord cX5_firstWord 1 (some (.object "java/lang/String")), Cond.methodLink RX3 69 yX3_isHere, Cond.instanceMethod yX3_isHere, Cond.selects RX3 yX3_isHere yX3_isHere, Cond.initialized RX3, Cond.code yX3_isHere cX3_isHere 3 (some .boolean), Cond.fieldLink RX3 21 "SailCargo$Reader" "tokenEnd" "I", Cond.fieldLink RX3 35 "SailCargo$Reader" "tokenStart" "I", Cond.fieldLink RX3 9 "SailCargo$Reader" "tape" "LSailCargo$Tape;", Cond.methodLink RX3 82 yJ0_length_8abf5, Cond.instanceMethod yJ0_length_8abf5, Cond.selects RJ0 yJ0_length_8abf5 yJ0_length_8abf5, Cond.initialized RJ0, Cond.code yJ0_length_8abf5 cJ0_length_8abf5 1 (some .int), Cond.fieldLink RJ0 9 "java/lang/String" "value" "[B", Cond.methodLink RJ0 335 yJ0_coder_7d493, Cond.instanceMethod yJ0_coder_7d493, Cond.selects RJ0 yJ0_coder_7d493 yJ0_coder_7d493, Cond.code yJ0_coder_7d493 cJ0_coder_7d493 1 (some .byte), Cond.fieldLink RJ0 38 "java/lang/String" "COMPACT_STRINGS" "Z", Cond.fieldLink RJ0 15 "java/lang/String" "coder" "B"]
def wsX3_kindHere_r2 : List Cond := [Cond.methodLink RX3 85 yJ0_charAt_5068e, Cond.instanceMethod yJ0_charAt_5068e, Cond.selects RJ0 yJ0_charAt_5068e yJ0_charAt_5068e, Cond.code yJ0_charAt_5068e cJ0_charAt_5068e 2 (some .char), Cond.methodLink RJ0 492 yJ0_isLatin1_aae02, Cond.instanceMethod yJ0_isLatin1_aae02, Cond.selects RJ0 yJ0_isLatin1_aae02 yJ0_isLatin1_aae02, Cond.code yJ0_isLatin1_aae02 cJ0_isLatin1_aae02 1 (some .boolean), Cond.methodLink RJ0 495 yJ1_charAt_3b067, Cond.static yJ1_charAt_3b067, Cond.initialized RJ1, Cond.code yJ1_charAt_3b067 cJ1_charAt_3b067 2 (some .char), Cond.methodLink RJ1 9 yJ0_checkIndex_df160, Cond.static yJ0_checkIndex_df160, Cond.code yJ0_checkIndex_df160 cJ0_checkIndex_df160 2 none, Cond.fieldLink RJ0 1053 "jdk/internal/util/Preconditions" "SIOOBE_FORMATTER" "Ljava/util/function/BiFunction;", Cond.methodLink RJ0 1059 yJ3_checkIndex_8e157, Cond.static yJ3_checkIndex_8e157, Cond.initialized RJ3, Cond.code yJ3_checkIndex_8e157 cJ3_checkIndex_8e157 3 (some .int), Cond.methodLink RJ0 498 yJ2_charAt_3b067, Cond.static yJ2_charAt_3b067, Cond.initialized RJ2, Cond.code yJ2_charAt_3b067 cJ2_charAt_3b067 2 (some .char)]
def wsX3_kindHere_r3 : List Cond := [Cond.methodLink RJ2 67 yJ2_checkIndex_2214a, Cond.static yJ2_checkIndex_2214a, Cond.code yJ2_checkIndex_2214a cJ2_checkIndex_2214a 2 none, Cond.methodLink RJ2 48 yJ2_length_9d52b, Cond.static yJ2_length_9d52b, Cond.code yJ2_length_9d52b cJ2_length_9d52b 1 (some .int), Cond.methodLink RJ2 414 yJ0_checkIndex_df160, Cond.methodLink RJ2 71 yJ2_getChar_3b067, Cond.static yJ2_getChar_3b067, Cond.code yJ2_getChar_3b067 cJ2_getChar_3b067 2 (some .char), Cond.fieldLink RJ2 44 "java/lang/StringUTF16" "$assertionsDisabled" "Z", Cond.fieldLink RJ2 59 "java/lang/StringUTF16" "HI_BYTE_SHIFT" "I", Cond.fieldLink RJ2 63 "java/lang/StringUTF16" "LO_BYTE_SHIFT" "I"]
def wsX3_kindHere : List Cond := .code yX3_kindHere cX3_kindHere 2 (some .int) :: ((wsX3_kindHere_r1 ++ (wsX3_kindHere_r2 ++ wsX3_kindHere_r3)) ++ wsX30 ++ wsX40)
def wsX3_passes_r1 : List Cond := [Cond.methodLink RX3 69 yX3_isHere, Cond.instanceMethod yX3_isHere, Cond.selects RX3 yX3_isHere yX3_isHere, Cond.initialized RX3, Cond.code yX3_isHere cX3_isHere 3 (some .boolean), Cond.fieldLink RX3 21 "SailCargo$Reader" "tokenEnd" "I", Cond.fieldLink RX3 35 "SailCargo$Reader" "tokenStart" "I", Cond.fieldLink RX3 9 "SailCargo$Reader" "tape" "LSailCargo$Tape;", Cond.methodLink RX3 82 yJ0_length_8abf5, Cond.instanceMethod yJ0_length_8abf5, Cond.selects RJ0 yJ0_length_8abf5 yJ0_length_8abf5, Cond.initialized RJ0, Cond.code yJ0_length_8abf5 cJ0_length_8abf5 1 (some .int), Cond.fieldLink RJ0 9 "java/lang/String" "value" "[B", Cond.methodLink RJ0 335 yJ0_coder_7d493, Cond.instanceMethod yJ0_coder_7d493, Cond.selects RJ0 yJ0_coder_7d493 yJ0_coder_7d493, Cond.code yJ0_coder_7d493 cJ0_coder_7d493 1 (some .byte), Cond.fieldLink RJ0 38 "java/lang/String" "COMPACT_STRINGS" "Z", Cond.fieldLink RJ0 15 "java/lang/String" "coder" "B", Cond.methodLink RX3 85 yJ0_charAt_5068e, Cond.instanceMethod yJ0_charAt_5068e, Cond.selects RJ0 yJ0_charAt_5068e yJ0_charAt_5068e, Cond.code yJ0_charAt_5068e cJ0_charAt_5068e 2 (some .char)]
def wsX3_passes_r2 : List Cond := [Cond.methodLink RJ0 492 yJ0_isLatin1_aae02, Cond.instanceMethod yJ0_isLatin1_aae02, Cond.selects RJ0 yJ0_isLatin1_aae02 yJ0_isLatin1_aae02, Cond.code yJ0_isLatin1_aae02 cJ0_isLatin1_aae02 1 (some .boolean), Cond.methodLink RJ0 495 yJ1_charAt_3b067, Cond.static yJ1_charAt_3b067, Cond.initialized RJ1, Cond.code yJ1_charAt_3b067 cJ1_charAt_3b067 2 (some .char), Cond.methodLink RJ1 9 yJ0_checkIndex_df160, Cond.static yJ0_checkIndex_df160, Cond.code yJ0_checkIndex_df160 cJ0_checkIndex_df160 2 none, Cond.fieldLink RJ0 1053 "jdk/internal/util/Preconditions" "SIOOBE_FORMATTER" "Ljava/util/function/BiFunction;", Cond.methodLink RJ0 1059 yJ3_checkIndex_8e157, Cond.static yJ3_checkIndex_8e157, Cond.initialized RJ3, Cond.code yJ3_checkIndex_8e157 cJ3_checkIndex_8e157 3 (some .int), Cond.methodLink RJ0 498 yJ2_charAt_3b067, Cond.static yJ2_charAt_3b067, Cond.initialized RJ2, Cond.code yJ2_charAt_3b067 cJ2_charAt_3b067 2 (some .char), Cond.methodLink RJ2 67 yJ2_checkIndex_2214a, Cond.static yJ2_checkIndex_2214a, Cond.code yJ2_checkIndex_2214a cJ2_checkIndex_2214a 2 none, Cond.methodLink RJ2 48 yJ2_length_9d52b]
def wsX3_passes_r3 : List Cond := [Cond.static yJ2_length_9d52b, Cond.code yJ2_length_9d52b cJ2_length_9d52b 1 (some .int), Cond.methodLink RJ2 414 yJ0_checkIndex_df160, Cond.methodLink RJ2 71 yJ2_getChar_3b067, Cond.static yJ2_getChar_3b067, Cond.code yJ2_getChar_3b067 cJ2_getChar_3b067 2 (some .char), Cond.fieldLink RJ2 44 "java/lang/StringUTF16" "$assertionsDisabled" "Z", Cond.fieldLink RJ2 59 "java/lang/StringUTF16" "HI_BYTE_SHIFT" "I", Cond.fieldLink RJ2 63 "java/lang/StringUTF16" "LO_BYTE_SHIFT" "I", Cond.methodLink RX3 24 yX3_advance, Cond.instanceMethod yX3_advance, Cond.selects RX3 yX3_advance yX3_advance, Cond.code yX3_advance cX3_advance 2 none, Cond.methodLink RX3 27 yX3_isAtEnd, Cond.instanceMethod yX3_isAtEnd, Cond.selects RX3 yX3_isAtEnd yX3_isAtEnd, Cond.code yX3_isAtEnd cX3_isAtEnd 1 (some .boolean), Cond.methodLink RX3 78 yX3_sortOf, Cond.static yX3_sortOf, Cond.code yX3_sortOf cX3_sortOf 1 (some .int), Cond.static yX8_isWithin, Cond.initialized RX8, Cond.code yX8_isWithin cX8_isWithin 3 (some .boolean)]
def wsX3_passes : List Cond := .code yX3_passes cX3_passes 2 (some .boolean) :: ((wsX3_passes_r1 ++ (wsX3_passes_r2 ++ wsX3_passes_r3)) ++ wsX30 ++ wsX40)
def wsX3_numberHere : List Cond := .code yX3_numberHere cX3_numberHere 3 (some .int) :: ([.fieldLink RX3 9 "SailCargo$Reader" "tape" "LSailCargo$Tape;", .fieldLink RX3 35 "SailCargo$Reader" "tokenStart" "I", .fieldLink RX3 21 "SailCargo$Reader" "tokenEnd" "I", .methodLink RX3 27 yX3_isAtEnd, .instanceMethod yX3_isAtEnd, .selects RX3 yX3_isAtEnd yX3_isAtEnd, .initialized RX3, .code yX3_isAtEnd cX3_isAtEnd 1 (some .boolean), .methodLink RX3 78 yX3_sortOf, .static yX3_sortOf, .code yX3_sortOf cX3_sortOf 1 (some .int), .static yX8_isWithin, .initialized RX8, .code yX8_isWithin cX8_isWithin 3 (some .boolean)] ++ wsX30 ++ wsX40)
def wsX5_wordBetween : List Cond := .code yX5_wordBetween cX5_wordBetween 1 (some (.object "java/lang/String")) :: ([])
def wsJ0_isEmpty_aae02 : List Cond := .code yJ0_isEmpty_aae02 cJ0_isEmpty_aae02 1 (some .boolean) :: ([.fieldLink RJ0 9 "java/lang/String" "value" "[B"])
def wsX5_add : List Cond := .code yX5_add cX5_add 4 none :: ([.fieldLink RX5 19 "SailCargo$Terms" "clauses" "I", .fieldLink RX5 9 "SailCargo$Terms" "kind" "[I", .fieldLink RX5 13 "SailCargo$Terms" "amount" "[I", .fieldLink RX5 16 "SailCargo$Terms" "mark" "[I"] ++ wsX50)
def wsX3_readClause_r1 : List Cond := [Cond.methodLink RX3 44 yX3_kindHere, Cond.instanceMethod yX3_kindHere, Cond.selects RX3 yX3_kindHere yX3_kindHere, Cond.initialized RX3, Cond.code yX3_kindHere cX3_kindHere 2 (some .int), Cond.methodLink RX3 66 yX5_firstWord, Cond.static yX5_firstWord, Cond.initialized RX5, Cond.code yX5_firstWord cX5_firstWord 1 (some (.object "java/lang/String")), Cond.methodLink RX3 69 yX3_isHere, Cond.instanceMethod yX3_isHere, Cond.selects RX3 yX3_isHere yX3_isHere, Cond.code yX3_isHere cX3_isHere 3 (some .boolean), Cond.fieldLink RX3 21 "SailCargo$Reader" "tokenEnd" "I", Cond.fieldLink RX3 35 "SailCargo$Reader" "tokenStart" "I", Cond.fieldLink RX3 9 "SailCargo$Reader" "tape" "LSailCargo$Tape;", Cond.methodLink RX3 82 yJ0_length_8abf5, Cond.instanceMethod yJ0_length_8abf5, Cond.selects RJ0 yJ0_length_8abf5 yJ0_length_8abf5, Cond.initialized RJ0, Cond.code yJ0_length_8abf5 cJ0_length_8abf5 1 (some .int), Cond.fieldLink RJ0 9 "java/lang/String" "value" "[B", Cond.methodLink RJ0 335 yJ0_coder_7d493, Cond.instanceMethod yJ0_coder_7d493]
def wsX3_readClause_r2 : List Cond := [Cond.selects RJ0 yJ0_coder_7d493 yJ0_coder_7d493, Cond.code yJ0_coder_7d493 cJ0_coder_7d493 1 (some .byte), Cond.fieldLink RJ0 38 "java/lang/String" "COMPACT_STRINGS" "Z", Cond.fieldLink RJ0 15 "java/lang/String" "coder" "B", Cond.methodLink RX3 85 yJ0_charAt_5068e, Cond.instanceMethod yJ0_charAt_5068e, Cond.selects RJ0 yJ0_charAt_5068e yJ0_charAt_5068e, Cond.code yJ0_charAt_5068e cJ0_charAt_5068e 2 (some .char), Cond.methodLink RJ0 492 yJ0_isLatin1_aae02, Cond.instanceMethod yJ0_isLatin1_aae02, Cond.selects RJ0 yJ0_isLatin1_aae02 yJ0_isLatin1_aae02, Cond.code yJ0_isLatin1_aae02 cJ0_isLatin1_aae02 1 (some .boolean), Cond.methodLink RJ0 495 yJ1_charAt_3b067, Cond.static yJ1_charAt_3b067, Cond.initialized RJ1, Cond.code yJ1_charAt_3b067 cJ1_charAt_3b067 2 (some .char), Cond.methodLink RJ1 9 yJ0_checkIndex_df160, Cond.static yJ0_checkIndex_df160, Cond.code yJ0_checkIndex_df160 cJ0_checkIndex_df160 2 none, Cond.fieldLink RJ0 1053 "jdk/internal/util/Preconditions" "SIOOBE_FORMATTER" "Ljava/util/function/BiFunction;", Cond.methodLink RJ0 1059 yJ3_checkIndex_8e157, Cond.static yJ3_checkIndex_8e157, Cond.initialized RJ3, Cond.code yJ3_checkIndex_8e157 cJ3_checkIndex_8e157 3 (some .int)]
def wsX3_readClause_r3 : List Cond := [Cond.methodLink RJ0 498 yJ2_charAt_3b067, Cond.static yJ2_charAt_3b067, Cond.initialized RJ2, Cond.code yJ2_charAt_3b067 cJ2_charAt_3b067 2 (some .char), Cond.methodLink RJ2 67 yJ2_checkIndex_2214a, Cond.static yJ2_checkIndex_2214a, Cond.code yJ2_checkIndex_2214a cJ2_checkIndex_2214a 2 none, Cond.methodLink RJ2 48 yJ2_length_9d52b, Cond.static yJ2_length_9d52b, Cond.code yJ2_length_9d52b cJ2_length_9d52b 1 (some .int), Cond.methodLink RJ2 414 yJ0_checkIndex_df160, Cond.methodLink RJ2 71 yJ2_getChar_3b067, Cond.static yJ2_getChar_3b067, Cond.code yJ2_getChar_3b067 cJ2_getChar_3b067 2 (some .char), Cond.fieldLink RJ2 44 "java/lang/StringUTF16" "$assertionsDisabled" "Z", Cond.fieldLink RJ2 59 "java/lang/StringUTF16" "HI_BYTE_SHIFT" "I", Cond.fieldLink RJ2 63 "java/lang/StringUTF16" "LO_BYTE_SHIFT" "I", Cond.methodLink RX3 24 yX3_advance, Cond.instanceMethod yX3_advance, Cond.selects RX3 yX3_advance yX3_advance, Cond.code yX3_advance cX3_advance 2 none, Cond.methodLink RX3 27 yX3_isAtEnd, Cond.instanceMethod yX3_isAtEnd, Cond.selects RX3 yX3_isAtEnd yX3_isAtEnd]
def wsX3_readClause_r4 : List Cond := [Cond.code yX3_isAtEnd cX3_isAtEnd 1 (some .boolean), Cond.methodLink RX3 78 yX3_sortOf, Cond.static yX3_sortOf, Cond.code yX3_sortOf cX3_sortOf 1 (some .int), Cond.static yX8_isWithin, Cond.initialized RX8, Cond.code yX8_isWithin cX8_isWithin 3 (some .boolean), Cond.methodLink RX3 40 yX3_passes, Cond.instanceMethod yX3_passes, Cond.selects RX3 yX3_passes yX3_passes, Cond.code yX3_passes cX3_passes 2 (some .boolean), Cond.methodLink RX3 50 yX3_numberHere, Cond.instanceMethod yX3_numberHere, Cond.selects RX3 yX3_numberHere yX3_numberHere, Cond.code yX3_numberHere cX3_numberHere 3 (some .int), Cond.methodLink RX3 53 yX5_wordBetween, Cond.static yX5_wordBetween, Cond.code yX5_wordBetween cX5_wordBetween 1 (some (.object "java/lang/String")), Cond.methodLink RX3 57 yJ0_isEmpty_aae02, Cond.instanceMethod yJ0_isEmpty_aae02, Cond.selects RJ0 yJ0_isEmpty_aae02 yJ0_isEmpty_aae02, Cond.code yJ0_isEmpty_aae02 cJ0_isEmpty_aae02 1 (some .boolean), Cond.methodLink RX3 62 yX5_add, Cond.instanceMethod yX5_add]
def wsX3_readClause_r5 : List Cond := [Cond.selects RX5 yX5_add yX5_add, Cond.code yX5_add cX5_add 4 none, Cond.fieldLink RX5 19 "SailCargo$Terms" "clauses" "I", Cond.fieldLink RX5 9 "SailCargo$Terms" "kind" "[I", Cond.fieldLink RX5 13 "SailCargo$Terms" "amount" "[I", Cond.fieldLink RX5 16 "SailCargo$Terms" "mark" "[I"]
def wsX3_readClause : List Cond := .code yX3_readClause cX3_readClause 6 (some .boolean) :: ((wsX3_readClause_r1 ++ (wsX3_readClause_r2 ++ (wsX3_readClause_r3 ++ (wsX3_readClause_r4 ++ wsX3_readClause_r5)))) ++ wsX30 ++ wsX40 ++ wsX50)
def wsX3_read_r1 : List Cond := [Cond.fieldLink RX3 21 "SailCargo$Reader" "tokenEnd" "I", Cond.fieldLink RX3 35 "SailCargo$Reader" "tokenStart" "I", Cond.methodLink RX3 24 yX3_advance, Cond.instanceMethod yX3_advance, Cond.selects RX3 yX3_advance yX3_advance, Cond.initialized RX3, Cond.code yX3_advance cX3_advance 2 none, Cond.fieldLink RX3 9 "SailCargo$Reader" "tape" "LSailCargo$Tape;", Cond.methodLink RX3 27 yX3_isAtEnd, Cond.instanceMethod yX3_isAtEnd, Cond.selects RX3 yX3_isAtEnd yX3_isAtEnd, Cond.code yX3_isAtEnd cX3_isAtEnd 1 (some .boolean), Cond.methodLink RX3 78 yX3_sortOf, Cond.static yX3_sortOf, Cond.code yX3_sortOf cX3_sortOf 1 (some .int), Cond.static yX8_isWithin, Cond.initialized RX8, Cond.code yX8_isWithin cX8_isWithin 3 (some .boolean), Cond.methodLink RX3 31 yX3_readClause, Cond.instanceMethod yX3_readClause, Cond.selects RX3 yX3_readClause yX3_readClause, Cond.code yX3_readClause cX3_readClause 6 (some .boolean), Cond.methodLink RX3 44 yX3_kindHere, Cond.instanceMethod yX3_kindHere]
def wsX3_read_r2 : List Cond := [Cond.selects RX3 yX3_kindHere yX3_kindHere, Cond.code yX3_kindHere cX3_kindHere 2 (some .int), Cond.methodLink RX3 66 yX5_firstWord, Cond.static yX5_firstWord, Cond.initialized RX5, Cond.code yX5_firstWord cX5_firstWord 1 (some (.object "java/lang/String")), Cond.methodLink RX3 69 yX3_isHere, Cond.instanceMethod yX3_isHere, Cond.selects RX3 yX3_isHere yX3_isHere, Cond.code yX3_isHere cX3_isHere 3 (some .boolean), Cond.methodLink RX3 82 yJ0_length_8abf5, Cond.instanceMethod yJ0_length_8abf5, Cond.selects RJ0 yJ0_length_8abf5 yJ0_length_8abf5, Cond.initialized RJ0, Cond.code yJ0_length_8abf5 cJ0_length_8abf5 1 (some .int), Cond.fieldLink RJ0 9 "java/lang/String" "value" "[B", Cond.methodLink RJ0 335 yJ0_coder_7d493, Cond.instanceMethod yJ0_coder_7d493, Cond.selects RJ0 yJ0_coder_7d493 yJ0_coder_7d493, Cond.code yJ0_coder_7d493 cJ0_coder_7d493 1 (some .byte), Cond.fieldLink RJ0 38 "java/lang/String" "COMPACT_STRINGS" "Z", Cond.fieldLink RJ0 15 "java/lang/String" "coder" "B", Cond.methodLink RX3 85 yJ0_charAt_5068e, Cond.instanceMethod yJ0_charAt_5068e]
def wsX3_read_r3 : List Cond := [Cond.selects RJ0 yJ0_charAt_5068e yJ0_charAt_5068e, Cond.code yJ0_charAt_5068e cJ0_charAt_5068e 2 (some .char), Cond.methodLink RJ0 492 yJ0_isLatin1_aae02, Cond.instanceMethod yJ0_isLatin1_aae02, Cond.selects RJ0 yJ0_isLatin1_aae02 yJ0_isLatin1_aae02, Cond.code yJ0_isLatin1_aae02 cJ0_isLatin1_aae02 1 (some .boolean), Cond.methodLink RJ0 495 yJ1_charAt_3b067, Cond.static yJ1_charAt_3b067, Cond.initialized RJ1, Cond.code yJ1_charAt_3b067 cJ1_charAt_3b067 2 (some .char), Cond.methodLink RJ1 9 yJ0_checkIndex_df160, Cond.static yJ0_checkIndex_df160, Cond.code yJ0_checkIndex_df160 cJ0_checkIndex_df160 2 none, Cond.fieldLink RJ0 1053 "jdk/internal/util/Preconditions" "SIOOBE_FORMATTER" "Ljava/util/function/BiFunction;", Cond.methodLink RJ0 1059 yJ3_checkIndex_8e157, Cond.static yJ3_checkIndex_8e157, Cond.initialized RJ3, Cond.code yJ3_checkIndex_8e157 cJ3_checkIndex_8e157 3 (some .int), Cond.methodLink RJ0 498 yJ2_charAt_3b067, Cond.static yJ2_charAt_3b067, Cond.initialized RJ2, Cond.code yJ2_charAt_3b067 cJ2_charAt_3b067 2 (some .char), Cond.methodLink RJ2 67 yJ2_checkIndex_2214a, Cond.static yJ2_checkIndex_2214a]
def wsX3_read_r4 : List Cond := [Cond.code yJ2_checkIndex_2214a cJ2_checkIndex_2214a 2 none, Cond.methodLink RJ2 48 yJ2_length_9d52b, Cond.static yJ2_length_9d52b, Cond.code yJ2_length_9d52b cJ2_length_9d52b 1 (some .int), Cond.methodLink RJ2 414 yJ0_checkIndex_df160, Cond.methodLink RJ2 71 yJ2_getChar_3b067, Cond.static yJ2_getChar_3b067, Cond.code yJ2_getChar_3b067 cJ2_getChar_3b067 2 (some .char), Cond.fieldLink RJ2 44 "java/lang/StringUTF16" "$assertionsDisabled" "Z", Cond.fieldLink RJ2 59 "java/lang/StringUTF16" "HI_BYTE_SHIFT" "I", Cond.fieldLink RJ2 63 "java/lang/StringUTF16" "LO_BYTE_SHIFT" "I", Cond.methodLink RX3 40 yX3_passes, Cond.instanceMethod yX3_passes, Cond.selects RX3 yX3_passes yX3_passes, Cond.code yX3_passes cX3_passes 2 (some .boolean), Cond.methodLink RX3 50 yX3_numberHere, Cond.instanceMethod yX3_numberHere, Cond.selects RX3 yX3_numberHere yX3_numberHere, Cond.code yX3_numberHere cX3_numberHere 3 (some .int), Cond.methodLink RX3 53 yX5_wordBetween, Cond.static yX5_wordBetween, Cond.code yX5_wordBetween cX5_wordBetween 1 (some (.object "java/lang/String")), Cond.methodLink RX3 57 yJ0_isEmpty_aae02, Cond.instanceMethod yJ0_isEmpty_aae02]
def wsX3_read_r5 : List Cond := [Cond.selects RJ0 yJ0_isEmpty_aae02 yJ0_isEmpty_aae02, Cond.code yJ0_isEmpty_aae02 cJ0_isEmpty_aae02 1 (some .boolean), Cond.methodLink RX3 62 yX5_add, Cond.instanceMethod yX5_add, Cond.selects RX5 yX5_add yX5_add, Cond.code yX5_add cX5_add 4 none, Cond.fieldLink RX5 19 "SailCargo$Terms" "clauses" "I", Cond.fieldLink RX5 9 "SailCargo$Terms" "kind" "[I", Cond.fieldLink RX5 13 "SailCargo$Terms" "amount" "[I", Cond.fieldLink RX5 16 "SailCargo$Terms" "mark" "[I"]
def wsX3_read : List Cond := .code yX3_read cX3_read 3 (some .int) :: ((wsX3_read_r1 ++ (wsX3_read_r2 ++ (wsX3_read_r3 ++ (wsX3_read_r4 ++ wsX3_read_r5)))) ++ wsX50 ++ wsX30 ++ wsX40)
def wsX4_init : List Cond := .code yX4_init cX4_init 1 none :: ([.methodLink RX4 1 objectInit, .instanceMethod objectInit, .code objectInit ⟨#[0xb1]⟩ 1 none, .arrayClass .int, .fieldLink RX4 9 "SailCargo$Tape" "bytes" "[I"] ++ wsX40)
def wsX4_hasRoom : List Cond := .code yX4_hasRoom cX4_hasRoom 1 (some .boolean) :: ([.fieldLink RX4 13 "SailCargo$Tape" "length" "I"] ++ wsX40)
def wsX4_add : List Cond := .code yX4_add cX4_add 3 none :: ([.fieldLink RX4 13 "SailCargo$Tape" "length" "I", .fieldLink RX4 9 "SailCargo$Tape" "bytes" "[I"] ++ wsX40)
def wsX5_init : List Cond := .code yX5_init cX5_init 1 none :: ([.methodLink RX5 1 objectInit, .instanceMethod objectInit, .code objectInit ⟨#[0xb1]⟩ 1 none, .arrayClass .int, .fieldLink RX5 9 "SailCargo$Terms" "kind" "[I", .fieldLink RX5 13 "SailCargo$Terms" "amount" "[I", .fieldLink RX5 16 "SailCargo$Terms" "mark" "[I"] ++ wsX50)
def wsX5_after : List Cond := .code yX5_after cX5_after 11 (some .long) :: ([.fieldLink RX5 13 "SailCargo$Terms" "amount" "[I", .fieldLink RX5 16 "SailCargo$Terms" "mark" "[I", .fieldLink RX5 9 "SailCargo$Terms" "kind" "[I", .methodLink RX5 27 Lib.MathLoose.max_long.x, .static Lib.MathLoose.max_long.x, .initialized "java/lang/Math", .code Lib.MathLoose.max_long.x Lib.MathLoose.max_long.code 4 (some .long), .methodLink RX5 33 Lib.MathLoose.min_long.x, .static Lib.MathLoose.min_long.x, .code Lib.MathLoose.min_long.x Lib.MathLoose.min_long.code 4 (some .long)] ++ wsX50)
def wsX5_sum : List Cond := .code yX5_sum cX5_sum 7 (some .long) :: ([.fieldLink RX5 19 "SailCargo$Terms" "clauses" "I", .methodLink RX5 23 yX5_after, .instanceMethod yX5_after, .selects RX5 yX5_after yX5_after, .initialized RX5, .code yX5_after cX5_after 11 (some .long), .fieldLink RX5 13 "SailCargo$Terms" "amount" "[I", .fieldLink RX5 16 "SailCargo$Terms" "mark" "[I", .fieldLink RX5 9 "SailCargo$Terms" "kind" "[I", .methodLink RX5 27 Lib.MathLoose.max_long.x, .static Lib.MathLoose.max_long.x, .initialized "java/lang/Math", .code Lib.MathLoose.max_long.x Lib.MathLoose.max_long.code 4 (some .long), .methodLink RX5 33 Lib.MathLoose.min_long.x, .static Lib.MathLoose.min_long.x, .code Lib.MathLoose.min_long.x Lib.MathLoose.min_long.code 4 (some .long)] ++ wsX50)
def wsX6_init : List Cond := .code yX6_init cX6_init 3 none :: ([.methodLink RX6 3 objectInit, .instanceMethod objectInit, .code objectInit ⟨#[0xb1]⟩ 1 none, .arrayClass .int, .fieldLink RX6 11 "SailCargo$Voyage" "legSmoke" "[I", .fieldLink RX6 15 "SailCargo$Voyage" "firstLeg" "[I", .fieldLink RX6 18 "SailCargo$Voyage" "lastLeg" "[I", .fieldLink RX6 21 "SailCargo$Voyage" "hold" "LSailCargo$Hold;"] ++ wsX60)
def wsX6_has : List Cond := .code yX6_has cX6_has 2 (some .boolean) :: ([.fieldLink RX6 25 "SailCargo$Voyage" "legs" "I", .static yX8_isWithin, .initialized RX8, .code yX8_isWithin cX8_isWithin 3 (some .boolean)] ++ wsX60)
def wsX6_add : List Cond := .code yX6_add cX6_add 2 (some .int) :: ([.constant RX6 33 (100000), .fieldLink RX6 25 "SailCargo$Voyage" "legs" "I", .fieldLink RX6 11 "SailCargo$Voyage" "legSmoke" "[I", .static yX8_isWithin, .initialized RX8, .code yX8_isWithin cX8_isWithin 3 (some .boolean)] ++ wsX60)
def wsX6_take : List Cond := .code yX6_take cX6_take 4 (some .int) :: ([.fieldLink RX6 21 "SailCargo$Voyage" "hold" "LSailCargo$Hold;", .fieldLink RX6 15 "SailCargo$Voyage" "firstLeg" "[I", .fieldLink RX6 18 "SailCargo$Voyage" "lastLeg" "[I", .methodLink RX6 34 yX1_has, .instanceMethod yX1_has, .selects RX1 yX1_has yX1_has, .initialized RX1, .code yX1_has cX1_has 2 (some .boolean), .fieldLink RX1 21 "SailCargo$Hold" "loads" "I", .static yX8_isWithin, .initialized RX8, .code yX8_isWithin cX8_isWithin 3 (some .boolean), .methodLink RX6 40 yX6_has, .instanceMethod yX6_has, .selects RX6 yX6_has yX6_has, .initialized RX6, .code yX6_has cX6_has 2 (some .boolean), .fieldLink RX6 25 "SailCargo$Voyage" "legs" "I"] ++ wsX60 ++ wsX10)
def wsX6_isAboard : List Cond := .code yX6_isAboard cX6_isAboard 3 (some .boolean) :: ([.fieldLink RX6 15 "SailCargo$Voyage" "firstLeg" "[I", .fieldLink RX6 18 "SailCargo$Voyage" "lastLeg" "[I"] ++ wsX60)
def wsX6_tonsAboard : List Cond := .code yX6_tonsAboard cX6_tonsAboard 4 (some .int) :: ([.fieldLink RX6 21 "SailCargo$Voyage" "hold" "LSailCargo$Hold;", .methodLink RX6 45 yX6_isAboard, .instanceMethod yX6_isAboard, .selects RX6 yX6_isAboard yX6_isAboard, .initialized RX6, .code yX6_isAboard cX6_isAboard 3 (some .boolean), .fieldLink RX6 15 "SailCargo$Voyage" "firstLeg" "[I", .fieldLink RX6 18 "SailCargo$Voyage" "lastLeg" "[I"] ++ wsX60 ++ wsX10)
def wsX6_isServedFirst : List Cond := .code yX6_isServedFirst cX6_isServedFirst 4 (some .boolean) :: ([])
def wsX6_partOf : List Cond := .code yX6_partOf cX6_partOf 9 (some .int) :: ([.fieldLink RX6 11 "SailCargo$Voyage" "legSmoke" "[I", .fieldLink RX6 21 "SailCargo$Voyage" "hold" "LSailCargo$Hold;", .methodLink RX6 41 yX6_tonsAboard, .instanceMethod yX6_tonsAboard, .selects RX6 yX6_tonsAboard yX6_tonsAboard, .initialized RX6, .code yX6_tonsAboard cX6_tonsAboard 4 (some .int), .methodLink RX6 45 yX6_isAboard, .instanceMethod yX6_isAboard, .selects RX6 yX6_isAboard yX6_isAboard, .code yX6_isAboard cX6_isAboard 3 (some .boolean), .fieldLink RX6 15 "SailCargo$Voyage" "firstLeg" "[I", .fieldLink RX6 18 "SailCargo$Voyage" "lastLeg" "[I", .methodLink RX6 55 yX6_isServedFirst, .static yX6_isServedFirst, .code yX6_isServedFirst cX6_isServedFirst 4 (some .boolean)] ++ wsX60 ++ wsX10)
def wsX6_smokeOf : List Cond := .code yX6_smokeOf cX6_smokeOf 4 (some .int) :: ([.fieldLink RX6 25 "SailCargo$Voyage" "legs" "I", .methodLink RX6 59 yX6_partOf, .instanceMethod yX6_partOf, .selects RX6 yX6_partOf yX6_partOf, .initialized RX6, .code yX6_partOf cX6_partOf 9 (some .int), .fieldLink RX6 11 "SailCargo$Voyage" "legSmoke" "[I", .fieldLink RX6 21 "SailCargo$Voyage" "hold" "LSailCargo$Hold;", .methodLink RX6 41 yX6_tonsAboard, .instanceMethod yX6_tonsAboard, .selects RX6 yX6_tonsAboard yX6_tonsAboard, .code yX6_tonsAboard cX6_tonsAboard 4 (some .int), .methodLink RX6 45 yX6_isAboard, .instanceMethod yX6_isAboard, .selects RX6 yX6_isAboard yX6_isAboard, .code yX6_isAboard cX6_isAboard 3 (some .boolean), .fieldLink RX6 15 "SailCargo$Voyage" "firstLeg" "[I", .fieldLink RX6 18 "SailCargo$Voyage" "lastLeg" "[I", .methodLink RX6 55 yX6_isServedFirst, .static yX6_isServedFirst, .code yX6_isServedFirst cX6_isServedFirst 4 (some .boolean)] ++ wsX60 ++ wsX10)
def wsX6_ownSmoke : List Cond := .code yX6_ownSmoke cX6_ownSmoke 3 (some .int) :: ([.fieldLink RX6 25 "SailCargo$Voyage" "legs" "I", .fieldLink RX6 11 "SailCargo$Voyage" "legSmoke" "[I", .methodLink RX6 41 yX6_tonsAboard, .instanceMethod yX6_tonsAboard, .selects RX6 yX6_tonsAboard yX6_tonsAboard, .initialized RX6, .code yX6_tonsAboard cX6_tonsAboard 4 (some .int), .fieldLink RX6 21 "SailCargo$Voyage" "hold" "LSailCargo$Hold;", .methodLink RX6 45 yX6_isAboard, .instanceMethod yX6_isAboard, .selects RX6 yX6_isAboard yX6_isAboard, .code yX6_isAboard cX6_isAboard 3 (some .boolean), .fieldLink RX6 15 "SailCargo$Voyage" "firstLeg" "[I", .fieldLink RX6 18 "SailCargo$Voyage" "lastLeg" "[I"] ++ wsX60 ++ wsX10)
def wsX7_init : List Cond := .code yX7_init cX7_init 1 none :: ([.methodLink RX7 3 objectInit, .instanceMethod objectInit, .code objectInit ⟨#[0xb1]⟩ 1 none, .arrayClass .int, .fieldLink RX7 11 "SailCargo$Weather" "weights" "[I", .fieldLink RX7 15 "SailCargo$Weather" "knownFrom" "[I"] ++ wsX70)
def wsX7_isWeight : List Cond := .code yX7_isWeight cX7_isWeight 1 (some .boolean) :: ([.static yX8_isWithin, .initialized RX8, .code yX8_isWithin cX8_isWithin 3 (some .boolean)])
def wsX8_isKnownDay : List Cond := .code yX8_isKnownDay cX8_isKnownDay 1 (some .boolean) :: ([.methodLink RX8 108 yX8_isWithin, .static yX8_isWithin, .initialized RX8, .code yX8_isWithin cX8_isWithin 3 (some .boolean)])
def wsX7_tell : List Cond := .code yX7_tell cX7_tell 7 (some .int) :: ([.fieldLink RX7 25 "SailCargo$Weather" "told" "I", .fieldLink RX7 11 "SailCargo$Weather" "weights" "[I", .fieldLink RX7 15 "SailCargo$Weather" "knownFrom" "[I", .methodLink RX7 18 yX7_isWeight, .static yX7_isWeight, .initialized RX7, .code yX7_isWeight cX7_isWeight 1 (some .boolean), .static yX8_isWithin, .initialized RX8, .code yX8_isWithin cX8_isWithin 3 (some .boolean), .static yX8_isKnownDay, .code yX8_isKnownDay cX8_isKnownDay 1 (some .boolean), .methodLink RX8 108 yX8_isWithin] ++ wsX70)
def wsX8_init_r1 : List Cond := [Cond.methodLink RX8 1 objectInit, Cond.instanceMethod objectInit, Cond.code objectInit ⟨#[0xb1]⟩ 1 none, Cond.classLink RX8 7 RX7, Cond.instantiable RX7 3, Cond.initialized RX7, Cond.fieldLink RX8 10 "SailCargo" "weather" "LSailCargo$Weather;", Cond.classLink RX8 16 RX2, Cond.instantiable RX2 8, Cond.initialized RX2, Cond.fieldLink RX8 19 "SailCargo" "passage" "LSailCargo$Passage;", Cond.classLink RX8 23 RX1, Cond.instantiable RX1 8, Cond.initialized RX1, Cond.fieldLink RX8 26 "SailCargo" "hold" "LSailCargo$Hold;", Cond.classLink RX8 30 RX0, Cond.instantiable RX0 8, Cond.initialized RX0, Cond.fieldLink RX8 33 "SailCargo" "harbour" "LSailCargo$Harbour;", Cond.classLink RX8 37 RX4, Cond.instantiable RX4 2, Cond.initialized RX4, Cond.fieldLink RX8 40 "SailCargo" "tape" "LSailCargo$Tape;", Cond.classLink RX8 44 RX3]
def wsX8_init_r2 : List Cond := [Cond.instantiable RX3 3, Cond.initialized RX3, Cond.fieldLink RX8 49 "SailCargo" "reader" "LSailCargo$Reader;", Cond.classLink RX8 53 RX6, Cond.instantiable RX6 5, Cond.initialized RX6, Cond.fieldLink RX8 58 "SailCargo" "voyage" "LSailCargo$Voyage;", Cond.classLink RX8 62 RX5, Cond.instantiable RX5 4, Cond.initialized RX5, Cond.fieldLink RX8 65 "SailCargo" "agreed" "LSailCargo$Terms;", Cond.fieldLink RX8 69 "SailCargo" "draft" "LSailCargo$Terms;", Cond.fieldLink RX8 72 "SailCargo" "faultPlace" "I", Cond.fieldLink RX8 76 "SailCargo" "refusedBy" "I", Cond.instanceMethod yX7_init, Cond.code yX7_init cX7_init 1 none, Cond.methodLink RX7 3 objectInit, Cond.arrayClass .int, Cond.fieldLink RX7 11 "SailCargo$Weather" "weights" "[I", Cond.fieldLink RX7 15 "SailCargo$Weather" "knownFrom" "[I", Cond.methodLink RX8 18 yX2_init, Cond.instanceMethod yX2_init, Cond.code yX2_init cX2_init 3 none, Cond.methodLink RX2 5 objectInit]
def wsX8_init_r3 : List Cond := [Cond.fieldLink RX2 11 "SailCargo$Passage" "sailMiles" "[I", Cond.fieldLink RX2 15 "SailCargo$Passage" "weights" "[I", Cond.arrayClass .long, Cond.fieldLink RX2 18 "SailCargo$Passage" "chance" "[J", Cond.fieldLink RX2 22 "SailCargo$Passage" "burnt" "[J", Cond.methodLink RX2 25 yX2_at, Cond.static yX2_at, Cond.code yX2_at cX2_at 3 (some .int), Cond.methodLink RX2 29 yX2_parts, Cond.static yX2_parts, Cond.code yX2_parts cX2_parts 1 (some .long), Cond.instanceMethod yX1_init, Cond.code yX1_init cX1_init 1 none, Cond.methodLink RX1 3 objectInit, Cond.fieldLink RX1 9 "SailCargo$Hold" "tons" "[I", Cond.fieldLink RX1 15 "SailCargo$Hold" "worth" "[I", Cond.fieldLink RX1 18 "SailCargo$Hold" "apartBits" "[I", Cond.methodLink RX8 32 yX0_init, Cond.instanceMethod yX0_init, Cond.code yX0_init cX0_init 2 none, Cond.methodLink RX0 3 objectInit, Cond.fieldLink RX0 11 "SailCargo$Harbour" "berthsOf" "[I", Cond.fieldLink RX0 15 "SailCargo$Harbour" "port" "[I", Cond.fieldLink RX0 18 "SailCargo$Harbour" "berth" "[I"]
def wsX8_init_r4 : List Cond := [Cond.fieldLink RX0 21 "SailCargo$Harbour" "first" "[I", Cond.fieldLink RX0 24 "SailCargo$Harbour" "last" "[I", Cond.arrayClass .boolean, Cond.fieldLink RX0 27 "SailCargo$Harbour" "isGivenUp" "[Z", Cond.instanceMethod yX4_init, Cond.code yX4_init cX4_init 1 none, Cond.methodLink RX4 1 objectInit, Cond.fieldLink RX4 9 "SailCargo$Tape" "bytes" "[I", Cond.methodLink RX8 46 yX3_init, Cond.instanceMethod yX3_init, Cond.code yX3_init cX3_init 2 none, Cond.methodLink RX3 3 objectInit, Cond.fieldLink RX3 9 "SailCargo$Reader" "tape" "LSailCargo$Tape;", Cond.methodLink RX8 55 yX6_init, Cond.instanceMethod yX6_init, Cond.code yX6_init cX6_init 3 none, Cond.methodLink RX6 3 objectInit, Cond.fieldLink RX6 11 "SailCargo$Voyage" "legSmoke" "[I", Cond.fieldLink RX6 15 "SailCargo$Voyage" "firstLeg" "[I", Cond.fieldLink RX6 18 "SailCargo$Voyage" "lastLeg" "[I", Cond.fieldLink RX6 21 "SailCargo$Voyage" "hold" "LSailCargo$Hold;", Cond.instanceMethod yX5_init, Cond.code yX5_init cX5_init 1 none, Cond.methodLink RX5 1 objectInit]
def wsX8_init_r5 : List Cond := [Cond.fieldLink RX5 9 "SailCargo$Terms" "kind" "[I", Cond.fieldLink RX5 13 "SailCargo$Terms" "amount" "[I", Cond.fieldLink RX5 16 "SailCargo$Terms" "mark" "[I"]
def wsX8_init : List Cond := .code yX8_init cX8_init 1 none :: ((wsX8_init_r1 ++ (wsX8_init_r2 ++ (wsX8_init_r3 ++ (wsX8_init_r4 ++ wsX8_init_r5)))) ++ wsX70 ++ wsX80 ++ wsX20 ++ wsX10 ++ wsX00 ++ wsX40 ++ wsX30 ++ wsX60 ++ wsX50)
def wsX8_answered : List Cond := .code yX8_answered cX8_answered 2 (some .int) :: ([.methodLink RX8 222 Lib.Math.min.name, .static Lib.Math.min.name, .initialized "java/lang/Math", .code Lib.Math.min.name Lib.Math.min.code 2 (some .int), .fieldLink RX8 76 "SailCargo" "refusedBy" "I"] ++ wsX80)
def wsX8_winds_r1 : List Cond := [Cond.fieldLink RX8 10 "SailCargo" "weather" "LSailCargo$Weather;", Cond.methodLink RX8 79 yX7_tell, Cond.instanceMethod yX7_tell, Cond.selects RX7 yX7_tell yX7_tell, Cond.initialized RX7, Cond.code yX7_tell cX7_tell 7 (some .int), Cond.fieldLink RX7 25 "SailCargo$Weather" "told" "I", Cond.fieldLink RX7 11 "SailCargo$Weather" "weights" "[I", Cond.fieldLink RX7 15 "SailCargo$Weather" "knownFrom" "[I", Cond.methodLink RX7 18 yX7_isWeight, Cond.static yX7_isWeight, Cond.code yX7_isWeight cX7_isWeight 1 (some .boolean), Cond.static yX8_isWithin, Cond.initialized RX8, Cond.code yX8_isWithin cX8_isWithin 3 (some .boolean), Cond.static yX8_isKnownDay, Cond.code yX8_isKnownDay cX8_isKnownDay 1 (some .boolean), Cond.methodLink RX8 108 yX8_isWithin, Cond.methodLink RX8 83 yX8_answered, Cond.instanceMethod yX8_answered, Cond.selects RX8 yX8_answered yX8_answered, Cond.code yX8_answered cX8_answered 2 (some .int), Cond.methodLink RX8 222 Lib.Math.min.name, Cond.static Lib.Math.min.name]
def wsX8_winds_r2 : List Cond := [Cond.initialized "java/lang/Math", Cond.code Lib.Math.min.name Lib.Math.min.code 2 (some .int), Cond.fieldLink RX8 76 "SailCargo" "refusedBy" "I"]
def wsX8_winds : List Cond := .code yX8_winds cX8_winds 6 (some .int) :: ((wsX8_winds_r1 ++ wsX8_winds_r2) ++ wsX80 ++ wsX70)
def wsX8_weight : List Cond := .code yX8_weight cX8_weight 3 (some .int) :: ([.fieldLink RX8 10 "SailCargo" "weather" "LSailCargo$Weather;", .methodLink RX8 87 yX8_isWind, .static yX8_isWind, .initialized RX8, .code yX8_isWind cX8_isWind 1 (some .boolean), .methodLink RX8 108 yX8_isWithin, .static yX8_isWithin, .code yX8_isWithin cX8_isWithin 3 (some .boolean), .methodLink RX8 91 yX8_isKnownDay, .static yX8_isKnownDay, .code yX8_isKnownDay cX8_isKnownDay 1 (some .boolean), .methodLink RX8 94 yX7_weightOf, .instanceMethod yX7_weightOf, .selects RX7 yX7_weightOf yX7_weightOf, .initialized RX7, .code yX7_weightOf cX7_weightOf 4 (some .int), .fieldLink RX7 25 "SailCargo$Weather" "told" "I", .fieldLink RX7 15 "SailCargo$Weather" "knownFrom" "[I", .fieldLink RX7 11 "SailCargo$Weather" "weights" "[I"] ++ wsX80 ++ wsX70)
def wsX8_sails : List Cond := .code yX8_sails cX8_sails 3 (some .int) :: ([.fieldLink RX8 19 "SailCargo" "passage" "LSailCargo$Passage;", .methodLink RX8 98 yX2_setSails, .instanceMethod yX2_setSails, .selects RX2 yX2_setSails yX2_setSails, .initialized RX2, .code yX2_setSails cX2_setSails 3 (some .int), .fieldLink RX2 11 "SailCargo$Passage" "sailMiles" "[I", .fieldLink RX2 41 "SailCargo$Passage" "daysReckoned" "I", .static yX8_isWind, .initialized RX8, .code yX8_isWind cX8_isWind 1 (some .boolean), .methodLink RX8 108 yX8_isWithin, .static yX8_isWithin, .code yX8_isWithin cX8_isWithin 3 (some .boolean), .methodLink RX8 83 yX8_answered, .instanceMethod yX8_answered, .selects RX8 yX8_answered yX8_answered, .code yX8_answered cX8_answered 2 (some .int), .methodLink RX8 222 Lib.Math.min.name, .static Lib.Math.min.name, .initialized "java/lang/Math", .code Lib.Math.min.name Lib.Math.min.code 2 (some .int), .fieldLink RX8 76 "SailCargo" "refusedBy" "I"] ++ wsX80 ++ wsX20)
def wsX8_engine : List Cond := .code yX8_engine cX8_engine 2 (some .int) :: ([.fieldLink RX8 19 "SailCargo" "passage" "LSailCargo$Passage;", .methodLink RX8 101 yX2_setEngine, .instanceMethod yX2_setEngine, .selects RX2 yX2_setEngine yX2_setEngine, .initialized RX2, .code yX2_setEngine cX2_setEngine 3 (some .int), .fieldLink RX2 45 "SailCargo$Passage" "engineMiles" "I", .fieldLink RX2 41 "SailCargo$Passage" "daysReckoned" "I", .static yX8_isWithin, .initialized RX8, .code yX8_isWithin cX8_isWithin 3 (some .boolean), .methodLink RX8 83 yX8_answered, .instanceMethod yX8_answered, .selects RX8 yX8_answered yX8_answered, .code yX8_answered cX8_answered 2 (some .int), .methodLink RX8 222 Lib.Math.min.name, .static Lib.Math.min.name, .initialized "java/lang/Math", .code Lib.Math.min.name Lib.Math.min.code 2 (some .int), .fieldLink RX8 76 "SailCargo" "refusedBy" "I"] ++ wsX80 ++ wsX20)
def wsX8_isPassage : List Cond := .code yX8_isPassage cX8_isPassage 3 (some .boolean) :: ([.methodLink RX8 108 yX8_isWithin, .static yX8_isWithin, .initialized RX8, .code yX8_isWithin cX8_isWithin 3 (some .boolean), .methodLink RX8 91 yX8_isKnownDay, .static yX8_isKnownDay, .code yX8_isKnownDay cX8_isKnownDay 1 (some .boolean)])
def wsX8_luck_r1 : List Cond := [Cond.constantLong RX8 111 (-1), Cond.fieldLink RX8 19 "SailCargo" "passage" "LSailCargo$Passage;", Cond.fieldLink RX8 10 "SailCargo" "weather" "LSailCargo$Weather;", Cond.methodLink RX8 104 yX8_isPassage, Cond.static yX8_isPassage, Cond.initialized RX8, Cond.code yX8_isPassage cX8_isPassage 3 (some .boolean), Cond.methodLink RX8 108 yX8_isWithin, Cond.static yX8_isWithin, Cond.code yX8_isWithin cX8_isWithin 3 (some .boolean), Cond.methodLink RX8 91 yX8_isKnownDay, Cond.static yX8_isKnownDay, Cond.code yX8_isKnownDay cX8_isKnownDay 1 (some .boolean), Cond.methodLink RX8 113 yX2_know, Cond.instanceMethod yX2_know, Cond.selects RX2 yX2_know yX2_know, Cond.initialized RX2, Cond.code yX2_know cX2_know 5 none, Cond.fieldLink RX2 15 "SailCargo$Passage" "weights" "[I", Cond.fieldLink RX2 41 "SailCargo$Passage" "daysReckoned" "I", Cond.methodLink RX2 48 yX7_weightOf, Cond.instanceMethod yX7_weightOf, Cond.selects RX7 yX7_weightOf yX7_weightOf, Cond.initialized RX7]
def wsX8_luck_r2 : List Cond := [Cond.code yX7_weightOf cX7_weightOf 4 (some .int), Cond.fieldLink RX7 25 "SailCargo$Weather" "told" "I", Cond.fieldLink RX7 15 "SailCargo$Weather" "knownFrom" "[I", Cond.fieldLink RX7 11 "SailCargo$Weather" "weights" "[I", Cond.methodLink RX8 117 yX2_reckon, Cond.instanceMethod yX2_reckon, Cond.selects RX2 yX2_reckon yX2_reckon, Cond.code yX2_reckon cX2_reckon 4 none, Cond.fieldLink RX2 54 "SailCargo$Passage" "milesReckoned" "I", Cond.fieldLink RX2 57 "SailCargo$Passage" "coalReckoned" "I", Cond.methodLink RX2 60 yX2_reckonDay, Cond.instanceMethod yX2_reckonDay, Cond.selects RX2 yX2_reckonDay yX2_reckonDay, Cond.code yX2_reckonDay cX2_reckonDay 4 none, Cond.methodLink RX2 92 yX2_reckonPlace, Cond.instanceMethod yX2_reckonPlace, Cond.selects RX2 yX2_reckonPlace yX2_reckonPlace, Cond.code yX2_reckonPlace cX2_reckonPlace 14 none, Cond.fieldLink RX2 18 "SailCargo$Passage" "chance" "[J", Cond.fieldLink RX2 22 "SailCargo$Passage" "burnt" "[J", Cond.methodLink RX2 74 yX2_calmChoice, Cond.instanceMethod yX2_calmChoice, Cond.selects RX2 yX2_calmChoice yX2_calmChoice, Cond.code yX2_calmChoice cX2_calmChoice 5 (some .int)]
def wsX8_luck_r3 : List Cond := [Cond.methodLink RX2 77 yX2_afterCalm, Cond.instanceMethod yX2_afterCalm, Cond.selects RX2 yX2_afterCalm yX2_afterCalm, Cond.code yX2_afterCalm cX2_afterCalm 5 (some .int), Cond.fieldLink RX2 45 "SailCargo$Passage" "engineMiles" "I", Cond.methodLink RX2 95 Lib.Math.max.name, Cond.static Lib.Math.max.name, Cond.initialized "java/lang/Math", Cond.code Lib.Math.max.name Lib.Math.max.code 2 (some .int), Cond.methodLink RX2 25 yX2_at, Cond.static yX2_at, Cond.code yX2_at cX2_at 3 (some .int), Cond.methodLink RX2 81 yX2_fuel, Cond.static yX2_fuel, Cond.code yX2_fuel cX2_fuel 2 (some .long), Cond.methodLink RX2 29 yX2_parts, Cond.static yX2_parts, Cond.code yX2_parts cX2_parts 1 (some .long), Cond.methodLink RX2 88 yX2_isBetter, Cond.instanceMethod yX2_isBetter, Cond.selects RX2 yX2_isBetter yX2_isBetter, Cond.code yX2_isBetter cX2_isBetter 7 (some .boolean), Cond.methodLink RX2 85 yX2_afterSails, Cond.instanceMethod yX2_afterSails]
def wsX8_luck_r4 : List Cond := [Cond.selects RX2 yX2_afterSails yX2_afterSails, Cond.code yX2_afterSails cX2_afterSails 5 (some .int), Cond.fieldLink RX2 11 "SailCargo$Passage" "sailMiles" "[I", Cond.methodLink RX8 121 yX2_chanceOf, Cond.instanceMethod yX2_chanceOf, Cond.selects RX2 yX2_chanceOf yX2_chanceOf, Cond.code yX2_chanceOf cX2_chanceOf 4 (some .long), Cond.methodLink RX8 125 yX2_burntOf, Cond.instanceMethod yX2_burntOf, Cond.selects RX2 yX2_burntOf yX2_burntOf, Cond.code yX2_burntOf cX2_burntOf 4 (some .long)]
def wsX8_luck : List Cond := .code yX8_luck cX8_luck 6 (some .long) :: ((wsX8_luck_r1 ++ (wsX8_luck_r2 ++ (wsX8_luck_r3 ++ wsX8_luck_r4))) ++ wsX80 ++ wsX20 ++ wsX70)
def wsX8_choice_r1 : List Cond := [Cond.fieldLink RX8 19 "SailCargo" "passage" "LSailCargo$Passage;", Cond.fieldLink RX8 10 "SailCargo" "weather" "LSailCargo$Weather;", Cond.methodLink RX8 104 yX8_isPassage, Cond.static yX8_isPassage, Cond.initialized RX8, Cond.code yX8_isPassage cX8_isPassage 3 (some .boolean), Cond.methodLink RX8 108 yX8_isWithin, Cond.static yX8_isWithin, Cond.code yX8_isWithin cX8_isWithin 3 (some .boolean), Cond.methodLink RX8 91 yX8_isKnownDay, Cond.static yX8_isKnownDay, Cond.code yX8_isKnownDay cX8_isKnownDay 1 (some .boolean), Cond.methodLink RX8 87 yX8_isWind, Cond.static yX8_isWind, Cond.code yX8_isWind cX8_isWind 1 (some .boolean), Cond.methodLink RX8 113 yX2_know, Cond.instanceMethod yX2_know, Cond.selects RX2 yX2_know yX2_know, Cond.initialized RX2, Cond.code yX2_know cX2_know 5 none, Cond.fieldLink RX2 15 "SailCargo$Passage" "weights" "[I", Cond.fieldLink RX2 41 "SailCargo$Passage" "daysReckoned" "I", Cond.methodLink RX2 48 yX7_weightOf, Cond.instanceMethod yX7_weightOf]
def wsX8_choice_r2 : List Cond := [Cond.selects RX7 yX7_weightOf yX7_weightOf, Cond.initialized RX7, Cond.code yX7_weightOf cX7_weightOf 4 (some .int), Cond.fieldLink RX7 25 "SailCargo$Weather" "told" "I", Cond.fieldLink RX7 15 "SailCargo$Weather" "knownFrom" "[I", Cond.fieldLink RX7 11 "SailCargo$Weather" "weights" "[I", Cond.methodLink RX8 117 yX2_reckon, Cond.instanceMethod yX2_reckon, Cond.selects RX2 yX2_reckon yX2_reckon, Cond.code yX2_reckon cX2_reckon 4 none, Cond.fieldLink RX2 54 "SailCargo$Passage" "milesReckoned" "I", Cond.fieldLink RX2 57 "SailCargo$Passage" "coalReckoned" "I", Cond.methodLink RX2 60 yX2_reckonDay, Cond.instanceMethod yX2_reckonDay, Cond.selects RX2 yX2_reckonDay yX2_reckonDay, Cond.code yX2_reckonDay cX2_reckonDay 4 none, Cond.methodLink RX2 92 yX2_reckonPlace, Cond.instanceMethod yX2_reckonPlace, Cond.selects RX2 yX2_reckonPlace yX2_reckonPlace, Cond.code yX2_reckonPlace cX2_reckonPlace 14 none, Cond.fieldLink RX2 18 "SailCargo$Passage" "chance" "[J", Cond.fieldLink RX2 22 "SailCargo$Passage" "burnt" "[J", Cond.methodLink RX2 74 yX2_calmChoice, Cond.instanceMethod yX2_calmChoice]
def wsX8_choice_r3 : List Cond := [Cond.selects RX2 yX2_calmChoice yX2_calmChoice, Cond.code yX2_calmChoice cX2_calmChoice 5 (some .int), Cond.methodLink RX2 77 yX2_afterCalm, Cond.instanceMethod yX2_afterCalm, Cond.selects RX2 yX2_afterCalm yX2_afterCalm, Cond.code yX2_afterCalm cX2_afterCalm 5 (some .int), Cond.fieldLink RX2 45 "SailCargo$Passage" "engineMiles" "I", Cond.methodLink RX2 95 Lib.Math.max.name, Cond.static Lib.Math.max.name, Cond.initialized "java/lang/Math", Cond.code Lib.Math.max.name Lib.Math.max.code 2 (some .int), Cond.methodLink RX2 25 yX2_at, Cond.static yX2_at, Cond.code yX2_at cX2_at 3 (some .int), Cond.methodLink RX2 81 yX2_fuel, Cond.static yX2_fuel, Cond.code yX2_fuel cX2_fuel 2 (some .long), Cond.methodLink RX2 29 yX2_parts, Cond.static yX2_parts, Cond.code yX2_parts cX2_parts 1 (some .long), Cond.methodLink RX2 88 yX2_isBetter, Cond.instanceMethod yX2_isBetter, Cond.selects RX2 yX2_isBetter yX2_isBetter, Cond.code yX2_isBetter cX2_isBetter 7 (some .boolean)]
def wsX8_choice_r4 : List Cond := [Cond.methodLink RX2 85 yX2_afterSails, Cond.instanceMethod yX2_afterSails, Cond.selects RX2 yX2_afterSails yX2_afterSails, Cond.code yX2_afterSails cX2_afterSails 5 (some .int), Cond.fieldLink RX2 11 "SailCargo$Passage" "sailMiles" "[I", Cond.methodLink RX8 128 yX2_bestChoice, Cond.instanceMethod yX2_bestChoice, Cond.selects RX2 yX2_bestChoice yX2_bestChoice, Cond.code yX2_bestChoice cX2_bestChoice 7 (some .int)]
def wsX8_choice : List Cond := .code yX8_choice cX8_choice 6 (some .int) :: ((wsX8_choice_r1 ++ (wsX8_choice_r2 ++ (wsX8_choice_r3 ++ wsX8_choice_r4))) ++ wsX80 ++ wsX20 ++ wsX70)
def wsX8_promise_r1 : List Cond := [Cond.fieldLink RX8 19 "SailCargo" "passage" "LSailCargo$Passage;", Cond.fieldLink RX8 10 "SailCargo" "weather" "LSailCargo$Weather;", Cond.methodLink RX8 104 yX8_isPassage, Cond.static yX8_isPassage, Cond.initialized RX8, Cond.code yX8_isPassage cX8_isPassage 3 (some .boolean), Cond.methodLink RX8 108 yX8_isWithin, Cond.static yX8_isWithin, Cond.code yX8_isWithin cX8_isWithin 3 (some .boolean), Cond.methodLink RX8 91 yX8_isKnownDay, Cond.static yX8_isKnownDay, Cond.code yX8_isKnownDay cX8_isKnownDay 1 (some .boolean), Cond.methodLink RX8 113 yX2_know, Cond.instanceMethod yX2_know, Cond.selects RX2 yX2_know yX2_know, Cond.initialized RX2, Cond.code yX2_know cX2_know 5 none, Cond.fieldLink RX2 15 "SailCargo$Passage" "weights" "[I", Cond.fieldLink RX2 41 "SailCargo$Passage" "daysReckoned" "I", Cond.methodLink RX2 48 yX7_weightOf, Cond.instanceMethod yX7_weightOf, Cond.selects RX7 yX7_weightOf yX7_weightOf, Cond.initialized RX7, Cond.code yX7_weightOf cX7_weightOf 4 (some .int)]
def wsX8_promise_r2 : List Cond := [Cond.fieldLink RX7 25 "SailCargo$Weather" "told" "I", Cond.fieldLink RX7 15 "SailCargo$Weather" "knownFrom" "[I", Cond.fieldLink RX7 11 "SailCargo$Weather" "weights" "[I", Cond.methodLink RX8 132 yX2_fewestDays, Cond.instanceMethod yX2_fewestDays, Cond.selects RX2 yX2_fewestDays yX2_fewestDays, Cond.code yX2_fewestDays cX2_fewestDays 5 (some .int), Cond.constantLong RX2 72 (16), Cond.methodLink RX2 64 yX2_reckon, Cond.instanceMethod yX2_reckon, Cond.selects RX2 yX2_reckon yX2_reckon, Cond.code yX2_reckon cX2_reckon 4 none, Cond.fieldLink RX2 54 "SailCargo$Passage" "milesReckoned" "I", Cond.fieldLink RX2 57 "SailCargo$Passage" "coalReckoned" "I", Cond.methodLink RX2 60 yX2_reckonDay, Cond.instanceMethod yX2_reckonDay, Cond.selects RX2 yX2_reckonDay yX2_reckonDay, Cond.code yX2_reckonDay cX2_reckonDay 4 none, Cond.methodLink RX2 92 yX2_reckonPlace, Cond.instanceMethod yX2_reckonPlace, Cond.selects RX2 yX2_reckonPlace yX2_reckonPlace, Cond.code yX2_reckonPlace cX2_reckonPlace 14 none, Cond.fieldLink RX2 18 "SailCargo$Passage" "chance" "[J", Cond.fieldLink RX2 22 "SailCargo$Passage" "burnt" "[J"]
def wsX8_promise_r3 : List Cond := [Cond.methodLink RX2 74 yX2_calmChoice, Cond.instanceMethod yX2_calmChoice, Cond.selects RX2 yX2_calmChoice yX2_calmChoice, Cond.code yX2_calmChoice cX2_calmChoice 5 (some .int), Cond.methodLink RX2 77 yX2_afterCalm, Cond.instanceMethod yX2_afterCalm, Cond.selects RX2 yX2_afterCalm yX2_afterCalm, Cond.code yX2_afterCalm cX2_afterCalm 5 (some .int), Cond.fieldLink RX2 45 "SailCargo$Passage" "engineMiles" "I", Cond.methodLink RX2 95 Lib.Math.max.name, Cond.static Lib.Math.max.name, Cond.initialized "java/lang/Math", Cond.code Lib.Math.max.name Lib.Math.max.code 2 (some .int), Cond.methodLink RX2 25 yX2_at, Cond.static yX2_at, Cond.code yX2_at cX2_at 3 (some .int), Cond.methodLink RX2 81 yX2_fuel, Cond.static yX2_fuel, Cond.code yX2_fuel cX2_fuel 2 (some .long), Cond.methodLink RX2 29 yX2_parts, Cond.static yX2_parts, Cond.code yX2_parts cX2_parts 1 (some .long), Cond.methodLink RX2 88 yX2_isBetter, Cond.instanceMethod yX2_isBetter]
def wsX8_promise_r4 : List Cond := [Cond.selects RX2 yX2_isBetter yX2_isBetter, Cond.code yX2_isBetter cX2_isBetter 7 (some .boolean), Cond.methodLink RX2 85 yX2_afterSails, Cond.instanceMethod yX2_afterSails, Cond.selects RX2 yX2_afterSails yX2_afterSails, Cond.code yX2_afterSails cX2_afterSails 5 (some .int), Cond.fieldLink RX2 11 "SailCargo$Passage" "sailMiles" "[I", Cond.methodLink RX2 68 yX2_chanceOf, Cond.instanceMethod yX2_chanceOf, Cond.selects RX2 yX2_chanceOf yX2_chanceOf, Cond.code yX2_chanceOf cX2_chanceOf 4 (some .long)]
def wsX8_promise : List Cond := .code yX8_promise cX8_promise 5 (some .int) :: ((wsX8_promise_r1 ++ (wsX8_promise_r2 ++ (wsX8_promise_r3 ++ wsX8_promise_r4))) ++ wsX80 ++ wsX20 ++ wsX70)
def wsX8_load : List Cond := .code yX8_load cX8_load 3 (some .int) :: ([.fieldLink RX8 26 "SailCargo" "hold" "LSailCargo$Hold;", .methodLink RX8 136 yX1_add, .instanceMethod yX1_add, .selects RX1 yX1_add yX1_add, .initialized RX1, .code yX1_add cX1_add 3 (some .int), .fieldLink RX1 21 "SailCargo$Hold" "loads" "I", .fieldLink RX1 9 "SailCargo$Hold" "tons" "[I", .fieldLink RX1 15 "SailCargo$Hold" "worth" "[I", .static yX8_isWithin, .initialized RX8, .code yX8_isWithin cX8_isWithin 3 (some .boolean), .methodLink RX8 83 yX8_answered, .instanceMethod yX8_answered, .selects RX8 yX8_answered yX8_answered, .code yX8_answered cX8_answered 2 (some .int), .methodLink RX8 222 Lib.Math.min.name, .static Lib.Math.min.name, .initialized "java/lang/Math", .code Lib.Math.min.name Lib.Math.min.code 2 (some .int), .fieldLink RX8 76 "SailCargo" "refusedBy" "I"] ++ wsX80 ++ wsX10)
def wsX8_apart_r1 : List Cond := [Cond.fieldLink RX8 26 "SailCargo" "hold" "LSailCargo$Hold;", Cond.methodLink RX8 139 yX1_setApart, Cond.instanceMethod yX1_setApart, Cond.selects RX1 yX1_setApart yX1_setApart, Cond.initialized RX1, Cond.code yX1_setApart cX1_setApart 4 (some .int), Cond.methodLink RX1 29 yX1_has, Cond.instanceMethod yX1_has, Cond.selects RX1 yX1_has yX1_has, Cond.code yX1_has cX1_has 2 (some .boolean), Cond.fieldLink RX1 21 "SailCargo$Hold" "loads" "I", Cond.static yX8_isWithin, Cond.initialized RX8, Cond.code yX8_isWithin cX8_isWithin 3 (some .boolean), Cond.methodLink RX1 33 yX1_markApart, Cond.instanceMethod yX1_markApart, Cond.selects RX1 yX1_markApart yX1_markApart, Cond.code yX1_markApart cX1_markApart 5 none, Cond.fieldLink RX1 18 "SailCargo$Hold" "apartBits" "[I", Cond.methodLink RX8 83 yX8_answered, Cond.instanceMethod yX8_answered, Cond.selects RX8 yX8_answered yX8_answered, Cond.code yX8_answered cX8_answered 2 (some .int), Cond.methodLink RX8 222 Lib.Math.min.name]
def wsX8_apart_r2 : List Cond := [Cond.static Lib.Math.min.name, Cond.initialized "java/lang/Math", Cond.code Lib.Math.min.name Lib.Math.min.code 2 (some .int), Cond.fieldLink RX8 76 "SailCargo" "refusedBy" "I"]
def wsX8_apart : List Cond := .code yX8_apart cX8_apart 4 (some .int) :: ((wsX8_apart_r1 ++ wsX8_apart_r2) ++ wsX80 ++ wsX10)
def wsX8_stow_r1 : List Cond := [Cond.fieldLink RX8 26 "SailCargo" "hold" "LSailCargo$Hold;", Cond.methodLink RX8 108 yX8_isWithin, Cond.static yX8_isWithin, Cond.initialized RX8, Cond.code yX8_isWithin cX8_isWithin 3 (some .boolean), Cond.methodLink RX8 143 yX1_fill, Cond.instanceMethod yX1_fill, Cond.selects RX1 yX1_fill yX1_fill, Cond.initialized RX1, Cond.code yX1_fill cX1_fill 2 none, Cond.fieldLink RX1 37 "SailCargo$Hold" "room" "I", Cond.fieldLink RX1 40 "SailCargo$Hold" "bestBits" "I", Cond.fieldLink RX1 43 "SailCargo$Hold" "bestTons" "I", Cond.fieldLink RX1 46 "SailCargo$Hold" "bestWorth" "I", Cond.fieldLink RX1 21 "SailCargo$Hold" "loads" "I", Cond.methodLink RX1 49 yX1_choose, Cond.instanceMethod yX1_choose, Cond.selects RX1 yX1_choose yX1_choose, Cond.code yX1_choose cX1_choose 5 none, Cond.fieldLink RX1 9 "SailCargo$Hold" "tons" "[I", Cond.fieldLink RX1 18 "SailCargo$Hold" "apartBits" "[I", Cond.fieldLink RX1 15 "SailCargo$Hold" "worth" "[I", Cond.methodLink RX1 53 yX1_keepIfBetter, Cond.instanceMethod yX1_keepIfBetter]
def wsX8_stow_r2 : List Cond := [Cond.selects RX1 yX1_keepIfBetter yX1_keepIfBetter, Cond.code yX1_keepIfBetter cX1_keepIfBetter 4 none]
def wsX8_stow : List Cond := .code yX8_stow cX8_stow 3 (some .int) :: ((wsX8_stow_r1 ++ wsX8_stow_r2) ++ wsX80 ++ wsX10)
def wsX8_berths_r1 : List Cond := [Cond.fieldLink RX8 33 "SailCargo" "harbour" "LSailCargo$Harbour;", Cond.methodLink RX8 156 yX0_setBerths, Cond.instanceMethod yX0_setBerths, Cond.selects RX0 yX0_setBerths yX0_setBerths, Cond.initialized RX0, Cond.code yX0_setBerths cX0_setBerths 4 (some .int), Cond.fieldLink RX0 39 "SailCargo$Harbour" "told" "I", Cond.fieldLink RX0 27 "SailCargo$Harbour" "isGivenUp" "[Z", Cond.fieldLink RX0 15 "SailCargo$Harbour" "port" "[I", Cond.fieldLink RX0 18 "SailCargo$Harbour" "berth" "[I", Cond.fieldLink RX0 11 "SailCargo$Harbour" "berthsOf" "[I", Cond.static yX8_isWithin, Cond.initialized RX8, Cond.code yX8_isWithin cX8_isWithin 3 (some .boolean), Cond.methodLink RX0 35 yX0_isPort, Cond.static yX0_isPort, Cond.code yX0_isPort cX0_isPort 1 (some .boolean), Cond.methodLink RX8 83 yX8_answered, Cond.instanceMethod yX8_answered, Cond.selects RX8 yX8_answered yX8_answered, Cond.code yX8_answered cX8_answered 2 (some .int), Cond.methodLink RX8 222 Lib.Math.min.name, Cond.static Lib.Math.min.name, Cond.initialized "java/lang/Math"]
def wsX8_berths_r2 : List Cond := [Cond.code Lib.Math.min.name Lib.Math.min.code 2 (some .int), Cond.fieldLink RX8 76 "SailCargo" "refusedBy" "I"]
def wsX8_berths : List Cond := .code yX8_berths cX8_berths 3 (some .int) :: ((wsX8_berths_r1 ++ wsX8_berths_r2) ++ wsX80 ++ wsX00)
def wsX8_slot_r1 : List Cond := [Cond.fieldLink RX8 33 "SailCargo" "harbour" "LSailCargo$Harbour;", Cond.methodLink RX8 159 yX0_grant, Cond.instanceMethod yX0_grant, Cond.selects RX0 yX0_grant yX0_grant, Cond.initialized RX0, Cond.code yX0_grant cX0_grant 8 (some .int), Cond.fieldLink RX0 11 "SailCargo$Harbour" "berthsOf" "[I", Cond.fieldLink RX0 39 "SailCargo$Harbour" "told" "I", Cond.static yX8_isWithin, Cond.initialized RX8, Cond.code yX8_isWithin cX8_isWithin 3 (some .boolean), Cond.methodLink RX0 35 yX0_isPort, Cond.static yX0_isPort, Cond.code yX0_isPort cX0_isPort 1 (some .boolean), Cond.methodLink RX0 43 yX0_firstFree, Cond.instanceMethod yX0_firstFree, Cond.selects RX0 yX0_firstFree yX0_firstFree, Cond.code yX0_firstFree cX0_firstFree 8 (some .int), Cond.fieldLink RX0 24 "SailCargo$Harbour" "last" "[I", Cond.methodLink RX0 53 yX0_slotInTheWay, Cond.instanceMethod yX0_slotInTheWay, Cond.selects RX0 yX0_slotInTheWay yX0_slotInTheWay, Cond.code yX0_slotInTheWay cX0_slotInTheWay 6 (some .int), Cond.fieldLink RX0 27 "SailCargo$Harbour" "isGivenUp" "[Z"]
def wsX8_slot_r2 : List Cond := [Cond.fieldLink RX0 15 "SailCargo$Harbour" "port" "[I", Cond.fieldLink RX0 18 "SailCargo$Harbour" "berth" "[I", Cond.fieldLink RX0 21 "SailCargo$Harbour" "first" "[I", Cond.methodLink RX0 47 yX0_keep, Cond.instanceMethod yX0_keep, Cond.selects RX0 yX0_keep yX0_keep, Cond.code yX0_keep cX0_keep 5 (some .int), Cond.fieldLink RX0 50 "SailCargo$Harbour" "held" "I", Cond.methodLink RX8 83 yX8_answered, Cond.instanceMethod yX8_answered, Cond.selects RX8 yX8_answered yX8_answered, Cond.code yX8_answered cX8_answered 2 (some .int), Cond.methodLink RX8 222 Lib.Math.min.name, Cond.static Lib.Math.min.name, Cond.initialized "java/lang/Math", Cond.code Lib.Math.min.name Lib.Math.min.code 2 (some .int), Cond.fieldLink RX8 76 "SailCargo" "refusedBy" "I"]
def wsX8_slot : List Cond := .code yX8_slot cX8_slot 4 (some .int) :: ((wsX8_slot_r1 ++ wsX8_slot_r2) ++ wsX80 ++ wsX00)
def wsX8_of : List Cond := .code yX8_of cX8_of 3 (some .int) :: ([.fieldLink RX8 33 "SailCargo" "harbour" "LSailCargo$Harbour;", .methodLink RX8 162 yX0_tell, .instanceMethod yX0_tell, .selects RX0 yX0_tell yX0_tell, .initialized RX0, .code yX0_tell cX0_tell 3 (some .int), .fieldLink RX0 15 "SailCargo$Harbour" "port" "[I", .fieldLink RX0 18 "SailCargo$Harbour" "berth" "[I", .fieldLink RX0 21 "SailCargo$Harbour" "first" "[I", .fieldLink RX0 24 "SailCargo$Harbour" "last" "[I", .methodLink RX0 56 yX0_isHeld, .instanceMethod yX0_isHeld, .selects RX0 yX0_isHeld yX0_isHeld, .code yX0_isHeld cX0_isHeld 2 (some .boolean), .fieldLink RX0 39 "SailCargo$Harbour" "told" "I", .fieldLink RX0 27 "SailCargo$Harbour" "isGivenUp" "[Z", .static yX8_isWithin, .initialized RX8, .code yX8_isWithin cX8_isWithin 3 (some .boolean)] ++ wsX80 ++ wsX00)
def wsX8_free_r1 : List Cond := [Cond.fieldLink RX8 33 "SailCargo" "harbour" "LSailCargo$Harbour;", Cond.methodLink RX8 164 yX0_giveUp, Cond.instanceMethod yX0_giveUp, Cond.selects RX0 yX0_giveUp yX0_giveUp, Cond.initialized RX0, Cond.code yX0_giveUp cX0_giveUp 2 (some .int), Cond.fieldLink RX0 27 "SailCargo$Harbour" "isGivenUp" "[Z", Cond.fieldLink RX0 50 "SailCargo$Harbour" "held" "I", Cond.methodLink RX0 56 yX0_isHeld, Cond.instanceMethod yX0_isHeld, Cond.selects RX0 yX0_isHeld yX0_isHeld, Cond.code yX0_isHeld cX0_isHeld 2 (some .boolean), Cond.fieldLink RX0 39 "SailCargo$Harbour" "told" "I", Cond.static yX8_isWithin, Cond.initialized RX8, Cond.code yX8_isWithin cX8_isWithin 3 (some .boolean), Cond.methodLink RX8 83 yX8_answered, Cond.instanceMethod yX8_answered, Cond.selects RX8 yX8_answered yX8_answered, Cond.code yX8_answered cX8_answered 2 (some .int), Cond.methodLink RX8 222 Lib.Math.min.name, Cond.static Lib.Math.min.name, Cond.initialized "java/lang/Math", Cond.code Lib.Math.min.name Lib.Math.min.code 2 (some .int)]
def wsX8_free_r2 : List Cond := [Cond.fieldLink RX8 76 "SailCargo" "refusedBy" "I"]
def wsX8_free : List Cond := .code yX8_free cX8_free 2 (some .int) :: ((wsX8_free_r1 ++ wsX8_free_r2) ++ wsX80 ++ wsX00)
def wsX8_feed : List Cond := .code yX8_feed cX8_feed 6 (some .int) :: ([.fieldLink RX8 40 "SailCargo" "tape" "LSailCargo$Tape;", .methodLink RX8 167 yX4_hasRoom, .instanceMethod yX4_hasRoom, .selects RX4 yX4_hasRoom yX4_hasRoom, .initialized RX4, .code yX4_hasRoom cX4_hasRoom 1 (some .boolean), .fieldLink RX4 13 "SailCargo$Tape" "length" "I", .methodLink RX8 171 yX4_add, .instanceMethod yX4_add, .selects RX4 yX4_add yX4_add, .code yX4_add cX4_add 3 none, .fieldLink RX4 9 "SailCargo$Tape" "bytes" "[I"] ++ wsX80 ++ wsX40)
def wsX8_end : List Cond := .code yX8_end cX8_end 2 (some .int) :: ([.fieldLink RX8 40 "SailCargo" "tape" "LSailCargo$Tape;", .methodLink RX8 108 yX8_isWithin, .static yX8_isWithin, .initialized RX8, .code yX8_isWithin cX8_isWithin 3 (some .boolean)] ++ wsX80 ++ wsX40)
def wsX8_contract_r1 : List Cond := [Cond.fieldLink RX8 49 "SailCargo" "reader" "LSailCargo$Reader;", Cond.fieldLink RX8 69 "SailCargo" "draft" "LSailCargo$Terms;", Cond.fieldLink RX8 72 "SailCargo" "faultPlace" "I", Cond.fieldLink RX8 40 "SailCargo" "tape" "LSailCargo$Tape;", Cond.fieldLink RX8 65 "SailCargo" "agreed" "LSailCargo$Terms;", Cond.methodLink RX8 176 yX3_read, Cond.instanceMethod yX3_read, Cond.selects RX3 yX3_read yX3_read, Cond.initialized RX3, Cond.code yX3_read cX3_read 3 (some .int), Cond.fieldLink RX3 21 "SailCargo$Reader" "tokenEnd" "I", Cond.fieldLink RX3 35 "SailCargo$Reader" "tokenStart" "I", Cond.methodLink RX3 24 yX3_advance, Cond.instanceMethod yX3_advance, Cond.selects RX3 yX3_advance yX3_advance, Cond.code yX3_advance cX3_advance 2 none, Cond.fieldLink RX3 9 "SailCargo$Reader" "tape" "LSailCargo$Tape;", Cond.methodLink RX3 27 yX3_isAtEnd, Cond.instanceMethod yX3_isAtEnd, Cond.selects RX3 yX3_isAtEnd yX3_isAtEnd, Cond.code yX3_isAtEnd cX3_isAtEnd 1 (some .boolean), Cond.methodLink RX3 78 yX3_sortOf, Cond.static yX3_sortOf, Cond.code yX3_sortOf cX3_sortOf 1 (some .int)]
def wsX8_contract_r2 : List Cond := [Cond.static yX8_isWithin, Cond.initialized RX8, Cond.code yX8_isWithin cX8_isWithin 3 (some .boolean), Cond.methodLink RX3 31 yX3_readClause, Cond.instanceMethod yX3_readClause, Cond.selects RX3 yX3_readClause yX3_readClause, Cond.code yX3_readClause cX3_readClause 6 (some .boolean), Cond.methodLink RX3 44 yX3_kindHere, Cond.instanceMethod yX3_kindHere, Cond.selects RX3 yX3_kindHere yX3_kindHere, Cond.code yX3_kindHere cX3_kindHere 2 (some .int), Cond.methodLink RX3 66 yX5_firstWord, Cond.static yX5_firstWord, Cond.initialized RX5, Cond.code yX5_firstWord cX5_firstWord 1 (some (.object "java/lang/String")), Cond.methodLink RX3 69 yX3_isHere, Cond.instanceMethod yX3_isHere, Cond.selects RX3 yX3_isHere yX3_isHere, Cond.code yX3_isHere cX3_isHere 3 (some .boolean), Cond.methodLink RX3 82 yJ0_length_8abf5, Cond.instanceMethod yJ0_length_8abf5, Cond.selects RJ0 yJ0_length_8abf5 yJ0_length_8abf5, Cond.initialized RJ0, Cond.code yJ0_length_8abf5 cJ0_length_8abf5 1 (some .int)]
def wsX8_contract_r3 : List Cond := [Cond.fieldLink RJ0 9 "java/lang/String" "value" "[B", Cond.methodLink RJ0 335 yJ0_coder_7d493, Cond.instanceMethod yJ0_coder_7d493, Cond.selects RJ0 yJ0_coder_7d493 yJ0_coder_7d493, Cond.code yJ0_coder_7d493 cJ0_coder_7d493 1 (some .byte), Cond.fieldLink RJ0 38 "java/lang/String" "COMPACT_STRINGS" "Z", Cond.fieldLink RJ0 15 "java/lang/String" "coder" "B", Cond.methodLink RX3 85 yJ0_charAt_5068e, Cond.instanceMethod yJ0_charAt_5068e, Cond.selects RJ0 yJ0_charAt_5068e yJ0_charAt_5068e, Cond.code yJ0_charAt_5068e cJ0_charAt_5068e 2 (some .char), Cond.methodLink RJ0 492 yJ0_isLatin1_aae02, Cond.instanceMethod yJ0_isLatin1_aae02, Cond.selects RJ0 yJ0_isLatin1_aae02 yJ0_isLatin1_aae02, Cond.code yJ0_isLatin1_aae02 cJ0_isLatin1_aae02 1 (some .boolean), Cond.methodLink RJ0 495 yJ1_charAt_3b067, Cond.static yJ1_charAt_3b067, Cond.initialized RJ1, Cond.code yJ1_charAt_3b067 cJ1_charAt_3b067 2 (some .char), Cond.methodLink RJ1 9 yJ0_checkIndex_df160, Cond.static yJ0_checkIndex_df160, Cond.code yJ0_checkIndex_df160 cJ0_checkIndex_df160 2 none, Cond.fieldLink RJ0 1053 "jdk/internal/util/Preconditions" "SIOOBE_FORMATTER" "Ljava/util/function/BiFunction;", Cond.methodLink RJ0 1059 yJ3_checkIndex_8e157]
def wsX8_contract_r4 : List Cond := [Cond.static yJ3_checkIndex_8e157, Cond.initialized RJ3, Cond.code yJ3_checkIndex_8e157 cJ3_checkIndex_8e157 3 (some .int), Cond.methodLink RJ0 498 yJ2_charAt_3b067, Cond.static yJ2_charAt_3b067, Cond.initialized RJ2, Cond.code yJ2_charAt_3b067 cJ2_charAt_3b067 2 (some .char), Cond.methodLink RJ2 67 yJ2_checkIndex_2214a, Cond.static yJ2_checkIndex_2214a, Cond.code yJ2_checkIndex_2214a cJ2_checkIndex_2214a 2 none, Cond.methodLink RJ2 48 yJ2_length_9d52b, Cond.static yJ2_length_9d52b, Cond.code yJ2_length_9d52b cJ2_length_9d52b 1 (some .int), Cond.methodLink RJ2 414 yJ0_checkIndex_df160, Cond.methodLink RJ2 71 yJ2_getChar_3b067, Cond.static yJ2_getChar_3b067, Cond.code yJ2_getChar_3b067 cJ2_getChar_3b067 2 (some .char), Cond.fieldLink RJ2 44 "java/lang/StringUTF16" "$assertionsDisabled" "Z", Cond.fieldLink RJ2 59 "java/lang/StringUTF16" "HI_BYTE_SHIFT" "I", Cond.fieldLink RJ2 63 "java/lang/StringUTF16" "LO_BYTE_SHIFT" "I", Cond.methodLink RX3 40 yX3_passes, Cond.instanceMethod yX3_passes, Cond.selects RX3 yX3_passes yX3_passes, Cond.code yX3_passes cX3_passes 2 (some .boolean)]
def wsX8_contract_r5 : List Cond := [Cond.methodLink RX3 50 yX3_numberHere, Cond.instanceMethod yX3_numberHere, Cond.selects RX3 yX3_numberHere yX3_numberHere, Cond.code yX3_numberHere cX3_numberHere 3 (some .int), Cond.methodLink RX3 53 yX5_wordBetween, Cond.static yX5_wordBetween, Cond.code yX5_wordBetween cX5_wordBetween 1 (some (.object "java/lang/String")), Cond.methodLink RX3 57 yJ0_isEmpty_aae02, Cond.instanceMethod yJ0_isEmpty_aae02, Cond.selects RJ0 yJ0_isEmpty_aae02 yJ0_isEmpty_aae02, Cond.code yJ0_isEmpty_aae02 cJ0_isEmpty_aae02 1 (some .boolean), Cond.methodLink RX3 62 yX5_add, Cond.instanceMethod yX5_add, Cond.selects RX5 yX5_add yX5_add, Cond.code yX5_add cX5_add 4 none, Cond.fieldLink RX5 19 "SailCargo$Terms" "clauses" "I", Cond.fieldLink RX5 9 "SailCargo$Terms" "kind" "[I", Cond.fieldLink RX5 13 "SailCargo$Terms" "amount" "[I", Cond.fieldLink RX5 16 "SailCargo$Terms" "mark" "[I", Cond.methodLink RX8 83 yX8_answered, Cond.instanceMethod yX8_answered, Cond.selects RX8 yX8_answered yX8_answered, Cond.code yX8_answered cX8_answered 2 (some .int), Cond.methodLink RX8 222 Lib.Math.min.name]
def wsX8_contract_r6 : List Cond := [Cond.static Lib.Math.min.name, Cond.initialized "java/lang/Math", Cond.code Lib.Math.min.name Lib.Math.min.code 2 (some .int), Cond.fieldLink RX8 76 "SailCargo" "refusedBy" "I"]
def wsX8_contract : List Cond := .code yX8_contract cX8_contract 2 (some .int) :: ((wsX8_contract_r1 ++ (wsX8_contract_r2 ++ (wsX8_contract_r3 ++ (wsX8_contract_r4 ++ (wsX8_contract_r5 ++ wsX8_contract_r6))))) ++ wsX80 ++ wsX40 ++ wsX50 ++ wsX30)
def wsX8_fault : List Cond := .code yX8_fault cX8_fault 1 (some .int) :: ([.fieldLink RX8 72 "SailCargo" "faultPlace" "I"] ++ wsX80)
def wsX8_isTerm : List Cond := .code yX8_isTerm cX8_isTerm 1 (some .boolean) :: ([.methodLink RX8 108 yX8_isWithin, .static yX8_isWithin, .initialized RX8, .code yX8_isWithin cX8_isWithin 3 (some .boolean)])
def wsX8_due_r1 : List Cond := [Cond.constant RX8 186 (1000000), Cond.constantLong RX8 111 (-1), Cond.fieldLink RX8 65 "SailCargo" "agreed" "LSailCargo$Terms;", Cond.methodLink RX8 183 yX8_isTerm, Cond.static yX8_isTerm, Cond.initialized RX8, Cond.code yX8_isTerm cX8_isTerm 1 (some .boolean), Cond.methodLink RX8 108 yX8_isWithin, Cond.static yX8_isWithin, Cond.code yX8_isWithin cX8_isWithin 3 (some .boolean), Cond.methodLink RX8 187 yX5_sum, Cond.instanceMethod yX5_sum, Cond.selects RX5 yX5_sum yX5_sum, Cond.initialized RX5, Cond.code yX5_sum cX5_sum 7 (some .long), Cond.fieldLink RX5 19 "SailCargo$Terms" "clauses" "I", Cond.methodLink RX5 23 yX5_after, Cond.instanceMethod yX5_after, Cond.selects RX5 yX5_after yX5_after, Cond.code yX5_after cX5_after 11 (some .long), Cond.fieldLink RX5 13 "SailCargo$Terms" "amount" "[I", Cond.fieldLink RX5 16 "SailCargo$Terms" "mark" "[I", Cond.fieldLink RX5 9 "SailCargo$Terms" "kind" "[I", Cond.methodLink RX5 27 Lib.MathLoose.max_long.x]
def wsX8_due_r2 : List Cond := [Cond.static Lib.MathLoose.max_long.x, Cond.initialized "java/lang/Math", Cond.code Lib.MathLoose.max_long.x Lib.MathLoose.max_long.code 4 (some .long), Cond.methodLink RX5 33 Lib.MathLoose.min_long.x, Cond.static Lib.MathLoose.min_long.x, Cond.code Lib.MathLoose.min_long.x Lib.MathLoose.min_long.code 4 (some .long)]
def wsX8_due : List Cond := .code yX8_due cX8_due 4 (some .long) :: ((wsX8_due_r1 ++ wsX8_due_r2) ++ wsX80 ++ wsX50)
def wsX8_leg : List Cond := .code yX8_leg cX8_leg 2 (some .int) :: ([.fieldLink RX8 58 "SailCargo" "voyage" "LSailCargo$Voyage;", .methodLink RX8 190 yX6_add, .instanceMethod yX6_add, .selects RX6 yX6_add yX6_add, .initialized RX6, .code yX6_add cX6_add 2 (some .int), .constant RX6 33 (100000), .fieldLink RX6 25 "SailCargo$Voyage" "legs" "I", .fieldLink RX6 11 "SailCargo$Voyage" "legSmoke" "[I", .static yX8_isWithin, .initialized RX8, .code yX8_isWithin cX8_isWithin 3 (some .boolean), .methodLink RX8 83 yX8_answered, .instanceMethod yX8_answered, .selects RX8 yX8_answered yX8_answered, .code yX8_answered cX8_answered 2 (some .int), .methodLink RX8 222 Lib.Math.min.name, .static Lib.Math.min.name, .initialized "java/lang/Math", .code Lib.Math.min.name Lib.Math.min.code 2 (some .int), .fieldLink RX8 76 "SailCargo" "refusedBy" "I"] ++ wsX80 ++ wsX60)
def wsX8_aboard_r1 : List Cond := [Cond.fieldLink RX8 58 "SailCargo" "voyage" "LSailCargo$Voyage;", Cond.methodLink RX8 192 yX6_take, Cond.instanceMethod yX6_take, Cond.selects RX6 yX6_take yX6_take, Cond.initialized RX6, Cond.code yX6_take cX6_take 4 (some .int), Cond.fieldLink RX6 21 "SailCargo$Voyage" "hold" "LSailCargo$Hold;", Cond.fieldLink RX6 15 "SailCargo$Voyage" "firstLeg" "[I", Cond.fieldLink RX6 18 "SailCargo$Voyage" "lastLeg" "[I", Cond.methodLink RX6 34 yX1_has, Cond.instanceMethod yX1_has, Cond.selects RX1 yX1_has yX1_has, Cond.initialized RX1, Cond.code yX1_has cX1_has 2 (some .boolean), Cond.fieldLink RX1 21 "SailCargo$Hold" "loads" "I", Cond.static yX8_isWithin, Cond.initialized RX8, Cond.code yX8_isWithin cX8_isWithin 3 (some .boolean), Cond.methodLink RX6 40 yX6_has, Cond.instanceMethod yX6_has, Cond.selects RX6 yX6_has yX6_has, Cond.code yX6_has cX6_has 2 (some .boolean), Cond.fieldLink RX6 25 "SailCargo$Voyage" "legs" "I", Cond.methodLink RX8 83 yX8_answered]
def wsX8_aboard_r2 : List Cond := [Cond.instanceMethod yX8_answered, Cond.selects RX8 yX8_answered yX8_answered, Cond.code yX8_answered cX8_answered 2 (some .int), Cond.methodLink RX8 222 Lib.Math.min.name, Cond.static Lib.Math.min.name, Cond.initialized "java/lang/Math", Cond.code Lib.Math.min.name Lib.Math.min.code 2 (some .int), Cond.fieldLink RX8 76 "SailCargo" "refusedBy" "I"]
def wsX8_aboard : List Cond := .code yX8_aboard cX8_aboard 4 (some .int) :: ((wsX8_aboard_r1 ++ wsX8_aboard_r2) ++ wsX80 ++ wsX60 ++ wsX10)
def wsX8_part_r1 : List Cond := [Cond.fieldLink RX8 26 "SailCargo" "hold" "LSailCargo$Hold;", Cond.fieldLink RX8 58 "SailCargo" "voyage" "LSailCargo$Voyage;", Cond.methodLink RX8 195 yX1_has, Cond.instanceMethod yX1_has, Cond.selects RX1 yX1_has yX1_has, Cond.initialized RX1, Cond.code yX1_has cX1_has 2 (some .boolean), Cond.fieldLink RX1 21 "SailCargo$Hold" "loads" "I", Cond.static yX8_isWithin, Cond.initialized RX8, Cond.code yX8_isWithin cX8_isWithin 3 (some .boolean), Cond.methodLink RX8 198 yX6_has, Cond.instanceMethod yX6_has, Cond.selects RX6 yX6_has yX6_has, Cond.initialized RX6, Cond.code yX6_has cX6_has 2 (some .boolean), Cond.fieldLink RX6 25 "SailCargo$Voyage" "legs" "I", Cond.methodLink RX8 199 yX6_partOf, Cond.instanceMethod yX6_partOf, Cond.selects RX6 yX6_partOf yX6_partOf, Cond.code yX6_partOf cX6_partOf 9 (some .int), Cond.fieldLink RX6 11 "SailCargo$Voyage" "legSmoke" "[I", Cond.fieldLink RX6 21 "SailCargo$Voyage" "hold" "LSailCargo$Hold;", Cond.methodLink RX6 41 yX6_tonsAboard]
def wsX8_part_r2 : List Cond := [Cond.instanceMethod yX6_tonsAboard, Cond.selects RX6 yX6_tonsAboard yX6_tonsAboard, Cond.code yX6_tonsAboard cX6_tonsAboard 4 (some .int), Cond.methodLink RX6 45 yX6_isAboard, Cond.instanceMethod yX6_isAboard, Cond.selects RX6 yX6_isAboard yX6_isAboard, Cond.code yX6_isAboard cX6_isAboard 3 (some .boolean), Cond.fieldLink RX6 15 "SailCargo$Voyage" "firstLeg" "[I", Cond.fieldLink RX6 18 "SailCargo$Voyage" "lastLeg" "[I", Cond.methodLink RX6 55 yX6_isServedFirst, Cond.static yX6_isServedFirst, Cond.code yX6_isServedFirst cX6_isServedFirst 4 (some .boolean)]
def wsX8_part : List Cond := .code yX8_part cX8_part 3 (some .int) :: ((wsX8_part_r1 ++ wsX8_part_r2) ++ wsX80 ++ wsX10 ++ wsX60)
def wsX8_smoke_r1 : List Cond := [Cond.fieldLink RX8 58 "SailCargo" "voyage" "LSailCargo$Voyage;", Cond.fieldLink RX8 26 "SailCargo" "hold" "LSailCargo$Hold;", Cond.methodLink RX8 202 yX6_ownSmoke, Cond.instanceMethod yX6_ownSmoke, Cond.selects RX6 yX6_ownSmoke yX6_ownSmoke, Cond.initialized RX6, Cond.code yX6_ownSmoke cX6_ownSmoke 3 (some .int), Cond.fieldLink RX6 25 "SailCargo$Voyage" "legs" "I", Cond.fieldLink RX6 11 "SailCargo$Voyage" "legSmoke" "[I", Cond.methodLink RX6 41 yX6_tonsAboard, Cond.instanceMethod yX6_tonsAboard, Cond.selects RX6 yX6_tonsAboard yX6_tonsAboard, Cond.code yX6_tonsAboard cX6_tonsAboard 4 (some .int), Cond.fieldLink RX6 21 "SailCargo$Voyage" "hold" "LSailCargo$Hold;", Cond.methodLink RX6 45 yX6_isAboard, Cond.instanceMethod yX6_isAboard, Cond.selects RX6 yX6_isAboard yX6_isAboard, Cond.code yX6_isAboard cX6_isAboard 3 (some .boolean), Cond.fieldLink RX6 15 "SailCargo$Voyage" "firstLeg" "[I", Cond.fieldLink RX6 18 "SailCargo$Voyage" "lastLeg" "[I", Cond.methodLink RX8 195 yX1_has, Cond.instanceMethod yX1_has, Cond.selects RX1 yX1_has yX1_has, Cond.initialized RX1]
def wsX8_smoke_r2 : List Cond := [Cond.code yX1_has cX1_has 2 (some .boolean), Cond.fieldLink RX1 21 "SailCargo$Hold" "loads" "I", Cond.static yX8_isWithin, Cond.initialized RX8, Cond.code yX8_isWithin cX8_isWithin 3 (some .boolean), Cond.methodLink RX8 206 yX6_smokeOf, Cond.instanceMethod yX6_smokeOf, Cond.selects RX6 yX6_smokeOf yX6_smokeOf, Cond.code yX6_smokeOf cX6_smokeOf 4 (some .int), Cond.methodLink RX6 59 yX6_partOf, Cond.instanceMethod yX6_partOf, Cond.selects RX6 yX6_partOf yX6_partOf, Cond.code yX6_partOf cX6_partOf 9 (some .int), Cond.methodLink RX6 55 yX6_isServedFirst, Cond.static yX6_isServedFirst, Cond.code yX6_isServedFirst cX6_isServedFirst 4 (some .boolean)]
def wsX8_smoke : List Cond := .code yX8_smoke cX8_smoke 2 (some .int) :: ((wsX8_smoke_r1 ++ wsX8_smoke_r2) ++ wsX80 ++ wsX60 ++ wsX10)
def wsX8_count : List Cond := .code yX8_count cX8_count 2 (some .int) :: ([.fieldLink RX8 10 "SailCargo" "weather" "LSailCargo$Weather;", .fieldLink RX8 26 "SailCargo" "hold" "LSailCargo$Hold;", .fieldLink RX8 33 "SailCargo" "harbour" "LSailCargo$Harbour;", .fieldLink RX8 65 "SailCargo" "agreed" "LSailCargo$Terms;", .fieldLink RX8 58 "SailCargo" "voyage" "LSailCargo$Voyage;", .fieldLink RX8 40 "SailCargo" "tape" "LSailCargo$Tape;"] ++ wsX80 ++ wsX70 ++ wsX10 ++ wsX00 ++ wsX50 ++ wsX60 ++ wsX40)
def wsX8_status : List Cond := .code yX8_status cX8_status 1 (some .int) :: ([.fieldLink RX8 76 "SailCargo" "refusedBy" "I"] ++ wsX80)
def wsX9_init_r1 : List Cond := [Cond.methodLink RX9 1 objectInit, Cond.instanceMethod objectInit, Cond.code objectInit ⟨#[0xb1]⟩ 1 none, Cond.arrayClass .int, Cond.fieldLink RX9 7 "SailCargoModel" "weights" "[I", Cond.fieldLink RX9 13 "SailCargoModel" "windKnown" "[I", Cond.fieldLink RX9 16 "SailCargoModel" "sails" "[I", Cond.arrayClass .long, Cond.fieldLink RX9 19 "SailCargoModel" "chance" "[J", Cond.fieldLink RX9 23 "SailCargoModel" "burnt" "[J", Cond.fieldLink RX9 26 "SailCargoModel" "weighs" "[I", Cond.fieldLink RX9 29 "SailCargoModel" "lTons" "[I", Cond.fieldLink RX9 32 "SailCargoModel" "lWorth" "[I", Cond.fieldLink RX9 35 "SailCargoModel" "lApart" "[I", Cond.fieldLink RX9 38 "SailCargoModel" "lFrom" "[I", Cond.fieldLink RX9 41 "SailCargoModel" "lTo" "[I", Cond.fieldLink RX9 44 "SailCargoModel" "berths" "[I", Cond.fieldLink RX9 47 "SailCargoModel" "sPort" "[I", Cond.fieldLink RX9 50 "SailCargoModel" "sBerth" "[I", Cond.fieldLink RX9 53 "SailCargoModel" "sFirst" "[I", Cond.fieldLink RX9 56 "SailCargoModel" "sLast" "[I", Cond.fieldLink RX9 59 "SailCargoModel" "cSort" "[I", Cond.fieldLink RX9 62 "SailCargoModel" "cA" "[I", Cond.fieldLink RX9 65 "SailCargoModel" "cB" "[I"]
def wsX9_init_r2 : List Cond := [Cond.fieldLink RX9 68 "SailCargoModel" "nClause" "[I", Cond.fieldLink RX9 71 "SailCargoModel" "tape" "[I", Cond.fieldLink RX9 74 "SailCargoModel" "fault" "I", Cond.fieldLink RX9 78 "SailCargoModel" "smokes" "[I"]
def wsX9_init : List Cond := .code yX9_init cX9_init 1 none :: ((wsX9_init_r1 ++ wsX9_init_r2) ++ wsX90)
def wsX9_in : List Cond := .code yX9_in cX9_in 6 (some .boolean) :: ([])
def wsX9_told : List Cond := .code yX9_told cX9_told 2 (some .int) :: ([.fieldLink RX9 84 "SailCargoModel" "status" "I"] ++ wsX90)
def wsX9_isKnown : List Cond := .code yX9_isKnown cX9_isKnown 1 (some .boolean) :: ([.constantLong RX9 87 (1000), .methodLink RX9 89 yX9_in, .static yX9_in, .initialized RX9, .code yX9_in cX9_in 6 (some .boolean)])
def wsX9_winds : List Cond := .code yX9_winds cX9_winds 7 (some .int) :: ([.fieldLink RX9 81 "SailCargoModel" "thrown" "I", .constantLong RX9 93 (16), .fieldLink RX9 103 "SailCargoModel" "windsTold" "I", .fieldLink RX9 7 "SailCargoModel" "weights" "[I", .fieldLink RX9 13 "SailCargoModel" "windKnown" "[I", .methodLink RX9 89 yX9_in, .static yX9_in, .initialized RX9, .code yX9_in cX9_in 6 (some .boolean), .methodLink RX9 95 yX9_isKnown, .static yX9_isKnown, .code yX9_isKnown cX9_isKnown 1 (some .boolean), .constantLong RX9 87 (1000), .methodLink RX9 99 yX9_told, .instanceMethod yX9_told, .selects RX9 yX9_told yX9_told, .code yX9_told cX9_told 2 (some .int), .fieldLink RX9 84 "SailCargoModel" "status" "I"] ++ wsX90)
def wsX9_findWeights : List Cond := .code yX9_findWeights cX9_findWeights 4 none :: ([.fieldLink RX9 103 "SailCargoModel" "windsTold" "I", .fieldLink RX9 13 "SailCargoModel" "windKnown" "[I", .fieldLink RX9 26 "SailCargoModel" "weighs" "[I", .fieldLink RX9 7 "SailCargoModel" "weights" "[I"] ++ wsX90)
def wsX9_weight : List Cond := .code yX9_weight cX9_weight 3 (some .int) :: ([.fieldLink RX9 81 "SailCargoModel" "thrown" "I", .constantLong RX9 106 (3), .fieldLink RX9 26 "SailCargoModel" "weighs" "[I", .methodLink RX9 89 yX9_in, .static yX9_in, .initialized RX9, .code yX9_in cX9_in 6 (some .boolean), .methodLink RX9 95 yX9_isKnown, .static yX9_isKnown, .code yX9_isKnown cX9_isKnown 1 (some .boolean), .constantLong RX9 87 (1000), .methodLink RX9 108 yX9_findWeights, .instanceMethod yX9_findWeights, .selects RX9 yX9_findWeights yX9_findWeights, .code yX9_findWeights cX9_findWeights 4 none, .fieldLink RX9 103 "SailCargoModel" "windsTold" "I", .fieldLink RX9 13 "SailCargoModel" "windKnown" "[I", .fieldLink RX9 7 "SailCargoModel" "weights" "[I"] ++ wsX90)
def wsX9_sails : List Cond := .code yX9_sails cX9_sails 3 (some .int) :: ([.fieldLink RX9 81 "SailCargoModel" "thrown" "I", .constantLong RX9 106 (3), .constantLong RX9 112 (20), .fieldLink RX9 16 "SailCargoModel" "sails" "[I", .methodLink RX9 89 yX9_in, .static yX9_in, .initialized RX9, .code yX9_in cX9_in 6 (some .boolean), .methodLink RX9 99 yX9_told, .instanceMethod yX9_told, .selects RX9 yX9_told yX9_told, .code yX9_told cX9_told 2 (some .int), .fieldLink RX9 84 "SailCargoModel" "status" "I"] ++ wsX90)
def wsX9_engine : List Cond := .code yX9_engine cX9_engine 3 (some .int) :: ([.fieldLink RX9 81 "SailCargoModel" "thrown" "I", .constantLong RX9 112 (20), .fieldLink RX9 114 "SailCargoModel" "engine" "I", .methodLink RX9 89 yX9_in, .static yX9_in, .initialized RX9, .code yX9_in cX9_in 6 (some .boolean), .methodLink RX9 99 yX9_told, .instanceMethod yX9_told, .selects RX9 yX9_told yX9_told, .code yX9_told cX9_told 2 (some .int), .fieldLink RX9 84 "SailCargoModel" "status" "I"] ++ wsX90)
def wsX9_at : List Cond := .code yX9_at cX9_at 3 (some .int) :: ([])
def wsX9_take : List Cond := .code yX9_take cX9_take 9 none :: ([.fieldLink RX9 19 "SailCargoModel" "chance" "[J", .fieldLink RX9 23 "SailCargoModel" "burnt" "[J", .fieldLink RX9 117 "SailCargoModel" "wayOf" "I", .fieldLink RX9 120 "SailCargoModel" "wayChance" "J", .fieldLink RX9 124 "SailCargoModel" "wayBurnt" "J"] ++ wsX90)
def wsX9_choose : List Cond := .code yX9_choose cX9_choose 7 none :: ([.fieldLink RX9 117 "SailCargoModel" "wayOf" "I", .fieldLink RX9 16 "SailCargoModel" "sails" "[I", .fieldLink RX9 114 "SailCargoModel" "engine" "I", .methodLink RX9 127 yX9_at, .static yX9_at, .initialized RX9, .code yX9_at cX9_at 3 (some .int), .methodLink RX9 131 yX9_take, .instanceMethod yX9_take, .selects RX9 yX9_take yX9_take, .code yX9_take cX9_take 9 none, .fieldLink RX9 19 "SailCargoModel" "chance" "[J", .fieldLink RX9 23 "SailCargoModel" "burnt" "[J", .fieldLink RX9 120 "SailCargoModel" "wayChance" "J", .fieldLink RX9 124 "SailCargoModel" "wayBurnt" "J"] ++ wsX90)
def wsX9_find_r1 : List Cond := [Cond.fieldLink RX9 19 "SailCargoModel" "chance" "[J", Cond.fieldLink RX9 23 "SailCargoModel" "burnt" "[J", Cond.constantLong RX9 93 (16), Cond.fieldLink RX9 26 "SailCargoModel" "weighs" "[I", Cond.fieldLink RX9 120 "SailCargoModel" "wayChance" "J", Cond.fieldLink RX9 124 "SailCargoModel" "wayBurnt" "J", Cond.methodLink RX9 108 yX9_findWeights, Cond.instanceMethod yX9_findWeights, Cond.selects RX9 yX9_findWeights yX9_findWeights, Cond.initialized RX9, Cond.code yX9_findWeights cX9_findWeights 4 none, Cond.fieldLink RX9 103 "SailCargoModel" "windsTold" "I", Cond.fieldLink RX9 13 "SailCargoModel" "windKnown" "[I", Cond.fieldLink RX9 7 "SailCargoModel" "weights" "[I", Cond.methodLink RX9 127 yX9_at, Cond.static yX9_at, Cond.code yX9_at cX9_at 3 (some .int), Cond.methodLink RX9 135 yX9_choose, Cond.instanceMethod yX9_choose, Cond.selects RX9 yX9_choose yX9_choose, Cond.code yX9_choose cX9_choose 7 none, Cond.fieldLink RX9 117 "SailCargoModel" "wayOf" "I", Cond.fieldLink RX9 16 "SailCargoModel" "sails" "[I", Cond.fieldLink RX9 114 "SailCargoModel" "engine" "I"]
def wsX9_find_r2 : List Cond := [Cond.methodLink RX9 131 yX9_take, Cond.instanceMethod yX9_take, Cond.selects RX9 yX9_take yX9_take, Cond.code yX9_take cX9_take 9 none]
def wsX9_find : List Cond := .code yX9_find cX9_find 12 none :: ((wsX9_find_r1 ++ wsX9_find_r2) ++ wsX90)
def wsX9_areVoyage : List Cond := .code yX9_areVoyage cX9_areVoyage 4 (some .boolean) :: ([.constantLong RX9 139 (120), .constantLong RX9 141 (12), .methodLink RX9 89 yX9_in, .static yX9_in, .initialized RX9, .code yX9_in cX9_in 6 (some .boolean), .methodLink RX9 95 yX9_isKnown, .static yX9_isKnown, .code yX9_isKnown cX9_isKnown 1 (some .boolean), .constantLong RX9 87 (1000)])
def wsX9_luck_r1 : List Cond := [Cond.fieldLink RX9 81 "SailCargoModel" "thrown" "I", Cond.constantLong RX9 147 (-1), Cond.fieldLink RX9 19 "SailCargoModel" "chance" "[J", Cond.fieldLink RX9 23 "SailCargoModel" "burnt" "[J", Cond.methodLink RX9 143 yX9_areVoyage, Cond.static yX9_areVoyage, Cond.initialized RX9, Cond.code yX9_areVoyage cX9_areVoyage 4 (some .boolean), Cond.constantLong RX9 139 (120), Cond.constantLong RX9 141 (12), Cond.methodLink RX9 89 yX9_in, Cond.static yX9_in, Cond.code yX9_in cX9_in 6 (some .boolean), Cond.methodLink RX9 95 yX9_isKnown, Cond.static yX9_isKnown, Cond.code yX9_isKnown cX9_isKnown 1 (some .boolean), Cond.constantLong RX9 87 (1000), Cond.methodLink RX9 149 yX9_find, Cond.instanceMethod yX9_find, Cond.selects RX9 yX9_find yX9_find, Cond.code yX9_find cX9_find 12 none, Cond.constantLong RX9 93 (16), Cond.fieldLink RX9 26 "SailCargoModel" "weighs" "[I", Cond.fieldLink RX9 120 "SailCargoModel" "wayChance" "J"]
def wsX9_luck_r2 : List Cond := [Cond.fieldLink RX9 124 "SailCargoModel" "wayBurnt" "J", Cond.methodLink RX9 108 yX9_findWeights, Cond.instanceMethod yX9_findWeights, Cond.selects RX9 yX9_findWeights yX9_findWeights, Cond.code yX9_findWeights cX9_findWeights 4 none, Cond.fieldLink RX9 103 "SailCargoModel" "windsTold" "I", Cond.fieldLink RX9 13 "SailCargoModel" "windKnown" "[I", Cond.fieldLink RX9 7 "SailCargoModel" "weights" "[I", Cond.methodLink RX9 127 yX9_at, Cond.static yX9_at, Cond.code yX9_at cX9_at 3 (some .int), Cond.methodLink RX9 135 yX9_choose, Cond.instanceMethod yX9_choose, Cond.selects RX9 yX9_choose yX9_choose, Cond.code yX9_choose cX9_choose 7 none, Cond.fieldLink RX9 117 "SailCargoModel" "wayOf" "I", Cond.fieldLink RX9 16 "SailCargoModel" "sails" "[I", Cond.fieldLink RX9 114 "SailCargoModel" "engine" "I", Cond.methodLink RX9 131 yX9_take, Cond.instanceMethod yX9_take, Cond.selects RX9 yX9_take yX9_take, Cond.code yX9_take cX9_take 9 none]
def wsX9_luck : List Cond := .code yX9_luck cX9_luck 6 (some .long) :: ((wsX9_luck_r1 ++ wsX9_luck_r2) ++ wsX90)
def wsX9_choice_r1 : List Cond := [Cond.fieldLink RX9 81 "SailCargoModel" "thrown" "I", Cond.constantLong RX9 106 (3), Cond.constantLong RX9 93 (16), Cond.fieldLink RX9 117 "SailCargoModel" "wayOf" "I", Cond.methodLink RX9 143 yX9_areVoyage, Cond.static yX9_areVoyage, Cond.initialized RX9, Cond.code yX9_areVoyage cX9_areVoyage 4 (some .boolean), Cond.constantLong RX9 139 (120), Cond.constantLong RX9 141 (12), Cond.methodLink RX9 89 yX9_in, Cond.static yX9_in, Cond.code yX9_in cX9_in 6 (some .boolean), Cond.methodLink RX9 95 yX9_isKnown, Cond.static yX9_isKnown, Cond.code yX9_isKnown cX9_isKnown 1 (some .boolean), Cond.constantLong RX9 87 (1000), Cond.methodLink RX9 149 yX9_find, Cond.instanceMethod yX9_find, Cond.selects RX9 yX9_find yX9_find, Cond.code yX9_find cX9_find 12 none, Cond.fieldLink RX9 19 "SailCargoModel" "chance" "[J", Cond.fieldLink RX9 23 "SailCargoModel" "burnt" "[J", Cond.fieldLink RX9 26 "SailCargoModel" "weighs" "[I"]
def wsX9_choice_r2 : List Cond := [Cond.fieldLink RX9 120 "SailCargoModel" "wayChance" "J", Cond.fieldLink RX9 124 "SailCargoModel" "wayBurnt" "J", Cond.methodLink RX9 108 yX9_findWeights, Cond.instanceMethod yX9_findWeights, Cond.selects RX9 yX9_findWeights yX9_findWeights, Cond.code yX9_findWeights cX9_findWeights 4 none, Cond.fieldLink RX9 103 "SailCargoModel" "windsTold" "I", Cond.fieldLink RX9 13 "SailCargoModel" "windKnown" "[I", Cond.fieldLink RX9 7 "SailCargoModel" "weights" "[I", Cond.methodLink RX9 127 yX9_at, Cond.static yX9_at, Cond.code yX9_at cX9_at 3 (some .int), Cond.methodLink RX9 135 yX9_choose, Cond.instanceMethod yX9_choose, Cond.selects RX9 yX9_choose yX9_choose, Cond.code yX9_choose cX9_choose 7 none, Cond.fieldLink RX9 16 "SailCargoModel" "sails" "[I", Cond.fieldLink RX9 114 "SailCargoModel" "engine" "I", Cond.methodLink RX9 131 yX9_take, Cond.instanceMethod yX9_take, Cond.selects RX9 yX9_take yX9_take, Cond.code yX9_take cX9_take 9 none]
def wsX9_choice : List Cond := .code yX9_choice cX9_choice 9 (some .int) :: ((wsX9_choice_r1 ++ wsX9_choice_r2) ++ wsX90)
def wsX9_promise_r1 : List Cond := [Cond.fieldLink RX9 81 "SailCargoModel" "thrown" "I", Cond.constantLong RX9 93 (16), Cond.fieldLink RX9 19 "SailCargoModel" "chance" "[J", Cond.methodLink RX9 143 yX9_areVoyage, Cond.static yX9_areVoyage, Cond.initialized RX9, Cond.code yX9_areVoyage cX9_areVoyage 4 (some .boolean), Cond.constantLong RX9 139 (120), Cond.constantLong RX9 141 (12), Cond.methodLink RX9 89 yX9_in, Cond.static yX9_in, Cond.code yX9_in cX9_in 6 (some .boolean), Cond.methodLink RX9 95 yX9_isKnown, Cond.static yX9_isKnown, Cond.code yX9_isKnown cX9_isKnown 1 (some .boolean), Cond.constantLong RX9 87 (1000), Cond.methodLink RX9 149 yX9_find, Cond.instanceMethod yX9_find, Cond.selects RX9 yX9_find yX9_find, Cond.code yX9_find cX9_find 12 none, Cond.fieldLink RX9 23 "SailCargoModel" "burnt" "[J", Cond.fieldLink RX9 26 "SailCargoModel" "weighs" "[I", Cond.fieldLink RX9 120 "SailCargoModel" "wayChance" "J", Cond.fieldLink RX9 124 "SailCargoModel" "wayBurnt" "J"]
def wsX9_promise_r2 : List Cond := [Cond.methodLink RX9 108 yX9_findWeights, Cond.instanceMethod yX9_findWeights, Cond.selects RX9 yX9_findWeights yX9_findWeights, Cond.code yX9_findWeights cX9_findWeights 4 none, Cond.fieldLink RX9 103 "SailCargoModel" "windsTold" "I", Cond.fieldLink RX9 13 "SailCargoModel" "windKnown" "[I", Cond.fieldLink RX9 7 "SailCargoModel" "weights" "[I", Cond.methodLink RX9 127 yX9_at, Cond.static yX9_at, Cond.code yX9_at cX9_at 3 (some .int), Cond.methodLink RX9 135 yX9_choose, Cond.instanceMethod yX9_choose, Cond.selects RX9 yX9_choose yX9_choose, Cond.code yX9_choose cX9_choose 7 none, Cond.fieldLink RX9 117 "SailCargoModel" "wayOf" "I", Cond.fieldLink RX9 16 "SailCargoModel" "sails" "[I", Cond.fieldLink RX9 114 "SailCargoModel" "engine" "I", Cond.methodLink RX9 131 yX9_take, Cond.instanceMethod yX9_take, Cond.selects RX9 yX9_take yX9_take, Cond.code yX9_take cX9_take 9 none]
def wsX9_promise : List Cond := .code yX9_promise cX9_promise 8 (some .int) :: ((wsX9_promise_r1 ++ wsX9_promise_r2) ++ wsX90)
def wsX9_isLoad : List Cond := .code yX9_isLoad cX9_isLoad 2 (some .boolean) :: ([.fieldLink RX9 153 "SailCargoModel" "loads" "I", .methodLink RX9 89 yX9_in, .static yX9_in, .initialized RX9, .code yX9_in cX9_in 6 (some .boolean)] ++ wsX90)
def wsX9_load : List Cond := .code yX9_load cX9_load 3 (some .int) :: ([.fieldLink RX9 81 "SailCargoModel" "thrown" "I", .constantLong RX9 156 (200), .constantLong RX9 158 (10000), .fieldLink RX9 153 "SailCargoModel" "loads" "I", .fieldLink RX9 29 "SailCargoModel" "lTons" "[I", .fieldLink RX9 32 "SailCargoModel" "lWorth" "[I", .methodLink RX9 89 yX9_in, .static yX9_in, .initialized RX9, .code yX9_in cX9_in 6 (some .boolean), .methodLink RX9 99 yX9_told, .instanceMethod yX9_told, .selects RX9 yX9_told yX9_told, .code yX9_told cX9_told 2 (some .int), .fieldLink RX9 84 "SailCargoModel" "status" "I"] ++ wsX90)
def wsX9_apart : List Cond := .code yX9_apart cX9_apart 4 (some .int) :: ([.fieldLink RX9 81 "SailCargoModel" "thrown" "I", .fieldLink RX9 35 "SailCargoModel" "lApart" "[I", .methodLink RX9 160 yX9_isLoad, .instanceMethod yX9_isLoad, .selects RX9 yX9_isLoad yX9_isLoad, .initialized RX9, .code yX9_isLoad cX9_isLoad 2 (some .boolean), .fieldLink RX9 153 "SailCargoModel" "loads" "I", .methodLink RX9 89 yX9_in, .static yX9_in, .code yX9_in cX9_in 6 (some .boolean), .methodLink RX9 99 yX9_told, .instanceMethod yX9_told, .selects RX9 yX9_told yX9_told, .code yX9_told cX9_told 2 (some .int), .fieldLink RX9 84 "SailCargoModel" "status" "I"] ++ wsX90)
def wsX9_stow : List Cond := .code yX9_stow cX9_stow 11 (some .int) :: ([.fieldLink RX9 81 "SailCargoModel" "thrown" "I", .constantLong RX9 87 (1000), .constantLong RX9 163 (2), .fieldLink RX9 153 "SailCargoModel" "loads" "I", .fieldLink RX9 29 "SailCargoModel" "lTons" "[I", .fieldLink RX9 32 "SailCargoModel" "lWorth" "[I", .fieldLink RX9 35 "SailCargoModel" "lApart" "[I", .methodLink RX9 89 yX9_in, .static yX9_in, .initialized RX9, .code yX9_in cX9_in 6 (some .boolean)] ++ wsX90)
def wsX9_isPort : List Cond := .code yX9_isPort cX9_isPort 1 (some .boolean) :: ([.constantLong RX9 165 (5), .methodLink RX9 89 yX9_in, .static yX9_in, .initialized RX9, .code yX9_in cX9_in 6 (some .boolean)])
def wsX9_isSlot : List Cond := .code yX9_isSlot cX9_isSlot 2 (some .boolean) :: ([.fieldLink RX9 167 "SailCargoModel" "slots" "I", .fieldLink RX9 47 "SailCargoModel" "sPort" "[I", .methodLink RX9 89 yX9_in, .static yX9_in, .initialized RX9, .code yX9_in cX9_in 6 (some .boolean)] ++ wsX90)
def wsX9_berths : List Cond := .code yX9_berths cX9_berths 4 (some .int) :: ([.fieldLink RX9 81 "SailCargoModel" "thrown" "I", .constantLong RX9 106 (3), .fieldLink RX9 167 "SailCargoModel" "slots" "I", .fieldLink RX9 47 "SailCargoModel" "sPort" "[I", .fieldLink RX9 50 "SailCargoModel" "sBerth" "[I", .fieldLink RX9 44 "SailCargoModel" "berths" "[I", .methodLink RX9 89 yX9_in, .static yX9_in, .initialized RX9, .code yX9_in cX9_in 6 (some .boolean), .methodLink RX9 99 yX9_told, .instanceMethod yX9_told, .selects RX9 yX9_told yX9_told, .code yX9_told cX9_told 2 (some .int), .fieldLink RX9 84 "SailCargoModel" "status" "I", .methodLink RX9 170 yX9_isPort, .static yX9_isPort, .code yX9_isPort cX9_isPort 1 (some .boolean), .constantLong RX9 165 (5)] ++ wsX90)
def wsX9_isFree : List Cond := .code yX9_isFree cX9_isFree 7 (some .boolean) :: ([.fieldLink RX9 167 "SailCargoModel" "slots" "I", .fieldLink RX9 47 "SailCargoModel" "sPort" "[I", .fieldLink RX9 50 "SailCargoModel" "sBerth" "[I", .fieldLink RX9 53 "SailCargoModel" "sFirst" "[I", .fieldLink RX9 56 "SailCargoModel" "sLast" "[I"] ++ wsX90)
def wsX9_slot_r1 : List Cond := [Cond.fieldLink RX9 81 "SailCargoModel" "thrown" "I", Cond.constantLong RX9 173 (400), Cond.constantLong RX9 175 (30), Cond.fieldLink RX9 44 "SailCargoModel" "berths" "[I", Cond.fieldLink RX9 167 "SailCargoModel" "slots" "I", Cond.fieldLink RX9 47 "SailCargoModel" "sPort" "[I", Cond.fieldLink RX9 50 "SailCargoModel" "sBerth" "[I", Cond.fieldLink RX9 53 "SailCargoModel" "sFirst" "[I", Cond.fieldLink RX9 56 "SailCargoModel" "sLast" "[I", Cond.methodLink RX9 89 yX9_in, Cond.static yX9_in, Cond.initialized RX9, Cond.code yX9_in cX9_in 6 (some .boolean), Cond.methodLink RX9 99 yX9_told, Cond.instanceMethod yX9_told, Cond.selects RX9 yX9_told yX9_told, Cond.code yX9_told cX9_told 2 (some .int), Cond.fieldLink RX9 84 "SailCargoModel" "status" "I", Cond.methodLink RX9 170 yX9_isPort, Cond.static yX9_isPort, Cond.code yX9_isPort cX9_isPort 1 (some .boolean), Cond.constantLong RX9 165 (5), Cond.methodLink RX9 177 yX9_isFree, Cond.instanceMethod yX9_isFree]
def wsX9_slot_r2 : List Cond := [Cond.selects RX9 yX9_isFree yX9_isFree, Cond.code yX9_isFree cX9_isFree 7 (some .boolean)]
def wsX9_slot : List Cond := .code yX9_slot cX9_slot 8 (some .int) :: ((wsX9_slot_r1 ++ wsX9_slot_r2) ++ wsX90)
def wsX9_of : List Cond := .code yX9_of cX9_of 3 (some .int) :: ([.fieldLink RX9 81 "SailCargoModel" "thrown" "I", .fieldLink RX9 47 "SailCargoModel" "sPort" "[I", .fieldLink RX9 50 "SailCargoModel" "sBerth" "[I", .fieldLink RX9 53 "SailCargoModel" "sFirst" "[I", .fieldLink RX9 56 "SailCargoModel" "sLast" "[I", .methodLink RX9 180 yX9_isSlot, .instanceMethod yX9_isSlot, .selects RX9 yX9_isSlot yX9_isSlot, .initialized RX9, .code yX9_isSlot cX9_isSlot 2 (some .boolean), .fieldLink RX9 167 "SailCargoModel" "slots" "I", .methodLink RX9 89 yX9_in, .static yX9_in, .code yX9_in cX9_in 6 (some .boolean)] ++ wsX90)
def wsX9_free : List Cond := .code yX9_free cX9_free 2 (some .int) :: ([.fieldLink RX9 81 "SailCargoModel" "thrown" "I", .fieldLink RX9 47 "SailCargoModel" "sPort" "[I", .methodLink RX9 180 yX9_isSlot, .instanceMethod yX9_isSlot, .selects RX9 yX9_isSlot yX9_isSlot, .initialized RX9, .code yX9_isSlot cX9_isSlot 2 (some .boolean), .fieldLink RX9 167 "SailCargoModel" "slots" "I", .methodLink RX9 89 yX9_in, .static yX9_in, .code yX9_in cX9_in 6 (some .boolean), .methodLink RX9 99 yX9_told, .instanceMethod yX9_told, .selects RX9 yX9_told yX9_told, .code yX9_told cX9_told 2 (some .int), .fieldLink RX9 84 "SailCargoModel" "status" "I"] ++ wsX90)
def wsX9_four : List Cond := .code yX9_four cX9_four 3 none :: ([.fieldLink RX9 71 "SailCargoModel" "tape" "[I", .fieldLink RX9 183 "SailCargoModel" "taped" "I"] ++ wsX90)
def wsX9_feed : List Cond := .code yX9_feed cX9_feed 6 (some .int) :: ([.fieldLink RX9 81 "SailCargoModel" "thrown" "I", .fieldLink RX9 183 "SailCargoModel" "taped" "I", .methodLink RX9 186 yX9_four, .instanceMethod yX9_four, .selects RX9 yX9_four yX9_four, .initialized RX9, .code yX9_four cX9_four 3 none, .fieldLink RX9 71 "SailCargoModel" "tape" "[I"] ++ wsX90)
def wsX9_end : List Cond := .code yX9_end cX9_end 2 (some .int) :: ([.fieldLink RX9 81 "SailCargoModel" "thrown" "I", .fieldLink RX9 183 "SailCargoModel" "taped" "I"] ++ wsX90)
def wsX9_isSmall : List Cond := .code yX9_isSmall cX9_isSmall 1 (some .boolean) :: ([])
def wsX9_isDigit : List Cond := .code yX9_isDigit cX9_isDigit 1 (some .boolean) :: ([])
def wsX9_next : List Cond := .code yX9_next cX9_next 1 none :: ([.fieldLink RX9 189 "SailCargoModel" "to" "I", .fieldLink RX9 192 "SailCargoModel" "from" "I", .fieldLink RX9 183 "SailCargoModel" "taped" "I", .fieldLink RX9 71 "SailCargoModel" "tape" "[I", .fieldLink RX9 195 "SailCargoModel" "worth" "J", .fieldLink RX9 204 "SailCargoModel" "sort" "I", .constantLong RX9 207 (32), .constantLong RX9 209 (96), .constantLong RX9 147 (-1), .constantLong RX9 158 (10000), .constantLong RX9 211 (10), .constantLong RX9 213 (48), .methodLink RX9 198 yX9_isSmall, .static yX9_isSmall, .initialized RX9, .code yX9_isSmall cX9_isSmall 1 (some .boolean), .methodLink RX9 201 yX9_isDigit, .static yX9_isDigit, .code yX9_isDigit cX9_isDigit 1 (some .boolean)] ++ wsX90)
def wsX9_isWord : List Cond := .code yX9_isWord cX9_isWord 9 (some .boolean) :: ([.constantLong RX9 209 (96), .constantLong RX9 207 (32), .fieldLink RX9 204 "SailCargoModel" "sort" "I", .fieldLink RX9 195 "SailCargoModel" "worth" "J"] ++ wsX90)
def wsX9_must_r1 : List Cond := [Cond.fieldLink RX9 215 "SailCargoModel" "bad" "Z", Cond.fieldLink RX9 192 "SailCargoModel" "from" "I", Cond.fieldLink RX9 74 "SailCargoModel" "fault" "I", Cond.methodLink RX9 219 yX9_next, Cond.instanceMethod yX9_next, Cond.selects RX9 yX9_next yX9_next, Cond.initialized RX9, Cond.code yX9_next cX9_next 1 none, Cond.fieldLink RX9 189 "SailCargoModel" "to" "I", Cond.fieldLink RX9 183 "SailCargoModel" "taped" "I", Cond.fieldLink RX9 71 "SailCargoModel" "tape" "[I", Cond.fieldLink RX9 195 "SailCargoModel" "worth" "J", Cond.fieldLink RX9 204 "SailCargoModel" "sort" "I", Cond.constantLong RX9 207 (32), Cond.constantLong RX9 209 (96), Cond.constantLong RX9 147 (-1), Cond.constantLong RX9 158 (10000), Cond.constantLong RX9 211 (10), Cond.constantLong RX9 213 (48), Cond.methodLink RX9 198 yX9_isSmall, Cond.static yX9_isSmall, Cond.code yX9_isSmall cX9_isSmall 1 (some .boolean), Cond.methodLink RX9 201 yX9_isDigit, Cond.static yX9_isDigit]
def wsX9_must_r2 : List Cond := [Cond.code yX9_isDigit cX9_isDigit 1 (some .boolean)]
def wsX9_must : List Cond := .code yX9_must cX9_must 2 none :: ((wsX9_must_r1 ++ wsX9_must_r2) ++ wsX90)
def wsX9_number_r1 : List Cond := [Cond.fieldLink RX9 195 "SailCargoModel" "worth" "J", Cond.fieldLink RX9 204 "SailCargoModel" "sort" "I", Cond.constantLong RX9 158 (10000), Cond.methodLink RX9 222 yX9_must, Cond.instanceMethod yX9_must, Cond.selects RX9 yX9_must yX9_must, Cond.initialized RX9, Cond.code yX9_must cX9_must 2 none, Cond.fieldLink RX9 215 "SailCargoModel" "bad" "Z", Cond.fieldLink RX9 192 "SailCargoModel" "from" "I", Cond.fieldLink RX9 74 "SailCargoModel" "fault" "I", Cond.methodLink RX9 219 yX9_next, Cond.instanceMethod yX9_next, Cond.selects RX9 yX9_next yX9_next, Cond.code yX9_next cX9_next 1 none, Cond.fieldLink RX9 189 "SailCargoModel" "to" "I", Cond.fieldLink RX9 183 "SailCargoModel" "taped" "I", Cond.fieldLink RX9 71 "SailCargoModel" "tape" "[I", Cond.constantLong RX9 207 (32), Cond.constantLong RX9 209 (96), Cond.constantLong RX9 147 (-1), Cond.constantLong RX9 211 (10), Cond.constantLong RX9 213 (48), Cond.methodLink RX9 198 yX9_isSmall]
def wsX9_number_r2 : List Cond := [Cond.static yX9_isSmall, Cond.code yX9_isSmall cX9_isSmall 1 (some .boolean), Cond.methodLink RX9 201 yX9_isDigit, Cond.static yX9_isDigit, Cond.code yX9_isDigit cX9_isDigit 1 (some .boolean)]
def wsX9_number : List Cond := .code yX9_number cX9_number 2 (some .int) :: ((wsX9_number_r1 ++ wsX9_number_r2) ++ wsX90)
def wsX9_sortAt : List Cond := .code yX9_sortAt cX9_sortAt 1 (some .int) :: ([.methodLink RX9 226 yX9_isWord, .instanceMethod yX9_isWord, .selects RX9 yX9_isWord yX9_isWord, .initialized RX9, .code yX9_isWord cX9_isWord 9 (some .boolean), .constantLong RX9 209 (96), .constantLong RX9 207 (32), .fieldLink RX9 204 "SailCargoModel" "sort" "I", .fieldLink RX9 195 "SailCargoModel" "worth" "J"] ++ wsX90)
def wsX9_readClause_r1 : List Cond := [Cond.fieldLink RX9 234 "SailCargoModel" "nMany" "I", Cond.fieldLink RX9 215 "SailCargoModel" "bad" "Z", Cond.fieldLink RX9 68 "SailCargoModel" "nClause" "[I", Cond.methodLink RX9 230 yX9_sortAt, Cond.instanceMethod yX9_sortAt, Cond.selects RX9 yX9_sortAt yX9_sortAt, Cond.initialized RX9, Cond.code yX9_sortAt cX9_sortAt 1 (some .int), Cond.methodLink RX9 226 yX9_isWord, Cond.instanceMethod yX9_isWord, Cond.selects RX9 yX9_isWord yX9_isWord, Cond.code yX9_isWord cX9_isWord 9 (some .boolean), Cond.constantLong RX9 209 (96), Cond.constantLong RX9 207 (32), Cond.fieldLink RX9 204 "SailCargoModel" "sort" "I", Cond.fieldLink RX9 195 "SailCargoModel" "worth" "J", Cond.methodLink RX9 222 yX9_must, Cond.instanceMethod yX9_must, Cond.selects RX9 yX9_must yX9_must, Cond.code yX9_must cX9_must 2 none, Cond.fieldLink RX9 192 "SailCargoModel" "from" "I", Cond.fieldLink RX9 74 "SailCargoModel" "fault" "I", Cond.methodLink RX9 219 yX9_next, Cond.instanceMethod yX9_next]
def wsX9_readClause_r2 : List Cond := [Cond.selects RX9 yX9_next yX9_next, Cond.code yX9_next cX9_next 1 none, Cond.fieldLink RX9 189 "SailCargoModel" "to" "I", Cond.fieldLink RX9 183 "SailCargoModel" "taped" "I", Cond.fieldLink RX9 71 "SailCargoModel" "tape" "[I", Cond.constantLong RX9 147 (-1), Cond.constantLong RX9 158 (10000), Cond.constantLong RX9 211 (10), Cond.constantLong RX9 213 (48), Cond.methodLink RX9 198 yX9_isSmall, Cond.static yX9_isSmall, Cond.code yX9_isSmall cX9_isSmall 1 (some .boolean), Cond.methodLink RX9 201 yX9_isDigit, Cond.static yX9_isDigit, Cond.code yX9_isDigit cX9_isDigit 1 (some .boolean), Cond.methodLink RX9 237 yX9_number, Cond.instanceMethod yX9_number, Cond.selects RX9 yX9_number yX9_number, Cond.code yX9_number cX9_number 2 (some .int)]
def wsX9_readClause : List Cond := .code yX9_readClause cX9_readClause 4 none :: ((wsX9_readClause_r1 ++ wsX9_readClause_r2) ++ wsX90)
def wsX9_contract_r1 : List Cond := [Cond.fieldLink RX9 81 "SailCargoModel" "thrown" "I", Cond.fieldLink RX9 189 "SailCargoModel" "to" "I", Cond.fieldLink RX9 215 "SailCargoModel" "bad" "Z", Cond.fieldLink RX9 74 "SailCargoModel" "fault" "I", Cond.fieldLink RX9 234 "SailCargoModel" "nMany" "I", Cond.fieldLink RX9 204 "SailCargoModel" "sort" "I", Cond.fieldLink RX9 195 "SailCargoModel" "worth" "J", Cond.constantLong RX9 243 (59), Cond.fieldLink RX9 183 "SailCargoModel" "taped" "I", Cond.fieldLink RX9 245 "SailCargoModel" "clauses" "I", Cond.fieldLink RX9 59 "SailCargoModel" "cSort" "[I", Cond.fieldLink RX9 68 "SailCargoModel" "nClause" "[I", Cond.fieldLink RX9 62 "SailCargoModel" "cA" "[I", Cond.fieldLink RX9 65 "SailCargoModel" "cB" "[I", Cond.methodLink RX9 219 yX9_next, Cond.instanceMethod yX9_next, Cond.selects RX9 yX9_next yX9_next, Cond.initialized RX9, Cond.code yX9_next cX9_next 1 none, Cond.fieldLink RX9 192 "SailCargoModel" "from" "I", Cond.fieldLink RX9 71 "SailCargoModel" "tape" "[I", Cond.constantLong RX9 207 (32), Cond.constantLong RX9 209 (96), Cond.constantLong RX9 147 (-1)]
def wsX9_contract_r2 : List Cond := [Cond.constantLong RX9 158 (10000), Cond.constantLong RX9 211 (10), Cond.constantLong RX9 213 (48), Cond.methodLink RX9 198 yX9_isSmall, Cond.static yX9_isSmall, Cond.code yX9_isSmall cX9_isSmall 1 (some .boolean), Cond.methodLink RX9 201 yX9_isDigit, Cond.static yX9_isDigit, Cond.code yX9_isDigit cX9_isDigit 1 (some .boolean), Cond.methodLink RX9 240 yX9_readClause, Cond.instanceMethod yX9_readClause, Cond.selects RX9 yX9_readClause yX9_readClause, Cond.code yX9_readClause cX9_readClause 4 none, Cond.methodLink RX9 230 yX9_sortAt, Cond.instanceMethod yX9_sortAt, Cond.selects RX9 yX9_sortAt yX9_sortAt, Cond.code yX9_sortAt cX9_sortAt 1 (some .int), Cond.methodLink RX9 226 yX9_isWord, Cond.instanceMethod yX9_isWord, Cond.selects RX9 yX9_isWord yX9_isWord, Cond.code yX9_isWord cX9_isWord 9 (some .boolean), Cond.methodLink RX9 222 yX9_must, Cond.instanceMethod yX9_must, Cond.selects RX9 yX9_must yX9_must]
def wsX9_contract_r3 : List Cond := [Cond.code yX9_must cX9_must 2 none, Cond.methodLink RX9 237 yX9_number, Cond.instanceMethod yX9_number, Cond.selects RX9 yX9_number yX9_number, Cond.code yX9_number cX9_number 2 (some .int), Cond.methodLink RX9 99 yX9_told, Cond.instanceMethod yX9_told, Cond.selects RX9 yX9_told yX9_told, Cond.code yX9_told cX9_told 2 (some .int), Cond.fieldLink RX9 84 "SailCargoModel" "status" "I"]
def wsX9_contract : List Cond := .code yX9_contract cX9_contract 2 (some .int) :: ((wsX9_contract_r1 ++ (wsX9_contract_r2 ++ wsX9_contract_r3)) ++ wsX90)
def wsX9_fault : List Cond := .code yX9_fault cX9_fault 1 (some .int) :: ([.fieldLink RX9 81 "SailCargoModel" "thrown" "I", .fieldLink RX9 74 "SailCargoModel" "fault" "I"] ++ wsX90)
def wsX9_due : List Cond := .code yX9_due cX9_due 10 (some .long) :: ([.fieldLink RX9 81 "SailCargoModel" "thrown" "I", .constantLong RX9 158 (10000), .constantLong RX9 248 (1000000), .constantLong RX9 147 (-1), .fieldLink RX9 245 "SailCargoModel" "clauses" "I", .fieldLink RX9 62 "SailCargoModel" "cA" "[I", .fieldLink RX9 65 "SailCargoModel" "cB" "[I", .fieldLink RX9 59 "SailCargoModel" "cSort" "[I", .methodLink RX9 89 yX9_in, .static yX9_in, .initialized RX9, .code yX9_in cX9_in 6 (some .boolean)] ++ wsX90)
def wsX9_isLeg : List Cond := .code yX9_isLeg cX9_isLeg 2 (some .boolean) :: ([.fieldLink RX9 250 "SailCargoModel" "legs" "I", .methodLink RX9 89 yX9_in, .static yX9_in, .initialized RX9, .code yX9_in cX9_in 6 (some .boolean)] ++ wsX90)
def wsX9_leg : List Cond := .code yX9_leg cX9_leg 2 (some .int) :: ([.fieldLink RX9 81 "SailCargoModel" "thrown" "I", .constantLong RX9 253 (100000), .fieldLink RX9 250 "SailCargoModel" "legs" "I", .fieldLink RX9 78 "SailCargoModel" "smokes" "[I", .methodLink RX9 89 yX9_in, .static yX9_in, .initialized RX9, .code yX9_in cX9_in 6 (some .boolean), .methodLink RX9 99 yX9_told, .instanceMethod yX9_told, .selects RX9 yX9_told yX9_told, .code yX9_told cX9_told 2 (some .int), .fieldLink RX9 84 "SailCargoModel" "status" "I"] ++ wsX90)
def wsX9_aboard : List Cond := .code yX9_aboard cX9_aboard 4 (some .int) :: ([.fieldLink RX9 81 "SailCargoModel" "thrown" "I", .fieldLink RX9 38 "SailCargoModel" "lFrom" "[I", .fieldLink RX9 41 "SailCargoModel" "lTo" "[I", .methodLink RX9 99 yX9_told, .instanceMethod yX9_told, .selects RX9 yX9_told yX9_told, .initialized RX9, .code yX9_told cX9_told 2 (some .int), .fieldLink RX9 84 "SailCargoModel" "status" "I", .methodLink RX9 160 yX9_isLoad, .instanceMethod yX9_isLoad, .selects RX9 yX9_isLoad yX9_isLoad, .code yX9_isLoad cX9_isLoad 2 (some .boolean), .fieldLink RX9 153 "SailCargoModel" "loads" "I", .methodLink RX9 89 yX9_in, .static yX9_in, .code yX9_in cX9_in 6 (some .boolean), .methodLink RX9 255 yX9_isLeg, .instanceMethod yX9_isLeg, .selects RX9 yX9_isLeg yX9_isLeg, .code yX9_isLeg cX9_isLeg 2 (some .boolean), .fieldLink RX9 250 "SailCargoModel" "legs" "I"] ++ wsX90)
def wsX9_isAboard : List Cond := .code yX9_isAboard cX9_isAboard 3 (some .boolean) :: ([.fieldLink RX9 38 "SailCargoModel" "lFrom" "[I", .fieldLink RX9 41 "SailCargoModel" "lTo" "[I", .methodLink RX9 89 yX9_in, .static yX9_in, .initialized RX9, .code yX9_in cX9_in 6 (some .boolean)] ++ wsX90)
def wsX9_tonsOn : List Cond := .code yX9_tonsOn cX9_tonsOn 4 (some .int) :: ([.fieldLink RX9 153 "SailCargoModel" "loads" "I", .fieldLink RX9 29 "SailCargoModel" "lTons" "[I", .methodLink RX9 258 yX9_isAboard, .instanceMethod yX9_isAboard, .selects RX9 yX9_isAboard yX9_isAboard, .initialized RX9, .code yX9_isAboard cX9_isAboard 3 (some .boolean), .fieldLink RX9 38 "SailCargoModel" "lFrom" "[I", .fieldLink RX9 41 "SailCargoModel" "lTo" "[I", .methodLink RX9 89 yX9_in, .static yX9_in, .code yX9_in cX9_in 6 (some .boolean)] ++ wsX90)
def wsX9_partOf : List Cond := .code yX9_partOf cX9_partOf 13 (some .int) :: ([.fieldLink RX9 78 "SailCargoModel" "smokes" "[I", .fieldLink RX9 29 "SailCargoModel" "lTons" "[I", .fieldLink RX9 153 "SailCargoModel" "loads" "I", .methodLink RX9 258 yX9_isAboard, .instanceMethod yX9_isAboard, .selects RX9 yX9_isAboard yX9_isAboard, .initialized RX9, .code yX9_isAboard cX9_isAboard 3 (some .boolean), .fieldLink RX9 38 "SailCargoModel" "lFrom" "[I", .fieldLink RX9 41 "SailCargoModel" "lTo" "[I", .methodLink RX9 89 yX9_in, .static yX9_in, .code yX9_in cX9_in 6 (some .boolean), .methodLink RX9 262 yX9_tonsOn, .instanceMethod yX9_tonsOn, .selects RX9 yX9_tonsOn yX9_tonsOn, .code yX9_tonsOn cX9_tonsOn 4 (some .int)] ++ wsX90)
def wsX9_part_r1 : List Cond := [Cond.fieldLink RX9 81 "SailCargoModel" "thrown" "I", Cond.methodLink RX9 160 yX9_isLoad, Cond.instanceMethod yX9_isLoad, Cond.selects RX9 yX9_isLoad yX9_isLoad, Cond.initialized RX9, Cond.code yX9_isLoad cX9_isLoad 2 (some .boolean), Cond.fieldLink RX9 153 "SailCargoModel" "loads" "I", Cond.methodLink RX9 89 yX9_in, Cond.static yX9_in, Cond.code yX9_in cX9_in 6 (some .boolean), Cond.methodLink RX9 255 yX9_isLeg, Cond.instanceMethod yX9_isLeg, Cond.selects RX9 yX9_isLeg yX9_isLeg, Cond.code yX9_isLeg cX9_isLeg 2 (some .boolean), Cond.fieldLink RX9 250 "SailCargoModel" "legs" "I", Cond.methodLink RX9 265 yX9_partOf, Cond.instanceMethod yX9_partOf, Cond.selects RX9 yX9_partOf yX9_partOf, Cond.code yX9_partOf cX9_partOf 13 (some .int), Cond.fieldLink RX9 78 "SailCargoModel" "smokes" "[I", Cond.fieldLink RX9 29 "SailCargoModel" "lTons" "[I", Cond.methodLink RX9 258 yX9_isAboard, Cond.instanceMethod yX9_isAboard, Cond.selects RX9 yX9_isAboard yX9_isAboard]
def wsX9_part_r2 : List Cond := [Cond.code yX9_isAboard cX9_isAboard 3 (some .boolean), Cond.fieldLink RX9 38 "SailCargoModel" "lFrom" "[I", Cond.fieldLink RX9 41 "SailCargoModel" "lTo" "[I", Cond.methodLink RX9 262 yX9_tonsOn, Cond.instanceMethod yX9_tonsOn, Cond.selects RX9 yX9_tonsOn yX9_tonsOn, Cond.code yX9_tonsOn cX9_tonsOn 4 (some .int)]
def wsX9_part : List Cond := .code yX9_part cX9_part 3 (some .int) :: ((wsX9_part_r1 ++ wsX9_part_r2) ++ wsX90)
def wsX9_smoke_r1 : List Cond := [Cond.fieldLink RX9 81 "SailCargoModel" "thrown" "I", Cond.fieldLink RX9 250 "SailCargoModel" "legs" "I", Cond.fieldLink RX9 78 "SailCargoModel" "smokes" "[I", Cond.methodLink RX9 160 yX9_isLoad, Cond.instanceMethod yX9_isLoad, Cond.selects RX9 yX9_isLoad yX9_isLoad, Cond.initialized RX9, Cond.code yX9_isLoad cX9_isLoad 2 (some .boolean), Cond.fieldLink RX9 153 "SailCargoModel" "loads" "I", Cond.methodLink RX9 89 yX9_in, Cond.static yX9_in, Cond.code yX9_in cX9_in 6 (some .boolean), Cond.methodLink RX9 265 yX9_partOf, Cond.instanceMethod yX9_partOf, Cond.selects RX9 yX9_partOf yX9_partOf, Cond.code yX9_partOf cX9_partOf 13 (some .int), Cond.fieldLink RX9 29 "SailCargoModel" "lTons" "[I", Cond.methodLink RX9 258 yX9_isAboard, Cond.instanceMethod yX9_isAboard, Cond.selects RX9 yX9_isAboard yX9_isAboard, Cond.code yX9_isAboard cX9_isAboard 3 (some .boolean), Cond.fieldLink RX9 38 "SailCargoModel" "lFrom" "[I", Cond.fieldLink RX9 41 "SailCargoModel" "lTo" "[I", Cond.methodLink RX9 262 yX9_tonsOn]
def wsX9_smoke_r2 : List Cond := [Cond.instanceMethod yX9_tonsOn, Cond.selects RX9 yX9_tonsOn yX9_tonsOn, Cond.code yX9_tonsOn cX9_tonsOn 4 (some .int)]
def wsX9_smoke : List Cond := .code yX9_smoke cX9_smoke 4 (some .int) :: ((wsX9_smoke_r1 ++ wsX9_smoke_r2) ++ wsX90)
def wsX9_count : List Cond := .code yX9_count cX9_count 4 (some .int) :: ([.fieldLink RX9 81 "SailCargoModel" "thrown" "I", .fieldLink RX9 103 "SailCargoModel" "windsTold" "I", .fieldLink RX9 153 "SailCargoModel" "loads" "I", .fieldLink RX9 167 "SailCargoModel" "slots" "I", .fieldLink RX9 245 "SailCargoModel" "clauses" "I", .fieldLink RX9 250 "SailCargoModel" "legs" "I", .fieldLink RX9 183 "SailCargoModel" "taped" "I", .fieldLink RX9 47 "SailCargoModel" "sPort" "[I"] ++ wsX90)
def wsX9_status : List Cond := .code yX9_status cX9_status 1 (some .int) :: ([.fieldLink RX9 81 "SailCargoModel" "thrown" "I", .fieldLink RX9 84 "SailCargoModel" "status" "I"] ++ wsX90)
def wsJ9_max_7cf53 : List Cond := .code yJ9_max_7cf53 cJ9_max_7cf53 2 (some .int) :: ([])
def wsJ9_max_f86c9 : List Cond := .code yJ9_max_f86c9 cJ9_max_f86c9 4 (some .long) :: ([])
def wsJ9_min_7cf53 : List Cond := .code yJ9_min_7cf53 cJ9_min_7cf53 2 (some .int) :: ([])
def wsJ9_min_f86c9 : List Cond := .code yJ9_min_f86c9 cJ9_min_f86c9 4 (some .long) :: ([])
theorem dX0_init_0 : decode cX0_init 0 = .ok (.aload_n 0, 1) := by decide +kernel
theorem dX0_init_1 : decode cX0_init 1 = .ok (.invokespecial 3, 3) := by decide +kernel
theorem dX0_init_4 : decode cX0_init 4 = .ok (.aload_n 0, 1) := by decide +kernel
theorem dX0_init_5 : decode cX0_init 5 = .ok (.bipush 6, 2) := by decide +kernel
theorem dX0_init_7 : decode cX0_init 7 = .ok (.newarray .int, 2) := by decide +kernel
theorem dX0_init_9 : decode cX0_init 9 = .ok (.putfield 11, 3) := by decide +kernel
theorem dX0_init_12 : decode cX0_init 12 = .ok (.aload_n 0, 1) := by decide +kernel
theorem dX0_init_13 : decode cX0_init 13 = .ok (.bipush 60, 2) := by decide +kernel
theorem dX0_init_15 : decode cX0_init 15 = .ok (.newarray .int, 2) := by decide +kernel
theorem dX0_init_17 : decode cX0_init 17 = .ok (.putfield 15, 3) := by decide +kernel
theorem dX0_init_20 : decode cX0_init 20 = .ok (.aload_n 0, 1) := by decide +kernel
theorem dX0_init_21 : decode cX0_init 21 = .ok (.bipush 60, 2) := by decide +kernel
theorem dX0_init_23 : decode cX0_init 23 = .ok (.newarray .int, 2) := by decide +kernel
theorem dX0_init_25 : decode cX0_init 25 = .ok (.putfield 18, 3) := by decide +kernel
theorem dX0_init_28 : decode cX0_init 28 = .ok (.aload_n 0, 1) := by decide +kernel
theorem dX0_init_29 : decode cX0_init 29 = .ok (.bipush 60, 2) := by decide +kernel
theorem dX0_init_31 : decode cX0_init 31 = .ok (.newarray .int, 2) := by decide +kernel
theorem dX0_init_33 : decode cX0_init 33 = .ok (.putfield 21, 3) := by decide +kernel
theorem dX0_init_36 : decode cX0_init 36 = .ok (.aload_n 0, 1) := by decide +kernel
theorem dX0_init_37 : decode cX0_init 37 = .ok (.bipush 60, 2) := by decide +kernel
theorem dX0_init_39 : decode cX0_init 39 = .ok (.newarray .int, 2) := by decide +kernel
theorem dX0_init_41 : decode cX0_init 41 = .ok (.putfield 24, 3) := by decide +kernel
theorem dX0_init_44 : decode cX0_init 44 = .ok (.aload_n 0, 1) := by decide +kernel
theorem dX0_init_45 : decode cX0_init 45 = .ok (.bipush 60, 2) := by decide +kernel
theorem dX0_init_47 : decode cX0_init 47 = .ok (.newarray .boolean, 2) := by decide +kernel
theorem dX0_init_49 : decode cX0_init 49 = .ok (.putfield 27, 3) := by decide +kernel
theorem dX0_init_52 : decode cX0_init 52 = .ok (.iconst 0, 1) := by decide +kernel
theorem dX0_init_53 : decode cX0_init 53 = .ok (.istore_n 1, 1) := by decide +kernel
theorem dX0_init_54 : decode cX0_init 54 = .ok (.iload_n 1, 1) := by decide +kernel
theorem dX0_init_55 : decode cX0_init 55 = .ok (.bipush 6, 2) := by decide +kernel
theorem dX0_init_57 : decode cX0_init 57 = .ok (.if_icmp .ge 16, 3) := by decide +kernel
theorem dX0_init_60 : decode cX0_init 60 = .ok (.aload_n 0, 1) := by decide +kernel
theorem dX0_init_61 : decode cX0_init 61 = .ok (.getfield 11, 3) := by decide +kernel
theorem dX0_init_64 : decode cX0_init 64 = .ok (.iload_n 1, 1) := by decide +kernel
theorem dX0_init_65 : decode cX0_init 65 = .ok (.iconst 1, 1) := by decide +kernel
theorem dX0_init_66 : decode cX0_init 66 = .ok (.iastore, 1) := by decide +kernel
theorem dX0_init_67 : decode cX0_init 67 = .ok (.iinc 1 1, 3) := by decide +kernel
theorem dX0_init_70 : decode cX0_init 70 = .ok (.goto (-16), 3) := by decide +kernel
theorem dX0_init_73 : decode cX0_init 73 = .ok (.return_, 1) := by decide +kernel
set_option maxRecDepth 20000 in
theorem ggX0_setBerths_X8_isWithin : GoodIn wsX0_setBerths wsX8_isWithin := goodIn_r _ [8] (by decide +kernel) (by decide +kernel)
set_option maxRecDepth 20000 in
theorem gX0_setBerths_X8_isWithin_n31 : GoodIn wsX0_setBerths (wsX8_isWithin) := ggX0_setBerths_X8_isWithin
set_option maxRecDepth 20000 in
theorem ggX0_setBerths_X0_isPort : GoodIn wsX0_setBerths wsX0_isPort := goodIn_r _ [12, 6, 7, 8] (by decide +kernel) (by decide +kernel)
set_option maxRecDepth 20000 in
theorem gX0_setBerths_X0_isPort : GoodIn wsX0_setBerths (va_wsS RX0 35 yX0_isPort wsX0_isPort) := goodIn_app (goodIn_of _ (by decide +kernel)) ggX0_setBerths_X0_isPort
theorem dX0_setBerths_0 : decode cX0_setBerths 0 = .ok (.iload_n 2, 1) := by decide +kernel
theorem dX0_setBerths_1 : decode cX0_setBerths 1 = .ok (.iconst 1, 1) := by decide +kernel
theorem dX0_setBerths_2 : decode cX0_setBerths 2 = .ok (.iconst 3, 1) := by decide +kernel
theorem dX0_setBerths_3 : decode cX0_setBerths 3 = .ok (.invokestatic 31, 3) := by decide +kernel
theorem dX0_setBerths_6 : decode cX0_setBerths 6 = .ok (.ifCond .ne 5, 3) := by decide +kernel
theorem dX0_setBerths_9 : decode cX0_setBerths 9 = .ok (.iconst (-1), 1) := by decide +kernel
theorem dX0_setBerths_10 : decode cX0_setBerths 10 = .ok (.ireturn, 1) := by decide +kernel
theorem dX0_setBerths_11 : decode cX0_setBerths 11 = .ok (.iload_n 1, 1) := by decide +kernel
theorem dX0_setBerths_12 : decode cX0_setBerths 12 = .ok (.invokestatic 35, 3) := by decide +kernel
theorem dX0_setBerths_15 : decode cX0_setBerths 15 = .ok (.ifCond .ne 6, 3) := by decide +kernel
theorem dX0_setBerths_18 : decode cX0_setBerths 18 = .ok (.bipush (-2), 2) := by decide +kernel
theorem dX0_setBerths_20 : decode cX0_setBerths 20 = .ok (.ireturn, 1) := by decide +kernel
theorem dX0_setBerths_21 : decode cX0_setBerths 21 = .ok (.iconst 0, 1) := by decide +kernel
theorem dX0_setBerths_22 : decode cX0_setBerths 22 = .ok (.istore_n 3, 1) := by decide +kernel
theorem dX0_setBerths_23 : decode cX0_setBerths 23 = .ok (.iload_n 3, 1) := by decide +kernel
theorem dX0_setBerths_24 : decode cX0_setBerths 24 = .ok (.aload_n 0, 1) := by decide +kernel
theorem dX0_setBerths_25 : decode cX0_setBerths 25 = .ok (.getfield 39, 3) := by decide +kernel
theorem dX0_setBerths_28 : decode cX0_setBerths 28 = .ok (.if_icmp .ge 41, 3) := by decide +kernel
theorem dX0_setBerths_31 : decode cX0_setBerths 31 = .ok (.aload_n 0, 1) := by decide +kernel
theorem dX0_setBerths_32 : decode cX0_setBerths 32 = .ok (.getfield 27, 3) := by decide +kernel
theorem dX0_setBerths_35 : decode cX0_setBerths 35 = .ok (.iload_n 3, 1) := by decide +kernel
theorem dX0_setBerths_36 : decode cX0_setBerths 36 = .ok (.baload, 1) := by decide +kernel
theorem dX0_setBerths_37 : decode cX0_setBerths 37 = .ok (.ifCond .ne 26, 3) := by decide +kernel
theorem dX0_setBerths_40 : decode cX0_setBerths 40 = .ok (.aload_n 0, 1) := by decide +kernel
theorem dX0_setBerths_41 : decode cX0_setBerths 41 = .ok (.getfield 15, 3) := by decide +kernel
theorem dX0_setBerths_44 : decode cX0_setBerths 44 = .ok (.iload_n 3, 1) := by decide +kernel
theorem dX0_setBerths_45 : decode cX0_setBerths 45 = .ok (.iaload, 1) := by decide +kernel
theorem dX0_setBerths_46 : decode cX0_setBerths 46 = .ok (.iload_n 1, 1) := by decide +kernel
theorem dX0_setBerths_47 : decode cX0_setBerths 47 = .ok (.if_icmp .ne 16, 3) := by decide +kernel
theorem dX0_setBerths_50 : decode cX0_setBerths 50 = .ok (.aload_n 0, 1) := by decide +kernel
theorem dX0_setBerths_51 : decode cX0_setBerths 51 = .ok (.getfield 18, 3) := by decide +kernel
theorem dX0_setBerths_54 : decode cX0_setBerths 54 = .ok (.iload_n 3, 1) := by decide +kernel
theorem dX0_setBerths_55 : decode cX0_setBerths 55 = .ok (.iaload, 1) := by decide +kernel
theorem dX0_setBerths_56 : decode cX0_setBerths 56 = .ok (.iload_n 2, 1) := by decide +kernel
theorem dX0_setBerths_57 : decode cX0_setBerths 57 = .ok (.if_icmp .lt 6, 3) := by decide +kernel
theorem dX0_setBerths_60 : decode cX0_setBerths 60 = .ok (.bipush (-3), 2) := by decide +kernel
theorem dX0_setBerths_62 : decode cX0_setBerths 62 = .ok (.ireturn, 1) := by decide +kernel
theorem dX0_setBerths_63 : decode cX0_setBerths 63 = .ok (.iinc 3 1, 3) := by decide +kernel
theorem dX0_setBerths_66 : decode cX0_setBerths 66 = .ok (.goto (-43), 3) := by decide +kernel
theorem dX0_setBerths_69 : decode cX0_setBerths 69 = .ok (.aload_n 0, 1) := by decide +kernel
theorem dX0_setBerths_70 : decode cX0_setBerths 70 = .ok (.getfield 11, 3) := by decide +kernel
theorem dX0_setBerths_73 : decode cX0_setBerths 73 = .ok (.iload_n 1, 1) := by decide +kernel
theorem dX0_setBerths_74 : decode cX0_setBerths 74 = .ok (.iaload, 1) := by decide +kernel
theorem dX0_setBerths_75 : decode cX0_setBerths 75 = .ok (.istore_n 3, 1) := by decide +kernel
theorem dX0_setBerths_76 : decode cX0_setBerths 76 = .ok (.aload_n 0, 1) := by decide +kernel
theorem dX0_setBerths_77 : decode cX0_setBerths 77 = .ok (.getfield 11, 3) := by decide +kernel
theorem dX0_setBerths_80 : decode cX0_setBerths 80 = .ok (.iload_n 1, 1) := by decide +kernel
theorem dX0_setBerths_81 : decode cX0_setBerths 81 = .ok (.iload_n 2, 1) := by decide +kernel
theorem dX0_setBerths_82 : decode cX0_setBerths 82 = .ok (.iastore, 1) := by decide +kernel
theorem dX0_setBerths_83 : decode cX0_setBerths 83 = .ok (.iload_n 3, 1) := by decide +kernel
theorem dX0_setBerths_84 : decode cX0_setBerths 84 = .ok (.ireturn, 1) := by decide +kernel
set_option maxRecDepth 20000 in
theorem ggX0_grant_X8_isWithin : GoodIn wsX0_grant wsX8_isWithin := goodIn_r _ [5] (by decide +kernel) (by decide +kernel)
set_option maxRecDepth 20000 in
theorem gX0_grant_X8_isWithin_n31 : GoodIn wsX0_grant (wsX8_isWithin) := ggX0_grant_X8_isWithin
set_option maxRecDepth 20000 in
theorem ggX0_grant_X0_isPort : GoodIn wsX0_grant wsX0_isPort := goodIn_r _ [9, 3, 4, 5] (by decide +kernel) (by decide +kernel)
set_option maxRecDepth 20000 in
theorem gX0_grant_X0_isPort : GoodIn wsX0_grant (va_wsS RX0 35 yX0_isPort wsX0_isPort) := goodIn_app (goodIn_of _ (by decide +kernel)) ggX0_grant_X0_isPort
set_option maxRecDepth 20000 in
theorem ggX0_grant_X0_firstFree : GoodIn wsX0_grant wsX0_firstFree := goodIn_r _ [13, 2, 14, 15, 16, 17, 8, 18, 19, 20, 21, 22, 28, 29, 30, 31, 32, 33, 34, 35] (by decide +kernel) (by decide +kernel)
set_option maxRecDepth 20000 in
theorem gX0_grant_X0_firstFree : GoodIn wsX0_grant (wsV RX0 43 RX0 yX0_firstFree wsX0_firstFree) := goodIn_app (goodIn_of _ (by decide +kernel)) ggX0_grant_X0_firstFree
set_option maxRecDepth 20000 in
theorem ggX0_grant_X0_keep : GoodIn wsX0_grant wsX0_keep := goodIn_r _ [26, 20, 2, 21, 22, 14, 27, 28, 29, 30, 31, 32, 33, 34, 35] (by decide +kernel) (by decide +kernel)
set_option maxRecDepth 20000 in
theorem gX0_grant_X0_keep : GoodIn wsX0_grant (wsV RX0 47 RX0 yX0_keep wsX0_keep) := goodIn_app (goodIn_of _ (by decide +kernel)) ggX0_grant_X0_keep
theorem dX0_grant_0 : decode cX0_grant 0 = .ok (.iload_n 2, 1) := by decide +kernel
theorem dX0_grant_1 : decode cX0_grant 1 = .ok (.iconst 0, 1) := by decide +kernel
theorem dX0_grant_2 : decode cX0_grant 2 = .ok (.sipush 400, 3) := by decide +kernel
theorem dX0_grant_5 : decode cX0_grant 5 = .ok (.invokestatic 31, 3) := by decide +kernel
theorem dX0_grant_8 : decode cX0_grant 8 = .ok (.ifCond .eq 13, 3) := by decide +kernel
theorem dX0_grant_11 : decode cX0_grant 11 = .ok (.iload_n 3, 1) := by decide +kernel
theorem dX0_grant_12 : decode cX0_grant 12 = .ok (.iconst 1, 1) := by decide +kernel
theorem dX0_grant_13 : decode cX0_grant 13 = .ok (.bipush 30, 2) := by decide +kernel
theorem dX0_grant_15 : decode cX0_grant 15 = .ok (.invokestatic 31, 3) := by decide +kernel
theorem dX0_grant_18 : decode cX0_grant 18 = .ok (.ifCond .ne 5, 3) := by decide +kernel
theorem dX0_grant_21 : decode cX0_grant 21 = .ok (.iconst (-1), 1) := by decide +kernel
theorem dX0_grant_22 : decode cX0_grant 22 = .ok (.ireturn, 1) := by decide +kernel
theorem dX0_grant_23 : decode cX0_grant 23 = .ok (.iload_n 1, 1) := by decide +kernel
theorem dX0_grant_24 : decode cX0_grant 24 = .ok (.invokestatic 35, 3) := by decide +kernel
theorem dX0_grant_27 : decode cX0_grant 27 = .ok (.ifCond .ne 6, 3) := by decide +kernel
theorem dX0_grant_30 : decode cX0_grant 30 = .ok (.bipush (-2), 2) := by decide +kernel
theorem dX0_grant_32 : decode cX0_grant 32 = .ok (.ireturn, 1) := by decide +kernel
theorem dX0_grant_33 : decode cX0_grant 33 = .ok (.iconst 0, 1) := by decide +kernel
theorem dX0_grant_34 : decode cX0_grant 34 = .ok (.istore 4, 2) := by decide +kernel
theorem dX0_grant_36 : decode cX0_grant 36 = .ok (.aload_n 0, 1) := by decide +kernel
theorem dX0_grant_37 : decode cX0_grant 37 = .ok (.iload_n 1, 1) := by decide +kernel
theorem dX0_grant_38 : decode cX0_grant 38 = .ok (.iconst 0, 1) := by decide +kernel
theorem dX0_grant_39 : decode cX0_grant 39 = .ok (.iload_n 2, 1) := by decide +kernel
theorem dX0_grant_40 : decode cX0_grant 40 = .ok (.iload_n 3, 1) := by decide +kernel
theorem dX0_grant_41 : decode cX0_grant 41 = .ok (.invokevirtual 43, 3) := by decide +kernel
theorem dX0_grant_44 : decode cX0_grant 44 = .ok (.istore 5, 2) := by decide +kernel
theorem dX0_grant_46 : decode cX0_grant 46 = .ok (.iconst 1, 1) := by decide +kernel
theorem dX0_grant_47 : decode cX0_grant 47 = .ok (.istore 6, 2) := by decide +kernel
theorem dX0_grant_49 : decode cX0_grant 49 = .ok (.iload 6, 2) := by decide +kernel
theorem dX0_grant_51 : decode cX0_grant 51 = .ok (.aload_n 0, 1) := by decide +kernel
theorem dX0_grant_52 : decode cX0_grant 52 = .ok (.getfield 11, 3) := by decide +kernel
theorem dX0_grant_55 : decode cX0_grant 55 = .ok (.iload_n 1, 1) := by decide +kernel
theorem dX0_grant_56 : decode cX0_grant 56 = .ok (.iaload, 1) := by decide +kernel
theorem dX0_grant_57 : decode cX0_grant 57 = .ok (.if_icmp .ge 35, 3) := by decide +kernel
theorem dX0_grant_60 : decode cX0_grant 60 = .ok (.aload_n 0, 1) := by decide +kernel
theorem dX0_grant_61 : decode cX0_grant 61 = .ok (.iload_n 1, 1) := by decide +kernel
theorem dX0_grant_62 : decode cX0_grant 62 = .ok (.iload 6, 2) := by decide +kernel
theorem dX0_grant_64 : decode cX0_grant 64 = .ok (.iload_n 2, 1) := by decide +kernel
theorem dX0_grant_65 : decode cX0_grant 65 = .ok (.iload_n 3, 1) := by decide +kernel
theorem dX0_grant_66 : decode cX0_grant 66 = .ok (.invokevirtual 43, 3) := by decide +kernel
theorem dX0_grant_69 : decode cX0_grant 69 = .ok (.istore 7, 2) := by decide +kernel
theorem dX0_grant_71 : decode cX0_grant 71 = .ok (.iload 7, 2) := by decide +kernel
theorem dX0_grant_73 : decode cX0_grant 73 = .ok (.iload 5, 2) := by decide +kernel
theorem dX0_grant_75 : decode cX0_grant 75 = .ok (.if_icmp .ge 11, 3) := by decide +kernel
theorem dX0_grant_78 : decode cX0_grant 78 = .ok (.iload 6, 2) := by decide +kernel
theorem dX0_grant_80 : decode cX0_grant 80 = .ok (.istore 4, 2) := by decide +kernel
theorem dX0_grant_82 : decode cX0_grant 82 = .ok (.iload 7, 2) := by decide +kernel
theorem dX0_grant_84 : decode cX0_grant 84 = .ok (.istore 5, 2) := by decide +kernel
theorem dX0_grant_86 : decode cX0_grant 86 = .ok (.iinc 6 1, 3) := by decide +kernel
theorem dX0_grant_89 : decode cX0_grant 89 = .ok (.goto (-40), 3) := by decide +kernel
theorem dX0_grant_92 : decode cX0_grant 92 = .ok (.iload 5, 2) := by decide +kernel
theorem dX0_grant_94 : decode cX0_grant 94 = .ok (.iload_n 3, 1) := by decide +kernel
theorem dX0_grant_95 : decode cX0_grant 95 = .ok (.iadd, 1) := by decide +kernel
theorem dX0_grant_96 : decode cX0_grant 96 = .ok (.iconst 1, 1) := by decide +kernel
theorem dX0_grant_97 : decode cX0_grant 97 = .ok (.isub, 1) := by decide +kernel
theorem dX0_grant_98 : decode cX0_grant 98 = .ok (.istore 6, 2) := by decide +kernel
theorem dX0_grant_100 : decode cX0_grant 100 = .ok (.iload 6, 2) := by decide +kernel
theorem dX0_grant_102 : decode cX0_grant 102 = .ok (.sipush 400, 3) := by decide +kernel
theorem dX0_grant_105 : decode cX0_grant 105 = .ok (.if_icmp .le 6, 3) := by decide +kernel
theorem dX0_grant_108 : decode cX0_grant 108 = .ok (.bipush (-3), 2) := by decide +kernel
theorem dX0_grant_110 : decode cX0_grant 110 = .ok (.ireturn, 1) := by decide +kernel
theorem dX0_grant_111 : decode cX0_grant 111 = .ok (.aload_n 0, 1) := by decide +kernel
theorem dX0_grant_112 : decode cX0_grant 112 = .ok (.getfield 39, 3) := by decide +kernel
theorem dX0_grant_115 : decode cX0_grant 115 = .ok (.bipush 60, 2) := by decide +kernel
theorem dX0_grant_117 : decode cX0_grant 117 = .ok (.if_icmp .lt 6, 3) := by decide +kernel
theorem dX0_grant_120 : decode cX0_grant 120 = .ok (.bipush (-5), 2) := by decide +kernel
theorem dX0_grant_122 : decode cX0_grant 122 = .ok (.ireturn, 1) := by decide +kernel
theorem dX0_grant_123 : decode cX0_grant 123 = .ok (.aload_n 0, 1) := by decide +kernel
theorem dX0_grant_124 : decode cX0_grant 124 = .ok (.iload_n 1, 1) := by decide +kernel
theorem dX0_grant_125 : decode cX0_grant 125 = .ok (.iload 4, 2) := by decide +kernel
theorem dX0_grant_127 : decode cX0_grant 127 = .ok (.iload 5, 2) := by decide +kernel
theorem dX0_grant_129 : decode cX0_grant 129 = .ok (.iload 6, 2) := by decide +kernel
theorem dX0_grant_131 : decode cX0_grant 131 = .ok (.invokevirtual 47, 3) := by decide +kernel
theorem dX0_grant_134 : decode cX0_grant 134 = .ok (.ireturn, 1) := by decide +kernel
theorem dX0_keep_0 : decode cX0_keep 0 = .ok (.aload_n 0, 1) := by decide +kernel
theorem dX0_keep_1 : decode cX0_keep 1 = .ok (.getfield 15, 3) := by decide +kernel
theorem dX0_keep_4 : decode cX0_keep 4 = .ok (.aload_n 0, 1) := by decide +kernel
theorem dX0_keep_5 : decode cX0_keep 5 = .ok (.getfield 39, 3) := by decide +kernel
theorem dX0_keep_8 : decode cX0_keep 8 = .ok (.iload_n 1, 1) := by decide +kernel
theorem dX0_keep_9 : decode cX0_keep 9 = .ok (.iastore, 1) := by decide +kernel
theorem dX0_keep_10 : decode cX0_keep 10 = .ok (.aload_n 0, 1) := by decide +kernel
theorem dX0_keep_11 : decode cX0_keep 11 = .ok (.getfield 18, 3) := by decide +kernel
theorem dX0_keep_14 : decode cX0_keep 14 = .ok (.aload_n 0, 1) := by decide +kernel
theorem dX0_keep_15 : decode cX0_keep 15 = .ok (.getfield 39, 3) := by decide +kernel
theorem dX0_keep_18 : decode cX0_keep 18 = .ok (.iload_n 2, 1) := by decide +kernel
theorem dX0_keep_19 : decode cX0_keep 19 = .ok (.iastore, 1) := by decide +kernel
theorem dX0_keep_20 : decode cX0_keep 20 = .ok (.aload_n 0, 1) := by decide +kernel
theorem dX0_keep_21 : decode cX0_keep 21 = .ok (.getfield 21, 3) := by decide +kernel
theorem dX0_keep_24 : decode cX0_keep 24 = .ok (.aload_n 0, 1) := by decide +kernel
theorem dX0_keep_25 : decode cX0_keep 25 = .ok (.getfield 39, 3) := by decide +kernel
theorem dX0_keep_28 : decode cX0_keep 28 = .ok (.iload_n 3, 1) := by decide +kernel
theorem dX0_keep_29 : decode cX0_keep 29 = .ok (.iastore, 1) := by decide +kernel
theorem dX0_keep_30 : decode cX0_keep 30 = .ok (.aload_n 0, 1) := by decide +kernel
theorem dX0_keep_31 : decode cX0_keep 31 = .ok (.getfield 24, 3) := by decide +kernel
theorem dX0_keep_34 : decode cX0_keep 34 = .ok (.aload_n 0, 1) := by decide +kernel
theorem dX0_keep_35 : decode cX0_keep 35 = .ok (.getfield 39, 3) := by decide +kernel
theorem dX0_keep_38 : decode cX0_keep 38 = .ok (.iload 4, 2) := by decide +kernel
theorem dX0_keep_40 : decode cX0_keep 40 = .ok (.iastore, 1) := by decide +kernel
theorem dX0_keep_41 : decode cX0_keep 41 = .ok (.aload_n 0, 1) := by decide +kernel
theorem dX0_keep_42 : decode cX0_keep 42 = .ok (.dup, 1) := by decide +kernel
theorem dX0_keep_43 : decode cX0_keep 43 = .ok (.getfield 50, 3) := by decide +kernel
theorem dX0_keep_46 : decode cX0_keep 46 = .ok (.iconst 1, 1) := by decide +kernel
theorem dX0_keep_47 : decode cX0_keep 47 = .ok (.iadd, 1) := by decide +kernel
theorem dX0_keep_48 : decode cX0_keep 48 = .ok (.putfield 50, 3) := by decide +kernel
theorem dX0_keep_51 : decode cX0_keep 51 = .ok (.aload_n 0, 1) := by decide +kernel
theorem dX0_keep_52 : decode cX0_keep 52 = .ok (.dup, 1) := by decide +kernel
theorem dX0_keep_53 : decode cX0_keep 53 = .ok (.getfield 39, 3) := by decide +kernel
theorem dX0_keep_56 : decode cX0_keep 56 = .ok (.iconst 1, 1) := by decide +kernel
theorem dX0_keep_57 : decode cX0_keep 57 = .ok (.iadd, 1) := by decide +kernel
theorem dX0_keep_58 : decode cX0_keep 58 = .ok (.putfield 39, 3) := by decide +kernel
theorem dX0_keep_61 : decode cX0_keep 61 = .ok (.aload_n 0, 1) := by decide +kernel
theorem dX0_keep_62 : decode cX0_keep 62 = .ok (.getfield 39, 3) := by decide +kernel
theorem dX0_keep_65 : decode cX0_keep 65 = .ok (.iconst 1, 1) := by decide +kernel
theorem dX0_keep_66 : decode cX0_keep 66 = .ok (.isub, 1) := by decide +kernel
theorem dX0_keep_67 : decode cX0_keep 67 = .ok (.ireturn, 1) := by decide +kernel
set_option maxRecDepth 20000 in
theorem ggX0_firstFree_X0_slotInTheWay : GoodIn wsX0_firstFree wsX0_slotInTheWay := goodIn_r _ [7, 1, 8, 9, 10, 11, 2, 12, 13, 14, 15, 16, 17, 18, 19] (by decide +kernel) (by decide +kernel)
set_option maxRecDepth 20000 in
theorem gX0_firstFree_X0_slotInTheWay : GoodIn wsX0_firstFree (wsV RX0 53 RX0 yX0_slotInTheWay wsX0_slotInTheWay) := goodIn_app (goodIn_of _ (by decide +kernel)) ggX0_firstFree_X0_slotInTheWay
theorem dX0_firstFree_0 : decode cX0_firstFree 0 = .ok (.iload_n 3, 1) := by decide +kernel
theorem dX0_firstFree_1 : decode cX0_firstFree 1 = .ok (.istore 5, 2) := by decide +kernel
theorem dX0_firstFree_3 : decode cX0_firstFree 3 = .ok (.iconst 0, 1) := by decide +kernel
theorem dX0_firstFree_4 : decode cX0_firstFree 4 = .ok (.istore 6, 2) := by decide +kernel
theorem dX0_firstFree_6 : decode cX0_firstFree 6 = .ok (.iload 6, 2) := by decide +kernel
theorem dX0_firstFree_8 : decode cX0_firstFree 8 = .ok (.aload_n 0, 1) := by decide +kernel
theorem dX0_firstFree_9 : decode cX0_firstFree 9 = .ok (.getfield 39, 3) := by decide +kernel
theorem dX0_firstFree_12 : decode cX0_firstFree 12 = .ok (.if_icmp .ge 46, 3) := by decide +kernel
theorem dX0_firstFree_15 : decode cX0_firstFree 15 = .ok (.aload_n 0, 1) := by decide +kernel
theorem dX0_firstFree_16 : decode cX0_firstFree 16 = .ok (.iload_n 1, 1) := by decide +kernel
theorem dX0_firstFree_17 : decode cX0_firstFree 17 = .ok (.iload_n 2, 1) := by decide +kernel
theorem dX0_firstFree_18 : decode cX0_firstFree 18 = .ok (.iload 5, 2) := by decide +kernel
theorem dX0_firstFree_20 : decode cX0_firstFree 20 = .ok (.iload 5, 2) := by decide +kernel
theorem dX0_firstFree_22 : decode cX0_firstFree 22 = .ok (.iload 4, 2) := by decide +kernel
theorem dX0_firstFree_24 : decode cX0_firstFree 24 = .ok (.iadd, 1) := by decide +kernel
theorem dX0_firstFree_25 : decode cX0_firstFree 25 = .ok (.iconst 1, 1) := by decide +kernel
theorem dX0_firstFree_26 : decode cX0_firstFree 26 = .ok (.isub, 1) := by decide +kernel
theorem dX0_firstFree_27 : decode cX0_firstFree 27 = .ok (.invokevirtual 53, 3) := by decide +kernel
theorem dX0_firstFree_30 : decode cX0_firstFree 30 = .ok (.istore 7, 2) := by decide +kernel
theorem dX0_firstFree_32 : decode cX0_firstFree 32 = .ok (.iload 7, 2) := by decide +kernel
theorem dX0_firstFree_34 : decode cX0_firstFree 34 = .ok (.iconst (-1), 1) := by decide +kernel
theorem dX0_firstFree_35 : decode cX0_firstFree 35 = .ok (.if_icmp .ne 6, 3) := by decide +kernel
theorem dX0_firstFree_38 : decode cX0_firstFree 38 = .ok (.iload 5, 2) := by decide +kernel
theorem dX0_firstFree_40 : decode cX0_firstFree 40 = .ok (.ireturn, 1) := by decide +kernel
theorem dX0_firstFree_41 : decode cX0_firstFree 41 = .ok (.aload_n 0, 1) := by decide +kernel
theorem dX0_firstFree_42 : decode cX0_firstFree 42 = .ok (.getfield 24, 3) := by decide +kernel
theorem dX0_firstFree_45 : decode cX0_firstFree 45 = .ok (.iload 7, 2) := by decide +kernel
theorem dX0_firstFree_47 : decode cX0_firstFree 47 = .ok (.iaload, 1) := by decide +kernel
theorem dX0_firstFree_48 : decode cX0_firstFree 48 = .ok (.iconst 1, 1) := by decide +kernel
theorem dX0_firstFree_49 : decode cX0_firstFree 49 = .ok (.iadd, 1) := by decide +kernel
theorem dX0_firstFree_50 : decode cX0_firstFree 50 = .ok (.istore 5, 2) := by decide +kernel
theorem dX0_firstFree_52 : decode cX0_firstFree 52 = .ok (.iinc 6 1, 3) := by decide +kernel
theorem dX0_firstFree_55 : decode cX0_firstFree 55 = .ok (.goto (-49), 3) := by decide +kernel
theorem dX0_firstFree_58 : decode cX0_firstFree 58 = .ok (.iload 5, 2) := by decide +kernel
theorem dX0_firstFree_60 : decode cX0_firstFree 60 = .ok (.ireturn, 1) := by decide +kernel
theorem dX0_slotInTheWay_0 : decode cX0_slotInTheWay 0 = .ok (.iconst 0, 1) := by decide +kernel
theorem dX0_slotInTheWay_1 : decode cX0_slotInTheWay 1 = .ok (.istore 5, 2) := by decide +kernel
theorem dX0_slotInTheWay_3 : decode cX0_slotInTheWay 3 = .ok (.iload 5, 2) := by decide +kernel
theorem dX0_slotInTheWay_5 : decode cX0_slotInTheWay 5 = .ok (.aload_n 0, 1) := by decide +kernel
theorem dX0_slotInTheWay_6 : decode cX0_slotInTheWay 6 = .ok (.getfield 39, 3) := by decide +kernel
theorem dX0_slotInTheWay_9 : decode cX0_slotInTheWay 9 = .ok (.if_icmp .ge 67, 3) := by decide +kernel
theorem dX0_slotInTheWay_12 : decode cX0_slotInTheWay 12 = .ok (.aload_n 0, 1) := by decide +kernel
theorem dX0_slotInTheWay_13 : decode cX0_slotInTheWay 13 = .ok (.getfield 27, 3) := by decide +kernel
theorem dX0_slotInTheWay_16 : decode cX0_slotInTheWay 16 = .ok (.iload 5, 2) := by decide +kernel
theorem dX0_slotInTheWay_18 : decode cX0_slotInTheWay 18 = .ok (.baload, 1) := by decide +kernel
theorem dX0_slotInTheWay_19 : decode cX0_slotInTheWay 19 = .ok (.ifCond .ne 51, 3) := by decide +kernel
theorem dX0_slotInTheWay_22 : decode cX0_slotInTheWay 22 = .ok (.aload_n 0, 1) := by decide +kernel
theorem dX0_slotInTheWay_23 : decode cX0_slotInTheWay 23 = .ok (.getfield 15, 3) := by decide +kernel
theorem dX0_slotInTheWay_26 : decode cX0_slotInTheWay 26 = .ok (.iload 5, 2) := by decide +kernel
theorem dX0_slotInTheWay_28 : decode cX0_slotInTheWay 28 = .ok (.iaload, 1) := by decide +kernel
theorem dX0_slotInTheWay_29 : decode cX0_slotInTheWay 29 = .ok (.iload_n 1, 1) := by decide +kernel
theorem dX0_slotInTheWay_30 : decode cX0_slotInTheWay 30 = .ok (.if_icmp .ne 40, 3) := by decide +kernel
theorem dX0_slotInTheWay_33 : decode cX0_slotInTheWay 33 = .ok (.aload_n 0, 1) := by decide +kernel
theorem dX0_slotInTheWay_34 : decode cX0_slotInTheWay 34 = .ok (.getfield 18, 3) := by decide +kernel
theorem dX0_slotInTheWay_37 : decode cX0_slotInTheWay 37 = .ok (.iload 5, 2) := by decide +kernel
theorem dX0_slotInTheWay_39 : decode cX0_slotInTheWay 39 = .ok (.iaload, 1) := by decide +kernel
theorem dX0_slotInTheWay_40 : decode cX0_slotInTheWay 40 = .ok (.iload_n 2, 1) := by decide +kernel
theorem dX0_slotInTheWay_41 : decode cX0_slotInTheWay 41 = .ok (.if_icmp .ne 29, 3) := by decide +kernel
theorem dX0_slotInTheWay_44 : decode cX0_slotInTheWay 44 = .ok (.aload_n 0, 1) := by decide +kernel
theorem dX0_slotInTheWay_45 : decode cX0_slotInTheWay 45 = .ok (.getfield 21, 3) := by decide +kernel
theorem dX0_slotInTheWay_48 : decode cX0_slotInTheWay 48 = .ok (.iload 5, 2) := by decide +kernel
theorem dX0_slotInTheWay_50 : decode cX0_slotInTheWay 50 = .ok (.iaload, 1) := by decide +kernel
theorem dX0_slotInTheWay_51 : decode cX0_slotInTheWay 51 = .ok (.iload 4, 2) := by decide +kernel
theorem dX0_slotInTheWay_53 : decode cX0_slotInTheWay 53 = .ok (.if_icmp .gt 17, 3) := by decide +kernel
theorem dX0_slotInTheWay_56 : decode cX0_slotInTheWay 56 = .ok (.iload_n 3, 1) := by decide +kernel
theorem dX0_slotInTheWay_57 : decode cX0_slotInTheWay 57 = .ok (.aload_n 0, 1) := by decide +kernel
theorem dX0_slotInTheWay_58 : decode cX0_slotInTheWay 58 = .ok (.getfield 24, 3) := by decide +kernel
theorem dX0_slotInTheWay_61 : decode cX0_slotInTheWay 61 = .ok (.iload 5, 2) := by decide +kernel
theorem dX0_slotInTheWay_63 : decode cX0_slotInTheWay 63 = .ok (.iaload, 1) := by decide +kernel
theorem dX0_slotInTheWay_64 : decode cX0_slotInTheWay 64 = .ok (.if_icmp .gt 6, 3) := by decide +kernel
theorem dX0_slotInTheWay_67 : decode cX0_slotInTheWay 67 = .ok (.iload 5, 2) := by decide +kernel
theorem dX0_slotInTheWay_69 : decode cX0_slotInTheWay 69 = .ok (.ireturn, 1) := by decide +kernel
theorem dX0_slotInTheWay_70 : decode cX0_slotInTheWay 70 = .ok (.iinc 5 1, 3) := by decide +kernel
theorem dX0_slotInTheWay_73 : decode cX0_slotInTheWay 73 = .ok (.goto (-70), 3) := by decide +kernel
theorem dX0_slotInTheWay_76 : decode cX0_slotInTheWay 76 = .ok (.iconst (-1), 1) := by decide +kernel
theorem dX0_slotInTheWay_77 : decode cX0_slotInTheWay 77 = .ok (.ireturn, 1) := by decide +kernel
set_option maxRecDepth 20000 in
theorem ggX0_tell_X0_isHeld : GoodIn wsX0_tell wsX0_isHeld := goodIn_r _ [9, 10, 11, 12, 13, 14, 15, 16, 17, 18, 19, 20, 21, 22] (by decide +kernel) (by decide +kernel)
set_option maxRecDepth 20000 in
theorem gX0_tell_X0_isHeld : GoodIn wsX0_tell (wsV RX0 56 RX0 yX0_isHeld wsX0_isHeld) := goodIn_app (goodIn_of _ (by decide +kernel)) ggX0_tell_X0_isHeld
theorem dX0_tell_0 : decode cX0_tell 0 = .ok (.aload_n 0, 1) := by decide +kernel
theorem dX0_tell_1 : decode cX0_tell 1 = .ok (.iload_n 1, 1) := by decide +kernel
theorem dX0_tell_2 : decode cX0_tell 2 = .ok (.invokevirtual 56, 3) := by decide +kernel
theorem dX0_tell_5 : decode cX0_tell 5 = .ok (.ifCond .ne 5, 3) := by decide +kernel
theorem dX0_tell_8 : decode cX0_tell 8 = .ok (.iconst (-1), 1) := by decide +kernel
theorem dX0_tell_9 : decode cX0_tell 9 = .ok (.ireturn, 1) := by decide +kernel
theorem dX0_tell_10 : decode cX0_tell 10 = .ok (.iload_n 2, 1) := by decide +kernel
theorem dX0_tell_11 : decode cX0_tell 11 = .ok (.tableswitch 57 0 3 #[29, 36, 43, 50], 29) := by decide +kernel
theorem dX0_tell_40 : decode cX0_tell 40 = .ok (.aload_n 0, 1) := by decide +kernel
theorem dX0_tell_41 : decode cX0_tell 41 = .ok (.getfield 15, 3) := by decide +kernel
theorem dX0_tell_44 : decode cX0_tell 44 = .ok (.iload_n 1, 1) := by decide +kernel
theorem dX0_tell_45 : decode cX0_tell 45 = .ok (.iaload, 1) := by decide +kernel
theorem dX0_tell_46 : decode cX0_tell 46 = .ok (.ireturn, 1) := by decide +kernel
theorem dX0_tell_47 : decode cX0_tell 47 = .ok (.aload_n 0, 1) := by decide +kernel
theorem dX0_tell_48 : decode cX0_tell 48 = .ok (.getfield 18, 3) := by decide +kernel
theorem dX0_tell_51 : decode cX0_tell 51 = .ok (.iload_n 1, 1) := by decide +kernel
theorem dX0_tell_52 : decode cX0_tell 52 = .ok (.iaload, 1) := by decide +kernel
theorem dX0_tell_53 : decode cX0_tell 53 = .ok (.ireturn, 1) := by decide +kernel
theorem dX0_tell_54 : decode cX0_tell 54 = .ok (.aload_n 0, 1) := by decide +kernel
theorem dX0_tell_55 : decode cX0_tell 55 = .ok (.getfield 21, 3) := by decide +kernel
theorem dX0_tell_58 : decode cX0_tell 58 = .ok (.iload_n 1, 1) := by decide +kernel
theorem dX0_tell_59 : decode cX0_tell 59 = .ok (.iaload, 1) := by decide +kernel
theorem dX0_tell_60 : decode cX0_tell 60 = .ok (.ireturn, 1) := by decide +kernel
theorem dX0_tell_61 : decode cX0_tell 61 = .ok (.aload_n 0, 1) := by decide +kernel
theorem dX0_tell_62 : decode cX0_tell 62 = .ok (.getfield 24, 3) := by decide +kernel
theorem dX0_tell_65 : decode cX0_tell 65 = .ok (.iload_n 1, 1) := by decide +kernel
theorem dX0_tell_66 : decode cX0_tell 66 = .ok (.iaload, 1) := by decide +kernel
theorem dX0_tell_67 : decode cX0_tell 67 = .ok (.ireturn, 1) := by decide +kernel
theorem dX0_tell_68 : decode cX0_tell 68 = .ok (.iconst (-1), 1) := by decide +kernel
theorem dX0_tell_69 : decode cX0_tell 69 = .ok (.ireturn, 1) := by decide +kernel
set_option maxRecDepth 20000 in
theorem ggX0_giveUp_X0_isHeld : GoodIn wsX0_giveUp wsX0_isHeld := goodIn_r _ [7, 8, 1, 9, 10, 11, 12, 13, 14, 15, 16, 17, 18, 19] (by decide +kernel) (by decide +kernel)
set_option maxRecDepth 20000 in
theorem gX0_giveUp_X0_isHeld : GoodIn wsX0_giveUp (wsV RX0 56 RX0 yX0_isHeld wsX0_isHeld) := goodIn_app (goodIn_of _ (by decide +kernel)) ggX0_giveUp_X0_isHeld
theorem dX0_giveUp_0 : decode cX0_giveUp 0 = .ok (.aload_n 0, 1) := by decide +kernel
theorem dX0_giveUp_1 : decode cX0_giveUp 1 = .ok (.iload_n 1, 1) := by decide +kernel
theorem dX0_giveUp_2 : decode cX0_giveUp 2 = .ok (.invokevirtual 56, 3) := by decide +kernel
theorem dX0_giveUp_5 : decode cX0_giveUp 5 = .ok (.ifCond .ne 6, 3) := by decide +kernel
theorem dX0_giveUp_8 : decode cX0_giveUp 8 = .ok (.bipush (-2), 2) := by decide +kernel
theorem dX0_giveUp_10 : decode cX0_giveUp 10 = .ok (.ireturn, 1) := by decide +kernel
theorem dX0_giveUp_11 : decode cX0_giveUp 11 = .ok (.aload_n 0, 1) := by decide +kernel
theorem dX0_giveUp_12 : decode cX0_giveUp 12 = .ok (.getfield 27, 3) := by decide +kernel
theorem dX0_giveUp_15 : decode cX0_giveUp 15 = .ok (.iload_n 1, 1) := by decide +kernel
theorem dX0_giveUp_16 : decode cX0_giveUp 16 = .ok (.iconst 1, 1) := by decide +kernel
theorem dX0_giveUp_17 : decode cX0_giveUp 17 = .ok (.bastore, 1) := by decide +kernel
theorem dX0_giveUp_18 : decode cX0_giveUp 18 = .ok (.aload_n 0, 1) := by decide +kernel
theorem dX0_giveUp_19 : decode cX0_giveUp 19 = .ok (.dup, 1) := by decide +kernel
theorem dX0_giveUp_20 : decode cX0_giveUp 20 = .ok (.getfield 50, 3) := by decide +kernel
theorem dX0_giveUp_23 : decode cX0_giveUp 23 = .ok (.iconst 1, 1) := by decide +kernel
theorem dX0_giveUp_24 : decode cX0_giveUp 24 = .ok (.isub, 1) := by decide +kernel
theorem dX0_giveUp_25 : decode cX0_giveUp 25 = .ok (.putfield 50, 3) := by decide +kernel
theorem dX0_giveUp_28 : decode cX0_giveUp 28 = .ok (.iconst 0, 1) := by decide +kernel
theorem dX0_giveUp_29 : decode cX0_giveUp 29 = .ok (.ireturn, 1) := by decide +kernel
set_option maxRecDepth 20000 in
theorem ggX0_isHeld_X8_isWithin : GoodIn wsX0_isHeld wsX8_isWithin := goodIn_r _ [5] (by decide +kernel) (by decide +kernel)
set_option maxRecDepth 20000 in
theorem gX0_isHeld_X8_isWithin_n31 : GoodIn wsX0_isHeld (wsX8_isWithin) := ggX0_isHeld_X8_isWithin
theorem dX0_isHeld_0 : decode cX0_isHeld 0 = .ok (.iload_n 1, 1) := by decide +kernel
theorem dX0_isHeld_1 : decode cX0_isHeld 1 = .ok (.iconst 0, 1) := by decide +kernel
theorem dX0_isHeld_2 : decode cX0_isHeld 2 = .ok (.aload_n 0, 1) := by decide +kernel
theorem dX0_isHeld_3 : decode cX0_isHeld 3 = .ok (.getfield 39, 3) := by decide +kernel
theorem dX0_isHeld_6 : decode cX0_isHeld 6 = .ok (.iconst 1, 1) := by decide +kernel
theorem dX0_isHeld_7 : decode cX0_isHeld 7 = .ok (.isub, 1) := by decide +kernel
theorem dX0_isHeld_8 : decode cX0_isHeld 8 = .ok (.invokestatic 31, 3) := by decide +kernel
theorem dX0_isHeld_11 : decode cX0_isHeld 11 = .ok (.ifCond .eq 16, 3) := by decide +kernel
theorem dX0_isHeld_14 : decode cX0_isHeld 14 = .ok (.aload_n 0, 1) := by decide +kernel
theorem dX0_isHeld_15 : decode cX0_isHeld 15 = .ok (.getfield 27, 3) := by decide +kernel
theorem dX0_isHeld_18 : decode cX0_isHeld 18 = .ok (.iload_n 1, 1) := by decide +kernel
theorem dX0_isHeld_19 : decode cX0_isHeld 19 = .ok (.baload, 1) := by decide +kernel
theorem dX0_isHeld_20 : decode cX0_isHeld 20 = .ok (.ifCond .ne 7, 3) := by decide +kernel
theorem dX0_isHeld_23 : decode cX0_isHeld 23 = .ok (.iconst 1, 1) := by decide +kernel
theorem dX0_isHeld_24 : decode cX0_isHeld 24 = .ok (.goto 4, 3) := by decide +kernel
theorem dX0_isHeld_27 : decode cX0_isHeld 27 = .ok (.iconst 0, 1) := by decide +kernel
theorem dX0_isHeld_28 : decode cX0_isHeld 28 = .ok (.ireturn, 1) := by decide +kernel
set_option maxRecDepth 20000 in
theorem ggX0_isPort_X8_isWithin : GoodIn wsX0_isPort wsX8_isWithin := goodIn_r _ [3] (by decide +kernel) (by decide +kernel)
set_option maxRecDepth 20000 in
theorem gX0_isPort_X8_isWithin_n31 : GoodIn wsX0_isPort (wsX8_isWithin) := ggX0_isPort_X8_isWithin
theorem dX0_isPort_0 : decode cX0_isPort 0 = .ok (.iload_n 0, 1) := by decide +kernel
theorem dX0_isPort_1 : decode cX0_isPort 1 = .ok (.iconst 0, 1) := by decide +kernel
theorem dX0_isPort_2 : decode cX0_isPort 2 = .ok (.iconst 5, 1) := by decide +kernel
theorem dX0_isPort_3 : decode cX0_isPort 3 = .ok (.invokestatic 31, 3) := by decide +kernel
theorem dX0_isPort_6 : decode cX0_isPort 6 = .ok (.ireturn, 1) := by decide +kernel
theorem dX1_init_0 : decode cX1_init 0 = .ok (.aload_n 0, 1) := by decide +kernel
theorem dX1_init_1 : decode cX1_init 1 = .ok (.invokespecial 3, 3) := by decide +kernel
theorem dX1_init_4 : decode cX1_init 4 = .ok (.aload_n 0, 1) := by decide +kernel
theorem dX1_init_5 : decode cX1_init 5 = .ok (.bipush 12, 2) := by decide +kernel
theorem dX1_init_7 : decode cX1_init 7 = .ok (.newarray .int, 2) := by decide +kernel
theorem dX1_init_9 : decode cX1_init 9 = .ok (.putfield 9, 3) := by decide +kernel
theorem dX1_init_12 : decode cX1_init 12 = .ok (.aload_n 0, 1) := by decide +kernel
theorem dX1_init_13 : decode cX1_init 13 = .ok (.bipush 12, 2) := by decide +kernel
theorem dX1_init_15 : decode cX1_init 15 = .ok (.newarray .int, 2) := by decide +kernel
theorem dX1_init_17 : decode cX1_init 17 = .ok (.putfield 15, 3) := by decide +kernel
theorem dX1_init_20 : decode cX1_init 20 = .ok (.aload_n 0, 1) := by decide +kernel
theorem dX1_init_21 : decode cX1_init 21 = .ok (.bipush 12, 2) := by decide +kernel
theorem dX1_init_23 : decode cX1_init 23 = .ok (.newarray .int, 2) := by decide +kernel
theorem dX1_init_25 : decode cX1_init 25 = .ok (.putfield 18, 3) := by decide +kernel
theorem dX1_init_28 : decode cX1_init 28 = .ok (.return_, 1) := by decide +kernel
set_option maxRecDepth 20000 in
theorem ggX1_has_X8_isWithin : GoodIn wsX1_has wsX8_isWithin := goodIn_r _ [4] (by decide +kernel) (by decide +kernel)
set_option maxRecDepth 20000 in
theorem gX1_has_X8_isWithin_n25 : GoodIn wsX1_has (wsX8_isWithin) := ggX1_has_X8_isWithin
theorem dX1_has_0 : decode cX1_has 0 = .ok (.iload_n 1, 1) := by decide +kernel
theorem dX1_has_1 : decode cX1_has 1 = .ok (.iconst 0, 1) := by decide +kernel
theorem dX1_has_2 : decode cX1_has 2 = .ok (.aload_n 0, 1) := by decide +kernel
theorem dX1_has_3 : decode cX1_has 3 = .ok (.getfield 21, 3) := by decide +kernel
theorem dX1_has_6 : decode cX1_has 6 = .ok (.iconst 1, 1) := by decide +kernel
theorem dX1_has_7 : decode cX1_has 7 = .ok (.isub, 1) := by decide +kernel
theorem dX1_has_8 : decode cX1_has 8 = .ok (.invokestatic 25, 3) := by decide +kernel
theorem dX1_has_11 : decode cX1_has 11 = .ok (.ireturn, 1) := by decide +kernel
set_option maxRecDepth 20000 in
theorem ggX1_add_X8_isWithin : GoodIn wsX1_add wsX8_isWithin := goodIn_r _ [6] (by decide +kernel) (by decide +kernel)
set_option maxRecDepth 20000 in
theorem gX1_add_X8_isWithin_n25 : GoodIn wsX1_add (wsX8_isWithin) := ggX1_add_X8_isWithin
theorem dX1_add_0 : decode cX1_add 0 = .ok (.iload_n 1, 1) := by decide +kernel
theorem dX1_add_1 : decode cX1_add 1 = .ok (.iconst 1, 1) := by decide +kernel
theorem dX1_add_2 : decode cX1_add 2 = .ok (.sipush 200, 3) := by decide +kernel
theorem dX1_add_5 : decode cX1_add 5 = .ok (.invokestatic 25, 3) := by decide +kernel
theorem dX1_add_8 : decode cX1_add 8 = .ok (.ifCond .eq 14, 3) := by decide +kernel
theorem dX1_add_11 : decode cX1_add 11 = .ok (.iload_n 2, 1) := by decide +kernel
theorem dX1_add_12 : decode cX1_add 12 = .ok (.iconst 0, 1) := by decide +kernel
theorem dX1_add_13 : decode cX1_add 13 = .ok (.sipush 10000, 3) := by decide +kernel
theorem dX1_add_16 : decode cX1_add 16 = .ok (.invokestatic 25, 3) := by decide +kernel
theorem dX1_add_19 : decode cX1_add 19 = .ok (.ifCond .ne 5, 3) := by decide +kernel
theorem dX1_add_22 : decode cX1_add 22 = .ok (.iconst (-1), 1) := by decide +kernel
theorem dX1_add_23 : decode cX1_add 23 = .ok (.ireturn, 1) := by decide +kernel
theorem dX1_add_24 : decode cX1_add 24 = .ok (.aload_n 0, 1) := by decide +kernel
theorem dX1_add_25 : decode cX1_add 25 = .ok (.getfield 21, 3) := by decide +kernel
theorem dX1_add_28 : decode cX1_add 28 = .ok (.bipush 12, 2) := by decide +kernel
theorem dX1_add_30 : decode cX1_add 30 = .ok (.if_icmp .lt 6, 3) := by decide +kernel
theorem dX1_add_33 : decode cX1_add 33 = .ok (.bipush (-5), 2) := by decide +kernel
theorem dX1_add_35 : decode cX1_add 35 = .ok (.ireturn, 1) := by decide +kernel
theorem dX1_add_36 : decode cX1_add 36 = .ok (.aload_n 0, 1) := by decide +kernel
theorem dX1_add_37 : decode cX1_add 37 = .ok (.getfield 9, 3) := by decide +kernel
theorem dX1_add_40 : decode cX1_add 40 = .ok (.aload_n 0, 1) := by decide +kernel
theorem dX1_add_41 : decode cX1_add 41 = .ok (.getfield 21, 3) := by decide +kernel
theorem dX1_add_44 : decode cX1_add 44 = .ok (.iload_n 1, 1) := by decide +kernel
theorem dX1_add_45 : decode cX1_add 45 = .ok (.iastore, 1) := by decide +kernel
theorem dX1_add_46 : decode cX1_add 46 = .ok (.aload_n 0, 1) := by decide +kernel
theorem dX1_add_47 : decode cX1_add 47 = .ok (.getfield 15, 3) := by decide +kernel
theorem dX1_add_50 : decode cX1_add 50 = .ok (.aload_n 0, 1) := by decide +kernel
theorem dX1_add_51 : decode cX1_add 51 = .ok (.getfield 21, 3) := by decide +kernel
theorem dX1_add_54 : decode cX1_add 54 = .ok (.iload_n 2, 1) := by decide +kernel
theorem dX1_add_55 : decode cX1_add 55 = .ok (.iastore, 1) := by decide +kernel
theorem dX1_add_56 : decode cX1_add 56 = .ok (.aload_n 0, 1) := by decide +kernel
theorem dX1_add_57 : decode cX1_add 57 = .ok (.dup, 1) := by decide +kernel
theorem dX1_add_58 : decode cX1_add 58 = .ok (.getfield 21, 3) := by decide +kernel
theorem dX1_add_61 : decode cX1_add 61 = .ok (.iconst 1, 1) := by decide +kernel
theorem dX1_add_62 : decode cX1_add 62 = .ok (.iadd, 1) := by decide +kernel
theorem dX1_add_63 : decode cX1_add 63 = .ok (.putfield 21, 3) := by decide +kernel
theorem dX1_add_66 : decode cX1_add 66 = .ok (.aload_n 0, 1) := by decide +kernel
theorem dX1_add_67 : decode cX1_add 67 = .ok (.getfield 21, 3) := by decide +kernel
theorem dX1_add_70 : decode cX1_add 70 = .ok (.iconst 1, 1) := by decide +kernel
theorem dX1_add_71 : decode cX1_add 71 = .ok (.isub, 1) := by decide +kernel
theorem dX1_add_72 : decode cX1_add 72 = .ok (.ireturn, 1) := by decide +kernel
set_option maxRecDepth 20000 in
theorem ggX1_setApart_X1_has : GoodIn wsX1_setApart wsX1_has := goodIn_r _ [5, 6, 7, 8, 9, 15, 16, 17, 18, 19, 20, 21, 22] (by decide +kernel) (by decide +kernel)
set_option maxRecDepth 20000 in
theorem gX1_setApart_X1_has : GoodIn wsX1_setApart (wsV RX1 29 RX1 yX1_has wsX1_has) := goodIn_app (goodIn_of _ (by decide +kernel)) ggX1_setApart_X1_has
set_option maxRecDepth 20000 in
theorem ggX1_setApart_X1_markApart : GoodIn wsX1_setApart wsX1_markApart := goodIn_r _ [13, 14, 15, 16, 17, 18, 19, 20, 21, 22] (by decide +kernel) (by decide +kernel)
set_option maxRecDepth 20000 in
theorem gX1_setApart_X1_markApart : GoodIn wsX1_setApart (wsV RX1 33 RX1 yX1_markApart wsX1_markApart) := goodIn_app (goodIn_of _ (by decide +kernel)) ggX1_setApart_X1_markApart
theorem dX1_setApart_0 : decode cX1_setApart 0 = .ok (.aload_n 0, 1) := by decide +kernel
theorem dX1_setApart_1 : decode cX1_setApart 1 = .ok (.iload_n 1, 1) := by decide +kernel
theorem dX1_setApart_2 : decode cX1_setApart 2 = .ok (.invokevirtual 29, 3) := by decide +kernel
theorem dX1_setApart_5 : decode cX1_setApart 5 = .ok (.ifCond .eq 11, 3) := by decide +kernel
theorem dX1_setApart_8 : decode cX1_setApart 8 = .ok (.aload_n 0, 1) := by decide +kernel
theorem dX1_setApart_9 : decode cX1_setApart 9 = .ok (.iload_n 2, 1) := by decide +kernel
theorem dX1_setApart_10 : decode cX1_setApart 10 = .ok (.invokevirtual 29, 3) := by decide +kernel
theorem dX1_setApart_13 : decode cX1_setApart 13 = .ok (.ifCond .ne 6, 3) := by decide +kernel
theorem dX1_setApart_16 : decode cX1_setApart 16 = .ok (.bipush (-2), 2) := by decide +kernel
theorem dX1_setApart_18 : decode cX1_setApart 18 = .ok (.ireturn, 1) := by decide +kernel
theorem dX1_setApart_19 : decode cX1_setApart 19 = .ok (.iload_n 1, 1) := by decide +kernel
theorem dX1_setApart_20 : decode cX1_setApart 20 = .ok (.iload_n 2, 1) := by decide +kernel
theorem dX1_setApart_21 : decode cX1_setApart 21 = .ok (.if_icmp .ne 6, 3) := by decide +kernel
theorem dX1_setApart_24 : decode cX1_setApart 24 = .ok (.bipush (-3), 2) := by decide +kernel
theorem dX1_setApart_26 : decode cX1_setApart 26 = .ok (.ireturn, 1) := by decide +kernel
theorem dX1_setApart_27 : decode cX1_setApart 27 = .ok (.aload_n 0, 1) := by decide +kernel
theorem dX1_setApart_28 : decode cX1_setApart 28 = .ok (.iload_n 1, 1) := by decide +kernel
theorem dX1_setApart_29 : decode cX1_setApart 29 = .ok (.iload_n 2, 1) := by decide +kernel
theorem dX1_setApart_30 : decode cX1_setApart 30 = .ok (.iload_n 3, 1) := by decide +kernel
theorem dX1_setApart_31 : decode cX1_setApart 31 = .ok (.invokevirtual 33, 3) := by decide +kernel
theorem dX1_setApart_34 : decode cX1_setApart 34 = .ok (.aload_n 0, 1) := by decide +kernel
theorem dX1_setApart_35 : decode cX1_setApart 35 = .ok (.iload_n 2, 1) := by decide +kernel
theorem dX1_setApart_36 : decode cX1_setApart 36 = .ok (.iload_n 1, 1) := by decide +kernel
theorem dX1_setApart_37 : decode cX1_setApart 37 = .ok (.iload_n 3, 1) := by decide +kernel
theorem dX1_setApart_38 : decode cX1_setApart 38 = .ok (.invokevirtual 33, 3) := by decide +kernel
theorem dX1_setApart_41 : decode cX1_setApart 41 = .ok (.iconst 0, 1) := by decide +kernel
theorem dX1_setApart_42 : decode cX1_setApart 42 = .ok (.ireturn, 1) := by decide +kernel
theorem dX1_markApart_0 : decode cX1_markApart 0 = .ok (.iconst 1, 1) := by decide +kernel
theorem dX1_markApart_1 : decode cX1_markApart 1 = .ok (.iload_n 2, 1) := by decide +kernel
theorem dX1_markApart_2 : decode cX1_markApart 2 = .ok (.ishl, 1) := by decide +kernel
theorem dX1_markApart_3 : decode cX1_markApart 3 = .ok (.istore 4, 2) := by decide +kernel
theorem dX1_markApart_5 : decode cX1_markApart 5 = .ok (.aload_n 0, 1) := by decide +kernel
theorem dX1_markApart_6 : decode cX1_markApart 6 = .ok (.getfield 18, 3) := by decide +kernel
theorem dX1_markApart_9 : decode cX1_markApart 9 = .ok (.iload_n 1, 1) := by decide +kernel
theorem dX1_markApart_10 : decode cX1_markApart 10 = .ok (.iload_n 3, 1) := by decide +kernel
theorem dX1_markApart_11 : decode cX1_markApart 11 = .ok (.ifCond .eq 15, 3) := by decide +kernel
theorem dX1_markApart_14 : decode cX1_markApart 14 = .ok (.aload_n 0, 1) := by decide +kernel
theorem dX1_markApart_15 : decode cX1_markApart 15 = .ok (.getfield 18, 3) := by decide +kernel
theorem dX1_markApart_18 : decode cX1_markApart 18 = .ok (.iload_n 1, 1) := by decide +kernel
theorem dX1_markApart_19 : decode cX1_markApart 19 = .ok (.iaload, 1) := by decide +kernel
theorem dX1_markApart_20 : decode cX1_markApart 20 = .ok (.iload 4, 2) := by decide +kernel
theorem dX1_markApart_22 : decode cX1_markApart 22 = .ok (.ior, 1) := by decide +kernel
theorem dX1_markApart_23 : decode cX1_markApart 23 = .ok (.goto 14, 3) := by decide +kernel
theorem dX1_markApart_26 : decode cX1_markApart 26 = .ok (.aload_n 0, 1) := by decide +kernel
theorem dX1_markApart_27 : decode cX1_markApart 27 = .ok (.getfield 18, 3) := by decide +kernel
theorem dX1_markApart_30 : decode cX1_markApart 30 = .ok (.iload_n 1, 1) := by decide +kernel
theorem dX1_markApart_31 : decode cX1_markApart 31 = .ok (.iaload, 1) := by decide +kernel
theorem dX1_markApart_32 : decode cX1_markApart 32 = .ok (.iload 4, 2) := by decide +kernel
theorem dX1_markApart_34 : decode cX1_markApart 34 = .ok (.iconst (-1), 1) := by decide +kernel
theorem dX1_markApart_35 : decode cX1_markApart 35 = .ok (.ixor, 1) := by decide +kernel
theorem dX1_markApart_36 : decode cX1_markApart 36 = .ok (.iand, 1) := by decide +kernel
theorem dX1_markApart_37 : decode cX1_markApart 37 = .ok (.iastore, 1) := by decide +kernel
theorem dX1_markApart_38 : decode cX1_markApart 38 = .ok (.return_, 1) := by decide +kernel
set_option maxRecDepth 20000 in
theorem ggX1_fill_X1_choose : GoodIn wsX1_fill wsX1_choose := goodIn_r _ [10, 11, 1, 12, 13, 14, 15, 16, 9, 17, 4, 3, 2, 6, 7, 8, 18, 19, 20, 21, 22, 23, 24, 25] (by decide +kernel) (by decide +kernel)
set_option maxRecDepth 20000 in
theorem gX1_fill_X1_choose : GoodIn wsX1_fill (wsV RX1 49 RX1 yX1_choose wsX1_choose) := goodIn_app (goodIn_of _ (by decide +kernel)) ggX1_fill_X1_choose
theorem dX1_fill_0 : decode cX1_fill 0 = .ok (.aload_n 0, 1) := by decide +kernel
theorem dX1_fill_1 : decode cX1_fill 1 = .ok (.iload_n 1, 1) := by decide +kernel
theorem dX1_fill_2 : decode cX1_fill 2 = .ok (.putfield 37, 3) := by decide +kernel
theorem dX1_fill_5 : decode cX1_fill 5 = .ok (.aload_n 0, 1) := by decide +kernel
theorem dX1_fill_6 : decode cX1_fill 6 = .ok (.iconst 0, 1) := by decide +kernel
theorem dX1_fill_7 : decode cX1_fill 7 = .ok (.putfield 40, 3) := by decide +kernel
theorem dX1_fill_10 : decode cX1_fill 10 = .ok (.aload_n 0, 1) := by decide +kernel
theorem dX1_fill_11 : decode cX1_fill 11 = .ok (.iconst 0, 1) := by decide +kernel
theorem dX1_fill_12 : decode cX1_fill 12 = .ok (.putfield 43, 3) := by decide +kernel
theorem dX1_fill_15 : decode cX1_fill 15 = .ok (.aload_n 0, 1) := by decide +kernel
theorem dX1_fill_16 : decode cX1_fill 16 = .ok (.iconst 0, 1) := by decide +kernel
theorem dX1_fill_17 : decode cX1_fill 17 = .ok (.putfield 46, 3) := by decide +kernel
theorem dX1_fill_20 : decode cX1_fill 20 = .ok (.aload_n 0, 1) := by decide +kernel
theorem dX1_fill_21 : decode cX1_fill 21 = .ok (.aload_n 0, 1) := by decide +kernel
theorem dX1_fill_22 : decode cX1_fill 22 = .ok (.getfield 21, 3) := by decide +kernel
theorem dX1_fill_25 : decode cX1_fill 25 = .ok (.iconst 1, 1) := by decide +kernel
theorem dX1_fill_26 : decode cX1_fill 26 = .ok (.isub, 1) := by decide +kernel
theorem dX1_fill_27 : decode cX1_fill 27 = .ok (.iconst 0, 1) := by decide +kernel
theorem dX1_fill_28 : decode cX1_fill 28 = .ok (.iconst 0, 1) := by decide +kernel
theorem dX1_fill_29 : decode cX1_fill 29 = .ok (.iconst 0, 1) := by decide +kernel
theorem dX1_fill_30 : decode cX1_fill 30 = .ok (.invokevirtual 49, 3) := by decide +kernel
theorem dX1_fill_33 : decode cX1_fill 33 = .ok (.return_, 1) := by decide +kernel
set_option maxRecDepth 20000 in
theorem ggX1_choose_X1_keepIfBetter : GoodIn wsX1_choose wsX1_keepIfBetter := goodIn_r _ [9, 10, 11, 12, 16, 17, 18, 19, 20, 21, 22, 23] (by decide +kernel) (by decide +kernel)
set_option maxRecDepth 20000 in
theorem gX1_choose_X1_keepIfBetter : GoodIn wsX1_choose (wsV RX1 53 RX1 yX1_keepIfBetter wsX1_keepIfBetter) := goodIn_app (goodIn_of _ (by decide +kernel)) ggX1_choose_X1_keepIfBetter
set_option maxRecDepth 20000 in
theorem ggX1_choose_X1_choose : GoodIn wsX1_choose wsX1_choose := goodIn_r _ [0, 1, 2, 3, 4, 5, 6, 7, 8, 9, 10, 11, 12, 13, 14, 15, 16, 17, 18, 19, 20, 21, 22, 23] (by decide +kernel) (by decide +kernel)
set_option maxRecDepth 20000 in
theorem gX1_choose_X1_choose : GoodIn wsX1_choose (wsV RX1 49 RX1 yX1_choose wsX1_choose) := goodIn_app (goodIn_of _ (by decide +kernel)) ggX1_choose_X1_choose
theorem dX1_choose_0 : decode cX1_choose 0 = .ok (.iload_n 1, 1) := by decide +kernel
theorem dX1_choose_1 : decode cX1_choose 1 = .ok (.ifCond .ge 12, 3) := by decide +kernel
theorem dX1_choose_4 : decode cX1_choose 4 = .ok (.aload_n 0, 1) := by decide +kernel
theorem dX1_choose_5 : decode cX1_choose 5 = .ok (.iload_n 2, 1) := by decide +kernel
theorem dX1_choose_6 : decode cX1_choose 6 = .ok (.iload_n 3, 1) := by decide +kernel
theorem dX1_choose_7 : decode cX1_choose 7 = .ok (.iload 4, 2) := by decide +kernel
theorem dX1_choose_9 : decode cX1_choose 9 = .ok (.invokevirtual 53, 3) := by decide +kernel
theorem dX1_choose_12 : decode cX1_choose 12 = .ok (.return_, 1) := by decide +kernel
theorem dX1_choose_13 : decode cX1_choose 13 = .ok (.aload_n 0, 1) := by decide +kernel
theorem dX1_choose_14 : decode cX1_choose 14 = .ok (.iload_n 1, 1) := by decide +kernel
theorem dX1_choose_15 : decode cX1_choose 15 = .ok (.iconst 1, 1) := by decide +kernel
theorem dX1_choose_16 : decode cX1_choose 16 = .ok (.isub, 1) := by decide +kernel
theorem dX1_choose_17 : decode cX1_choose 17 = .ok (.iload_n 2, 1) := by decide +kernel
theorem dX1_choose_18 : decode cX1_choose 18 = .ok (.iload_n 3, 1) := by decide +kernel
theorem dX1_choose_19 : decode cX1_choose 19 = .ok (.iload 4, 2) := by decide +kernel
theorem dX1_choose_21 : decode cX1_choose 21 = .ok (.invokevirtual 49, 3) := by decide +kernel
theorem dX1_choose_24 : decode cX1_choose 24 = .ok (.iload_n 3, 1) := by decide +kernel
theorem dX1_choose_25 : decode cX1_choose 25 = .ok (.aload_n 0, 1) := by decide +kernel
theorem dX1_choose_26 : decode cX1_choose 26 = .ok (.getfield 9, 3) := by decide +kernel
theorem dX1_choose_29 : decode cX1_choose 29 = .ok (.iload_n 1, 1) := by decide +kernel
theorem dX1_choose_30 : decode cX1_choose 30 = .ok (.iaload, 1) := by decide +kernel
theorem dX1_choose_31 : decode cX1_choose 31 = .ok (.iadd, 1) := by decide +kernel
theorem dX1_choose_32 : decode cX1_choose 32 = .ok (.aload_n 0, 1) := by decide +kernel
theorem dX1_choose_33 : decode cX1_choose 33 = .ok (.getfield 37, 3) := by decide +kernel
theorem dX1_choose_36 : decode cX1_choose 36 = .ok (.if_icmp .gt 43, 3) := by decide +kernel
theorem dX1_choose_39 : decode cX1_choose 39 = .ok (.aload_n 0, 1) := by decide +kernel
theorem dX1_choose_40 : decode cX1_choose 40 = .ok (.getfield 18, 3) := by decide +kernel
theorem dX1_choose_43 : decode cX1_choose 43 = .ok (.iload_n 1, 1) := by decide +kernel
theorem dX1_choose_44 : decode cX1_choose 44 = .ok (.iaload, 1) := by decide +kernel
theorem dX1_choose_45 : decode cX1_choose 45 = .ok (.iload_n 2, 1) := by decide +kernel
theorem dX1_choose_46 : decode cX1_choose 46 = .ok (.iand, 1) := by decide +kernel
theorem dX1_choose_47 : decode cX1_choose 47 = .ok (.ifCond .ne 32, 3) := by decide +kernel
theorem dX1_choose_50 : decode cX1_choose 50 = .ok (.aload_n 0, 1) := by decide +kernel
theorem dX1_choose_51 : decode cX1_choose 51 = .ok (.iload_n 1, 1) := by decide +kernel
theorem dX1_choose_52 : decode cX1_choose 52 = .ok (.iconst 1, 1) := by decide +kernel
theorem dX1_choose_53 : decode cX1_choose 53 = .ok (.isub, 1) := by decide +kernel
theorem dX1_choose_54 : decode cX1_choose 54 = .ok (.iload_n 2, 1) := by decide +kernel
theorem dX1_choose_55 : decode cX1_choose 55 = .ok (.iconst 1, 1) := by decide +kernel
theorem dX1_choose_56 : decode cX1_choose 56 = .ok (.iload_n 1, 1) := by decide +kernel
theorem dX1_choose_57 : decode cX1_choose 57 = .ok (.ishl, 1) := by decide +kernel
theorem dX1_choose_58 : decode cX1_choose 58 = .ok (.ior, 1) := by decide +kernel
theorem dX1_choose_59 : decode cX1_choose 59 = .ok (.iload_n 3, 1) := by decide +kernel
theorem dX1_choose_60 : decode cX1_choose 60 = .ok (.aload_n 0, 1) := by decide +kernel
theorem dX1_choose_61 : decode cX1_choose 61 = .ok (.getfield 9, 3) := by decide +kernel
theorem dX1_choose_64 : decode cX1_choose 64 = .ok (.iload_n 1, 1) := by decide +kernel
theorem dX1_choose_65 : decode cX1_choose 65 = .ok (.iaload, 1) := by decide +kernel
theorem dX1_choose_66 : decode cX1_choose 66 = .ok (.iadd, 1) := by decide +kernel
theorem dX1_choose_67 : decode cX1_choose 67 = .ok (.iload 4, 2) := by decide +kernel
theorem dX1_choose_69 : decode cX1_choose 69 = .ok (.aload_n 0, 1) := by decide +kernel
theorem dX1_choose_70 : decode cX1_choose 70 = .ok (.getfield 15, 3) := by decide +kernel
theorem dX1_choose_73 : decode cX1_choose 73 = .ok (.iload_n 1, 1) := by decide +kernel
theorem dX1_choose_74 : decode cX1_choose 74 = .ok (.iaload, 1) := by decide +kernel
theorem dX1_choose_75 : decode cX1_choose 75 = .ok (.iadd, 1) := by decide +kernel
theorem dX1_choose_76 : decode cX1_choose 76 = .ok (.invokevirtual 49, 3) := by decide +kernel
theorem dX1_choose_79 : decode cX1_choose 79 = .ok (.return_, 1) := by decide +kernel
theorem dX1_keepIfBetter_0 : decode cX1_keepIfBetter 0 = .ok (.iload_n 3, 1) := by decide +kernel
theorem dX1_keepIfBetter_1 : decode cX1_keepIfBetter 1 = .ok (.aload_n 0, 1) := by decide +kernel
theorem dX1_keepIfBetter_2 : decode cX1_keepIfBetter 2 = .ok (.getfield 46, 3) := by decide +kernel
theorem dX1_keepIfBetter_5 : decode cX1_keepIfBetter 5 = .ok (.if_icmp .gt 19, 3) := by decide +kernel
theorem dX1_keepIfBetter_8 : decode cX1_keepIfBetter 8 = .ok (.iload_n 3, 1) := by decide +kernel
theorem dX1_keepIfBetter_9 : decode cX1_keepIfBetter 9 = .ok (.aload_n 0, 1) := by decide +kernel
theorem dX1_keepIfBetter_10 : decode cX1_keepIfBetter 10 = .ok (.getfield 46, 3) := by decide +kernel
theorem dX1_keepIfBetter_13 : decode cX1_keepIfBetter 13 = .ok (.if_icmp .ne 26, 3) := by decide +kernel
theorem dX1_keepIfBetter_16 : decode cX1_keepIfBetter 16 = .ok (.iload_n 2, 1) := by decide +kernel
theorem dX1_keepIfBetter_17 : decode cX1_keepIfBetter 17 = .ok (.aload_n 0, 1) := by decide +kernel
theorem dX1_keepIfBetter_18 : decode cX1_keepIfBetter 18 = .ok (.getfield 43, 3) := by decide +kernel
theorem dX1_keepIfBetter_21 : decode cX1_keepIfBetter 21 = .ok (.if_icmp .ge 18, 3) := by decide +kernel
theorem dX1_keepIfBetter_24 : decode cX1_keepIfBetter 24 = .ok (.aload_n 0, 1) := by decide +kernel
theorem dX1_keepIfBetter_25 : decode cX1_keepIfBetter 25 = .ok (.iload_n 1, 1) := by decide +kernel
theorem dX1_keepIfBetter_26 : decode cX1_keepIfBetter 26 = .ok (.putfield 40, 3) := by decide +kernel
theorem dX1_keepIfBetter_29 : decode cX1_keepIfBetter 29 = .ok (.aload_n 0, 1) := by decide +kernel
theorem dX1_keepIfBetter_30 : decode cX1_keepIfBetter 30 = .ok (.iload_n 2, 1) := by decide +kernel
theorem dX1_keepIfBetter_31 : decode cX1_keepIfBetter 31 = .ok (.putfield 43, 3) := by decide +kernel
theorem dX1_keepIfBetter_34 : decode cX1_keepIfBetter 34 = .ok (.aload_n 0, 1) := by decide +kernel
theorem dX1_keepIfBetter_35 : decode cX1_keepIfBetter 35 = .ok (.iload_n 3, 1) := by decide +kernel
theorem dX1_keepIfBetter_36 : decode cX1_keepIfBetter 36 = .ok (.putfield 46, 3) := by decide +kernel
theorem dX1_keepIfBetter_39 : decode cX1_keepIfBetter 39 = .ok (.return_, 1) := by decide +kernel
set_option maxRecDepth 20000 in
theorem ggX2_init_X2_at : GoodIn wsX2_init wsX2_at := goodIn_r _ [13] (by decide +kernel) (by decide +kernel)
set_option maxRecDepth 20000 in
theorem gX2_init_X2_at : GoodIn wsX2_init (va_wsS RX2 25 yX2_at wsX2_at) := goodIn_app (goodIn_of _ (by decide +kernel)) ggX2_init_X2_at
set_option maxRecDepth 20000 in
theorem ggX2_init_X2_parts : GoodIn wsX2_init wsX2_parts := goodIn_r _ [16] (by decide +kernel) (by decide +kernel)
set_option maxRecDepth 20000 in
theorem gX2_init_X2_parts : GoodIn wsX2_init (va_wsS RX2 29 yX2_parts wsX2_parts) := goodIn_app (goodIn_of _ (by decide +kernel)) ggX2_init_X2_parts
theorem dX2_init_0 : decode cX2_init 0 = .ok (.aload_n 0, 1) := by decide +kernel
theorem dX2_init_1 : decode cX2_init 1 = .ok (.invokespecial 5, 3) := by decide +kernel
theorem dX2_init_4 : decode cX2_init 4 = .ok (.aload_n 0, 1) := by decide +kernel
theorem dX2_init_5 : decode cX2_init 5 = .ok (.iconst 4, 1) := by decide +kernel
theorem dX2_init_6 : decode cX2_init 6 = .ok (.newarray .int, 2) := by decide +kernel
theorem dX2_init_8 : decode cX2_init 8 = .ok (.putfield 11, 3) := by decide +kernel
theorem dX2_init_11 : decode cX2_init 11 = .ok (.aload_n 0, 1) := by decide +kernel
theorem dX2_init_12 : decode cX2_init 12 = .ok (.iconst 4, 1) := by decide +kernel
theorem dX2_init_13 : decode cX2_init 13 = .ok (.newarray .int, 2) := by decide +kernel
theorem dX2_init_15 : decode cX2_init 15 = .ok (.putfield 15, 3) := by decide +kernel
theorem dX2_init_18 : decode cX2_init 18 = .ok (.aload_n 0, 1) := by decide +kernel
theorem dX2_init_19 : decode cX2_init 19 = .ok (.sipush 20449, 3) := by decide +kernel
theorem dX2_init_22 : decode cX2_init 22 = .ok (.newarray .long, 2) := by decide +kernel
theorem dX2_init_24 : decode cX2_init 24 = .ok (.putfield 18, 3) := by decide +kernel
theorem dX2_init_27 : decode cX2_init 27 = .ok (.aload_n 0, 1) := by decide +kernel
theorem dX2_init_28 : decode cX2_init 28 = .ok (.sipush 20449, 3) := by decide +kernel
theorem dX2_init_31 : decode cX2_init 31 = .ok (.newarray .long, 2) := by decide +kernel
theorem dX2_init_33 : decode cX2_init 33 = .ok (.putfield 22, 3) := by decide +kernel
theorem dX2_init_36 : decode cX2_init 36 = .ok (.iconst 0, 1) := by decide +kernel
theorem dX2_init_37 : decode cX2_init 37 = .ok (.istore_n 1, 1) := by decide +kernel
theorem dX2_init_38 : decode cX2_init 38 = .ok (.iload_n 1, 1) := by decide +kernel
theorem dX2_init_39 : decode cX2_init 39 = .ok (.bipush 12, 2) := by decide +kernel
theorem dX2_init_41 : decode cX2_init 41 = .ok (.if_icmp .gt 38, 3) := by decide +kernel
theorem dX2_init_44 : decode cX2_init 44 = .ok (.iconst 0, 1) := by decide +kernel
theorem dX2_init_45 : decode cX2_init 45 = .ok (.istore_n 2, 1) := by decide +kernel
theorem dX2_init_46 : decode cX2_init 46 = .ok (.iload_n 2, 1) := by decide +kernel
theorem dX2_init_47 : decode cX2_init 47 = .ok (.bipush 12, 2) := by decide +kernel
theorem dX2_init_49 : decode cX2_init 49 = .ok (.if_icmp .gt 24, 3) := by decide +kernel
theorem dX2_init_52 : decode cX2_init 52 = .ok (.aload_n 0, 1) := by decide +kernel
theorem dX2_init_53 : decode cX2_init 53 = .ok (.getfield 18, 3) := by decide +kernel
theorem dX2_init_56 : decode cX2_init 56 = .ok (.iload_n 1, 1) := by decide +kernel
theorem dX2_init_57 : decode cX2_init 57 = .ok (.iconst 0, 1) := by decide +kernel
theorem dX2_init_58 : decode cX2_init 58 = .ok (.iload_n 2, 1) := by decide +kernel
theorem dX2_init_59 : decode cX2_init 59 = .ok (.invokestatic 25, 3) := by decide +kernel
theorem dX2_init_62 : decode cX2_init 62 = .ok (.iload_n 1, 1) := by decide +kernel
theorem dX2_init_63 : decode cX2_init 63 = .ok (.invokestatic 29, 3) := by decide +kernel
theorem dX2_init_66 : decode cX2_init 66 = .ok (.lastore, 1) := by decide +kernel
theorem dX2_init_67 : decode cX2_init 67 = .ok (.iinc 2 1, 3) := by decide +kernel
theorem dX2_init_70 : decode cX2_init 70 = .ok (.goto (-24), 3) := by decide +kernel
theorem dX2_init_73 : decode cX2_init 73 = .ok (.iinc 1 1, 3) := by decide +kernel
theorem dX2_init_76 : decode cX2_init 76 = .ok (.goto (-38), 3) := by decide +kernel
theorem dX2_init_79 : decode cX2_init 79 = .ok (.return_, 1) := by decide +kernel
set_option maxRecDepth 20000 in
theorem ggX2_setSails_X8_isWind : GoodIn wsX2_setSails wsX8_isWind := goodIn_r _ [5, 6, 7, 4, 8] (by decide +kernel) (by decide +kernel)
set_option maxRecDepth 20000 in
theorem gX2_setSails_X8_isWind_n33 : GoodIn wsX2_setSails (wsX8_isWind) := ggX2_setSails_X8_isWind
set_option maxRecDepth 20000 in
theorem ggX2_setSails_X8_isWithin : GoodIn wsX2_setSails wsX8_isWithin := goodIn_r _ [8] (by decide +kernel) (by decide +kernel)
set_option maxRecDepth 20000 in
theorem gX2_setSails_X8_isWithin_n37 : GoodIn wsX2_setSails (wsX8_isWithin) := ggX2_setSails_X8_isWithin
theorem dX2_setSails_0 : decode cX2_setSails 0 = .ok (.iload_n 1, 1) := by decide +kernel
theorem dX2_setSails_1 : decode cX2_setSails 1 = .ok (.invokestatic 33, 3) := by decide +kernel
theorem dX2_setSails_4 : decode cX2_setSails 4 = .ok (.ifCond .eq 13, 3) := by decide +kernel
theorem dX2_setSails_7 : decode cX2_setSails 7 = .ok (.iload_n 2, 1) := by decide +kernel
theorem dX2_setSails_8 : decode cX2_setSails 8 = .ok (.iconst 0, 1) := by decide +kernel
theorem dX2_setSails_9 : decode cX2_setSails 9 = .ok (.bipush 20, 2) := by decide +kernel
theorem dX2_setSails_11 : decode cX2_setSails 11 = .ok (.invokestatic 37, 3) := by decide +kernel
theorem dX2_setSails_14 : decode cX2_setSails 14 = .ok (.ifCond .ne 5, 3) := by decide +kernel
theorem dX2_setSails_17 : decode cX2_setSails 17 = .ok (.iconst (-1), 1) := by decide +kernel
theorem dX2_setSails_18 : decode cX2_setSails 18 = .ok (.ireturn, 1) := by decide +kernel
theorem dX2_setSails_19 : decode cX2_setSails 19 = .ok (.aload_n 0, 1) := by decide +kernel
theorem dX2_setSails_20 : decode cX2_setSails 20 = .ok (.getfield 11, 3) := by decide +kernel
theorem dX2_setSails_23 : decode cX2_setSails 23 = .ok (.iload_n 1, 1) := by decide +kernel
theorem dX2_setSails_24 : decode cX2_setSails 24 = .ok (.iload_n 2, 1) := by decide +kernel
theorem dX2_setSails_25 : decode cX2_setSails 25 = .ok (.iastore, 1) := by decide +kernel
theorem dX2_setSails_26 : decode cX2_setSails 26 = .ok (.aload_n 0, 1) := by decide +kernel
theorem dX2_setSails_27 : decode cX2_setSails 27 = .ok (.iconst 0, 1) := by decide +kernel
theorem dX2_setSails_28 : decode cX2_setSails 28 = .ok (.putfield 41, 3) := by decide +kernel
theorem dX2_setSails_31 : decode cX2_setSails 31 = .ok (.iconst 0, 1) := by decide +kernel
theorem dX2_setSails_32 : decode cX2_setSails 32 = .ok (.ireturn, 1) := by decide +kernel
set_option maxRecDepth 20000 in
theorem ggX2_setEngine_X8_isWithin : GoodIn wsX2_setEngine wsX8_isWithin := goodIn_r _ [5] (by decide +kernel) (by decide +kernel)
set_option maxRecDepth 20000 in
theorem gX2_setEngine_X8_isWithin_n37 : GoodIn wsX2_setEngine (wsX8_isWithin) := ggX2_setEngine_X8_isWithin
theorem dX2_setEngine_0 : decode cX2_setEngine 0 = .ok (.iload_n 1, 1) := by decide +kernel
theorem dX2_setEngine_1 : decode cX2_setEngine 1 = .ok (.iconst 0, 1) := by decide +kernel
theorem dX2_setEngine_2 : decode cX2_setEngine 2 = .ok (.bipush 20, 2) := by decide +kernel
theorem dX2_setEngine_4 : decode cX2_setEngine 4 = .ok (.invokestatic 37, 3) := by decide +kernel
theorem dX2_setEngine_7 : decode cX2_setEngine 7 = .ok (.ifCond .ne 5, 3) := by decide +kernel
theorem dX2_setEngine_10 : decode cX2_setEngine 10 = .ok (.iconst (-1), 1) := by decide +kernel
theorem dX2_setEngine_11 : decode cX2_setEngine 11 = .ok (.ireturn, 1) := by decide +kernel
theorem dX2_setEngine_12 : decode cX2_setEngine 12 = .ok (.aload_n 0, 1) := by decide +kernel
theorem dX2_setEngine_13 : decode cX2_setEngine 13 = .ok (.getfield 45, 3) := by decide +kernel
theorem dX2_setEngine_16 : decode cX2_setEngine 16 = .ok (.istore_n 2, 1) := by decide +kernel
theorem dX2_setEngine_17 : decode cX2_setEngine 17 = .ok (.aload_n 0, 1) := by decide +kernel
theorem dX2_setEngine_18 : decode cX2_setEngine 18 = .ok (.iload_n 1, 1) := by decide +kernel
theorem dX2_setEngine_19 : decode cX2_setEngine 19 = .ok (.putfield 45, 3) := by decide +kernel
theorem dX2_setEngine_22 : decode cX2_setEngine 22 = .ok (.aload_n 0, 1) := by decide +kernel
theorem dX2_setEngine_23 : decode cX2_setEngine 23 = .ok (.iconst 0, 1) := by decide +kernel
theorem dX2_setEngine_24 : decode cX2_setEngine 24 = .ok (.putfield 41, 3) := by decide +kernel
theorem dX2_setEngine_27 : decode cX2_setEngine 27 = .ok (.iload_n 2, 1) := by decide +kernel
theorem dX2_setEngine_28 : decode cX2_setEngine 28 = .ok (.ireturn, 1) := by decide +kernel
set_option maxRecDepth 20000 in
theorem ggX2_know_X7_weightOf : GoodIn wsX2_know wsX7_weightOf := goodIn_r _ [7, 8, 9, 10, 19, 20, 21] (by decide +kernel) (by decide +kernel)
set_option maxRecDepth 20000 in
theorem gX2_know_X7_weightOf : GoodIn wsX2_know (wsV RX2 48 RX7 yX7_weightOf wsX7_weightOf) := goodIn_app (goodIn_of _ (by decide +kernel)) ggX2_know_X7_weightOf
theorem dX2_know_0 : decode cX2_know 0 = .ok (.iconst 0, 1) := by decide +kernel
theorem dX2_know_1 : decode cX2_know 1 = .ok (.istore_n 3, 1) := by decide +kernel
theorem dX2_know_2 : decode cX2_know 2 = .ok (.iload_n 3, 1) := by decide +kernel
theorem dX2_know_3 : decode cX2_know 3 = .ok (.iconst 4, 1) := by decide +kernel
theorem dX2_know_4 : decode cX2_know 4 = .ok (.if_icmp .ge 41, 3) := by decide +kernel
theorem dX2_know_7 : decode cX2_know 7 = .ok (.aload_n 1, 1) := by decide +kernel
theorem dX2_know_8 : decode cX2_know 8 = .ok (.iload_n 3, 1) := by decide +kernel
theorem dX2_know_9 : decode cX2_know 9 = .ok (.iload_n 2, 1) := by decide +kernel
theorem dX2_know_10 : decode cX2_know 10 = .ok (.invokevirtual 48, 3) := by decide +kernel
theorem dX2_know_13 : decode cX2_know 13 = .ok (.istore 4, 2) := by decide +kernel
theorem dX2_know_15 : decode cX2_know 15 = .ok (.iload 4, 2) := by decide +kernel
theorem dX2_know_17 : decode cX2_know 17 = .ok (.aload_n 0, 1) := by decide +kernel
theorem dX2_know_18 : decode cX2_know 18 = .ok (.getfield 15, 3) := by decide +kernel
theorem dX2_know_21 : decode cX2_know 21 = .ok (.iload_n 3, 1) := by decide +kernel
theorem dX2_know_22 : decode cX2_know 22 = .ok (.iaload, 1) := by decide +kernel
theorem dX2_know_23 : decode cX2_know 23 = .ok (.if_icmp .eq 16, 3) := by decide +kernel
theorem dX2_know_26 : decode cX2_know 26 = .ok (.aload_n 0, 1) := by decide +kernel
theorem dX2_know_27 : decode cX2_know 27 = .ok (.getfield 15, 3) := by decide +kernel
theorem dX2_know_30 : decode cX2_know 30 = .ok (.iload_n 3, 1) := by decide +kernel
theorem dX2_know_31 : decode cX2_know 31 = .ok (.iload 4, 2) := by decide +kernel
theorem dX2_know_33 : decode cX2_know 33 = .ok (.iastore, 1) := by decide +kernel
theorem dX2_know_34 : decode cX2_know 34 = .ok (.aload_n 0, 1) := by decide +kernel
theorem dX2_know_35 : decode cX2_know 35 = .ok (.iconst 0, 1) := by decide +kernel
theorem dX2_know_36 : decode cX2_know 36 = .ok (.putfield 41, 3) := by decide +kernel
theorem dX2_know_39 : decode cX2_know 39 = .ok (.iinc 3 1, 3) := by decide +kernel
theorem dX2_know_42 : decode cX2_know 42 = .ok (.goto (-40), 3) := by decide +kernel
theorem dX2_know_45 : decode cX2_know 45 = .ok (.return_, 1) := by decide +kernel
set_option maxRecDepth 20000 in
theorem ggX2_reckon_X2_reckonDay : GoodIn wsX2_reckon wsX2_reckonDay := goodIn_r _ [8, 2, 3, 9, 10, 11, 7, 12, 13, 14, 15, 16, 17, 18, 19, 20, 21, 22, 23, 24, 25, 26, 27, 28, 29, 30, 31, 32, 33, 34, 35, 36, 37, 38, 39, 40, 41, 42, 43, 44, 45, 46, 47, 48, 49, 50, 51, 52, 53, 54] (by decide +kernel) (by decide +kernel)
set_option maxRecDepth 20000 in
theorem gX2_reckon_X2_reckonDay : GoodIn wsX2_reckon (wsV RX2 60 RX2 yX2_reckonDay wsX2_reckonDay) := goodIn_app (goodIn_of _ (by decide +kernel)) ggX2_reckon_X2_reckonDay
theorem dX2_reckon_0 : decode cX2_reckon 0 = .ok (.aload_n 0, 1) := by decide +kernel
theorem dX2_reckon_1 : decode cX2_reckon 1 = .ok (.getfield 41, 3) := by decide +kernel
theorem dX2_reckon_4 : decode cX2_reckon 4 = .ok (.ifCond .eq 19, 3) := by decide +kernel
theorem dX2_reckon_7 : decode cX2_reckon 7 = .ok (.iload_n 1, 1) := by decide +kernel
theorem dX2_reckon_8 : decode cX2_reckon 8 = .ok (.aload_n 0, 1) := by decide +kernel
theorem dX2_reckon_9 : decode cX2_reckon 9 = .ok (.getfield 54, 3) := by decide +kernel
theorem dX2_reckon_12 : decode cX2_reckon 12 = .ok (.if_icmp .gt 11, 3) := by decide +kernel
theorem dX2_reckon_15 : decode cX2_reckon 15 = .ok (.iload_n 3, 1) := by decide +kernel
theorem dX2_reckon_16 : decode cX2_reckon 16 = .ok (.aload_n 0, 1) := by decide +kernel
theorem dX2_reckon_17 : decode cX2_reckon 17 = .ok (.getfield 57, 3) := by decide +kernel
theorem dX2_reckon_20 : decode cX2_reckon 20 = .ok (.if_icmp .le 18, 3) := by decide +kernel
theorem dX2_reckon_23 : decode cX2_reckon 23 = .ok (.aload_n 0, 1) := by decide +kernel
theorem dX2_reckon_24 : decode cX2_reckon 24 = .ok (.iload_n 1, 1) := by decide +kernel
theorem dX2_reckon_25 : decode cX2_reckon 25 = .ok (.putfield 54, 3) := by decide +kernel
theorem dX2_reckon_28 : decode cX2_reckon 28 = .ok (.aload_n 0, 1) := by decide +kernel
theorem dX2_reckon_29 : decode cX2_reckon 29 = .ok (.iload_n 3, 1) := by decide +kernel
theorem dX2_reckon_30 : decode cX2_reckon 30 = .ok (.putfield 57, 3) := by decide +kernel
theorem dX2_reckon_33 : decode cX2_reckon 33 = .ok (.aload_n 0, 1) := by decide +kernel
theorem dX2_reckon_34 : decode cX2_reckon 34 = .ok (.iconst 0, 1) := by decide +kernel
theorem dX2_reckon_35 : decode cX2_reckon 35 = .ok (.putfield 41, 3) := by decide +kernel
theorem dX2_reckon_38 : decode cX2_reckon 38 = .ok (.aload_n 0, 1) := by decide +kernel
theorem dX2_reckon_39 : decode cX2_reckon 39 = .ok (.getfield 41, 3) := by decide +kernel
theorem dX2_reckon_42 : decode cX2_reckon 42 = .ok (.iload_n 2, 1) := by decide +kernel
theorem dX2_reckon_43 : decode cX2_reckon 43 = .ok (.if_icmp .ge 24, 3) := by decide +kernel
theorem dX2_reckon_46 : decode cX2_reckon 46 = .ok (.aload_n 0, 1) := by decide +kernel
theorem dX2_reckon_47 : decode cX2_reckon 47 = .ok (.dup, 1) := by decide +kernel
theorem dX2_reckon_48 : decode cX2_reckon 48 = .ok (.getfield 41, 3) := by decide +kernel
theorem dX2_reckon_51 : decode cX2_reckon 51 = .ok (.iconst 1, 1) := by decide +kernel
theorem dX2_reckon_52 : decode cX2_reckon 52 = .ok (.iadd, 1) := by decide +kernel
theorem dX2_reckon_53 : decode cX2_reckon 53 = .ok (.putfield 41, 3) := by decide +kernel
theorem dX2_reckon_56 : decode cX2_reckon 56 = .ok (.aload_n 0, 1) := by decide +kernel
theorem dX2_reckon_57 : decode cX2_reckon 57 = .ok (.aload_n 0, 1) := by decide +kernel
theorem dX2_reckon_58 : decode cX2_reckon 58 = .ok (.getfield 41, 3) := by decide +kernel
theorem dX2_reckon_61 : decode cX2_reckon 61 = .ok (.invokevirtual 60, 3) := by decide +kernel
theorem dX2_reckon_64 : decode cX2_reckon 64 = .ok (.goto (-26), 3) := by decide +kernel
theorem dX2_reckon_67 : decode cX2_reckon 67 = .ok (.return_, 1) := by decide +kernel
set_option maxRecDepth 20000 in
theorem ggX2_chanceOf_X2_at : GoodIn wsX2_chanceOf wsX2_at := goodIn_r _ [5] (by decide +kernel) (by decide +kernel)
set_option maxRecDepth 20000 in
theorem gX2_chanceOf_X2_at : GoodIn wsX2_chanceOf (va_wsS RX2 25 yX2_at wsX2_at) := goodIn_app (goodIn_of _ (by decide +kernel)) ggX2_chanceOf_X2_at
theorem dX2_chanceOf_0 : decode cX2_chanceOf 0 = .ok (.aload_n 0, 1) := by decide +kernel
theorem dX2_chanceOf_1 : decode cX2_chanceOf 1 = .ok (.getfield 18, 3) := by decide +kernel
theorem dX2_chanceOf_4 : decode cX2_chanceOf 4 = .ok (.iload_n 2, 1) := by decide +kernel
theorem dX2_chanceOf_5 : decode cX2_chanceOf 5 = .ok (.iload_n 1, 1) := by decide +kernel
theorem dX2_chanceOf_6 : decode cX2_chanceOf 6 = .ok (.iload_n 3, 1) := by decide +kernel
theorem dX2_chanceOf_7 : decode cX2_chanceOf 7 = .ok (.invokestatic 25, 3) := by decide +kernel
theorem dX2_chanceOf_10 : decode cX2_chanceOf 10 = .ok (.laload, 1) := by decide +kernel
theorem dX2_chanceOf_11 : decode cX2_chanceOf 11 = .ok (.lreturn, 1) := by decide +kernel
set_option maxRecDepth 20000 in
theorem ggX2_burntOf_X2_at : GoodIn wsX2_burntOf wsX2_at := goodIn_r _ [5] (by decide +kernel) (by decide +kernel)
set_option maxRecDepth 20000 in
theorem gX2_burntOf_X2_at : GoodIn wsX2_burntOf (va_wsS RX2 25 yX2_at wsX2_at) := goodIn_app (goodIn_of _ (by decide +kernel)) ggX2_burntOf_X2_at
theorem dX2_burntOf_0 : decode cX2_burntOf 0 = .ok (.aload_n 0, 1) := by decide +kernel
theorem dX2_burntOf_1 : decode cX2_burntOf 1 = .ok (.getfield 22, 3) := by decide +kernel
theorem dX2_burntOf_4 : decode cX2_burntOf 4 = .ok (.iload_n 2, 1) := by decide +kernel
theorem dX2_burntOf_5 : decode cX2_burntOf 5 = .ok (.iload_n 1, 1) := by decide +kernel
theorem dX2_burntOf_6 : decode cX2_burntOf 6 = .ok (.iload_n 3, 1) := by decide +kernel
theorem dX2_burntOf_7 : decode cX2_burntOf 7 = .ok (.invokestatic 25, 3) := by decide +kernel
theorem dX2_burntOf_10 : decode cX2_burntOf 10 = .ok (.laload, 1) := by decide +kernel
theorem dX2_burntOf_11 : decode cX2_burntOf 11 = .ok (.lreturn, 1) := by decide +kernel
set_option maxRecDepth 20000 in
theorem ggX2_fewestDays_X2_reckon : GoodIn wsX2_fewestDays wsX2_reckon := goodIn_r _ [6, 7, 8, 9, 10, 11, 12, 5, 13, 14, 15, 16, 17, 18, 19, 20, 21, 22, 23, 24, 25, 26, 27, 28, 29, 30, 31, 32, 33, 34, 35, 36, 37, 38, 39, 40, 41, 42, 43, 44, 45, 46, 47, 48, 49, 50, 51, 56, 57, 58, 59, 60, 61, 62, 63] (by decide +kernel) (by decide +kernel)
set_option maxRecDepth 20000 in
theorem gX2_fewestDays_X2_reckon : GoodIn wsX2_fewestDays (wsV RX2 64 RX2 yX2_reckon wsX2_reckon) := goodIn_app (goodIn_of _ (by decide +kernel)) ggX2_fewestDays_X2_reckon
set_option maxRecDepth 20000 in
theorem ggX2_fewestDays_X2_chanceOf : GoodIn wsX2_fewestDays wsX2_chanceOf := goodIn_r _ [55, 19, 34, 35, 5, 36, 56, 57, 58, 59, 60, 61, 62, 63] (by decide +kernel) (by decide +kernel)
set_option maxRecDepth 20000 in
theorem gX2_fewestDays_X2_chanceOf : GoodIn wsX2_fewestDays (wsV RX2 68 RX2 yX2_chanceOf wsX2_chanceOf) := goodIn_app (goodIn_of _ (by decide +kernel)) ggX2_fewestDays_X2_chanceOf
set_option maxRecDepth 20000 in
theorem ggX2_fewestDays_X2_parts : GoodIn wsX2_fewestDays wsX2_parts := goodIn_r _ [42] (by decide +kernel) (by decide +kernel)
set_option maxRecDepth 20000 in
theorem gX2_fewestDays_X2_parts : GoodIn wsX2_fewestDays (va_wsS RX2 29 yX2_parts wsX2_parts) := goodIn_app (goodIn_of _ (by decide +kernel)) ggX2_fewestDays_X2_parts
theorem dX2_fewestDays_0 : decode cX2_fewestDays 0 = .ok (.iconst 0, 1) := by decide +kernel
theorem dX2_fewestDays_1 : decode cX2_fewestDays 1 = .ok (.istore 4, 2) := by decide +kernel
theorem dX2_fewestDays_3 : decode cX2_fewestDays 3 = .ok (.iload 4, 2) := by decide +kernel
theorem dX2_fewestDays_5 : decode cX2_fewestDays 5 = .ok (.bipush 12, 2) := by decide +kernel
theorem dX2_fewestDays_7 : decode cX2_fewestDays 7 = .ok (.if_icmp .gt 44, 3) := by decide +kernel
theorem dX2_fewestDays_10 : decode cX2_fewestDays 10 = .ok (.aload_n 0, 1) := by decide +kernel
theorem dX2_fewestDays_11 : decode cX2_fewestDays 11 = .ok (.iload_n 1, 1) := by decide +kernel
theorem dX2_fewestDays_12 : decode cX2_fewestDays 12 = .ok (.iload 4, 2) := by decide +kernel
theorem dX2_fewestDays_14 : decode cX2_fewestDays 14 = .ok (.iload_n 2, 1) := by decide +kernel
theorem dX2_fewestDays_15 : decode cX2_fewestDays 15 = .ok (.invokevirtual 64, 3) := by decide +kernel
theorem dX2_fewestDays_18 : decode cX2_fewestDays 18 = .ok (.aload_n 0, 1) := by decide +kernel
theorem dX2_fewestDays_19 : decode cX2_fewestDays 19 = .ok (.iload_n 1, 1) := by decide +kernel
theorem dX2_fewestDays_20 : decode cX2_fewestDays 20 = .ok (.iload 4, 2) := by decide +kernel
theorem dX2_fewestDays_22 : decode cX2_fewestDays 22 = .ok (.iload_n 2, 1) := by decide +kernel
theorem dX2_fewestDays_23 : decode cX2_fewestDays 23 = .ok (.invokevirtual 68, 3) := by decide +kernel
theorem dX2_fewestDays_26 : decode cX2_fewestDays 26 = .ok (.ldc2_w 72, 3) := by decide +kernel
theorem dX2_fewestDays_29 : decode cX2_fewestDays 29 = .ok (.lmul, 1) := by decide +kernel
theorem dX2_fewestDays_30 : decode cX2_fewestDays 30 = .ok (.iload_n 3, 1) := by decide +kernel
theorem dX2_fewestDays_31 : decode cX2_fewestDays 31 = .ok (.i2l, 1) := by decide +kernel
theorem dX2_fewestDays_32 : decode cX2_fewestDays 32 = .ok (.iload 4, 2) := by decide +kernel
theorem dX2_fewestDays_34 : decode cX2_fewestDays 34 = .ok (.invokestatic 29, 3) := by decide +kernel
theorem dX2_fewestDays_37 : decode cX2_fewestDays 37 = .ok (.lmul, 1) := by decide +kernel
theorem dX2_fewestDays_38 : decode cX2_fewestDays 38 = .ok (.lcmp, 1) := by decide +kernel
theorem dX2_fewestDays_39 : decode cX2_fewestDays 39 = .ok (.ifCond .lt 6, 3) := by decide +kernel
theorem dX2_fewestDays_42 : decode cX2_fewestDays 42 = .ok (.iload 4, 2) := by decide +kernel
theorem dX2_fewestDays_44 : decode cX2_fewestDays 44 = .ok (.ireturn, 1) := by decide +kernel
theorem dX2_fewestDays_45 : decode cX2_fewestDays 45 = .ok (.iinc 4 1, 3) := by decide +kernel
theorem dX2_fewestDays_48 : decode cX2_fewestDays 48 = .ok (.goto (-45), 3) := by decide +kernel
theorem dX2_fewestDays_51 : decode cX2_fewestDays 51 = .ok (.iconst (-1), 1) := by decide +kernel
theorem dX2_fewestDays_52 : decode cX2_fewestDays 52 = .ok (.ireturn, 1) := by decide +kernel
set_option maxRecDepth 20000 in
theorem ggX2_bestChoice_X2_calmChoice : GoodIn wsX2_bestChoice wsX2_calmChoice := goodIn_r _ [5, 6, 7, 8, 4, 9, 10, 11, 12, 13, 14, 15, 16, 17, 18, 19, 20, 21, 22, 23, 24, 25, 26, 27, 28, 29, 35, 36, 37, 38, 39, 40, 41, 42] (by decide +kernel) (by decide +kernel)
set_option maxRecDepth 20000 in
theorem gX2_bestChoice_X2_calmChoice : GoodIn wsX2_bestChoice (wsV RX2 74 RX2 yX2_calmChoice wsX2_calmChoice) := goodIn_app (goodIn_of _ (by decide +kernel)) ggX2_bestChoice_X2_calmChoice
set_option maxRecDepth 20000 in
theorem ggX2_bestChoice_X2_afterCalm : GoodIn wsX2_bestChoice wsX2_afterCalm := goodIn_r _ [9, 10, 11, 12, 13, 14, 15, 16, 4, 17, 35, 36, 37, 38, 39, 40, 41, 42] (by decide +kernel) (by decide +kernel)
set_option maxRecDepth 20000 in
theorem gX2_bestChoice_X2_afterCalm : GoodIn wsX2_bestChoice (wsV RX2 77 RX2 yX2_afterCalm wsX2_afterCalm) := goodIn_app (goodIn_of _ (by decide +kernel)) ggX2_bestChoice_X2_afterCalm
set_option maxRecDepth 20000 in
theorem ggX2_bestChoice_X2_fuel : GoodIn wsX2_bestChoice wsX2_fuel := goodIn_r _ [20, 21, 22, 4, 23] (by decide +kernel) (by decide +kernel)
set_option maxRecDepth 20000 in
theorem gX2_bestChoice_X2_fuel : GoodIn wsX2_bestChoice (va_wsS RX2 81 yX2_fuel wsX2_fuel) := goodIn_app (goodIn_of _ (by decide +kernel)) ggX2_bestChoice_X2_fuel
set_option maxRecDepth 20000 in
theorem ggX2_bestChoice_X2_afterSails : GoodIn wsX2_bestChoice wsX2_afterSails := goodIn_r _ [33, 34, 11, 12, 13, 14, 15, 16, 4, 17, 35, 36, 37, 38, 39, 40, 41, 42] (by decide +kernel) (by decide +kernel)
set_option maxRecDepth 20000 in
theorem gX2_bestChoice_X2_afterSails : GoodIn wsX2_bestChoice (wsV RX2 85 RX2 yX2_afterSails wsX2_afterSails) := goodIn_app (goodIn_of _ (by decide +kernel)) ggX2_bestChoice_X2_afterSails
set_option maxRecDepth 20000 in
theorem ggX2_bestChoice_X2_isBetter : GoodIn wsX2_bestChoice wsX2_isBetter := goodIn_r _ [27, 28, 29, 35, 36, 37, 38, 39, 40, 41, 42] (by decide +kernel) (by decide +kernel)
set_option maxRecDepth 20000 in
theorem gX2_bestChoice_X2_isBetter : GoodIn wsX2_bestChoice (wsV RX2 88 RX2 yX2_isBetter wsX2_isBetter) := goodIn_app (goodIn_of _ (by decide +kernel)) ggX2_bestChoice_X2_isBetter
theorem dX2_bestChoice_0 : decode cX2_bestChoice 0 = .ok (.aload_n 0, 1) := by decide +kernel
theorem dX2_bestChoice_1 : decode cX2_bestChoice 1 = .ok (.iload_n 1, 1) := by decide +kernel
theorem dX2_bestChoice_2 : decode cX2_bestChoice 2 = .ok (.iload_n 2, 1) := by decide +kernel
theorem dX2_bestChoice_3 : decode cX2_bestChoice 3 = .ok (.iload_n 3, 1) := by decide +kernel
theorem dX2_bestChoice_4 : decode cX2_bestChoice 4 = .ok (.invokevirtual 74, 3) := by decide +kernel
theorem dX2_bestChoice_7 : decode cX2_bestChoice 7 = .ok (.istore 5, 2) := by decide +kernel
theorem dX2_bestChoice_9 : decode cX2_bestChoice 9 = .ok (.aload_n 0, 1) := by decide +kernel
theorem dX2_bestChoice_10 : decode cX2_bestChoice 10 = .ok (.aload_n 0, 1) := by decide +kernel
theorem dX2_bestChoice_11 : decode cX2_bestChoice 11 = .ok (.iload 5, 2) := by decide +kernel
theorem dX2_bestChoice_13 : decode cX2_bestChoice 13 = .ok (.iload_n 1, 1) := by decide +kernel
theorem dX2_bestChoice_14 : decode cX2_bestChoice 14 = .ok (.iload_n 2, 1) := by decide +kernel
theorem dX2_bestChoice_15 : decode cX2_bestChoice 15 = .ok (.iload_n 3, 1) := by decide +kernel
theorem dX2_bestChoice_16 : decode cX2_bestChoice 16 = .ok (.invokevirtual 77, 3) := by decide +kernel
theorem dX2_bestChoice_19 : decode cX2_bestChoice 19 = .ok (.iload 5, 2) := by decide +kernel
theorem dX2_bestChoice_21 : decode cX2_bestChoice 21 = .ok (.iload_n 1, 1) := by decide +kernel
theorem dX2_bestChoice_22 : decode cX2_bestChoice 22 = .ok (.invokestatic 81, 3) := by decide +kernel
theorem dX2_bestChoice_25 : decode cX2_bestChoice 25 = .ok (.aload_n 0, 1) := by decide +kernel
theorem dX2_bestChoice_26 : decode cX2_bestChoice 26 = .ok (.iload_n 1, 1) := by decide +kernel
theorem dX2_bestChoice_27 : decode cX2_bestChoice 27 = .ok (.iload_n 2, 1) := by decide +kernel
theorem dX2_bestChoice_28 : decode cX2_bestChoice 28 = .ok (.iload_n 3, 1) := by decide +kernel
theorem dX2_bestChoice_29 : decode cX2_bestChoice 29 = .ok (.iload 4, 2) := by decide +kernel
theorem dX2_bestChoice_31 : decode cX2_bestChoice 31 = .ok (.invokevirtual 85, 3) := by decide +kernel
theorem dX2_bestChoice_34 : decode cX2_bestChoice 34 = .ok (.lconst 0, 1) := by decide +kernel
theorem dX2_bestChoice_35 : decode cX2_bestChoice 35 = .ok (.invokevirtual 88, 3) := by decide +kernel
theorem dX2_bestChoice_38 : decode cX2_bestChoice 38 = .ok (.istore 6, 2) := by decide +kernel
theorem dX2_bestChoice_40 : decode cX2_bestChoice 40 = .ok (.iload 6, 2) := by decide +kernel
theorem dX2_bestChoice_42 : decode cX2_bestChoice 42 = .ok (.ifCond .eq 8, 3) := by decide +kernel
theorem dX2_bestChoice_45 : decode cX2_bestChoice 45 = .ok (.iload 5, 2) := by decide +kernel
theorem dX2_bestChoice_47 : decode cX2_bestChoice 47 = .ok (.goto 4, 3) := by decide +kernel
theorem dX2_bestChoice_50 : decode cX2_bestChoice 50 = .ok (.iconst 0, 1) := by decide +kernel
theorem dX2_bestChoice_51 : decode cX2_bestChoice 51 = .ok (.ireturn, 1) := by decide +kernel
set_option maxRecDepth 20000 in
theorem ggX2_reckonDay_X2_reckonPlace : GoodIn wsX2_reckonDay wsX2_reckonPlace := goodIn_r _ [7, 8, 9, 10, 11, 12, 13, 6, 14, 15, 16, 17, 18, 19, 20, 21, 22, 23, 24, 25, 26, 27, 28, 29, 30, 31, 32, 33, 34, 35, 36, 37, 38, 39, 40, 41, 42, 43, 44, 45, 46, 47, 48, 49] (by decide +kernel) (by decide +kernel)
set_option maxRecDepth 20000 in
theorem gX2_reckonDay_X2_reckonPlace : GoodIn wsX2_reckonDay (wsV RX2 92 RX2 yX2_reckonPlace wsX2_reckonPlace) := goodIn_app (goodIn_of _ (by decide +kernel)) ggX2_reckonDay_X2_reckonPlace
theorem dX2_reckonDay_0 : decode cX2_reckonDay 0 = .ok (.iconst 1, 1) := by decide +kernel
theorem dX2_reckonDay_1 : decode cX2_reckonDay 1 = .ok (.istore_n 2, 1) := by decide +kernel
theorem dX2_reckonDay_2 : decode cX2_reckonDay 2 = .ok (.iload_n 2, 1) := by decide +kernel
theorem dX2_reckonDay_3 : decode cX2_reckonDay 3 = .ok (.aload_n 0, 1) := by decide +kernel
theorem dX2_reckonDay_4 : decode cX2_reckonDay 4 = .ok (.getfield 54, 3) := by decide +kernel
theorem dX2_reckonDay_7 : decode cX2_reckonDay 7 = .ok (.if_icmp .gt 32, 3) := by decide +kernel
theorem dX2_reckonDay_10 : decode cX2_reckonDay 10 = .ok (.iconst 0, 1) := by decide +kernel
theorem dX2_reckonDay_11 : decode cX2_reckonDay 11 = .ok (.istore_n 3, 1) := by decide +kernel
theorem dX2_reckonDay_12 : decode cX2_reckonDay 12 = .ok (.iload_n 3, 1) := by decide +kernel
theorem dX2_reckonDay_13 : decode cX2_reckonDay 13 = .ok (.aload_n 0, 1) := by decide +kernel
theorem dX2_reckonDay_14 : decode cX2_reckonDay 14 = .ok (.getfield 57, 3) := by decide +kernel
theorem dX2_reckonDay_17 : decode cX2_reckonDay 17 = .ok (.if_icmp .gt 16, 3) := by decide +kernel
theorem dX2_reckonDay_20 : decode cX2_reckonDay 20 = .ok (.aload_n 0, 1) := by decide +kernel
theorem dX2_reckonDay_21 : decode cX2_reckonDay 21 = .ok (.iload_n 1, 1) := by decide +kernel
theorem dX2_reckonDay_22 : decode cX2_reckonDay 22 = .ok (.iload_n 2, 1) := by decide +kernel
theorem dX2_reckonDay_23 : decode cX2_reckonDay 23 = .ok (.iload_n 3, 1) := by decide +kernel
theorem dX2_reckonDay_24 : decode cX2_reckonDay 24 = .ok (.invokevirtual 92, 3) := by decide +kernel
theorem dX2_reckonDay_27 : decode cX2_reckonDay 27 = .ok (.iinc 3 1, 3) := by decide +kernel
theorem dX2_reckonDay_30 : decode cX2_reckonDay 30 = .ok (.goto (-18), 3) := by decide +kernel
theorem dX2_reckonDay_33 : decode cX2_reckonDay 33 = .ok (.iinc 2 1, 3) := by decide +kernel
theorem dX2_reckonDay_36 : decode cX2_reckonDay 36 = .ok (.goto (-34), 3) := by decide +kernel
theorem dX2_reckonDay_39 : decode cX2_reckonDay 39 = .ok (.return_, 1) := by decide +kernel
set_option maxRecDepth 20000 in
theorem ggX2_reckonPlace_X2_calmChoice : GoodIn wsX2_reckonPlace wsX2_calmChoice := goodIn_r _ [8, 9, 10, 11, 7, 12, 13, 14, 15, 16, 17, 18, 19, 20, 21, 22, 23, 24, 25, 26, 27, 28, 29, 30, 2, 3, 36, 37, 38, 39, 40, 41, 42, 43] (by decide +kernel) (by decide +kernel)
set_option maxRecDepth 20000 in
theorem gX2_reckonPlace_X2_calmChoice : GoodIn wsX2_reckonPlace (wsV RX2 74 RX2 yX2_calmChoice wsX2_calmChoice) := goodIn_app (goodIn_of _ (by decide +kernel)) ggX2_reckonPlace_X2_calmChoice
set_option maxRecDepth 20000 in
theorem ggX2_reckonPlace_X2_afterCalm : GoodIn wsX2_reckonPlace wsX2_afterCalm := goodIn_r _ [12, 13, 14, 15, 16, 17, 18, 19, 7, 20, 36, 37, 38, 39, 40, 41, 42, 43] (by decide +kernel) (by decide +kernel)
set_option maxRecDepth 20000 in
theorem gX2_reckonPlace_X2_afterCalm : GoodIn wsX2_reckonPlace (wsV RX2 77 RX2 yX2_afterCalm wsX2_afterCalm) := goodIn_app (goodIn_of _ (by decide +kernel)) ggX2_reckonPlace_X2_afterCalm
set_option maxRecDepth 20000 in
theorem ggX2_reckonPlace_X2_fuel : GoodIn wsX2_reckonPlace wsX2_fuel := goodIn_r _ [23, 24, 25, 7, 26] (by decide +kernel) (by decide +kernel)
set_option maxRecDepth 20000 in
theorem gX2_reckonPlace_X2_fuel : GoodIn wsX2_reckonPlace (va_wsS RX2 81 yX2_fuel wsX2_fuel) := goodIn_app (goodIn_of _ (by decide +kernel)) ggX2_reckonPlace_X2_fuel
set_option maxRecDepth 20000 in
theorem ggX2_reckonPlace_X2_afterSails : GoodIn wsX2_reckonPlace wsX2_afterSails := goodIn_r _ [34, 35, 14, 15, 16, 17, 18, 19, 7, 20, 36, 37, 38, 39, 40, 41, 42, 43] (by decide +kernel) (by decide +kernel)
set_option maxRecDepth 20000 in
theorem gX2_reckonPlace_X2_afterSails : GoodIn wsX2_reckonPlace (wsV RX2 85 RX2 yX2_afterSails wsX2_afterSails) := goodIn_app (goodIn_of _ (by decide +kernel)) ggX2_reckonPlace_X2_afterSails
set_option maxRecDepth 20000 in
theorem ggX2_reckonPlace_X2_isBetter : GoodIn wsX2_reckonPlace wsX2_isBetter := goodIn_r _ [30, 2, 3, 36, 37, 38, 39, 40, 41, 42, 43] (by decide +kernel) (by decide +kernel)
set_option maxRecDepth 20000 in
theorem gX2_reckonPlace_X2_isBetter : GoodIn wsX2_reckonPlace (wsV RX2 88 RX2 yX2_isBetter wsX2_isBetter) := goodIn_app (goodIn_of _ (by decide +kernel)) ggX2_reckonPlace_X2_isBetter
set_option maxRecDepth 20000 in
theorem ggX2_reckonPlace_X2_at : GoodIn wsX2_reckonPlace wsX2_at := goodIn_r _ [20] (by decide +kernel) (by decide +kernel)
set_option maxRecDepth 20000 in
theorem gX2_reckonPlace_X2_at : GoodIn wsX2_reckonPlace (va_wsS RX2 25 yX2_at wsX2_at) := goodIn_app (goodIn_of _ (by decide +kernel)) ggX2_reckonPlace_X2_at
theorem dX2_reckonPlace_0 : decode cX2_reckonPlace 0 = .ok (.aload_n 0, 1) := by decide +kernel
theorem dX2_reckonPlace_1 : decode cX2_reckonPlace 1 = .ok (.iload_n 1, 1) := by decide +kernel
theorem dX2_reckonPlace_2 : decode cX2_reckonPlace 2 = .ok (.iload_n 2, 1) := by decide +kernel
theorem dX2_reckonPlace_3 : decode cX2_reckonPlace 3 = .ok (.iload_n 3, 1) := by decide +kernel
theorem dX2_reckonPlace_4 : decode cX2_reckonPlace 4 = .ok (.invokevirtual 74, 3) := by decide +kernel
theorem dX2_reckonPlace_7 : decode cX2_reckonPlace 7 = .ok (.istore 4, 2) := by decide +kernel
theorem dX2_reckonPlace_9 : decode cX2_reckonPlace 9 = .ok (.aload_n 0, 1) := by decide +kernel
theorem dX2_reckonPlace_10 : decode cX2_reckonPlace 10 = .ok (.iload 4, 2) := by decide +kernel
theorem dX2_reckonPlace_12 : decode cX2_reckonPlace 12 = .ok (.iload_n 1, 1) := by decide +kernel
theorem dX2_reckonPlace_13 : decode cX2_reckonPlace 13 = .ok (.iload_n 2, 1) := by decide +kernel
theorem dX2_reckonPlace_14 : decode cX2_reckonPlace 14 = .ok (.iload_n 3, 1) := by decide +kernel
theorem dX2_reckonPlace_15 : decode cX2_reckonPlace 15 = .ok (.invokevirtual 77, 3) := by decide +kernel
theorem dX2_reckonPlace_18 : decode cX2_reckonPlace 18 = .ok (.istore 5, 2) := by decide +kernel
theorem dX2_reckonPlace_20 : decode cX2_reckonPlace 20 = .ok (.iload 4, 2) := by decide +kernel
theorem dX2_reckonPlace_22 : decode cX2_reckonPlace 22 = .ok (.iload_n 1, 1) := by decide +kernel
theorem dX2_reckonPlace_23 : decode cX2_reckonPlace 23 = .ok (.invokestatic 81, 3) := by decide +kernel
theorem dX2_reckonPlace_26 : decode cX2_reckonPlace 26 = .ok (.lstore 6, 2) := by decide +kernel
theorem dX2_reckonPlace_28 : decode cX2_reckonPlace 28 = .ok (.lconst 0, 1) := by decide +kernel
theorem dX2_reckonPlace_29 : decode cX2_reckonPlace 29 = .ok (.lstore 8, 2) := by decide +kernel
theorem dX2_reckonPlace_31 : decode cX2_reckonPlace 31 = .ok (.lconst 0, 1) := by decide +kernel
theorem dX2_reckonPlace_32 : decode cX2_reckonPlace 32 = .ok (.lstore 10, 2) := by decide +kernel
theorem dX2_reckonPlace_34 : decode cX2_reckonPlace 34 = .ok (.iconst 0, 1) := by decide +kernel
theorem dX2_reckonPlace_35 : decode cX2_reckonPlace 35 = .ok (.istore 12, 2) := by decide +kernel
theorem dX2_reckonPlace_37 : decode cX2_reckonPlace 37 = .ok (.iload 12, 2) := by decide +kernel
theorem dX2_reckonPlace_39 : decode cX2_reckonPlace 39 = .ok (.iconst 4, 1) := by decide +kernel
theorem dX2_reckonPlace_40 : decode cX2_reckonPlace 40 = .ok (.if_icmp .ge 124, 3) := by decide +kernel
theorem dX2_reckonPlace_43 : decode cX2_reckonPlace 43 = .ok (.aload_n 0, 1) := by decide +kernel
theorem dX2_reckonPlace_44 : decode cX2_reckonPlace 44 = .ok (.iload_n 1, 1) := by decide +kernel
theorem dX2_reckonPlace_45 : decode cX2_reckonPlace 45 = .ok (.iload_n 2, 1) := by decide +kernel
theorem dX2_reckonPlace_46 : decode cX2_reckonPlace 46 = .ok (.iload_n 3, 1) := by decide +kernel
theorem dX2_reckonPlace_47 : decode cX2_reckonPlace 47 = .ok (.iload 12, 2) := by decide +kernel
theorem dX2_reckonPlace_49 : decode cX2_reckonPlace 49 = .ok (.invokevirtual 85, 3) := by decide +kernel
theorem dX2_reckonPlace_52 : decode cX2_reckonPlace 52 = .ok (.istore 13, 2) := by decide +kernel
theorem dX2_reckonPlace_54 : decode cX2_reckonPlace 54 = .ok (.aload_n 0, 1) := by decide +kernel
theorem dX2_reckonPlace_55 : decode cX2_reckonPlace 55 = .ok (.iload 5, 2) := by decide +kernel
theorem dX2_reckonPlace_57 : decode cX2_reckonPlace 57 = .ok (.lload 6, 2) := by decide +kernel
theorem dX2_reckonPlace_59 : decode cX2_reckonPlace 59 = .ok (.iload 13, 2) := by decide +kernel
theorem dX2_reckonPlace_61 : decode cX2_reckonPlace 61 = .ok (.lconst 0, 1) := by decide +kernel
theorem dX2_reckonPlace_62 : decode cX2_reckonPlace 62 = .ok (.invokevirtual 88, 3) := by decide +kernel
theorem dX2_reckonPlace_65 : decode cX2_reckonPlace 65 = .ok (.ifCond .eq 51, 3) := by decide +kernel
theorem dX2_reckonPlace_68 : decode cX2_reckonPlace 68 = .ok (.lload 8, 2) := by decide +kernel
theorem dX2_reckonPlace_70 : decode cX2_reckonPlace 70 = .ok (.aload_n 0, 1) := by decide +kernel
theorem dX2_reckonPlace_71 : decode cX2_reckonPlace 71 = .ok (.getfield 15, 3) := by decide +kernel
theorem dX2_reckonPlace_74 : decode cX2_reckonPlace 74 = .ok (.iload 12, 2) := by decide +kernel
theorem dX2_reckonPlace_76 : decode cX2_reckonPlace 76 = .ok (.iaload, 1) := by decide +kernel
theorem dX2_reckonPlace_77 : decode cX2_reckonPlace 77 = .ok (.i2l, 1) := by decide +kernel
theorem dX2_reckonPlace_78 : decode cX2_reckonPlace 78 = .ok (.aload_n 0, 1) := by decide +kernel
theorem dX2_reckonPlace_79 : decode cX2_reckonPlace 79 = .ok (.getfield 18, 3) := by decide +kernel
theorem dX2_reckonPlace_82 : decode cX2_reckonPlace 82 = .ok (.iload 5, 2) := by decide +kernel
theorem dX2_reckonPlace_84 : decode cX2_reckonPlace 84 = .ok (.laload, 1) := by decide +kernel
theorem dX2_reckonPlace_85 : decode cX2_reckonPlace 85 = .ok (.lmul, 1) := by decide +kernel
theorem dX2_reckonPlace_86 : decode cX2_reckonPlace 86 = .ok (.ladd, 1) := by decide +kernel
theorem dX2_reckonPlace_87 : decode cX2_reckonPlace 87 = .ok (.lstore 8, 2) := by decide +kernel
theorem dX2_reckonPlace_89 : decode cX2_reckonPlace 89 = .ok (.lload 10, 2) := by decide +kernel
theorem dX2_reckonPlace_91 : decode cX2_reckonPlace 91 = .ok (.aload_n 0, 1) := by decide +kernel
theorem dX2_reckonPlace_92 : decode cX2_reckonPlace 92 = .ok (.getfield 15, 3) := by decide +kernel
theorem dX2_reckonPlace_95 : decode cX2_reckonPlace 95 = .ok (.iload 12, 2) := by decide +kernel
theorem dX2_reckonPlace_97 : decode cX2_reckonPlace 97 = .ok (.iaload, 1) := by decide +kernel
theorem dX2_reckonPlace_98 : decode cX2_reckonPlace 98 = .ok (.i2l, 1) := by decide +kernel
theorem dX2_reckonPlace_99 : decode cX2_reckonPlace 99 = .ok (.aload_n 0, 1) := by decide +kernel
theorem dX2_reckonPlace_100 : decode cX2_reckonPlace 100 = .ok (.getfield 22, 3) := by decide +kernel
theorem dX2_reckonPlace_103 : decode cX2_reckonPlace 103 = .ok (.iload 5, 2) := by decide +kernel
theorem dX2_reckonPlace_105 : decode cX2_reckonPlace 105 = .ok (.laload, 1) := by decide +kernel
theorem dX2_reckonPlace_106 : decode cX2_reckonPlace 106 = .ok (.lload 6, 2) := by decide +kernel
theorem dX2_reckonPlace_108 : decode cX2_reckonPlace 108 = .ok (.ladd, 1) := by decide +kernel
theorem dX2_reckonPlace_109 : decode cX2_reckonPlace 109 = .ok (.lmul, 1) := by decide +kernel
theorem dX2_reckonPlace_110 : decode cX2_reckonPlace 110 = .ok (.ladd, 1) := by decide +kernel
theorem dX2_reckonPlace_111 : decode cX2_reckonPlace 111 = .ok (.lstore 10, 2) := by decide +kernel
theorem dX2_reckonPlace_113 : decode cX2_reckonPlace 113 = .ok (.goto 45, 3) := by decide +kernel
theorem dX2_reckonPlace_116 : decode cX2_reckonPlace 116 = .ok (.lload 8, 2) := by decide +kernel
theorem dX2_reckonPlace_118 : decode cX2_reckonPlace 118 = .ok (.aload_n 0, 1) := by decide +kernel
theorem dX2_reckonPlace_119 : decode cX2_reckonPlace 119 = .ok (.getfield 15, 3) := by decide +kernel
theorem dX2_reckonPlace_122 : decode cX2_reckonPlace 122 = .ok (.iload 12, 2) := by decide +kernel
theorem dX2_reckonPlace_124 : decode cX2_reckonPlace 124 = .ok (.iaload, 1) := by decide +kernel
theorem dX2_reckonPlace_125 : decode cX2_reckonPlace 125 = .ok (.i2l, 1) := by decide +kernel
theorem dX2_reckonPlace_126 : decode cX2_reckonPlace 126 = .ok (.aload_n 0, 1) := by decide +kernel
theorem dX2_reckonPlace_127 : decode cX2_reckonPlace 127 = .ok (.getfield 18, 3) := by decide +kernel
theorem dX2_reckonPlace_130 : decode cX2_reckonPlace 130 = .ok (.iload 13, 2) := by decide +kernel
theorem dX2_reckonPlace_132 : decode cX2_reckonPlace 132 = .ok (.laload, 1) := by decide +kernel
theorem dX2_reckonPlace_133 : decode cX2_reckonPlace 133 = .ok (.lmul, 1) := by decide +kernel
theorem dX2_reckonPlace_134 : decode cX2_reckonPlace 134 = .ok (.ladd, 1) := by decide +kernel
theorem dX2_reckonPlace_135 : decode cX2_reckonPlace 135 = .ok (.lstore 8, 2) := by decide +kernel
theorem dX2_reckonPlace_137 : decode cX2_reckonPlace 137 = .ok (.lload 10, 2) := by decide +kernel
theorem dX2_reckonPlace_139 : decode cX2_reckonPlace 139 = .ok (.aload_n 0, 1) := by decide +kernel
theorem dX2_reckonPlace_140 : decode cX2_reckonPlace 140 = .ok (.getfield 15, 3) := by decide +kernel
theorem dX2_reckonPlace_143 : decode cX2_reckonPlace 143 = .ok (.iload 12, 2) := by decide +kernel
theorem dX2_reckonPlace_145 : decode cX2_reckonPlace 145 = .ok (.iaload, 1) := by decide +kernel
theorem dX2_reckonPlace_146 : decode cX2_reckonPlace 146 = .ok (.i2l, 1) := by decide +kernel
theorem dX2_reckonPlace_147 : decode cX2_reckonPlace 147 = .ok (.aload_n 0, 1) := by decide +kernel
theorem dX2_reckonPlace_148 : decode cX2_reckonPlace 148 = .ok (.getfield 22, 3) := by decide +kernel
theorem dX2_reckonPlace_151 : decode cX2_reckonPlace 151 = .ok (.iload 13, 2) := by decide +kernel
theorem dX2_reckonPlace_153 : decode cX2_reckonPlace 153 = .ok (.laload, 1) := by decide +kernel
theorem dX2_reckonPlace_154 : decode cX2_reckonPlace 154 = .ok (.lmul, 1) := by decide +kernel
theorem dX2_reckonPlace_155 : decode cX2_reckonPlace 155 = .ok (.ladd, 1) := by decide +kernel
theorem dX2_reckonPlace_156 : decode cX2_reckonPlace 156 = .ok (.lstore 10, 2) := by decide +kernel
theorem dX2_reckonPlace_158 : decode cX2_reckonPlace 158 = .ok (.iinc 12 1, 3) := by decide +kernel
theorem dX2_reckonPlace_161 : decode cX2_reckonPlace 161 = .ok (.goto (-124), 3) := by decide +kernel
theorem dX2_reckonPlace_164 : decode cX2_reckonPlace 164 = .ok (.iload_n 1, 1) := by decide +kernel
theorem dX2_reckonPlace_165 : decode cX2_reckonPlace 165 = .ok (.iload_n 2, 1) := by decide +kernel
theorem dX2_reckonPlace_166 : decode cX2_reckonPlace 166 = .ok (.iload_n 3, 1) := by decide +kernel
theorem dX2_reckonPlace_167 : decode cX2_reckonPlace 167 = .ok (.invokestatic 25, 3) := by decide +kernel
theorem dX2_reckonPlace_170 : decode cX2_reckonPlace 170 = .ok (.istore 12, 2) := by decide +kernel
theorem dX2_reckonPlace_172 : decode cX2_reckonPlace 172 = .ok (.aload_n 0, 1) := by decide +kernel
theorem dX2_reckonPlace_173 : decode cX2_reckonPlace 173 = .ok (.getfield 18, 3) := by decide +kernel
theorem dX2_reckonPlace_176 : decode cX2_reckonPlace 176 = .ok (.iload 12, 2) := by decide +kernel
theorem dX2_reckonPlace_178 : decode cX2_reckonPlace 178 = .ok (.lload 8, 2) := by decide +kernel
theorem dX2_reckonPlace_180 : decode cX2_reckonPlace 180 = .ok (.lastore, 1) := by decide +kernel
theorem dX2_reckonPlace_181 : decode cX2_reckonPlace 181 = .ok (.aload_n 0, 1) := by decide +kernel
theorem dX2_reckonPlace_182 : decode cX2_reckonPlace 182 = .ok (.getfield 22, 3) := by decide +kernel
theorem dX2_reckonPlace_185 : decode cX2_reckonPlace 185 = .ok (.iload 12, 2) := by decide +kernel
theorem dX2_reckonPlace_187 : decode cX2_reckonPlace 187 = .ok (.lload 10, 2) := by decide +kernel
theorem dX2_reckonPlace_189 : decode cX2_reckonPlace 189 = .ok (.lastore, 1) := by decide +kernel
theorem dX2_reckonPlace_190 : decode cX2_reckonPlace 190 = .ok (.return_, 1) := by decide +kernel
set_option maxRecDepth 20000 in
theorem ggX2_calmChoice_X2_afterCalm : GoodIn wsX2_calmChoice wsX2_afterCalm := goodIn_r _ [5, 6, 7, 8, 9, 10, 11, 12, 4, 13, 26, 27, 28, 29, 30, 31, 32, 33] (by decide +kernel) (by decide +kernel)
set_option maxRecDepth 20000 in
theorem gX2_calmChoice_X2_afterCalm : GoodIn wsX2_calmChoice (wsV RX2 77 RX2 yX2_afterCalm wsX2_afterCalm) := goodIn_app (goodIn_of _ (by decide +kernel)) ggX2_calmChoice_X2_afterCalm
set_option maxRecDepth 20000 in
theorem ggX2_calmChoice_X2_fuel : GoodIn wsX2_calmChoice wsX2_fuel := goodIn_r _ [16, 17, 18, 4, 19] (by decide +kernel) (by decide +kernel)
set_option maxRecDepth 20000 in
theorem gX2_calmChoice_X2_fuel : GoodIn wsX2_calmChoice (va_wsS RX2 81 yX2_fuel wsX2_fuel) := goodIn_app (goodIn_of _ (by decide +kernel)) ggX2_calmChoice_X2_fuel
set_option maxRecDepth 20000 in
theorem ggX2_calmChoice_X2_isBetter : GoodIn wsX2_calmChoice wsX2_isBetter := goodIn_r _ [23, 24, 25, 26, 27, 28, 29, 30, 31, 32, 33] (by decide +kernel) (by decide +kernel)
set_option maxRecDepth 20000 in
theorem gX2_calmChoice_X2_isBetter : GoodIn wsX2_calmChoice (wsV RX2 88 RX2 yX2_isBetter wsX2_isBetter) := goodIn_app (goodIn_of _ (by decide +kernel)) ggX2_calmChoice_X2_isBetter
theorem dX2_calmChoice_0 : decode cX2_calmChoice 0 = .ok (.iload_n 3, 1) := by decide +kernel
theorem dX2_calmChoice_1 : decode cX2_calmChoice 1 = .ok (.ifCond .ne 5, 3) := by decide +kernel
theorem dX2_calmChoice_4 : decode cX2_calmChoice 4 = .ok (.iconst 2, 1) := by decide +kernel
theorem dX2_calmChoice_5 : decode cX2_calmChoice 5 = .ok (.ireturn, 1) := by decide +kernel
theorem dX2_calmChoice_6 : decode cX2_calmChoice 6 = .ok (.aload_n 0, 1) := by decide +kernel
theorem dX2_calmChoice_7 : decode cX2_calmChoice 7 = .ok (.aload_n 0, 1) := by decide +kernel
theorem dX2_calmChoice_8 : decode cX2_calmChoice 8 = .ok (.iconst 2, 1) := by decide +kernel
theorem dX2_calmChoice_9 : decode cX2_calmChoice 9 = .ok (.iload_n 1, 1) := by decide +kernel
theorem dX2_calmChoice_10 : decode cX2_calmChoice 10 = .ok (.iload_n 2, 1) := by decide +kernel
theorem dX2_calmChoice_11 : decode cX2_calmChoice 11 = .ok (.iload_n 3, 1) := by decide +kernel
theorem dX2_calmChoice_12 : decode cX2_calmChoice 12 = .ok (.invokevirtual 77, 3) := by decide +kernel
theorem dX2_calmChoice_15 : decode cX2_calmChoice 15 = .ok (.lconst 0, 1) := by decide +kernel
theorem dX2_calmChoice_16 : decode cX2_calmChoice 16 = .ok (.aload_n 0, 1) := by decide +kernel
theorem dX2_calmChoice_17 : decode cX2_calmChoice 17 = .ok (.iconst 1, 1) := by decide +kernel
theorem dX2_calmChoice_18 : decode cX2_calmChoice 18 = .ok (.iload_n 1, 1) := by decide +kernel
theorem dX2_calmChoice_19 : decode cX2_calmChoice 19 = .ok (.iload_n 2, 1) := by decide +kernel
theorem dX2_calmChoice_20 : decode cX2_calmChoice 20 = .ok (.iload_n 3, 1) := by decide +kernel
theorem dX2_calmChoice_21 : decode cX2_calmChoice 21 = .ok (.invokevirtual 77, 3) := by decide +kernel
theorem dX2_calmChoice_24 : decode cX2_calmChoice 24 = .ok (.iconst 1, 1) := by decide +kernel
theorem dX2_calmChoice_25 : decode cX2_calmChoice 25 = .ok (.iload_n 1, 1) := by decide +kernel
theorem dX2_calmChoice_26 : decode cX2_calmChoice 26 = .ok (.invokestatic 81, 3) := by decide +kernel
theorem dX2_calmChoice_29 : decode cX2_calmChoice 29 = .ok (.invokevirtual 88, 3) := by decide +kernel
theorem dX2_calmChoice_32 : decode cX2_calmChoice 32 = .ok (.istore 4, 2) := by decide +kernel
theorem dX2_calmChoice_34 : decode cX2_calmChoice 34 = .ok (.iload 4, 2) := by decide +kernel
theorem dX2_calmChoice_36 : decode cX2_calmChoice 36 = .ok (.ifCond .eq 7, 3) := by decide +kernel
theorem dX2_calmChoice_39 : decode cX2_calmChoice 39 = .ok (.iconst 2, 1) := by decide +kernel
theorem dX2_calmChoice_40 : decode cX2_calmChoice 40 = .ok (.goto 4, 3) := by decide +kernel
theorem dX2_calmChoice_43 : decode cX2_calmChoice 43 = .ok (.iconst 1, 1) := by decide +kernel
theorem dX2_calmChoice_44 : decode cX2_calmChoice 44 = .ok (.ireturn, 1) := by decide +kernel
set_option maxRecDepth 20000 in
theorem ggX2_afterCalm_X2_at : GoodIn wsX2_afterCalm wsX2_at := goodIn_r _ [9] (by decide +kernel) (by decide +kernel)
set_option maxRecDepth 20000 in
theorem gX2_afterCalm_X2_at : GoodIn wsX2_afterCalm (va_wsS RX2 25 yX2_at wsX2_at) := goodIn_app (goodIn_of _ (by decide +kernel)) ggX2_afterCalm_X2_at
theorem dX2_afterCalm_0 : decode cX2_afterCalm 0 = .ok (.iload_n 1, 1) := by decide +kernel
theorem dX2_afterCalm_1 : decode cX2_afterCalm 1 = .ok (.iconst 1, 1) := by decide +kernel
theorem dX2_afterCalm_2 : decode cX2_afterCalm 2 = .ok (.if_icmp .ne 24, 3) := by decide +kernel
theorem dX2_afterCalm_5 : decode cX2_afterCalm 5 = .ok (.iload_n 2, 1) := by decide +kernel
theorem dX2_afterCalm_6 : decode cX2_afterCalm 6 = .ok (.iconst 1, 1) := by decide +kernel
theorem dX2_afterCalm_7 : decode cX2_afterCalm 7 = .ok (.isub, 1) := by decide +kernel
theorem dX2_afterCalm_8 : decode cX2_afterCalm 8 = .ok (.iconst 0, 1) := by decide +kernel
theorem dX2_afterCalm_9 : decode cX2_afterCalm 9 = .ok (.iload_n 3, 1) := by decide +kernel
theorem dX2_afterCalm_10 : decode cX2_afterCalm 10 = .ok (.aload_n 0, 1) := by decide +kernel
theorem dX2_afterCalm_11 : decode cX2_afterCalm 11 = .ok (.getfield 45, 3) := by decide +kernel
theorem dX2_afterCalm_14 : decode cX2_afterCalm 14 = .ok (.isub, 1) := by decide +kernel
theorem dX2_afterCalm_15 : decode cX2_afterCalm 15 = .ok (.invokestatic 95, 3) := by decide +kernel
theorem dX2_afterCalm_18 : decode cX2_afterCalm 18 = .ok (.iload 4, 2) := by decide +kernel
theorem dX2_afterCalm_20 : decode cX2_afterCalm 20 = .ok (.iconst 1, 1) := by decide +kernel
theorem dX2_afterCalm_21 : decode cX2_afterCalm 21 = .ok (.isub, 1) := by decide +kernel
theorem dX2_afterCalm_22 : decode cX2_afterCalm 22 = .ok (.invokestatic 25, 3) := by decide +kernel
theorem dX2_afterCalm_25 : decode cX2_afterCalm 25 = .ok (.ireturn, 1) := by decide +kernel
theorem dX2_afterCalm_26 : decode cX2_afterCalm 26 = .ok (.iload_n 2, 1) := by decide +kernel
theorem dX2_afterCalm_27 : decode cX2_afterCalm 27 = .ok (.iconst 1, 1) := by decide +kernel
theorem dX2_afterCalm_28 : decode cX2_afterCalm 28 = .ok (.isub, 1) := by decide +kernel
theorem dX2_afterCalm_29 : decode cX2_afterCalm 29 = .ok (.iload_n 3, 1) := by decide +kernel
theorem dX2_afterCalm_30 : decode cX2_afterCalm 30 = .ok (.iload 4, 2) := by decide +kernel
theorem dX2_afterCalm_32 : decode cX2_afterCalm 32 = .ok (.invokestatic 25, 3) := by decide +kernel
theorem dX2_afterCalm_35 : decode cX2_afterCalm 35 = .ok (.ireturn, 1) := by decide +kernel
set_option maxRecDepth 20000 in
theorem ggX2_afterSails_X2_at : GoodIn wsX2_afterSails wsX2_at := goodIn_r _ [9] (by decide +kernel) (by decide +kernel)
set_option maxRecDepth 20000 in
theorem gX2_afterSails_X2_at : GoodIn wsX2_afterSails (va_wsS RX2 25 yX2_at wsX2_at) := goodIn_app (goodIn_of _ (by decide +kernel)) ggX2_afterSails_X2_at
theorem dX2_afterSails_0 : decode cX2_afterSails 0 = .ok (.iload_n 1, 1) := by decide +kernel
theorem dX2_afterSails_1 : decode cX2_afterSails 1 = .ok (.iconst 1, 1) := by decide +kernel
theorem dX2_afterSails_2 : decode cX2_afterSails 2 = .ok (.isub, 1) := by decide +kernel
theorem dX2_afterSails_3 : decode cX2_afterSails 3 = .ok (.iconst 0, 1) := by decide +kernel
theorem dX2_afterSails_4 : decode cX2_afterSails 4 = .ok (.iload_n 2, 1) := by decide +kernel
theorem dX2_afterSails_5 : decode cX2_afterSails 5 = .ok (.aload_n 0, 1) := by decide +kernel
theorem dX2_afterSails_6 : decode cX2_afterSails 6 = .ok (.getfield 11, 3) := by decide +kernel
theorem dX2_afterSails_9 : decode cX2_afterSails 9 = .ok (.iload 4, 2) := by decide +kernel
theorem dX2_afterSails_11 : decode cX2_afterSails 11 = .ok (.iaload, 1) := by decide +kernel
theorem dX2_afterSails_12 : decode cX2_afterSails 12 = .ok (.isub, 1) := by decide +kernel
theorem dX2_afterSails_13 : decode cX2_afterSails 13 = .ok (.invokestatic 95, 3) := by decide +kernel
theorem dX2_afterSails_16 : decode cX2_afterSails 16 = .ok (.iload_n 3, 1) := by decide +kernel
theorem dX2_afterSails_17 : decode cX2_afterSails 17 = .ok (.invokestatic 25, 3) := by decide +kernel
theorem dX2_afterSails_20 : decode cX2_afterSails 20 = .ok (.ireturn, 1) := by decide +kernel
set_option maxRecDepth 20000 in
theorem ggX2_fuel_X2_parts : GoodIn wsX2_fuel wsX2_parts := goodIn_r _ [4] (by decide +kernel) (by decide +kernel)
set_option maxRecDepth 20000 in
theorem gX2_fuel_X2_parts : GoodIn wsX2_fuel (va_wsS RX2 29 yX2_parts wsX2_parts) := goodIn_app (goodIn_of _ (by decide +kernel)) ggX2_fuel_X2_parts
theorem dX2_fuel_0 : decode cX2_fuel 0 = .ok (.iload_n 0, 1) := by decide +kernel
theorem dX2_fuel_1 : decode cX2_fuel 1 = .ok (.iconst 1, 1) := by decide +kernel
theorem dX2_fuel_2 : decode cX2_fuel 2 = .ok (.if_icmp .ne 12, 3) := by decide +kernel
theorem dX2_fuel_5 : decode cX2_fuel 5 = .ok (.iload_n 1, 1) := by decide +kernel
theorem dX2_fuel_6 : decode cX2_fuel 6 = .ok (.iconst 1, 1) := by decide +kernel
theorem dX2_fuel_7 : decode cX2_fuel 7 = .ok (.isub, 1) := by decide +kernel
theorem dX2_fuel_8 : decode cX2_fuel 8 = .ok (.invokestatic 29, 3) := by decide +kernel
theorem dX2_fuel_11 : decode cX2_fuel 11 = .ok (.goto 4, 3) := by decide +kernel
theorem dX2_fuel_14 : decode cX2_fuel 14 = .ok (.lconst 0, 1) := by decide +kernel
theorem dX2_fuel_15 : decode cX2_fuel 15 = .ok (.lreturn, 1) := by decide +kernel
theorem dX2_isBetter_0 : decode cX2_isBetter 0 = .ok (.aload_n 0, 1) := by decide +kernel
theorem dX2_isBetter_1 : decode cX2_isBetter 1 = .ok (.getfield 18, 3) := by decide +kernel
theorem dX2_isBetter_4 : decode cX2_isBetter 4 = .ok (.iload_n 1, 1) := by decide +kernel
theorem dX2_isBetter_5 : decode cX2_isBetter 5 = .ok (.laload, 1) := by decide +kernel
theorem dX2_isBetter_6 : decode cX2_isBetter 6 = .ok (.aload_n 0, 1) := by decide +kernel
theorem dX2_isBetter_7 : decode cX2_isBetter 7 = .ok (.getfield 18, 3) := by decide +kernel
theorem dX2_isBetter_10 : decode cX2_isBetter 10 = .ok (.iload 4, 2) := by decide +kernel
theorem dX2_isBetter_12 : decode cX2_isBetter 12 = .ok (.laload, 1) := by decide +kernel
theorem dX2_isBetter_13 : decode cX2_isBetter 13 = .ok (.lcmp, 1) := by decide +kernel
theorem dX2_isBetter_14 : decode cX2_isBetter 14 = .ok (.ifCond .eq 26, 3) := by decide +kernel
theorem dX2_isBetter_17 : decode cX2_isBetter 17 = .ok (.aload_n 0, 1) := by decide +kernel
theorem dX2_isBetter_18 : decode cX2_isBetter 18 = .ok (.getfield 18, 3) := by decide +kernel
theorem dX2_isBetter_21 : decode cX2_isBetter 21 = .ok (.iload_n 1, 1) := by decide +kernel
theorem dX2_isBetter_22 : decode cX2_isBetter 22 = .ok (.laload, 1) := by decide +kernel
theorem dX2_isBetter_23 : decode cX2_isBetter 23 = .ok (.aload_n 0, 1) := by decide +kernel
theorem dX2_isBetter_24 : decode cX2_isBetter 24 = .ok (.getfield 18, 3) := by decide +kernel
theorem dX2_isBetter_27 : decode cX2_isBetter 27 = .ok (.iload 4, 2) := by decide +kernel
theorem dX2_isBetter_29 : decode cX2_isBetter 29 = .ok (.laload, 1) := by decide +kernel
theorem dX2_isBetter_30 : decode cX2_isBetter 30 = .ok (.lcmp, 1) := by decide +kernel
theorem dX2_isBetter_31 : decode cX2_isBetter 31 = .ok (.ifCond .le 7, 3) := by decide +kernel
theorem dX2_isBetter_34 : decode cX2_isBetter 34 = .ok (.iconst 1, 1) := by decide +kernel
theorem dX2_isBetter_35 : decode cX2_isBetter 35 = .ok (.goto 4, 3) := by decide +kernel
theorem dX2_isBetter_38 : decode cX2_isBetter 38 = .ok (.iconst 0, 1) := by decide +kernel
theorem dX2_isBetter_39 : decode cX2_isBetter 39 = .ok (.ireturn, 1) := by decide +kernel
theorem dX2_isBetter_40 : decode cX2_isBetter 40 = .ok (.aload_n 0, 1) := by decide +kernel
theorem dX2_isBetter_41 : decode cX2_isBetter 41 = .ok (.getfield 22, 3) := by decide +kernel
theorem dX2_isBetter_44 : decode cX2_isBetter 44 = .ok (.iload_n 1, 1) := by decide +kernel
theorem dX2_isBetter_45 : decode cX2_isBetter 45 = .ok (.laload, 1) := by decide +kernel
theorem dX2_isBetter_46 : decode cX2_isBetter 46 = .ok (.lload_n 2, 1) := by decide +kernel
theorem dX2_isBetter_47 : decode cX2_isBetter 47 = .ok (.ladd, 1) := by decide +kernel
theorem dX2_isBetter_48 : decode cX2_isBetter 48 = .ok (.aload_n 0, 1) := by decide +kernel
theorem dX2_isBetter_49 : decode cX2_isBetter 49 = .ok (.getfield 22, 3) := by decide +kernel
theorem dX2_isBetter_52 : decode cX2_isBetter 52 = .ok (.iload 4, 2) := by decide +kernel
theorem dX2_isBetter_54 : decode cX2_isBetter 54 = .ok (.laload, 1) := by decide +kernel
theorem dX2_isBetter_55 : decode cX2_isBetter 55 = .ok (.lload 5, 2) := by decide +kernel
theorem dX2_isBetter_57 : decode cX2_isBetter 57 = .ok (.ladd, 1) := by decide +kernel
theorem dX2_isBetter_58 : decode cX2_isBetter 58 = .ok (.lcmp, 1) := by decide +kernel
theorem dX2_isBetter_59 : decode cX2_isBetter 59 = .ok (.ifCond .ge 7, 3) := by decide +kernel
theorem dX2_isBetter_62 : decode cX2_isBetter 62 = .ok (.iconst 1, 1) := by decide +kernel
theorem dX2_isBetter_63 : decode cX2_isBetter 63 = .ok (.goto 4, 3) := by decide +kernel
theorem dX2_isBetter_66 : decode cX2_isBetter 66 = .ok (.iconst 0, 1) := by decide +kernel
theorem dX2_isBetter_67 : decode cX2_isBetter 67 = .ok (.ireturn, 1) := by decide +kernel
theorem dX2_at_0 : decode cX2_at 0 = .ok (.iload_n 0, 1) := by decide +kernel
theorem dX2_at_1 : decode cX2_at 1 = .ok (.sipush 1573, 3) := by decide +kernel
theorem dX2_at_4 : decode cX2_at 4 = .ok (.imul, 1) := by decide +kernel
theorem dX2_at_5 : decode cX2_at 5 = .ok (.iload_n 1, 1) := by decide +kernel
theorem dX2_at_6 : decode cX2_at 6 = .ok (.bipush 13, 2) := by decide +kernel
theorem dX2_at_8 : decode cX2_at 8 = .ok (.imul, 1) := by decide +kernel
theorem dX2_at_9 : decode cX2_at 9 = .ok (.iadd, 1) := by decide +kernel
theorem dX2_at_10 : decode cX2_at 10 = .ok (.iload_n 2, 1) := by decide +kernel
theorem dX2_at_11 : decode cX2_at 11 = .ok (.iadd, 1) := by decide +kernel
theorem dX2_at_12 : decode cX2_at 12 = .ok (.ireturn, 1) := by decide +kernel
theorem dX2_parts_0 : decode cX2_parts 0 = .ok (.lconst 1, 1) := by decide +kernel
theorem dX2_parts_1 : decode cX2_parts 1 = .ok (.iconst 4, 1) := by decide +kernel
theorem dX2_parts_2 : decode cX2_parts 2 = .ok (.iload_n 0, 1) := by decide +kernel
theorem dX2_parts_3 : decode cX2_parts 3 = .ok (.imul, 1) := by decide +kernel
theorem dX2_parts_4 : decode cX2_parts 4 = .ok (.lshl, 1) := by decide +kernel
theorem dX2_parts_5 : decode cX2_parts 5 = .ok (.lreturn, 1) := by decide +kernel
theorem dX3_init_0 : decode cX3_init 0 = .ok (.aload_n 0, 1) := by decide +kernel
theorem dX3_init_1 : decode cX3_init 1 = .ok (.invokespecial 3, 3) := by decide +kernel
theorem dX3_init_4 : decode cX3_init 4 = .ok (.aload_n 0, 1) := by decide +kernel
theorem dX3_init_5 : decode cX3_init 5 = .ok (.aload_n 1, 1) := by decide +kernel
theorem dX3_init_6 : decode cX3_init 6 = .ok (.putfield 9, 3) := by decide +kernel
theorem dX3_init_9 : decode cX3_init 9 = .ok (.return_, 1) := by decide +kernel
set_option maxRecDepth 20000 in
theorem ggX3_read_X3_advance : GoodIn wsX3_read wsX3_advance := goodIn_r _ [7, 1, 2, 8, 9, 10, 11, 6, 12, 13, 14, 15, 16, 17, 18, 111, 112, 113, 114, 115] (by decide +kernel) (by decide +kernel)
set_option maxRecDepth 20000 in
theorem gX3_read_X3_advance : GoodIn wsX3_read (wsV RX3 24 RX3 yX3_advance wsX3_advance) := goodIn_app (goodIn_of _ (by decide +kernel)) ggX3_read_X3_advance
set_option maxRecDepth 20000 in
theorem ggX3_read_X3_isAtEnd : GoodIn wsX3_read wsX3_isAtEnd := goodIn_r _ [12, 2, 8, 111, 112, 113, 114, 115] (by decide +kernel) (by decide +kernel)
set_option maxRecDepth 20000 in
theorem gX3_read_X3_isAtEnd : GoodIn wsX3_read (wsV RX3 27 RX3 yX3_isAtEnd wsX3_isAtEnd) := goodIn_app (goodIn_of _ (by decide +kernel)) ggX3_read_X3_isAtEnd
set_option maxRecDepth 20000 in
theorem ggX3_read_X3_readClause : GoodIn wsX3_read wsX3_readClause := goodIn_r _ [22, 23, 24, 25, 6, 26, 27, 28, 29, 30, 31, 32, 33, 34, 1, 2, 8, 35, 36, 37, 38, 39, 40, 41, 42, 43, 44, 45, 46, 47, 48, 49, 50, 51, 52, 53, 54, 55, 56, 57, 58, 59, 60, 61, 62, 63, 64, 65, 66, 67, 68, 69, 70, 71, 72, 73, 74, 75, 76, 77, 78, 79, 80, 81, 82, 83, 3, 4, 5, 7, 9, 10, 11, 12, 13, 14, 15, 16, 17, 18, 84, 85, 86, 87, 88, 89, 90, 91, 92, 93, 94, 95, 96, 97, 98, 99, 100, 101, 102, 103, 104, 105, 106, 111, 112, 113, 114, 115, 107, 108, 109, 110] (by decide +kernel) (by decide +kernel)
set_option maxRecDepth 20000 in
theorem gX3_read_X3_readClause : GoodIn wsX3_read (wsV RX3 31 RX3 yX3_readClause wsX3_readClause) := goodIn_app (goodIn_of _ (by decide +kernel)) ggX3_read_X3_readClause
set_option maxRecDepth 20000 in
theorem ggX3_read_X3_passes : GoodIn wsX3_read wsX3_passes := goodIn_r _ [87, 31, 32, 33, 6, 34, 1, 2, 8, 35, 36, 37, 38, 39, 40, 41, 42, 43, 44, 45, 46, 47, 48, 49, 50, 51, 52, 53, 54, 55, 56, 57, 58, 59, 60, 61, 62, 63, 64, 65, 66, 67, 68, 69, 70, 71, 72, 73, 74, 75, 76, 77, 78, 79, 80, 81, 82, 83, 3, 4, 5, 7, 9, 10, 11, 12, 13, 14, 15, 16, 17, 18, 111, 112, 113, 114, 115] (by decide +kernel) (by decide +kernel)
set_option maxRecDepth 20000 in
theorem gX3_read_X3_passes : GoodIn wsX3_read (wsV RX3 40 RX3 yX3_passes wsX3_passes) := goodIn_app (goodIn_of _ (by decide +kernel)) ggX3_read_X3_passes
theorem dX3_read_0 : decode cX3_read 0 = .ok (.aload_n 1, 1) := by decide +kernel
theorem dX3_read_1 : decode cX3_read 1 = .ok (.iconst 0, 1) := by decide +kernel
theorem dX3_read_2 : decode cX3_read 2 = .ok (.putfield 15, 3) := by decide +kernel
theorem dX3_read_5 : decode cX3_read 5 = .ok (.aload_n 0, 1) := by decide +kernel
theorem dX3_read_6 : decode cX3_read 6 = .ok (.iconst 0, 1) := by decide +kernel
theorem dX3_read_7 : decode cX3_read 7 = .ok (.putfield 21, 3) := by decide +kernel
theorem dX3_read_10 : decode cX3_read 10 = .ok (.aload_n 0, 1) := by decide +kernel
theorem dX3_read_11 : decode cX3_read 11 = .ok (.invokevirtual 24, 3) := by decide +kernel
theorem dX3_read_14 : decode cX3_read 14 = .ok (.aload_n 0, 1) := by decide +kernel
theorem dX3_read_15 : decode cX3_read 15 = .ok (.invokevirtual 27, 3) := by decide +kernel
theorem dX3_read_18 : decode cX3_read 18 = .ok (.ifCond .eq 5, 3) := by decide +kernel
theorem dX3_read_21 : decode cX3_read 21 = .ok (.iconst (-1), 1) := by decide +kernel
theorem dX3_read_22 : decode cX3_read 22 = .ok (.ireturn, 1) := by decide +kernel
theorem dX3_read_23 : decode cX3_read 23 = .ok (.iconst 0, 1) := by decide +kernel
theorem dX3_read_24 : decode cX3_read 24 = .ok (.istore_n 2, 1) := by decide +kernel
theorem dX3_read_25 : decode cX3_read 25 = .ok (.iload_n 2, 1) := by decide +kernel
theorem dX3_read_26 : decode cX3_read 26 = .ok (.bipush 20, 2) := by decide +kernel
theorem dX3_read_28 : decode cX3_read 28 = .ok (.if_icmp .ge 45, 3) := by decide +kernel
theorem dX3_read_31 : decode cX3_read 31 = .ok (.aload_n 0, 1) := by decide +kernel
theorem dX3_read_32 : decode cX3_read 32 = .ok (.aload_n 1, 1) := by decide +kernel
theorem dX3_read_33 : decode cX3_read 33 = .ok (.invokevirtual 31, 3) := by decide +kernel
theorem dX3_read_36 : decode cX3_read 36 = .ok (.ifCond .ne 8, 3) := by decide +kernel
theorem dX3_read_39 : decode cX3_read 39 = .ok (.aload_n 0, 1) := by decide +kernel
theorem dX3_read_40 : decode cX3_read 40 = .ok (.getfield 35, 3) := by decide +kernel
theorem dX3_read_43 : decode cX3_read 43 = .ok (.ireturn, 1) := by decide +kernel
theorem dX3_read_44 : decode cX3_read 44 = .ok (.aload_n 0, 1) := by decide +kernel
theorem dX3_read_45 : decode cX3_read 45 = .ok (.invokevirtual 27, 3) := by decide +kernel
theorem dX3_read_48 : decode cX3_read 48 = .ok (.ifCond .eq 5, 3) := by decide +kernel
theorem dX3_read_51 : decode cX3_read 51 = .ok (.iconst (-1), 1) := by decide +kernel
theorem dX3_read_52 : decode cX3_read 52 = .ok (.ireturn, 1) := by decide +kernel
theorem dX3_read_53 : decode cX3_read 53 = .ok (.aload_n 0, 1) := by decide +kernel
theorem dX3_read_54 : decode cX3_read 54 = .ok (.ldc 38, 2) := by decide +kernel
theorem dX3_read_56 : decode cX3_read 56 = .ok (.invokevirtual 40, 3) := by decide +kernel
theorem dX3_read_59 : decode cX3_read 59 = .ok (.ifCond .ne 8, 3) := by decide +kernel
theorem dX3_read_62 : decode cX3_read 62 = .ok (.aload_n 0, 1) := by decide +kernel
theorem dX3_read_63 : decode cX3_read 63 = .ok (.getfield 35, 3) := by decide +kernel
theorem dX3_read_66 : decode cX3_read 66 = .ok (.ireturn, 1) := by decide +kernel
theorem dX3_read_67 : decode cX3_read 67 = .ok (.iinc 2 1, 3) := by decide +kernel
theorem dX3_read_70 : decode cX3_read 70 = .ok (.goto (-45), 3) := by decide +kernel
theorem dX3_read_73 : decode cX3_read 73 = .ok (.aload_n 0, 1) := by decide +kernel
theorem dX3_read_74 : decode cX3_read 74 = .ok (.getfield 35, 3) := by decide +kernel
theorem dX3_read_77 : decode cX3_read 77 = .ok (.ireturn, 1) := by decide +kernel
set_option maxRecDepth 20000 in
theorem ggX3_readClause_X3_kindHere : GoodIn wsX3_readClause wsX3_kindHere := goodIn_r _ [5, 6, 7, 8, 9, 10, 11, 12, 4, 13, 14, 15, 16, 17, 18, 19, 20, 21, 22, 23, 24, 25, 26, 27, 28, 29, 30, 31, 32, 33, 34, 35, 36, 37, 38, 39, 40, 41, 42, 43, 44, 45, 46, 47, 48, 49, 50, 51, 52, 53, 54, 55, 56, 57, 58, 59, 60, 61, 62, 63, 64, 65, 103, 104, 105, 106, 107] (by decide +kernel) (by decide +kernel)
set_option maxRecDepth 20000 in
theorem gX3_readClause_X3_kindHere : GoodIn wsX3_readClause (wsV RX3 44 RX3 yX3_kindHere wsX3_kindHere) := goodIn_app (goodIn_of _ (by decide +kernel)) ggX3_readClause_X3_kindHere
set_option maxRecDepth 20000 in
theorem ggX3_readClause_X3_advance : GoodIn wsX3_readClause wsX3_advance := goodIn_r _ [69, 14, 15, 16, 70, 71, 72, 4, 73, 74, 75, 76, 77, 78, 79, 103, 104, 105, 106, 107] (by decide +kernel) (by decide +kernel)
set_option maxRecDepth 20000 in
theorem gX3_readClause_X3_advance : GoodIn wsX3_readClause (wsV RX3 24 RX3 yX3_advance wsX3_advance) := goodIn_app (goodIn_of _ (by decide +kernel)) ggX3_readClause_X3_advance
set_option maxRecDepth 20000 in
theorem ggX3_readClause_X3_passes : GoodIn wsX3_readClause wsX3_passes := goodIn_r _ [83, 10, 11, 12, 4, 13, 14, 15, 16, 17, 18, 19, 20, 21, 22, 23, 24, 25, 26, 27, 28, 29, 30, 31, 32, 33, 34, 35, 36, 37, 38, 39, 40, 41, 42, 43, 44, 45, 46, 47, 48, 49, 50, 51, 52, 53, 54, 55, 56, 57, 58, 59, 60, 61, 62, 63, 64, 65, 66, 67, 68, 69, 70, 71, 72, 73, 74, 75, 76, 77, 78, 79, 103, 104, 105, 106, 107] (by decide +kernel) (by decide +kernel)
set_option maxRecDepth 20000 in
theorem gX3_readClause_X3_passes : GoodIn wsX3_readClause (wsV RX3 40 RX3 yX3_passes wsX3_passes) := goodIn_app (goodIn_of _ (by decide +kernel)) ggX3_readClause_X3_passes
set_option maxRecDepth 20000 in
theorem ggX3_readClause_X3_numberHere : GoodIn wsX3_readClause wsX3_numberHere := goodIn_r _ [87, 16, 15, 14, 70, 71, 72, 4, 73, 74, 75, 76, 77, 78, 79, 103, 104, 105, 106, 107] (by decide +kernel) (by decide +kernel)
set_option maxRecDepth 20000 in
theorem gX3_readClause_X3_numberHere : GoodIn wsX3_readClause (wsV RX3 50 RX3 yX3_numberHere wsX3_numberHere) := goodIn_app (goodIn_of _ (by decide +kernel)) ggX3_readClause_X3_numberHere
set_option maxRecDepth 20000 in
theorem ggX3_readClause_X5_wordBetween : GoodIn wsX3_readClause wsX5_wordBetween := goodIn_r _ [90] (by decide +kernel) (by decide +kernel)
set_option maxRecDepth 20000 in
theorem gX3_readClause_X5_wordBetween : GoodIn wsX3_readClause (va_wsS RX3 53 yX5_wordBetween wsX5_wordBetween) := goodIn_app (goodIn_of _ (by decide +kernel)) ggX3_readClause_X5_wordBetween
set_option maxRecDepth 20000 in
theorem ggX3_readClause_J0_isEmpty_aae02 : GoodIn wsX3_readClause wsJ0_isEmpty_aae02 := goodIn_r _ [94, 22] (by decide +kernel) (by decide +kernel)
set_option maxRecDepth 20000 in
theorem gX3_readClause_J0_isEmpty_aae02 : GoodIn wsX3_readClause (wsV RX3 57 RJ0 yJ0_isEmpty_aae02 wsJ0_isEmpty_aae02) := goodIn_app (goodIn_of _ (by decide +kernel)) ggX3_readClause_J0_isEmpty_aae02
set_option maxRecDepth 20000 in
theorem ggX3_readClause_X5_add : GoodIn wsX3_readClause wsX5_add := goodIn_r _ [98, 99, 100, 101, 102, 108, 109, 110, 111] (by decide +kernel) (by decide +kernel)
set_option maxRecDepth 20000 in
theorem gX3_readClause_X5_add : GoodIn wsX3_readClause (wsV RX3 62 RX5 yX5_add wsX5_add) := goodIn_app (goodIn_of _ (by decide +kernel)) ggX3_readClause_X5_add
theorem dX3_readClause_0 : decode cX3_readClause 0 = .ok (.aload_n 0, 1) := by decide +kernel
theorem dX3_readClause_1 : decode cX3_readClause 1 = .ok (.invokevirtual 44, 3) := by decide +kernel
theorem dX3_readClause_4 : decode cX3_readClause 4 = .ok (.istore_n 2, 1) := by decide +kernel
theorem dX3_readClause_5 : decode cX3_readClause 5 = .ok (.iload_n 2, 1) := by decide +kernel
theorem dX3_readClause_6 : decode cX3_readClause 6 = .ok (.iconst (-1), 1) := by decide +kernel
theorem dX3_readClause_7 : decode cX3_readClause 7 = .ok (.if_icmp .ne 5, 3) := by decide +kernel
theorem dX3_readClause_10 : decode cX3_readClause 10 = .ok (.iconst 0, 1) := by decide +kernel
theorem dX3_readClause_11 : decode cX3_readClause 11 = .ok (.ireturn, 1) := by decide +kernel
theorem dX3_readClause_12 : decode cX3_readClause 12 = .ok (.aload_n 0, 1) := by decide +kernel
theorem dX3_readClause_13 : decode cX3_readClause 13 = .ok (.invokevirtual 24, 3) := by decide +kernel
theorem dX3_readClause_16 : decode cX3_readClause 16 = .ok (.iload_n 2, 1) := by decide +kernel
theorem dX3_readClause_17 : decode cX3_readClause 17 = .ok (.iconst 1, 1) := by decide +kernel
theorem dX3_readClause_18 : decode cX3_readClause 18 = .ok (.if_icmp .ne 14, 3) := by decide +kernel
theorem dX3_readClause_21 : decode cX3_readClause 21 = .ok (.aload_n 0, 1) := by decide +kernel
theorem dX3_readClause_22 : decode cX3_readClause 22 = .ok (.ldc 48, 2) := by decide +kernel
theorem dX3_readClause_24 : decode cX3_readClause 24 = .ok (.invokevirtual 40, 3) := by decide +kernel
theorem dX3_readClause_27 : decode cX3_readClause 27 = .ok (.ifCond .ne 5, 3) := by decide +kernel
theorem dX3_readClause_30 : decode cX3_readClause 30 = .ok (.iconst 0, 1) := by decide +kernel
theorem dX3_readClause_31 : decode cX3_readClause 31 = .ok (.ireturn, 1) := by decide +kernel
theorem dX3_readClause_32 : decode cX3_readClause 32 = .ok (.aload_n 0, 1) := by decide +kernel
theorem dX3_readClause_33 : decode cX3_readClause 33 = .ok (.invokevirtual 50, 3) := by decide +kernel
theorem dX3_readClause_36 : decode cX3_readClause 36 = .ok (.istore_n 3, 1) := by decide +kernel
theorem dX3_readClause_37 : decode cX3_readClause 37 = .ok (.iload_n 3, 1) := by decide +kernel
theorem dX3_readClause_38 : decode cX3_readClause 38 = .ok (.iconst (-1), 1) := by decide +kernel
theorem dX3_readClause_39 : decode cX3_readClause 39 = .ok (.if_icmp .ne 5, 3) := by decide +kernel
theorem dX3_readClause_42 : decode cX3_readClause 42 = .ok (.iconst 0, 1) := by decide +kernel
theorem dX3_readClause_43 : decode cX3_readClause 43 = .ok (.ireturn, 1) := by decide +kernel
theorem dX3_readClause_44 : decode cX3_readClause 44 = .ok (.aload_n 0, 1) := by decide +kernel
theorem dX3_readClause_45 : decode cX3_readClause 45 = .ok (.invokevirtual 24, 3) := by decide +kernel
theorem dX3_readClause_48 : decode cX3_readClause 48 = .ok (.iconst 0, 1) := by decide +kernel
theorem dX3_readClause_49 : decode cX3_readClause 49 = .ok (.istore 4, 2) := by decide +kernel
theorem dX3_readClause_51 : decode cX3_readClause 51 = .ok (.iload_n 2, 1) := by decide +kernel
theorem dX3_readClause_52 : decode cX3_readClause 52 = .ok (.invokestatic 53, 3) := by decide +kernel
theorem dX3_readClause_55 : decode cX3_readClause 55 = .ok (.astore 5, 2) := by decide +kernel
theorem dX3_readClause_57 : decode cX3_readClause 57 = .ok (.aload 5, 2) := by decide +kernel
theorem dX3_readClause_59 : decode cX3_readClause 59 = .ok (.invokevirtual 57, 3) := by decide +kernel
theorem dX3_readClause_62 : decode cX3_readClause 62 = .ok (.ifCond .ne 32, 3) := by decide +kernel
theorem dX3_readClause_65 : decode cX3_readClause 65 = .ok (.aload_n 0, 1) := by decide +kernel
theorem dX3_readClause_66 : decode cX3_readClause 66 = .ok (.aload 5, 2) := by decide +kernel
theorem dX3_readClause_68 : decode cX3_readClause 68 = .ok (.invokevirtual 40, 3) := by decide +kernel
theorem dX3_readClause_71 : decode cX3_readClause 71 = .ok (.ifCond .ne 5, 3) := by decide +kernel
theorem dX3_readClause_74 : decode cX3_readClause 74 = .ok (.iconst 0, 1) := by decide +kernel
theorem dX3_readClause_75 : decode cX3_readClause 75 = .ok (.ireturn, 1) := by decide +kernel
theorem dX3_readClause_76 : decode cX3_readClause 76 = .ok (.aload_n 0, 1) := by decide +kernel
theorem dX3_readClause_77 : decode cX3_readClause 77 = .ok (.invokevirtual 50, 3) := by decide +kernel
theorem dX3_readClause_80 : decode cX3_readClause 80 = .ok (.istore 4, 2) := by decide +kernel
theorem dX3_readClause_82 : decode cX3_readClause 82 = .ok (.iload 4, 2) := by decide +kernel
theorem dX3_readClause_84 : decode cX3_readClause 84 = .ok (.iconst (-1), 1) := by decide +kernel
theorem dX3_readClause_85 : decode cX3_readClause 85 = .ok (.if_icmp .ne 5, 3) := by decide +kernel
theorem dX3_readClause_88 : decode cX3_readClause 88 = .ok (.iconst 0, 1) := by decide +kernel
theorem dX3_readClause_89 : decode cX3_readClause 89 = .ok (.ireturn, 1) := by decide +kernel
theorem dX3_readClause_90 : decode cX3_readClause 90 = .ok (.aload_n 0, 1) := by decide +kernel
theorem dX3_readClause_91 : decode cX3_readClause 91 = .ok (.invokevirtual 24, 3) := by decide +kernel
theorem dX3_readClause_94 : decode cX3_readClause 94 = .ok (.aload_n 1, 1) := by decide +kernel
theorem dX3_readClause_95 : decode cX3_readClause 95 = .ok (.iload_n 2, 1) := by decide +kernel
theorem dX3_readClause_96 : decode cX3_readClause 96 = .ok (.iload_n 3, 1) := by decide +kernel
theorem dX3_readClause_97 : decode cX3_readClause 97 = .ok (.iload 4, 2) := by decide +kernel
theorem dX3_readClause_99 : decode cX3_readClause 99 = .ok (.invokevirtual 62, 3) := by decide +kernel
theorem dX3_readClause_102 : decode cX3_readClause 102 = .ok (.iconst 1, 1) := by decide +kernel
theorem dX3_readClause_103 : decode cX3_readClause 103 = .ok (.ireturn, 1) := by decide +kernel
set_option maxRecDepth 20000 in
theorem ggX3_kindHere_X5_firstWord : GoodIn wsX3_kindHere wsX5_firstWord := goodIn_r _ [4] (by decide +kernel) (by decide +kernel)
set_option maxRecDepth 20000 in
theorem gX3_kindHere_X5_firstWord : GoodIn wsX3_kindHere (va_wsS RX3 66 yX5_firstWord wsX5_firstWord) := goodIn_app (goodIn_of _ (by decide +kernel)) ggX3_kindHere_X5_firstWord
set_option maxRecDepth 20000 in
theorem ggX3_kindHere_X3_isHere : GoodIn wsX3_kindHere wsX3_isHere := goodIn_r _ [9, 10, 11, 12, 13, 14, 15, 16, 17, 18, 19, 20, 21, 22, 23, 24, 25, 26, 27, 28, 29, 30, 31, 32, 33, 34, 35, 36, 37, 38, 39, 40, 41, 42, 43, 44, 45, 46, 47, 48, 49, 50, 51, 52, 53, 54, 55, 56, 57, 58, 59, 60, 61, 62, 63, 64, 65, 66] (by decide +kernel) (by decide +kernel)
set_option maxRecDepth 20000 in
theorem gX3_kindHere_X3_isHere : GoodIn wsX3_kindHere (wsV RX3 69 RX3 yX3_isHere wsX3_isHere) := goodIn_app (goodIn_of _ (by decide +kernel)) ggX3_kindHere_X3_isHere
theorem dX3_kindHere_0 : decode cX3_kindHere 0 = .ok (.iconst 0, 1) := by decide +kernel
theorem dX3_kindHere_1 : decode cX3_kindHere 1 = .ok (.istore_n 1, 1) := by decide +kernel
theorem dX3_kindHere_2 : decode cX3_kindHere 2 = .ok (.iload_n 1, 1) := by decide +kernel
theorem dX3_kindHere_3 : decode cX3_kindHere 3 = .ok (.bipush 7, 2) := by decide +kernel
theorem dX3_kindHere_5 : decode cX3_kindHere 5 = .ok (.if_icmp .ge 22, 3) := by decide +kernel
theorem dX3_kindHere_8 : decode cX3_kindHere 8 = .ok (.aload_n 0, 1) := by decide +kernel
theorem dX3_kindHere_9 : decode cX3_kindHere 9 = .ok (.iload_n 1, 1) := by decide +kernel
theorem dX3_kindHere_10 : decode cX3_kindHere 10 = .ok (.invokestatic 66, 3) := by decide +kernel
theorem dX3_kindHere_13 : decode cX3_kindHere 13 = .ok (.invokevirtual 69, 3) := by decide +kernel
theorem dX3_kindHere_16 : decode cX3_kindHere 16 = .ok (.ifCond .eq 5, 3) := by decide +kernel
theorem dX3_kindHere_19 : decode cX3_kindHere 19 = .ok (.iload_n 1, 1) := by decide +kernel
theorem dX3_kindHere_20 : decode cX3_kindHere 20 = .ok (.ireturn, 1) := by decide +kernel
theorem dX3_kindHere_21 : decode cX3_kindHere 21 = .ok (.iinc 1 1, 3) := by decide +kernel
theorem dX3_kindHere_24 : decode cX3_kindHere 24 = .ok (.goto (-22), 3) := by decide +kernel
theorem dX3_kindHere_27 : decode cX3_kindHere 27 = .ok (.iconst (-1), 1) := by decide +kernel
theorem dX3_kindHere_28 : decode cX3_kindHere 28 = .ok (.ireturn, 1) := by decide +kernel
set_option maxRecDepth 20000 in
theorem ggX3_numberHere_X3_isAtEnd : GoodIn wsX3_numberHere wsX3_isAtEnd := goodIn_r _ [8, 2, 1, 15, 16, 17, 18, 19] (by decide +kernel) (by decide +kernel)
set_option maxRecDepth 20000 in
theorem gX3_numberHere_X3_isAtEnd : GoodIn wsX3_numberHere (wsV RX3 27 RX3 yX3_isAtEnd wsX3_isAtEnd) := goodIn_app (goodIn_of _ (by decide +kernel)) ggX3_numberHere_X3_isAtEnd
set_option maxRecDepth 20000 in
theorem ggX3_numberHere_X3_sortOf : GoodIn wsX3_numberHere wsX3_sortOf := goodIn_r _ [11, 12, 13, 14] (by decide +kernel) (by decide +kernel)
set_option maxRecDepth 20000 in
theorem gX3_numberHere_X3_sortOf : GoodIn wsX3_numberHere (va_wsS RX3 78 yX3_sortOf wsX3_sortOf) := goodIn_app (goodIn_of _ (by decide +kernel)) ggX3_numberHere_X3_sortOf
theorem dX3_numberHere_0 : decode cX3_numberHere 0 = .ok (.aload_n 0, 1) := by decide +kernel
theorem dX3_numberHere_1 : decode cX3_numberHere 1 = .ok (.invokevirtual 27, 3) := by decide +kernel
theorem dX3_numberHere_4 : decode cX3_numberHere 4 = .ok (.ifCond .ne 22, 3) := by decide +kernel
theorem dX3_numberHere_7 : decode cX3_numberHere 7 = .ok (.aload_n 0, 1) := by decide +kernel
theorem dX3_numberHere_8 : decode cX3_numberHere 8 = .ok (.getfield 9, 3) := by decide +kernel
theorem dX3_numberHere_11 : decode cX3_numberHere 11 = .ok (.getfield 72, 3) := by decide +kernel
theorem dX3_numberHere_14 : decode cX3_numberHere 14 = .ok (.aload_n 0, 1) := by decide +kernel
theorem dX3_numberHere_15 : decode cX3_numberHere 15 = .ok (.getfield 35, 3) := by decide +kernel
theorem dX3_numberHere_18 : decode cX3_numberHere 18 = .ok (.iaload, 1) := by decide +kernel
theorem dX3_numberHere_19 : decode cX3_numberHere 19 = .ok (.invokestatic 78, 3) := by decide +kernel
theorem dX3_numberHere_22 : decode cX3_numberHere 22 = .ok (.iconst 2, 1) := by decide +kernel
theorem dX3_numberHere_23 : decode cX3_numberHere 23 = .ok (.if_icmp .eq 5, 3) := by decide +kernel
theorem dX3_numberHere_26 : decode cX3_numberHere 26 = .ok (.iconst (-1), 1) := by decide +kernel
theorem dX3_numberHere_27 : decode cX3_numberHere 27 = .ok (.ireturn, 1) := by decide +kernel
theorem dX3_numberHere_28 : decode cX3_numberHere 28 = .ok (.iconst 0, 1) := by decide +kernel
theorem dX3_numberHere_29 : decode cX3_numberHere 29 = .ok (.istore_n 1, 1) := by decide +kernel
theorem dX3_numberHere_30 : decode cX3_numberHere 30 = .ok (.aload_n 0, 1) := by decide +kernel
theorem dX3_numberHere_31 : decode cX3_numberHere 31 = .ok (.getfield 35, 3) := by decide +kernel
theorem dX3_numberHere_34 : decode cX3_numberHere 34 = .ok (.istore_n 2, 1) := by decide +kernel
theorem dX3_numberHere_35 : decode cX3_numberHere 35 = .ok (.iload_n 2, 1) := by decide +kernel
theorem dX3_numberHere_36 : decode cX3_numberHere 36 = .ok (.aload_n 0, 1) := by decide +kernel
theorem dX3_numberHere_37 : decode cX3_numberHere 37 = .ok (.getfield 21, 3) := by decide +kernel
theorem dX3_numberHere_40 : decode cX3_numberHere 40 = .ok (.if_icmp .ge 36, 3) := by decide +kernel
theorem dX3_numberHere_43 : decode cX3_numberHere 43 = .ok (.iload_n 1, 1) := by decide +kernel
theorem dX3_numberHere_44 : decode cX3_numberHere 44 = .ok (.bipush 10, 2) := by decide +kernel
theorem dX3_numberHere_46 : decode cX3_numberHere 46 = .ok (.imul, 1) := by decide +kernel
theorem dX3_numberHere_47 : decode cX3_numberHere 47 = .ok (.aload_n 0, 1) := by decide +kernel
theorem dX3_numberHere_48 : decode cX3_numberHere 48 = .ok (.getfield 9, 3) := by decide +kernel
theorem dX3_numberHere_51 : decode cX3_numberHere 51 = .ok (.getfield 72, 3) := by decide +kernel
theorem dX3_numberHere_54 : decode cX3_numberHere 54 = .ok (.iload_n 2, 1) := by decide +kernel
theorem dX3_numberHere_55 : decode cX3_numberHere 55 = .ok (.iaload, 1) := by decide +kernel
theorem dX3_numberHere_56 : decode cX3_numberHere 56 = .ok (.iadd, 1) := by decide +kernel
theorem dX3_numberHere_57 : decode cX3_numberHere 57 = .ok (.bipush 48, 2) := by decide +kernel
theorem dX3_numberHere_59 : decode cX3_numberHere 59 = .ok (.isub, 1) := by decide +kernel
theorem dX3_numberHere_60 : decode cX3_numberHere 60 = .ok (.istore_n 1, 1) := by decide +kernel
theorem dX3_numberHere_61 : decode cX3_numberHere 61 = .ok (.iload_n 1, 1) := by decide +kernel
theorem dX3_numberHere_62 : decode cX3_numberHere 62 = .ok (.sipush 10000, 3) := by decide +kernel
theorem dX3_numberHere_65 : decode cX3_numberHere 65 = .ok (.if_icmp .le 5, 3) := by decide +kernel
theorem dX3_numberHere_68 : decode cX3_numberHere 68 = .ok (.iconst (-1), 1) := by decide +kernel
theorem dX3_numberHere_69 : decode cX3_numberHere 69 = .ok (.ireturn, 1) := by decide +kernel
theorem dX3_numberHere_70 : decode cX3_numberHere 70 = .ok (.iinc 2 1, 3) := by decide +kernel
theorem dX3_numberHere_73 : decode cX3_numberHere 73 = .ok (.goto (-38), 3) := by decide +kernel
theorem dX3_numberHere_76 : decode cX3_numberHere 76 = .ok (.iload_n 1, 1) := by decide +kernel
theorem dX3_numberHere_77 : decode cX3_numberHere 77 = .ok (.ireturn, 1) := by decide +kernel
set_option maxRecDepth 20000 in
theorem ggX3_passes_X3_isHere : GoodIn wsX3_passes wsX3_isHere := goodIn_r _ [5, 6, 7, 8, 9, 10, 11, 12, 13, 14, 15, 16, 17, 18, 19, 20, 21, 22, 23, 24, 25, 26, 27, 28, 29, 30, 31, 32, 33, 34, 35, 36, 37, 38, 39, 40, 41, 42, 43, 44, 45, 46, 47, 48, 49, 50, 51, 52, 53, 54, 55, 56, 57, 72, 73, 74, 75, 76] (by decide +kernel) (by decide +kernel)
set_option maxRecDepth 20000 in
theorem gX3_passes_X3_isHere : GoodIn wsX3_passes (wsV RX3 69 RX3 yX3_isHere wsX3_isHere) := goodIn_app (goodIn_of _ (by decide +kernel)) ggX3_passes_X3_isHere
set_option maxRecDepth 20000 in
theorem ggX3_passes_X3_advance : GoodIn wsX3_passes wsX3_advance := goodIn_r _ [61, 6, 7, 8, 62, 63, 64, 4, 65, 66, 67, 68, 69, 70, 71, 72, 73, 74, 75, 76] (by decide +kernel) (by decide +kernel)
set_option maxRecDepth 20000 in
theorem gX3_passes_X3_advance : GoodIn wsX3_passes (wsV RX3 24 RX3 yX3_advance wsX3_advance) := goodIn_app (goodIn_of _ (by decide +kernel)) ggX3_passes_X3_advance
theorem dX3_passes_0 : decode cX3_passes 0 = .ok (.aload_n 0, 1) := by decide +kernel
theorem dX3_passes_1 : decode cX3_passes 1 = .ok (.aload_n 1, 1) := by decide +kernel
theorem dX3_passes_2 : decode cX3_passes 2 = .ok (.invokevirtual 69, 3) := by decide +kernel
theorem dX3_passes_5 : decode cX3_passes 5 = .ok (.ifCond .ne 5, 3) := by decide +kernel
theorem dX3_passes_8 : decode cX3_passes 8 = .ok (.iconst 0, 1) := by decide +kernel
theorem dX3_passes_9 : decode cX3_passes 9 = .ok (.ireturn, 1) := by decide +kernel
theorem dX3_passes_10 : decode cX3_passes 10 = .ok (.aload_n 0, 1) := by decide +kernel
theorem dX3_passes_11 : decode cX3_passes 11 = .ok (.invokevirtual 24, 3) := by decide +kernel
theorem dX3_passes_14 : decode cX3_passes 14 = .ok (.iconst 1, 1) := by decide +kernel
theorem dX3_passes_15 : decode cX3_passes 15 = .ok (.ireturn, 1) := by decide +kernel
set_option maxRecDepth 20000 in
theorem ggX3_isHere_J0_length_8abf5 : GoodIn wsX3_isHere wsJ0_length_8abf5 := goodIn_r _ [8, 9, 10, 11, 12, 7, 13, 14, 15] (by decide +kernel) (by decide +kernel)
set_option maxRecDepth 20000 in
theorem gX3_isHere_J0_length_8abf5 : GoodIn wsX3_isHere (wsV RX3 82 RJ0 yJ0_length_8abf5 wsJ0_length_8abf5) := goodIn_app (goodIn_of _ (by decide +kernel)) ggX3_isHere_J0_length_8abf5
set_option maxRecDepth 20000 in
theorem ggX3_isHere_J0_charAt_5068e : GoodIn wsX3_isHere wsJ0_charAt_5068e := goodIn_r _ [19, 9, 20, 21, 22, 7, 23, 14, 15, 24, 25, 26, 27, 28, 29, 30, 31, 32, 33, 34, 35, 36, 37, 38, 39, 40, 41, 42, 43, 44, 45, 46, 47, 48, 49, 50, 51, 52] (by decide +kernel) (by decide +kernel)
set_option maxRecDepth 20000 in
theorem gX3_isHere_J0_charAt_5068e : GoodIn wsX3_isHere (wsV RX3 85 RJ0 yJ0_charAt_5068e wsJ0_charAt_5068e) := goodIn_app (goodIn_of _ (by decide +kernel)) ggX3_isHere_J0_charAt_5068e
theorem dX3_isHere_0 : decode cX3_isHere 0 = .ok (.aload_n 0, 1) := by decide +kernel
theorem dX3_isHere_1 : decode cX3_isHere 1 = .ok (.getfield 21, 3) := by decide +kernel
theorem dX3_isHere_4 : decode cX3_isHere 4 = .ok (.aload_n 0, 1) := by decide +kernel
theorem dX3_isHere_5 : decode cX3_isHere 5 = .ok (.getfield 35, 3) := by decide +kernel
theorem dX3_isHere_8 : decode cX3_isHere 8 = .ok (.isub, 1) := by decide +kernel
theorem dX3_isHere_9 : decode cX3_isHere 9 = .ok (.aload_n 1, 1) := by decide +kernel
theorem dX3_isHere_10 : decode cX3_isHere 10 = .ok (.invokevirtual 82, 3) := by decide +kernel
theorem dX3_isHere_13 : decode cX3_isHere 13 = .ok (.if_icmp .eq 5, 3) := by decide +kernel
theorem dX3_isHere_16 : decode cX3_isHere 16 = .ok (.iconst 0, 1) := by decide +kernel
theorem dX3_isHere_17 : decode cX3_isHere 17 = .ok (.ireturn, 1) := by decide +kernel
theorem dX3_isHere_18 : decode cX3_isHere 18 = .ok (.iconst 0, 1) := by decide +kernel
theorem dX3_isHere_19 : decode cX3_isHere 19 = .ok (.istore_n 2, 1) := by decide +kernel
theorem dX3_isHere_20 : decode cX3_isHere 20 = .ok (.iload_n 2, 1) := by decide +kernel
theorem dX3_isHere_21 : decode cX3_isHere 21 = .ok (.aload_n 1, 1) := by decide +kernel
theorem dX3_isHere_22 : decode cX3_isHere 22 = .ok (.invokevirtual 82, 3) := by decide +kernel
theorem dX3_isHere_25 : decode cX3_isHere 25 = .ok (.if_icmp .ge 33, 3) := by decide +kernel
theorem dX3_isHere_28 : decode cX3_isHere 28 = .ok (.aload_n 0, 1) := by decide +kernel
theorem dX3_isHere_29 : decode cX3_isHere 29 = .ok (.getfield 9, 3) := by decide +kernel
theorem dX3_isHere_32 : decode cX3_isHere 32 = .ok (.getfield 72, 3) := by decide +kernel
theorem dX3_isHere_35 : decode cX3_isHere 35 = .ok (.aload_n 0, 1) := by decide +kernel
theorem dX3_isHere_36 : decode cX3_isHere 36 = .ok (.getfield 35, 3) := by decide +kernel
theorem dX3_isHere_39 : decode cX3_isHere 39 = .ok (.iload_n 2, 1) := by decide +kernel
theorem dX3_isHere_40 : decode cX3_isHere 40 = .ok (.iadd, 1) := by decide +kernel
theorem dX3_isHere_41 : decode cX3_isHere 41 = .ok (.iaload, 1) := by decide +kernel
theorem dX3_isHere_42 : decode cX3_isHere 42 = .ok (.aload_n 1, 1) := by decide +kernel
theorem dX3_isHere_43 : decode cX3_isHere 43 = .ok (.iload_n 2, 1) := by decide +kernel
theorem dX3_isHere_44 : decode cX3_isHere 44 = .ok (.invokevirtual 85, 3) := by decide +kernel
theorem dX3_isHere_47 : decode cX3_isHere 47 = .ok (.if_icmp .eq 5, 3) := by decide +kernel
theorem dX3_isHere_50 : decode cX3_isHere 50 = .ok (.iconst 0, 1) := by decide +kernel
theorem dX3_isHere_51 : decode cX3_isHere 51 = .ok (.ireturn, 1) := by decide +kernel
theorem dX3_isHere_52 : decode cX3_isHere 52 = .ok (.iinc 2 1, 3) := by decide +kernel
theorem dX3_isHere_55 : decode cX3_isHere 55 = .ok (.goto (-35), 3) := by decide +kernel
theorem dX3_isHere_58 : decode cX3_isHere 58 = .ok (.iconst 1, 1) := by decide +kernel
theorem dX3_isHere_59 : decode cX3_isHere 59 = .ok (.ireturn, 1) := by decide +kernel
theorem dX3_isAtEnd_0 : decode cX3_isAtEnd 0 = .ok (.aload_n 0, 1) := by decide +kernel
theorem dX3_isAtEnd_1 : decode cX3_isAtEnd 1 = .ok (.getfield 35, 3) := by decide +kernel
theorem dX3_isAtEnd_4 : decode cX3_isAtEnd 4 = .ok (.aload_n 0, 1) := by decide +kernel
theorem dX3_isAtEnd_5 : decode cX3_isAtEnd 5 = .ok (.getfield 9, 3) := by decide +kernel
theorem dX3_isAtEnd_8 : decode cX3_isAtEnd 8 = .ok (.getfield 89, 3) := by decide +kernel
theorem dX3_isAtEnd_11 : decode cX3_isAtEnd 11 = .ok (.if_icmp .lt 7, 3) := by decide +kernel
theorem dX3_isAtEnd_14 : decode cX3_isAtEnd 14 = .ok (.iconst 1, 1) := by decide +kernel
theorem dX3_isAtEnd_15 : decode cX3_isAtEnd 15 = .ok (.goto 4, 3) := by decide +kernel
theorem dX3_isAtEnd_18 : decode cX3_isAtEnd 18 = .ok (.iconst 0, 1) := by decide +kernel
theorem dX3_isAtEnd_19 : decode cX3_isAtEnd 19 = .ok (.ireturn, 1) := by decide +kernel
set_option maxRecDepth 20000 in
theorem ggX3_advance_X3_isAtEnd : GoodIn wsX3_advance wsX3_isAtEnd := goodIn_r _ [8, 2, 3, 15, 16, 17, 18, 19] (by decide +kernel) (by decide +kernel)
set_option maxRecDepth 20000 in
theorem gX3_advance_X3_isAtEnd : GoodIn wsX3_advance (wsV RX3 27 RX3 yX3_isAtEnd wsX3_isAtEnd) := goodIn_app (goodIn_of _ (by decide +kernel)) ggX3_advance_X3_isAtEnd
set_option maxRecDepth 20000 in
theorem ggX3_advance_X3_sortOf : GoodIn wsX3_advance wsX3_sortOf := goodIn_r _ [11, 12, 13, 14] (by decide +kernel) (by decide +kernel)
set_option maxRecDepth 20000 in
theorem gX3_advance_X3_sortOf : GoodIn wsX3_advance (va_wsS RX3 78 yX3_sortOf wsX3_sortOf) := goodIn_app (goodIn_of _ (by decide +kernel)) ggX3_advance_X3_sortOf
theorem dX3_advance_0 : decode cX3_advance 0 = .ok (.aload_n 0, 1) := by decide +kernel
theorem dX3_advance_1 : decode cX3_advance 1 = .ok (.aload_n 0, 1) := by decide +kernel
theorem dX3_advance_2 : decode cX3_advance 2 = .ok (.getfield 21, 3) := by decide +kernel
theorem dX3_advance_5 : decode cX3_advance 5 = .ok (.putfield 35, 3) := by decide +kernel
theorem dX3_advance_8 : decode cX3_advance 8 = .ok (.aload_n 0, 1) := by decide +kernel
theorem dX3_advance_9 : decode cX3_advance 9 = .ok (.getfield 35, 3) := by decide +kernel
theorem dX3_advance_12 : decode cX3_advance 12 = .ok (.aload_n 0, 1) := by decide +kernel
theorem dX3_advance_13 : decode cX3_advance 13 = .ok (.getfield 9, 3) := by decide +kernel
theorem dX3_advance_16 : decode cX3_advance 16 = .ok (.getfield 89, 3) := by decide +kernel
theorem dX3_advance_19 : decode cX3_advance 19 = .ok (.if_icmp .ge 33, 3) := by decide +kernel
theorem dX3_advance_22 : decode cX3_advance 22 = .ok (.aload_n 0, 1) := by decide +kernel
theorem dX3_advance_23 : decode cX3_advance 23 = .ok (.getfield 9, 3) := by decide +kernel
theorem dX3_advance_26 : decode cX3_advance 26 = .ok (.getfield 72, 3) := by decide +kernel
theorem dX3_advance_29 : decode cX3_advance 29 = .ok (.aload_n 0, 1) := by decide +kernel
theorem dX3_advance_30 : decode cX3_advance 30 = .ok (.getfield 35, 3) := by decide +kernel
theorem dX3_advance_33 : decode cX3_advance 33 = .ok (.iaload, 1) := by decide +kernel
theorem dX3_advance_34 : decode cX3_advance 34 = .ok (.bipush 32, 2) := by decide +kernel
theorem dX3_advance_36 : decode cX3_advance 36 = .ok (.if_icmp .ne 16, 3) := by decide +kernel
theorem dX3_advance_39 : decode cX3_advance 39 = .ok (.aload_n 0, 1) := by decide +kernel
theorem dX3_advance_40 : decode cX3_advance 40 = .ok (.dup, 1) := by decide +kernel
