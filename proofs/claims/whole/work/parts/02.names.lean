/-! ===== BEGIN words of one list among another's, by their places ===== -/
theorem goodIn_r {big : List Cond} (ws : List Cond) (ps : List Nat) (hp : ws = ps.filterMap (fun i => big[i]?)) (h : ws.all goodWord = true) : GoodIn big ws := by
  intro w hw
  have h1 := List.all_eq_true.mp h w hw
  rw [hp] at hw
  obtain ⟨i, -, hi⟩ := List.mem_filterMap.mp hw
  have hm : w ∈ big := by first | exact List.mem_of_getElem? hi | exact List.getElem?_mem hi
  exact ⟨hm, good_of_word h1⟩
theorem goodIn_app {big a b : List Cond} (ha : GoodIn big a) (hb : GoodIn big b) : GoodIn big (a ++ b) := fun w h => (List.mem_append.mp h).elim (ha w) (hb w)
theorem goodIn_ca {big a b : List Cond} {c : Cond} (ha : GoodIn big (c :: a)) (hb : GoodIn big b) : GoodIn big (c :: (a ++ b)) := fun w h => (List.mem_cons.mp h).elim (fun e => ha w (List.mem_cons.mpr (Or.inl e))) (fun h => (List.mem_append.mp h).elim (fun h => ha w (List.mem_cons.mpr (Or.inr h))) (hb w))
theorem goodIn_sub {big ws : List Cond} (hm : ∀ w ∈ ws, w ∈ big) (h : ws.all goodWord = true) : GoodIn big ws := fun w hw => ⟨hm w hw, good_of_word (List.all_eq_true.mp h w hw)⟩
/-! ===== END ===== -/
/-! ===== BEGIN printed: names, fields, word lists, decode rows ===== -/
def RX0 : String := "ClashRocks$Course"
def TX0 : u_T := fun k => match k with
  | 0 => ("ClashRocks$Course", "paces", "[I", true)
  | 1 => ("ClashRocks$Course", "comes", "[I", true)
  | 2 => ("ClashRocks$Course", "leaves", "[I", true)
  | 3 => ("ClashRocks$Course", "crusher", "I", false)
  | 4 => ("ClashRocks$Course", "scrapes", "I", false)
  | _ => ("ClashRocks$Course", "second", "I", false)
def tyX0 : Nat → FieldType := fun k => match k with
  | 0 => .array .int
  | 1 => .array .int
  | 2 => .array .int
  | 3 => .int
  | 4 => .int
  | _ => .int
abbrev wsX00 : List Cond := u_ws RX0 TX0 6
theorem nmX0 : ∀ a, a < 6 → ∀ b, b < 6 → a ≠ b → (TX0 a).2.1 ≠ (TX0 b).2.1 := by decide +kernel
theorem tyX0_ok : ∀ k, k < 6 → parseFieldDescriptor (TX0 k).2.2.1 = some (tyX0 k) := by decide +kernel
abbrev cX0_init : ByteArray := prog_2_method_1_code
def yX0_init : MethodName := ⟨RX0, "<init>", "()V"⟩
abbrev cX0_goBetween : ByteArray := prog_2_method_2_code
def yX0_goBetween : MethodName := ⟨RX0, "goBetween", "(LClashRocks$Pair;LClashRocks$Ship;II)I"⟩
abbrev cX0_go : ByteArray := prog_2_method_3_code
def yX0_go : MethodName := ⟨RX0, "go", "(LClashRocks$Waters;LClashRocks$Ship;I)V"⟩
abbrev cX0_isClean : ByteArray := prog_2_method_4_code
def yX0_isClean : MethodName := ⟨RX0, "isClean", "()Z"⟩
abbrev cX0_judgement : ByteArray := prog_2_method_5_code
def yX0_judgement : MethodName := ⟨RX0, "judgement", "(I)I"⟩
abbrev cX0_planFull : ByteArray := prog_2_method_6_code
def yX0_planFull : MethodName := ⟨RX0, "planFull", "(LClashRocks$Waters;LClashRocks$Ship;I)V"⟩
abbrev cX0_isThroughBy : ByteArray := prog_2_method_7_code
def yX0_isThroughBy : MethodName := ⟨RX0, "isThroughBy", "(LClashRocks$Waters;II)Z"⟩
abbrev cX0_isThrough : ByteArray := prog_2_method_8_code
def yX0_isThrough : MethodName := ⟨RX0, "isThrough", "(LClashRocks$Waters;I)Z"⟩
abbrev cX0_isThroughBut : ByteArray := prog_2_method_9_code
def yX0_isThroughBut : MethodName := ⟨RX0, "isThroughBut", "(LClashRocks$Waters;I)Z"⟩
abbrev cX0_fogWeight : ByteArray := prog_2_method_10_code
def yX0_fogWeight : MethodName := ⟨RX0, "fogWeight", "(LClashRocks$Waters;)I"⟩
abbrev cX0_fewestStones : ByteArray := prog_2_method_11_code
def yX0_fewestStones : MethodName := ⟨RX0, "fewestStones", "(LClashRocks$Waters;I)I"⟩
def RX1 : String := "ClashRocks$Guess"
def TX1 : u_T := fun k => match k with
  | 0 => ("ClashRocks$Guess", "openBy", "[I", true)
  | 1 => ("ClashRocks$Guess", "openIn", "[I", true)
  | 2 => ("ClashRocks$Guess", "total", "I", false)
  | 3 => ("ClashRocks$Guess", "first", "I", false)
  | 4 => ("ClashRocks$Guess", "seenOpen", "I", false)
  | _ => ("ClashRocks$Guess", "seenShut", "I", false)
def tyX1 : Nat → FieldType := fun k => match k with
  | 0 => .array .int
  | 1 => .array .int
  | 2 => .int
  | 3 => .int
  | 4 => .int
  | _ => .int
abbrev wsX10 : List Cond := u_ws RX1 TX1 6
theorem nmX1 : ∀ a, a < 6 → ∀ b, b < 6 → a ≠ b → (TX1 a).2.1 ≠ (TX1 b).2.1 := by decide +kernel
theorem tyX1_ok : ∀ k, k < 6 → parseFieldDescriptor (TX1 k).2.2.1 = some (tyX1 k) := by decide +kernel
abbrev cX1_init : ByteArray := prog_3_method_1_code
def yX1_init : MethodName := ⟨RX1, "<init>", "()V"⟩
abbrev cX1_survey : ByteArray := prog_3_method_2_code
def yX1_survey : MethodName := ⟨RX1, "survey", "(LClashRocks$Looks;II)V"⟩
abbrev cX1_fold : ByteArray := prog_3_method_3_code
def yX1_fold : MethodName := ⟨RX1, "fold", "(LClashRocks$Looks;I)V"⟩
abbrev cX1_surveyPhases : ByteArray := prog_3_method_4_code
def yX1_surveyPhases : MethodName := ⟨RX1, "surveyPhases", "(II)V"⟩
abbrev cX1_leftAtWorst : ByteArray := prog_3_method_5_code
def yX1_leftAtWorst : MethodName := ⟨RX1, "leftAtWorst", "(I)I"⟩
def RX2 : String := "ClashRocks$Looks"
def TX2 : u_T := fun k => match k with
  | 0 => ("ClashRocks$Looks", "seconds", "[I", true)
  | 1 => ("ClashRocks$Looks", "seen", "[I", true)
  | _ => ("ClashRocks$Looks", "size", "I", false)
def tyX2 : Nat → FieldType := fun k => match k with
  | 0 => .array .int
  | 1 => .array .int
  | _ => .int
abbrev wsX20 : List Cond := u_ws RX2 TX2 3
theorem nmX2 : ∀ a, a < 3 → ∀ b, b < 3 → a ≠ b → (TX2 a).2.1 ≠ (TX2 b).2.1 := by decide +kernel
theorem tyX2_ok : ∀ k, k < 3 → parseFieldDescriptor (TX2 k).2.2.1 = some (tyX2 k) := by decide +kernel
abbrev cX2_init : ByteArray := prog_4_method_1_code
def yX2_init : MethodName := ⟨RX2, "<init>", "()V"⟩
abbrev cX2_add : ByteArray := prog_4_method_2_code
def yX2_add : MethodName := ⟨RX2, "add", "(II)Z"⟩
abbrev cX2_take : ByteArray := prog_4_method_3_code
def yX2_take : MethodName := ⟨RX2, "take", "(LClashRocks$Looks;)V"⟩
def RX3 : String := "ClashRocks$Pair"
def TX3 : u_T := fun k => match k with
  | 0 => ("ClashRocks$Pair", "kind", "I", false)
  | 1 => ("ClashRocks$Pair", "reach", "I", false)
  | 2 => ("ClashRocks$Pair", "beat", "I", false)
  | 3 => ("ClashRocks$Pair", "opening", "I", false)
  | _ => ("ClashRocks$Pair", "phase", "I", false)
def tyX3 : Nat → FieldType := fun k => match k with
  | 0 => .int
  | 1 => .int
  | 2 => .int
  | 3 => .int
  | _ => .int
abbrev wsX30 : List Cond := u_ws RX3 TX3 5
theorem nmX3 : ∀ a, a < 5 → ∀ b, b < 5 → a ≠ b → (TX3 a).2.1 ≠ (TX3 b).2.1 := by decide +kernel
theorem tyX3_ok : ∀ k, k < 5 → parseFieldDescriptor (TX3 k).2.2.1 = some (tyX3 k) := by decide +kernel
abbrev cX3_init : ByteArray := prog_5_method_1_code
def yX3_init : MethodName := ⟨RX3, "<init>", "()V"⟩
abbrev cX3_become : ByteArray := prog_5_method_2_code
def yX3_become : MethodName := ⟨RX3, "become", "(IIII)V"⟩
abbrev cX3_take : ByteArray := prog_5_method_3_code
def yX3_take : MethodName := ⟨RX3, "take", "(LClashRocks$Pair;)V"⟩
abbrev cX3_isOpenNow : ByteArray := prog_5_method_4_code
def yX3_isOpenNow : MethodName := ⟨RX3, "isOpenNow", "(I)Z"⟩
abbrev cX3_isOpenAt : ByteArray := prog_5_method_5_code
def yX3_isOpenAt : MethodName := ⟨RX3, "isOpenAt", "(II)Z"⟩
abbrev cX3_isPlainOpen : ByteArray := prog_5_method_6_code
def yX3_isPlainOpen : MethodName := ⟨RX3, "isPlainOpen", "(II)Z"⟩
abbrev cX3_firstShut : ByteArray := prog_5_method_7_code
def yX3_firstShut : MethodName := ⟨RX3, "firstShut", "(III)I"⟩
abbrev cX3_phaseBehind : ByteArray := prog_5_method_8_code
def yX3_phaseBehind : MethodName := ⟨RX3, "phaseBehind", "(I)I"⟩
def RX4 : String := "ClashRocks$Row"
def TX4 : u_T := fun k => match k with
  | 0 => ("ClashRocks$Row", "items", "[J", true)
  | 1 => ("ClashRocks$Row", "isHeld", "Z", false)
  | 2 => ("ClashRocks$Row", "lane", "I", false)
  | _ => ("ClashRocks$Row", "length", "I", false)
def tyX4 : Nat → FieldType := fun k => match k with
  | 0 => .array .long
  | 1 => .boolean
  | 2 => .int
  | _ => .int
abbrev wsX40 : List Cond := u_ws RX4 TX4 4
theorem nmX4 : ∀ a, a < 4 → ∀ b, b < 4 → a ≠ b → (TX4 a).2.1 ≠ (TX4 b).2.1 := by decide +kernel
theorem tyX4_ok : ∀ k, k < 4 → parseFieldDescriptor (TX4 k).2.2.1 = some (tyX4 k) := by decide +kernel
abbrev cX4_init : ByteArray := prog_6_method_1_code
def yX4_init : MethodName := ⟨RX4, "<init>", "()V"⟩
abbrev cX4_begin : ByteArray := prog_6_method_2_code
def yX4_begin : MethodName := ⟨RX4, "begin", "(II)V"⟩
abbrev cX4_hasItems : ByteArray := prog_6_method_3_code
def yX4_hasItems : MethodName := ⟨RX4, "hasItems", "(II)Z"⟩
abbrev cX4_refusal : ByteArray := prog_6_method_4_code
def yX4_refusal : MethodName := ⟨RX4, "refusal", "(III)I"⟩
def RX5 : String := "ClashRocks$Search"
def TX5 : u_T := fun k => match k with
  | 0 => ("ClashRocks$Search", "ends", "[[I", true)
  | 1 => ("ClashRocks$Search", "openFor", "[I", true)
  | 2 => ("ClashRocks$Search", "paces", "[I", true)
  | 3 => ("ClashRocks$Search", "begin", "I", false)
  | _ => ("ClashRocks$Search", "end", "I", false)
def tyX5 : Nat → FieldType := fun k => match k with
  | 0 => .array (.array .int)
  | 1 => .array .int
  | 2 => .array .int
  | 3 => .int
  | _ => .int
abbrev wsX50 : List Cond := u_ws RX5 TX5 5
theorem nmX5 : ∀ a, a < 5 → ∀ b, b < 5 → a ≠ b → (TX5 a).2.1 ≠ (TX5 b).2.1 := by decide +kernel
theorem tyX5_ok : ∀ k, k < 5 → parseFieldDescriptor (TX5 k).2.2.1 = some (tyX5 k) := by decide +kernel
abbrev cX5_init : ByteArray := prog_7_method_1_code
def yX5_init : MethodName := ⟨RX5, "<init>", "()V"⟩
abbrev cX5_findSoonest : ByteArray := prog_7_method_2_code
def yX5_findSoonest : MethodName := ⟨RX5, "findSoonest", "(LClashRocks$Waters;LClashRocks$Ship;I)V"⟩
abbrev cX5_measure : ByteArray := prog_7_method_3_code
def yX5_measure : MethodName := ⟨RX5, "measure", "(LClashRocks$Pair;II)V"⟩
abbrev cX5_behindBy : ByteArray := prog_7_method_4_code
def yX5_behindBy : MethodName := ⟨RX5, "behindBy", "(LClashRocks$Pair;LClashRocks$Ship;II)I"⟩
abbrev cX5_soonestEnd : ByteArray := prog_7_method_5_code
def yX5_soonestEnd : MethodName := ⟨RX5, "soonestEnd", "(LClashRocks$Pair;LClashRocks$Ship;II)I"⟩
abbrev cX5_tellPaces : ByteArray := prog_7_method_6_code
def yX5_tellPaces : MethodName := ⟨RX5, "tellPaces", "(LClashRocks$Waters;LClashRocks$Ship;I)V"⟩
abbrev cX5_firstPace : ByteArray := prog_7_method_7_code
def yX5_firstPace : MethodName := ⟨RX5, "firstPace", "(LClashRocks$Pair;LClashRocks$Ship;II)I"⟩
def RX6 : String := "ClashRocks$Ship"
def TX6 : u_T := fun k => match k with
  | 0 => ("ClashRocks$Ship", "kind", "I", false)
  | 1 => ("ClashRocks$Ship", "length", "I", false)
  | _ => ("ClashRocks$Ship", "speed", "I", false)
def tyX6 : Nat → FieldType := fun k => match k with
  | 0 => .int
  | 1 => .int
  | _ => .int
abbrev wsX60 : List Cond := u_ws RX6 TX6 3
theorem nmX6 : ∀ a, a < 3 → ∀ b, b < 3 → a ≠ b → (TX6 a).2.1 ≠ (TX6 b).2.1 := by decide +kernel
theorem tyX6_ok : ∀ k, k < 3 → parseFieldDescriptor (TX6 k).2.2.1 = some (tyX6 k) := by decide +kernel
abbrev cX6_init : ByteArray := prog_8_method_1_code
def yX6_init : MethodName := ⟨RX6, "<init>", "()V"⟩
abbrev cX6_become : ByteArray := prog_8_method_2_code
def yX6_become : MethodName := ⟨RX6, "become", "(III)V"⟩
abbrev cX6_take : ByteArray := prog_8_method_3_code
def yX6_take : MethodName := ⟨RX6, "take", "(LClashRocks$Ship;)V"⟩
abbrev cX6_low : ByteArray := prog_8_method_4_code
def yX6_low : MethodName := ⟨RX6, "low", "()I"⟩
abbrev cX6_high : ByteArray := prog_8_method_5_code
def yX6_high : MethodName := ⟨RX6, "high", "()I"⟩
abbrev cX6_span : ByteArray := prog_8_method_6_code
def yX6_span : MethodName := ⟨RX6, "span", "()I"⟩
def RX7 : String := "ClashRocks$Tape"
def TX7 : u_T := fun k => match k with
  | 0 => ("ClashRocks$Tape", "letters", "[C", true)
  | 1 => ("ClashRocks$Tape", "pairs", "[LClashRocks$Pair;", true)
  | 2 => ("ClashRocks$Tape", "ships", "[LClashRocks$Ship;", true)
  | 3 => ("ClashRocks$Tape", "size", "I", false)
  | 4 => ("ClashRocks$Tape", "pairCount", "I", false)
  | 5 => ("ClashRocks$Tape", "shipCount", "I", false)
  | _ => ("ClashRocks$Tape", "place", "I", false)
def tyX7 : Nat → FieldType := fun k => match k with
  | 0 => .array .char
  | 1 => .array (.object "ClashRocks$Pair")
  | 2 => .array (.object "ClashRocks$Ship")
  | 3 => .int
  | 4 => .int
  | 5 => .int
  | _ => .int
abbrev wsX70 : List Cond := u_ws RX7 TX7 7
theorem nmX7 : ∀ a, a < 7 → ∀ b, b < 7 → a ≠ b → (TX7 a).2.1 ≠ (TX7 b).2.1 := by decide +kernel
theorem tyX7_ok : ∀ k, k < 7 → parseFieldDescriptor (TX7 k).2.2.1 = some (tyX7 k) := by decide +kernel
abbrev cX7_init : ByteArray := prog_9_method_1_code
def yX7_init : MethodName := ⟨RX7, "<init>", "()V"⟩
abbrev cX7_add : ByteArray := prog_9_method_2_code
def yX7_add : MethodName := ⟨RX7, "add", "(C)Z"⟩
abbrev cX7_isStrait : ByteArray := prog_9_method_3_code
def yX7_isStrait : MethodName := ⟨RX7, "isStrait", "()Z"⟩
abbrev cX7_areShipsRead : ByteArray := prog_9_method_4_code
def yX7_areShipsRead : MethodName := ⟨RX7, "areShipsRead", "()Z"⟩
abbrev cX7_isPairRead : ByteArray := prog_9_method_5_code
def yX7_isPairRead : MethodName := ⟨RX7, "isPairRead", "(LClashRocks$Pair;)Z"⟩
abbrev cX7_isShipRead : ByteArray := prog_9_method_6_code
def yX7_isShipRead : MethodName := ⟨RX7, "isShipRead", "(LClashRocks$Ship;)Z"⟩
abbrev cX7_letterHere : ByteArray := prog_9_method_7_code
def yX7_letterHere : MethodName := ⟨RX7, "letterHere", "()C"⟩
abbrev cX7_isTaken : ByteArray := prog_9_method_8_code
def yX7_isTaken : MethodName := ⟨RX7, "isTaken", "(C)Z"⟩
abbrev cX7_kindRead : ByteArray := prog_9_method_9_code
def yX7_kindRead : MethodName := ⟨RX7, "kindRead", "(Ljava/lang/String;)I"⟩
abbrev cX7_digitRead : ByteArray := prog_9_method_10_code
def yX7_digitRead : MethodName := ⟨RX7, "digitRead", "(I)I"⟩
abbrev cX7_numberRead : ByteArray := prog_9_method_11_code
def yX7_numberRead : MethodName := ⟨RX7, "numberRead", "(II)I"⟩
def RX8 : String := "ClashRocks$Voyage"
def TX8 : u_T := fun k => match k with
  | 0 => ("ClashRocks$Voyage", "clock", "I", false)
  | 1 => ("ClashRocks$Voyage", "out", "I", false)
  | 2 => ("ClashRocks$Voyage", "passed", "I", false)
  | _ => ("ClashRocks$Voyage", "scrapes", "I", false)
def tyX8 : Nat → FieldType := fun k => match k with
  | 0 => .int
  | 1 => .int
  | 2 => .int
  | _ => .int
abbrev wsX80 : List Cond := u_ws RX8 TX8 4
theorem nmX8 : ∀ a, a < 4 → ∀ b, b < 4 → a ≠ b → (TX8 a).2.1 ≠ (TX8 b).2.1 := by decide +kernel
theorem tyX8_ok : ∀ k, k < 4 → parseFieldDescriptor (TX8 k).2.2.1 = some (tyX8 k) := by decide +kernel
abbrev cX8_init : ByteArray := prog_10_method_1_code
def yX8_init : MethodName := ⟨RX8, "<init>", "()V"⟩
abbrev cX8_take : ByteArray := prog_10_method_2_code
def yX8_take : MethodName := ⟨RX8, "take", "(LClashRocks$Voyage;)V"⟩
abbrev cX8_begin : ByteArray := prog_10_method_3_code
def yX8_begin : MethodName := ⟨RX8, "begin", "(I)V"⟩
def RX9 : String := "ClashRocks$Waters"
def TX9 : u_T := fun k => match k with
  | 0 => ("ClashRocks$Waters", "pairs", "[LClashRocks$Pair;", true)
  | 1 => ("ClashRocks$Waters", "ships", "[LClashRocks$Ship;", true)
  | 2 => ("ClashRocks$Waters", "now", "LClashRocks$Voyage;", true)
  | 3 => ("ClashRocks$Waters", "past", "[LClashRocks$Voyage;", true)
  | 4 => ("ClashRocks$Waters", "looks", "LClashRocks$Looks;", true)
  | 5 => ("ClashRocks$Waters", "pairCount", "I", false)
  | 6 => ("ClashRocks$Waters", "shipCount", "I", false)
  | 7 => ("ClashRocks$Waters", "pastCount", "I", false)
  | _ => ("ClashRocks$Waters", "draw", "I", false)
def tyX9 : Nat → FieldType := fun k => match k with
  | 0 => .array (.object "ClashRocks$Pair")
  | 1 => .array (.object "ClashRocks$Ship")
  | 2 => .object "ClashRocks$Voyage"
  | 3 => .array (.object "ClashRocks$Voyage")
  | 4 => .object "ClashRocks$Looks"
  | 5 => .int
  | 6 => .int
  | 7 => .int
  | _ => .int
abbrev wsX90 : List Cond := u_ws RX9 TX9 9
theorem nmX9 : ∀ a, a < 9 → ∀ b, b < 9 → a ≠ b → (TX9 a).2.1 ≠ (TX9 b).2.1 := by decide +kernel
theorem tyX9_ok : ∀ k, k < 9 → parseFieldDescriptor (TX9 k).2.2.1 = some (tyX9 k) := by decide +kernel
abbrev cX9_init : ByteArray := prog_11_method_1_code
def yX9_init : MethodName := ⟨RX9, "<init>", "()V"⟩
abbrev cX9_take : ByteArray := prog_11_method_2_code
def yX9_take : MethodName := ⟨RX9, "take", "(LClashRocks$Waters;)V"⟩
abbrev cX9_settle : ByteArray := prog_11_method_3_code
def yX9_settle : MethodName := ⟨RX9, "settle", "(LClashRocks$Tape;)V"⟩
abbrev cX9_takePairsAndShips : ByteArray := prog_11_method_4_code
def yX9_takePairsAndShips : MethodName := ⟨RX9, "takePairsAndShips", "([LClashRocks$Pair;I[LClashRocks$Ship;I)V"⟩
abbrev cX9_remember : ByteArray := prog_11_method_5_code
def yX9_remember : MethodName := ⟨RX9, "remember", "()V"⟩
abbrev cX9_recall : ByteArray := prog_11_method_6_code
def yX9_recall : MethodName := ⟨RX9, "recall", "()Z"⟩
abbrev cX9_drawn : ByteArray := prog_11_method_7_code
def yX9_drawn : MethodName := ⟨RX9, "drawn", "()I"⟩
def RX10 : String := "ClashRocks"
def TX10 : u_T := fun k => match k with
  | 0 => ("ClashRocks", "waters", "LClashRocks$Waters;", true)
  | 1 => ("ClashRocks", "kept", "LClashRocks$Waters;", true)
  | 2 => ("ClashRocks", "isKept", "Z", false)
  | 3 => ("ClashRocks", "tape", "LClashRocks$Tape;", true)
  | 4 => ("ClashRocks", "course", "LClashRocks$Course;", true)
  | 5 => ("ClashRocks", "search", "LClashRocks$Search;", true)
  | 6 => ("ClashRocks", "guess", "LClashRocks$Guess;", true)
  | _ => ("ClashRocks", "rows", "[LClashRocks$Row;", true)
def tyX10 : Nat → FieldType := fun k => match k with
  | 0 => .object "ClashRocks$Waters"
  | 1 => .object "ClashRocks$Waters"
  | 2 => .boolean
  | 3 => .object "ClashRocks$Tape"
  | 4 => .object "ClashRocks$Course"
  | 5 => .object "ClashRocks$Search"
  | 6 => .object "ClashRocks$Guess"
  | _ => .array (.object "ClashRocks$Row")
abbrev wsX100 : List Cond := u_ws RX10 TX10 8
theorem nmX10 : ∀ a, a < 8 → ∀ b, b < 8 → a ≠ b → (TX10 a).2.1 ≠ (TX10 b).2.1 := by decide +kernel
theorem tyX10_ok : ∀ k, k < 8 → parseFieldDescriptor (TX10 k).2.2.1 = some (tyX10 k) := by decide +kernel
abbrev cX10_init : ByteArray := prog_1_method_1_code
def yX10_init : MethodName := ⟨RX10, "<init>", "()V"⟩
abbrev cX10_pair : ByteArray := prog_1_method_2_code
def yX10_pair : MethodName := ⟨RX10, "pair", "(IIII)I"⟩
abbrev cX10_phase : ByteArray := prog_1_method_3_code
def yX10_phase : MethodName := ⟨RX10, "phase", "(II)I"⟩
abbrev cX10_ship : ByteArray := prog_1_method_4_code
def yX10_ship : MethodName := ⟨RX10, "ship", "(III)I"⟩
abbrev cX10_of : ByteArray := prog_1_method_5_code
def yX10_of : MethodName := ⟨RX10, "of", "(II)I"⟩
abbrev cX10_told : ByteArray := prog_1_method_6_code
def yX10_told : MethodName := ⟨RX10, "told", "(II)I"⟩
abbrev cX10_open : ByteArray := prog_1_method_7_code
def yX10_open : MethodName := ⟨RX10, "open", "(II)I"⟩
abbrev cX10_type : ByteArray := prog_1_method_8_code
def yX10_type : MethodName := ⟨RX10, "type", "(I)I"⟩
abbrev cX10_strait : ByteArray := prog_1_method_9_code
def yX10_strait : MethodName := ⟨RX10, "strait", "()I"⟩
abbrev cX10_count : ByteArray := prog_1_method_10_code
def yX10_count : MethodName := ⟨RX10, "count", "(I)I"⟩
abbrev cX10_setOut : ByteArray := prog_1_method_11_code
def yX10_setOut : MethodName := ⟨RX10, "setOut", "(I)I"⟩
abbrev cX10_idle : ByteArray := prog_1_method_12_code
def yX10_idle : MethodName := ⟨RX10, "idle", "(I)I"⟩
abbrev cX10_pass : ByteArray := prog_1_method_13_code
def yX10_pass : MethodName := ⟨RX10, "pass", "(I)I"⟩
abbrev cX10_undo : ByteArray := prog_1_method_14_code
def yX10_undo : MethodName := ⟨RX10, "undo", "()I"⟩
abbrev cX10_seed : ByteArray := prog_1_method_15_code
def yX10_seed : MethodName := ⟨RX10, "seed", "(I)I"⟩
abbrev cX10_lots : ByteArray := prog_1_method_16_code
def yX10_lots : MethodName := ⟨RX10, "lots", "(II)I"⟩
abbrev cX10_soonest : ByteArray := prog_1_method_17_code
def yX10_soonest : MethodName := ⟨RX10, "soonest", "(III)I"⟩
abbrev cX10_full : ByteArray := prog_1_method_18_code
def yX10_full : MethodName := ⟨RX10, "full", "(III)I"⟩
abbrev cX10_fog : ByteArray := prog_1_method_19_code
def yX10_fog : MethodName := ⟨RX10, "fog", "(III)I"⟩
abbrev cX10_sure : ByteArray := prog_1_method_20_code
def yX10_sure : MethodName := ⟨RX10, "sure", "(II)I"⟩
abbrev cX10_stones : ByteArray := prog_1_method_21_code
def yX10_stones : MethodName := ⟨RX10, "stones", "(III)I"⟩
abbrev cX10_convoy : ByteArray := prog_1_method_22_code
def yX10_convoy : MethodName := ⟨RX10, "convoy", "(III)I"⟩
abbrev cX10_rudder : ByteArray := prog_1_method_23_code
def yX10_rudder : MethodName := ⟨RX10, "rudder", "(III)I"⟩
abbrev cX10_worth : ByteArray := prog_1_method_24_code
def yX10_worth : MethodName := ⟨RX10, "worth", "(II)I"⟩
abbrev cX10_look : ByteArray := prog_1_method_25_code
def yX10_look : MethodName := ⟨RX10, "look", "(II)I"⟩
abbrev cX10_forget : ByteArray := prog_1_method_26_code
def yX10_forget : MethodName := ⟨RX10, "forget", "()I"⟩
abbrev cX10_fits : ByteArray := prog_1_method_27_code
def yX10_fits : MethodName := ⟨RX10, "fits", "(I)I"⟩
abbrev cX10_foretell : ByteArray := prog_1_method_28_code
def yX10_foretell : MethodName := ⟨RX10, "foretell", "(I)I"⟩
abbrev cX10_next : ByteArray := prog_1_method_29_code
def yX10_next : MethodName := ⟨RX10, "next", "(II)I"⟩
abbrev cX10_image : ByteArray := prog_1_method_30_code
def yX10_image : MethodName := ⟨RX10, "image", "()I"⟩
abbrev cX10_restore : ByteArray := prog_1_method_31_code
def yX10_restore : MethodName := ⟨RX10, "restore", "()I"⟩
abbrev cX10_judged : ByteArray := prog_1_method_32_code
def yX10_judged : MethodName := ⟨RX10, "judged", "(IIIIII)I"⟩
abbrev cX10_film : ByteArray := prog_1_method_33_code
def yX10_film : MethodName := ⟨RX10, "film", "(IIII)I"⟩
abbrev cX10_sheet : ByteArray := prog_1_method_34_code
def yX10_sheet : MethodName := ⟨RX10, "sheet", "(III)I"⟩
abbrev cX10_drop : ByteArray := prog_1_method_35_code
def yX10_drop : MethodName := ⟨RX10, "drop", "(I)I"⟩
abbrev cX10_item : ByteArray := prog_1_method_36_code
def yX10_item : MethodName := ⟨RX10, "item", "(IIIJ)I"⟩
abbrev cX10_copy : ByteArray := prog_1_method_37_code
def yX10_copy : MethodName := ⟨RX10, "copy", "(IIIII)I"⟩
abbrev cX10_isWithin : ByteArray := prog_1_method_38_code
def yX10_isWithin : MethodName := ⟨RX10, "isWithin", "(III)Z"⟩
abbrev cX10_oneIf : ByteArray := prog_1_method_39_code
def yX10_oneIf : MethodName := ⟨RX10, "oneIf", "(Z)I"⟩
abbrev cX10_secondsFor : ByteArray := prog_1_method_40_code
def yX10_secondsFor : MethodName := ⟨RX10, "secondsFor", "(II)I"⟩
abbrev cX10_lowestBits : ByteArray := prog_1_method_41_code
def yX10_lowestBits : MethodName := ⟨RX10, "lowestBits", "(IJ)J"⟩
abbrev cX10_isPair : ByteArray := prog_1_method_42_code
def yX10_isPair : MethodName := ⟨RX10, "isPair", "(I)Z"⟩
abbrev cX10_isShip : ByteArray := prog_1_method_43_code
def yX10_isShip : MethodName := ⟨RX10, "isShip", "(I)Z"⟩
abbrev cX10_isBegin : ByteArray := prog_1_method_44_code
def yX10_isBegin : MethodName := ⟨RX10, "isBegin", "(II)Z"⟩
abbrev cX10_isRow : ByteArray := prog_1_method_45_code
def yX10_isRow : MethodName := ⟨RX10, "isRow", "(II)Z"⟩
abbrev cX10_goFull : ByteArray := prog_1_method_46_code
def yX10_goFull : MethodName := ⟨RX10, "goFull", "(II)V"⟩
abbrev cX10_convoyTime : ByteArray := prog_1_method_47_code
def yX10_convoyTime : MethodName := ⟨RX10, "convoyTime", "(I)I"⟩
def RX11 : String := "ClashRocksModel"
def TX11 : u_T := fun k => match k with
  | 0 => ("ClashRocksModel", "pairs", "I", false)
  | 1 => ("ClashRocksModel", "ships", "I", false)
  | 2 => ("ClashRocksModel", "pair", "[I", true)
  | 3 => ("ClashRocksModel", "ship", "[I", true)
  | 4 => ("ClashRocksModel", "state", "[I", true)
  | 5 => ("ClashRocksModel", "draw", "I", false)
  | 6 => ("ClashRocksModel", "how", "I", false)
  | 7 => ("ClashRocksModel", "behind", "I", false)
  | 8 => ("ClashRocksModel", "crushes", "I", false)
  | 9 => ("ClashRocksModel", "scraped", "I", false)
  | 10 => ("ClashRocksModel", "paces", "[I", true)
  | 11 => ("ClashRocksModel", "tape", "[I", true)
  | 12 => ("ClashRocksModel", "taped", "I", false)
  | 13 => ("ClashRocksModel", "at", "I", false)
  | 14 => ("ClashRocksModel", "wrong", "Z", false)
  | 15 => ("ClashRocksModel", "readPairs", "[I", true)
  | 16 => ("ClashRocksModel", "readShips", "[I", true)
  | 17 => ("ClashRocksModel", "manyPairs", "I", false)
  | 18 => ("ClashRocksModel", "manyShips", "I", false)
  | 19 => ("ClashRocksModel", "undone", "[I", true)
  | 20 => ("ClashRocksModel", "undos", "I", false)
  | 21 => ("ClashRocksModel", "ends", "[I", true)
  | 22 => ("ClashRocksModel", "looks", "I", false)
  | 23 => ("ClashRocksModel", "when", "[I", true)
  | 24 => ("ClashRocksModel", "seen", "[I", true)
  | 25 => ("ClashRocksModel", "fits", "I", false)
  | 26 => ("ClashRocksModel", "first", "I", false)
  | 27 => ("ClashRocksModel", "opens", "I", false)
  | 28 => ("ClashRocksModel", "image", "[I", true)
  | 29 => ("ClashRocksModel", "isImage", "Z", false)
  | 30 => ("ClashRocksModel", "lanes", "[I", true)
  | 31 => ("ClashRocksModel", "sizes", "[I", true)
  | 32 => ("ClashRocksModel", "items", "[J", true)
  | _ => ("ClashRocksModel", "moved", "[J", true)
def tyX11 : Nat → FieldType := fun k => match k with
  | 0 => .int
  | 1 => .int
  | 2 => .array .int
  | 3 => .array .int
  | 4 => .array .int
  | 5 => .int
  | 6 => .int
  | 7 => .int
  | 8 => .int
  | 9 => .int
  | 10 => .array .int
  | 11 => .array .int
  | 12 => .int
  | 13 => .int
  | 14 => .boolean
  | 15 => .array .int
  | 16 => .array .int
  | 17 => .int
  | 18 => .int
  | 19 => .array .int
  | 20 => .int
  | 21 => .array .int
  | 22 => .int
  | 23 => .array .int
  | 24 => .array .int
  | 25 => .int
  | 26 => .int
  | 27 => .int
  | 28 => .array .int
  | 29 => .boolean
  | 30 => .array .int
  | 31 => .array .int
  | 32 => .array .long
  | _ => .array .long
abbrev wsX110 : List Cond := u_ws RX11 TX11 34
theorem nmX11 : ∀ a, a < 34 → ∀ b, b < 34 → a ≠ b → (TX11 a).2.1 ≠ (TX11 b).2.1 := by decide +kernel
theorem tyX11_ok : ∀ k, k < 34 → parseFieldDescriptor (TX11 k).2.2.1 = some (tyX11 k) := by decide +kernel
abbrev cX11_in : ByteArray := prog_13_method_2_code
def yX11_in : MethodName := ⟨RX11, "in", "(JJJ)Z"⟩
abbrev cX11_init : ByteArray := prog_13_method_3_code
def yX11_init : MethodName := ⟨RX11, "<init>", "()V"⟩
abbrev cX11_isPair : ByteArray := prog_13_method_4_code
def yX11_isPair : MethodName := ⟨RX11, "isPair", "(I)Z"⟩
abbrev cX11_isShip : ByteArray := prog_13_method_5_code
def yX11_isShip : MethodName := ⟨RX11, "isShip", "(I)Z"⟩
abbrev cX11_isSecond : ByteArray := prog_13_method_6_code
def yX11_isSecond : MethodName := ⟨RX11, "isSecond", "(I)Z"⟩
abbrev cX11_pairComes : ByteArray := prog_13_method_7_code
def yX11_pairComes : MethodName := ⟨RX11, "pairComes", "(IIIII)V"⟩
abbrev cX11_pair : ByteArray := prog_13_method_8_code
def yX11_pair : MethodName := ⟨RX11, "pair", "(IIII)I"⟩
abbrev cX11_phase : ByteArray := prog_13_method_9_code
def yX11_phase : MethodName := ⟨RX11, "phase", "(II)I"⟩
abbrev cX11_shipComes : ByteArray := prog_13_method_10_code
def yX11_shipComes : MethodName := ⟨RX11, "shipComes", "(III)V"⟩
abbrev cX11_ship : ByteArray := prog_13_method_11_code
def yX11_ship : MethodName := ⟨RX11, "ship", "(III)I"⟩
abbrev cX11_of : ByteArray := prog_13_method_12_code
def yX11_of : MethodName := ⟨RX11, "of", "(II)I"⟩
abbrev cX11_high : ByteArray := prog_13_method_13_code
def yX11_high : MethodName := ⟨RX11, "high", "(I)I"⟩
abbrev cX11_low : ByteArray := prog_13_method_14_code
def yX11_low : MethodName := ⟨RX11, "low", "(I)I"⟩
abbrev cX11_span : ByteArray := prog_13_method_15_code
def yX11_span : MethodName := ⟨RX11, "span", "(I)I"⟩
abbrev cX11_told : ByteArray := prog_13_method_16_code
def yX11_told : MethodName := ⟨RX11, "told", "(II)I"⟩
abbrev cX11_isPlain : ByteArray := prog_13_method_17_code
def yX11_isPlain : MethodName := ⟨RX11, "isPlain", "(III)Z"⟩
abbrev cX11_isOpen : ByteArray := prog_13_method_18_code
def yX11_isOpen : MethodName := ⟨RX11, "isOpen", "(III)Z"⟩
abbrev cX11_open : ByteArray := prog_13_method_19_code
def yX11_open : MethodName := ⟨RX11, "open", "(II)I"⟩
abbrev cX11_upwards : ByteArray := prog_13_method_20_code
def yX11_upwards : MethodName := ⟨RX11, "upwards", "(II)I"⟩
abbrev cX11_passes : ByteArray := prog_13_method_21_code
def yX11_passes : MethodName := ⟨RX11, "passes", "(IIIII)V"⟩
abbrev cX11_goes : ByteArray := prog_13_method_22_code
def yX11_goes : MethodName := ⟨RX11, "goes", "(II)V"⟩
abbrev cX11_goesFull : ByteArray := prog_13_method_23_code
def yX11_goesFull : MethodName := ⟨RX11, "goesFull", "(II)V"⟩
abbrev cX11_isClean : ByteArray := prog_13_method_24_code
def yX11_isClean : MethodName := ⟨RX11, "isClean", "()Z"⟩
abbrev cX11_type : ByteArray := prog_13_method_25_code
def yX11_type : MethodName := ⟨RX11, "type", "(I)I"⟩
abbrev cX11_here : ByteArray := prog_13_method_26_code
def yX11_here : MethodName := ⟨RX11, "here", "()I"⟩
abbrev cX11_has : ByteArray := prog_13_method_27_code
def yX11_has : MethodName := ⟨RX11, "has", "(I)Z"⟩
abbrev cX11_must : ByteArray := prog_13_method_28_code
def yX11_must : MethodName := ⟨RX11, "must", "(I)V"⟩
abbrev cX11_number : ByteArray := prog_13_method_29_code
def yX11_number : MethodName := ⟨RX11, "number", "(II)I"⟩
abbrev cX11_letter : ByteArray := prog_13_method_30_code
def yX11_letter : MethodName := ⟨RX11, "letter", "(IIII)I"⟩
abbrev cX11_digit : ByteArray := prog_13_method_31_code
def yX11_digit : MethodName := ⟨RX11, "digit", "(I)I"⟩
abbrev cX11_readPair : ByteArray := prog_13_method_32_code
def yX11_readPair : MethodName := ⟨RX11, "readPair", "()V"⟩
abbrev cX11_readShip : ByteArray := prog_13_method_33_code
def yX11_readShip : MethodName := ⟨RX11, "readShip", "()V"⟩
abbrev cX11_strait : ByteArray := prog_13_method_34_code
def yX11_strait : MethodName := ⟨RX11, "strait", "()I"⟩
abbrev cX11_count : ByteArray := prog_13_method_35_code
def yX11_count : MethodName := ⟨RX11, "count", "(I)I"⟩
abbrev cX11_notes : ByteArray := prog_13_method_36_code
def yX11_notes : MethodName := ⟨RX11, "notes", "()V"⟩
abbrev cX11_setOut : ByteArray := prog_13_method_37_code
def yX11_setOut : MethodName := ⟨RX11, "setOut", "(I)I"⟩
abbrev cX11_idle : ByteArray := prog_13_method_38_code
def yX11_idle : MethodName := ⟨RX11, "idle", "(I)I"⟩
abbrev cX11_pass : ByteArray := prog_13_method_39_code
def yX11_pass : MethodName := ⟨RX11, "pass", "(I)I"⟩
abbrev cX11_undo : ByteArray := prog_13_method_40_code
def yX11_undo : MethodName := ⟨RX11, "undo", "()I"⟩
abbrev cX11_seed : ByteArray := prog_13_method_41_code
def yX11_seed : MethodName := ⟨RX11, "seed", "(I)I"⟩
abbrev cX11_lots : ByteArray := prog_13_method_42_code
def yX11_lots : MethodName := ⟨RX11, "lots", "(II)I"⟩
abbrev cX11_endOf : ByteArray := prog_13_method_43_code
def yX11_endOf : MethodName := ⟨RX11, "endOf", "(II)I"⟩
abbrev cX11_looksOn : ByteArray := prog_13_method_44_code
def yX11_looksOn : MethodName := ⟨RX11, "looksOn", "(II)V"⟩
abbrev cX11_by : ByteArray := prog_13_method_45_code
def yX11_by : MethodName := ⟨RX11, "by", "(IIIII)I"⟩
abbrev cX11_soonest : ByteArray := prog_13_method_46_code
def yX11_soonest : MethodName := ⟨RX11, "soonest", "(III)I"⟩
abbrev cX11_full : ByteArray := prog_13_method_47_code
def yX11_full : MethodName := ⟨RX11, "full", "(III)I"⟩
abbrev cX11_clears : ByteArray := prog_13_method_48_code
def yX11_clears : MethodName := ⟨RX11, "clears", "(II)I"⟩
abbrev cX11_common : ByteArray := prog_13_method_49_code
def yX11_common : MethodName := ⟨RX11, "common", "(II)I"⟩
abbrev cX11_fog : ByteArray := prog_13_method_50_code
def yX11_fog : MethodName := ⟨RX11, "fog", "(III)I"⟩
abbrev cX11_sure : ByteArray := prog_13_method_51_code
def yX11_sure : MethodName := ⟨RX11, "sure", "(II)I"⟩
abbrev cX11_stones : ByteArray := prog_13_method_52_code
def yX11_stones : MethodName := ⟨RX11, "stones", "(III)I"⟩
abbrev cX11_many : ByteArray := prog_13_method_53_code
def yX11_many : MethodName := ⟨RX11, "many", "(I)I"⟩
abbrev cX11_convoy : ByteArray := prog_13_method_54_code
def yX11_convoy : MethodName := ⟨RX11, "convoy", "(III)I"⟩
abbrev cX11_rudder : ByteArray := prog_13_method_55_code
def yX11_rudder : MethodName := ⟨RX11, "rudder", "(III)I"⟩
abbrev cX11_worth : ByteArray := prog_13_method_56_code
def yX11_worth : MethodName := ⟨RX11, "worth", "(II)I"⟩
abbrev cX11_look : ByteArray := prog_13_method_57_code
def yX11_look : MethodName := ⟨RX11, "look", "(II)I"⟩
abbrev cX11_forget : ByteArray := prog_13_method_58_code
def yX11_forget : MethodName := ⟨RX11, "forget", "()I"⟩
abbrev cX11_isSo : ByteArray := prog_13_method_59_code
def yX11_isSo : MethodName := ⟨RX11, "isSo", "(IIII)I"⟩
abbrev cX11_fit : ByteArray := prog_13_method_60_code
def yX11_fit : MethodName := ⟨RX11, "fit", "(I)V"⟩
abbrev cX11_fits : ByteArray := prog_13_method_61_code
def yX11_fits : MethodName := ⟨RX11, "fits", "(I)I"⟩
abbrev cX11_foretell : ByteArray := prog_13_method_62_code
def yX11_foretell : MethodName := ⟨RX11, "foretell", "(I)I"⟩
abbrev cX11_next : ByteArray := prog_13_method_63_code
def yX11_next : MethodName := ⟨RX11, "next", "(II)I"⟩
abbrev cX11_notesRow : ByteArray := prog_13_method_64_code
def yX11_notesRow : MethodName := ⟨RX11, "notesRow", "([II)I"⟩
abbrev cX11_gives : ByteArray := prog_13_method_65_code
def yX11_gives : MethodName := ⟨RX11, "gives", "(I[I)I"⟩
abbrev cX11_image : ByteArray := prog_13_method_66_code
def yX11_image : MethodName := ⟨RX11, "image", "()I"⟩
abbrev cX11_restore : ByteArray := prog_13_method_67_code
def yX11_restore : MethodName := ⟨RX11, "restore", "()I"⟩
abbrev cX11_isSheet : ByteArray := prog_13_method_68_code
def yX11_isSheet : MethodName := ⟨RX11, "isSheet", "(I)Z"⟩
abbrev cX11_isLane : ByteArray := prog_13_method_69_code
def yX11_isLane : MethodName := ⟨RX11, "isLane", "(I)Z"⟩
abbrev cX11_why : ByteArray := prog_13_method_70_code
def yX11_why : MethodName := ⟨RX11, "why", "(IIII)I"⟩
abbrev cX11_judged : ByteArray := prog_13_method_71_code
def yX11_judged : MethodName := ⟨RX11, "judged", "(IIIIII)I"⟩
abbrev cX11_puts : ByteArray := prog_13_method_72_code
def yX11_puts : MethodName := ⟨RX11, "puts", "(IIJ)V"⟩
abbrev cX11_film : ByteArray := prog_13_method_73_code
def yX11_film : MethodName := ⟨RX11, "film", "(IIII)I"⟩
abbrev cX11_sheet : ByteArray := prog_13_method_74_code
def yX11_sheet : MethodName := ⟨RX11, "sheet", "(III)I"⟩
abbrev cX11_drop : ByteArray := prog_13_method_75_code
def yX11_drop : MethodName := ⟨RX11, "drop", "(I)I"⟩
abbrev cX11_item : ByteArray := prog_13_method_76_code
def yX11_item : MethodName := ⟨RX11, "item", "(IIIJ)I"⟩
abbrev cX11_copy : ByteArray := prog_13_method_77_code
def yX11_copy : MethodName := ⟨RX11, "copy", "(IIIII)I"⟩
def RJx145de : String := "java/io/Serializable"
def TJx145de : u_T := fun k => match k with
  | _ => ("", "", "", false)
def tyJx145de : Nat → FieldType := fun k => match k with
  | _ => .int
abbrev wsJx145de0 : List Cond := u_ws RJx145de TJx145de 0
theorem nmJx145de : ∀ a, a < 0 → ∀ b, b < 0 → a ≠ b → (TJx145de a).2.1 ≠ (TJx145de b).2.1 := by decide +kernel
theorem tyJx145de_ok : ∀ k, k < 0 → parseFieldDescriptor (TJx145de k).2.2.1 = some (tyJx145de k) := by decide +kernel
def RJx9f9b0 : String := "java/lang/CharSequence"
def TJx9f9b0 : u_T := fun k => match k with
  | _ => ("", "", "", false)
def tyJx9f9b0 : Nat → FieldType := fun k => match k with
  | _ => .int
abbrev wsJx9f9b00 : List Cond := u_ws RJx9f9b0 TJx9f9b0 0
theorem nmJx9f9b0 : ∀ a, a < 0 → ∀ b, b < 0 → a ≠ b → (TJx9f9b0 a).2.1 ≠ (TJx9f9b0 b).2.1 := by decide +kernel
theorem tyJx9f9b0_ok : ∀ k, k < 0 → parseFieldDescriptor (TJx9f9b0 k).2.2.1 = some (tyJx9f9b0 k) := by decide +kernel
def RJ11 : String := "java/lang/Character"
def TJ11 : u_T := fun k => match k with
  | _ => ("", "", "", false)
def tyJ11 : Nat → FieldType := fun k => match k with
  | _ => .int
abbrev wsJ110 : List Cond := u_ws RJ11 TJ11 0
theorem nmJ11 : ∀ a, a < 0 → ∀ b, b < 0 → a ≠ b → (TJ11 a).2.1 ≠ (TJ11 b).2.1 := by decide +kernel
theorem tyJ11_ok : ∀ k, k < 0 → parseFieldDescriptor (TJ11 k).2.2.1 = some (tyJ11 k) := by decide +kernel
abbrev cJ11_isValidCodePoint_9a6ad : ByteArray := prog_14_method_11_code
def yJ11_isValidCodePoint_9a6ad : MethodName := ⟨RJ11, "isValidCodePoint", "(I)Z"⟩
abbrev cJ11_highSurrogate_5068e : ByteArray := prog_14_method_28_code
def yJ11_highSurrogate_5068e : MethodName := ⟨RJ11, "highSurrogate", "(I)C"⟩
abbrev cJ11_lowSurrogate_5068e : ByteArray := prog_14_method_29_code
def yJ11_lowSurrogate_5068e : MethodName := ⟨RJ11, "lowSurrogate", "(I)C"⟩
def RJxb160c : String := "java/lang/Comparable"
def TJxb160c : u_T := fun k => match k with
  | _ => ("", "", "", false)
def tyJxb160c : Nat → FieldType := fun k => match k with
  | _ => .int
abbrev wsJxb160c0 : List Cond := u_ws RJxb160c TJxb160c 0
theorem nmJxb160c : ∀ a, a < 0 → ∀ b, b < 0 → a ≠ b → (TJxb160c a).2.1 ≠ (TJxb160c b).2.1 := by decide +kernel
theorem tyJxb160c_ok : ∀ k, k < 0 → parseFieldDescriptor (TJxb160c k).2.2.1 = some (tyJxb160c k) := by decide +kernel
def RJ6 : String := "java/lang/Integer"
def TJ6 : u_T := fun k => match k with
  | _ => ("", "", "", false)
def tyJ6 : Nat → FieldType := fun k => match k with
  | _ => .int
abbrev wsJ60 : List Cond := u_ws RJ6 TJ6 0
theorem nmJ6 : ∀ a, a < 0 → ∀ b, b < 0 → a ≠ b → (TJ6 a).2.1 ≠ (TJ6 b).2.1 := by decide +kernel
theorem tyJ6_ok : ∀ k, k < 0 → parseFieldDescriptor (TJ6 k).2.2.1 = some (tyJ6 k) := by decide +kernel
abbrev cJ6_bitCount_0f7a4 : ByteArray := prog_15_method_49_code
def yJ6_bitCount_0f7a4 : MethodName := ⟨RJ6, "bitCount", "(I)I"⟩
def RJ9 : String := "java/lang/Math"
def TJ9 : u_T := fun k => match k with
  | _ => ("", "", "", false)
def tyJ9 : Nat → FieldType := fun k => match k with
  | _ => .int
abbrev wsJ90 : List Cond := u_ws RJ9 TJ9 0
theorem nmJ9 : ∀ a, a < 0 → ∀ b, b < 0 → a ≠ b → (TJ9 a).2.1 ≠ (TJ9 b).2.1 := by decide +kernel
theorem tyJ9_ok : ∀ k, k < 0 → parseFieldDescriptor (TJ9 k).2.2.1 = some (tyJ9 k) := by decide +kernel
abbrev cJ9_max_7cf53 : ByteArray := prog_16_method_65_code
def yJ9_max_7cf53 : MethodName := ⟨RJ9, "max", "(II)I"⟩
abbrev cJ9_min_7cf53 : ByteArray := prog_16_method_69_code
def yJ9_min_7cf53 : MethodName := ⟨RJ9, "min", "(II)I"⟩
def RJ0 : String := "java/lang/String"
def TJ0 : u_T := fun k => match k with
  | _ => ("", "", "", false)
def tyJ0 : Nat → FieldType := fun k => match k with
  | _ => .int
abbrev wsJ00 : List Cond := u_ws RJ0 TJ0 0
theorem nmJ0 : ∀ a, a < 0 → ∀ b, b < 0 → a ≠ b → (TJ0 a).2.1 ≠ (TJ0 b).2.1 := by decide +kernel
theorem tyJ0_ok : ∀ k, k < 0 → parseFieldDescriptor (TJ0 k).2.2.1 = some (tyJ0 k) := by decide +kernel
abbrev cJ0_length_8abf5 : ByteArray := prog_17_method_54_code
def yJ0_length_8abf5 : MethodName := ⟨RJ0, "length", "()I"⟩
abbrev cJ0_indexOf_0f7a4 : ByteArray := prog_17_method_79_code
def yJ0_indexOf_0f7a4 : MethodName := ⟨RJ0, "indexOf", "(I)I"⟩
abbrev cJ0_indexOf_7cf53 : ByteArray := prog_17_method_80_code
def yJ0_indexOf_7cf53 : MethodName := ⟨RJ0, "indexOf", "(II)I"⟩
abbrev cJ0_coder_7d493 : ByteArray := prog_17_method_152_code
def yJ0_coder_7d493 : MethodName := ⟨RJ0, "coder", "()B"⟩
abbrev cJ0_isLatin1_aae02 : ByteArray := prog_17_method_154_code
def yJ0_isLatin1_aae02 : MethodName := ⟨RJ0, "isLatin1", "()Z"⟩
abbrev cJ0_checkBoundsBeginEnd_23922 : ByteArray := prog_17_method_158_code
def yJ0_checkBoundsBeginEnd_23922 : MethodName := ⟨RJ0, "checkBoundsBeginEnd", "(III)V"⟩
def RJ1 : String := "java/lang/StringLatin1"
def TJ1 : u_T := fun k => match k with
  | _ => ("", "", "", false)
def tyJ1 : Nat → FieldType := fun k => match k with
  | _ => .int
abbrev wsJ10 : List Cond := u_ws RJ1 TJ1 0
theorem nmJ1 : ∀ a, a < 0 → ∀ b, b < 0 → a ≠ b → (TJ1 a).2.1 ≠ (TJ1 b).2.1 := by decide +kernel
theorem tyJ1_ok : ∀ k, k < 0 → parseFieldDescriptor (TJ1 k).2.2.1 = some (tyJ1 k) := by decide +kernel
abbrev cJ1_canEncode_9a6ad : ByteArray := prog_18_method_4_code
def yJ1_canEncode_9a6ad : MethodName := ⟨RJ1, "canEncode", "(I)Z"⟩
abbrev cJ1_indexOf_4cfef : ByteArray := prog_18_method_22_code
def yJ1_indexOf_4cfef : MethodName := ⟨RJ1, "indexOf", "([BIII)I"⟩
abbrev cJ1_indexOfChar_4cfef : ByteArray := prog_18_method_23_code
def yJ1_indexOfChar_4cfef : MethodName := ⟨RJ1, "indexOfChar", "([BIII)I"⟩
def RJ2 : String := "java/lang/StringUTF16"
def TJ2 : u_T := fun k => match k with
  | _ => ("", "", "", false)
def tyJ2 : Nat → FieldType := fun k => match k with
  | _ => .int
abbrev wsJ20 : List Cond := u_ws RJ2 TJ2 0
theorem nmJ2 : ∀ a, a < 0 → ∀ b, b < 0 → a ≠ b → (TJ2 a).2.1 ≠ (TJ2 b).2.1 := by decide +kernel
theorem tyJ2_ok : ∀ k, k < 0 → parseFieldDescriptor (TJ2 k).2.2.1 = some (tyJ2 k) := by decide +kernel
abbrev cJ2_getChar_3b067 : ByteArray := prog_19_method_5_code
def yJ2_getChar_3b067 : MethodName := ⟨RJ2, "getChar", "([BI)C"⟩
abbrev cJ2_length_9d52b : ByteArray := prog_19_method_6_code
def yJ2_length_9d52b : MethodName := ⟨RJ2, "length", "([B)I"⟩
abbrev cJ2_indexOf_4cfef : ByteArray := prog_19_method_40_code
def yJ2_indexOf_4cfef : MethodName := ⟨RJ2, "indexOf", "([BIII)I"⟩
abbrev cJ2_indexOfChar_4cfef : ByteArray := prog_19_method_47_code
def yJ2_indexOfChar_4cfef : MethodName := ⟨RJ2, "indexOfChar", "([BIII)I"⟩
abbrev cJ2_indexOfCharUnsafe_4cfef : ByteArray := prog_19_method_48_code
def yJ2_indexOfCharUnsafe_4cfef : MethodName := ⟨RJ2, "indexOfCharUnsafe", "([BIII)I"⟩
abbrev cJ2_indexOfSupplementary_4cfef : ByteArray := prog_19_method_49_code
def yJ2_indexOfSupplementary_4cfef : MethodName := ⟨RJ2, "indexOfSupplementary", "([BIII)I"⟩
abbrev cJ2_checkBoundsBeginEnd_d044e : ByteArray := prog_19_method_93_code
def yJ2_checkBoundsBeginEnd_d044e : MethodName := ⟨RJ2, "checkBoundsBeginEnd", "(II[B)V"⟩
def RJ10 : String := "java/lang/System"
def TJ10 : u_T := fun k => match k with
  | _ => ("", "", "", false)
def tyJ10 : Nat → FieldType := fun k => match k with
  | _ => .int
abbrev wsJ100 : List Cond := u_ws RJ10 TJ10 0
theorem nmJ10 : ∀ a, a < 0 → ∀ b, b < 0 → a ≠ b → (TJ10 a).2.1 ≠ (TJ10 b).2.1 := by decide +kernel
theorem tyJ10_ok : ∀ k, k < 0 → parseFieldDescriptor (TJ10 k).2.2.1 = some (tyJ10 k) := by decide +kernel
def RJxfd54e : String := "java/lang/constant/Constable"
def TJxfd54e : u_T := fun k => match k with
  | _ => ("", "", "", false)
def tyJxfd54e : Nat → FieldType := fun k => match k with
  | _ => .int
abbrev wsJxfd54e0 : List Cond := u_ws RJxfd54e TJxfd54e 0
theorem nmJxfd54e : ∀ a, a < 0 → ∀ b, b < 0 → a ≠ b → (TJxfd54e a).2.1 ≠ (TJxfd54e b).2.1 := by decide +kernel
theorem tyJxfd54e_ok : ∀ k, k < 0 → parseFieldDescriptor (TJxfd54e k).2.2.1 = some (tyJxfd54e k) := by decide +kernel
def RJx3cf43 : String := "java/lang/constant/ConstantDesc"
def TJx3cf43 : u_T := fun k => match k with
  | _ => ("", "", "", false)
def tyJx3cf43 : Nat → FieldType := fun k => match k with
  | _ => .int
abbrev wsJx3cf430 : List Cond := u_ws RJx3cf43 TJx3cf43 0
theorem nmJx3cf43 : ∀ a, a < 0 → ∀ b, b < 0 → a ≠ b → (TJx3cf43 a).2.1 ≠ (TJx3cf43 b).2.1 := by decide +kernel
theorem tyJx3cf43_ok : ∀ k, k < 0 → parseFieldDescriptor (TJx3cf43 k).2.2.1 = some (tyJx3cf43 k) := by decide +kernel
def RJ7 : String := "java/util/Arrays"
def TJ7 : u_T := fun k => match k with
  | _ => ("", "", "", false)
def tyJ7 : Nat → FieldType := fun k => match k with
  | _ => .int
abbrev wsJ70 : List Cond := u_ws RJ7 TJ7 0
theorem nmJ7 : ∀ a, a < 0 → ∀ b, b < 0 → a ≠ b → (TJ7 a).2.1 ≠ (TJ7 b).2.1 := by decide +kernel
theorem tyJ7_ok : ∀ k, k < 0 → parseFieldDescriptor (TJ7 k).2.2.1 = some (tyJ7 k) := by decide +kernel
abbrev cJ7_fill_d0a16 : ByteArray := prog_21_method_101_code
def yJ7_fill_d0a16 : MethodName := ⟨RJ7, "fill", "([JJ)V"⟩
abbrev cJ7_fill_53178 : ByteArray := prog_21_method_103_code
def yJ7_fill_53178 : MethodName := ⟨RJ7, "fill", "([II)V"⟩
def RJ3 : String := "jdk/internal/util/Preconditions"
def TJ3 : u_T := fun k => match k with
  | _ => ("", "", "", false)
def tyJ3 : Nat → FieldType := fun k => match k with
  | _ => .int
abbrev wsJ30 : List Cond := u_ws RJ3 TJ3 0
theorem nmJ3 : ∀ a, a < 0 → ∀ b, b < 0 → a ≠ b → (TJ3 a).2.1 ≠ (TJ3 b).2.1 := by decide +kernel
theorem tyJ3_ok : ∀ k, k < 0 → parseFieldDescriptor (TJ3 k).2.2.1 = some (tyJ3 k) := by decide +kernel
abbrev cJ3_checkFromToIndex_8c36e : ByteArray := prog_22_method_12_code
def yJ3_checkFromToIndex_8c36e : MethodName := ⟨RJ3, "checkFromToIndex", "(IIILjava/util/function/BiFunction;)I"⟩
def RL : String := "ClashRocksLaw"
abbrev cL_law : ByteArray := code
def yL_law : MethodName := ⟨RL, "law", "([I)Z"⟩
abbrev vwCl : List vw_C := [(RX0, TX0, 6), (RX1, TX1, 6), (RX2, TX2, 3), (RX3, TX3, 5), (RX4, TX4, 4), (RX5, TX5, 5), (RX6, TX6, 3), (RX7, TX7, 7), (RX8, TX8, 4), (RX9, TX9, 9), (RX10, TX10, 8), (RX11, TX11, 34)]
