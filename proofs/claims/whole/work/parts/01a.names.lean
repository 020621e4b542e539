/-! ===== BEGIN words of one list among another's, by their places ===== -/
theorem goodIn_r {big : List Cond} (ws : List Cond) (ps : List Nat) (hp : ws = ps.filterMap (fun i => big[i]?)) (h : ws.all goodWord = true) : GoodIn big ws := by
  intro w hw
  have h1 := List.all_eq_true.mp h w hw
  rw [hp] at hw
  obtain ⟨i, -, hi⟩ := List.mem_filterMap.mp hw
  have hm : w ∈ big := by first | exact List.mem_of_getElem? hi | exact List.getElem?_mem hi
  exact ⟨hm, good_of_word h1⟩
theorem goodIn_app {big a b : List Cond} (ha : GoodIn big a) (hb : GoodIn big b) : GoodIn big (a ++ b) := fun w h => (List.mem_append.mp h).elim (ha w) (hb w)
theorem goodIn_ca {big a b : List Cond} {c : Cond} (ha : GoodIn big (c :: a)) (hb : GoodIn big b) : GoodIn big (c :: (a ++ b)) := fun w h => (List.mem_cons.mp h).elim (fun e => ha w (List.mem_cons.mpr (Or.inl e))) (fun h => (List.mem_append.mp h).elim (fun h => ha w (List.mem_cons.mpr (Or.inr h))) (hb w))
theorem goodIn_sub {big ws : List Cond} (hm : ∀ w ∈ ws, w ∈ big) (h : ws.all goodWord = true) : GoodIn big ws := fun w hw => ⟨hm w hw, good_of_word (List.all_eq_true.mp h w hw)⟩
/-! ===== END ===== -/
/-! ===== BEGIN printed: names, fields, word lists, decode rows ===== -/
def RX0 : String := "SluiceTurns$Canals"
def TX0 : u_T := fun k => match k with
  | 0 => ("SluiceTurns$Canals", "size", "I", false)
  | 1 => ("SluiceTurns$Canals", "open", "I", false)
  | 2 => ("SluiceTurns$Canals", "parent", "[I", true)
  | 3 => ("SluiceTurns$Canals", "kind", "[I", true)
  | 4 => ("SluiceTurns$Canals", "width", "[I", true)
  | 5 => ("SluiceTurns$Canals", "seepage", "[I", true)
  | 6 => ("SluiceTurns$Canals", "crew", "[I", true)
  | 7 => ("SluiceTurns$Canals", "came", "[I", true)
  | 8 => ("SluiceTurns$Canals", "seeped", "[I", true)
  | _ => ("SluiceTurns$Canals", "ranOff", "[I", true)
def tyX0 : Nat → FieldType := fun k => match k with
  | 0 => .int
  | 1 => .int
  | 2 => .array .int
  | 3 => .array .int
  | 4 => .array .int
  | 5 => .array .int
  | 6 => .array .int
  | 7 => .array .int
  | 8 => .array .int
  | _ => .array .int
abbrev wsX00 : List Cond := u_ws RX0 TX0 10
theorem nmX0 : ∀ a, a < 10 → ∀ b, b < 10 → a ≠ b → (TX0 a).2.1 ≠ (TX0 b).2.1 := by decide +kernel
theorem tyX0_ok : ∀ k, k < 10 → parseFieldDescriptor (TX0 k).2.2.1 = some (tyX0 k) := by decide +kernel
abbrev cX0_init : ByteArray := prog_2_method_1_code
def yX0_init : MethodName := ⟨RX0, "<init>", "()V"⟩
abbrev cX0_become : ByteArray := prog_2_method_2_code
def yX0_become : MethodName := ⟨RX0, "become", "(LSluiceTurns$Canals;)V"⟩
abbrev cX0_has : ByteArray := prog_2_method_3_code
def yX0_has : MethodName := ⟨RX0, "has", "(I)Z"⟩
abbrev cX0_hasGate : ByteArray := prog_2_method_4_code
def yX0_hasGate : MethodName := ⟨RX0, "hasGate", "(I)Z"⟩
abbrev cX0_allGates : ByteArray := prog_2_method_5_code
def yX0_allGates : MethodName := ⟨RX0, "allGates", "()I"⟩
abbrev cX0_areGates : ByteArray := prog_2_method_6_code
def yX0_areGates : MethodName := ⟨RX0, "areGates", "(I)Z"⟩
abbrev cX0_add : ByteArray := prog_2_method_7_code
def yX0_add : MethodName := ⟨RX0, "add", "(IIII)I"⟩
abbrev cX0_isOpen : ByteArray := prog_2_method_8_code
def yX0_isOpen : MethodName := ⟨RX0, "isOpen", "(I)Z"⟩
abbrev cX0_isTended : ByteArray := prog_2_method_9_code
def yX0_isTended : MethodName := ⟨RX0, "isTended", "(I)Z"⟩
abbrev cX0_canBeOpened : ByteArray := prog_2_method_10_code
def yX0_canBeOpened : MethodName := ⟨RX0, "canBeOpened", "(I)Z"⟩
abbrev cX0_canBeClosed : ByteArray := prog_2_method_11_code
def yX0_canBeClosed : MethodName := ⟨RX0, "canBeClosed", "(I)Z"⟩
abbrev cX0_moveGate : ByteArray := prog_2_method_12_code
def yX0_moveGate : MethodName := ⟨RX0, "flipGate", "(I)I"⟩
abbrev cX0_tended : ByteArray := prog_2_method_13_code
def yX0_tended : MethodName := ⟨RX0, "tended", "()I"⟩
abbrev cX0_gatesOf : ByteArray := prog_2_method_14_code
def yX0_gatesOf : MethodName := ⟨RX0, "gatesOf", "(I)I"⟩
abbrev cX0_below : ByteArray := prog_2_method_15_code
def yX0_below : MethodName := ⟨RX0, "below", "(I)I"⟩
def RX1 : String := "SluiceTurns$Fields"
def TX1 : u_T := fun k => match k with
  | 0 => ("SluiceTurns$Fields", "size", "I", false)
  | 1 => ("SluiceTurns$Fields", "calling", "I", false)
  | 2 => ("SluiceTurns$Fields", "canal", "[I", true)
  | 3 => ("SluiceTurns$Fields", "need", "[I", true)
  | 4 => ("SluiceTurns$Fields", "mouth", "[I", true)
  | 5 => ("SluiceTurns$Fields", "right", "[I", true)
  | 6 => ("SluiceTurns$Fields", "got", "[I", true)
  | 7 => ("SluiceTurns$Fields", "hourOfNeed", "[I", true)
  | _ => ("SluiceTurns$Fields", "byRight", "[I", true)
def tyX1 : Nat → FieldType := fun k => match k with
  | 0 => .int
  | 1 => .int
  | 2 => .array .int
  | 3 => .array .int
  | 4 => .array .int
  | 5 => .array .int
  | 6 => .array .int
  | 7 => .array .int
  | _ => .array .int
abbrev wsX10 : List Cond := u_ws RX1 TX1 9
theorem nmX1 : ∀ a, a < 9 → ∀ b, b < 9 → a ≠ b → (TX1 a).2.1 ≠ (TX1 b).2.1 := by decide +kernel
theorem tyX1_ok : ∀ k, k < 9 → parseFieldDescriptor (TX1 k).2.2.1 = some (tyX1 k) := by decide +kernel
abbrev cX1_init : ByteArray := prog_3_method_1_code
def yX1_init : MethodName := ⟨RX1, "<init>", "()V"⟩
abbrev cX1_become : ByteArray := prog_3_method_2_code
def yX1_become : MethodName := ⟨RX1, "become", "(LSluiceTurns$Fields;)V"⟩
abbrev cX1_has : ByteArray := prog_3_method_3_code
def yX1_has : MethodName := ⟨RX1, "has", "(I)Z"⟩
abbrev cX1_areFields : ByteArray := prog_3_method_4_code
def yX1_areFields : MethodName := ⟨RX1, "areFields", "(I)Z"⟩
abbrev cX1_add : ByteArray := prog_3_method_5_code
def yX1_add : MethodName := ⟨RX1, "add", "(IIII)I"⟩
abbrev cX1_wants : ByteArray := prog_3_method_6_code
def yX1_wants : MethodName := ⟨RX1, "wants", "(I)Z"⟩
abbrev cX1_wanting : ByteArray := prog_3_method_7_code
def yX1_wanting : MethodName := ⟨RX1, "wanting", "()I"⟩
abbrev cX1_calls : ByteArray := prog_3_method_8_code
def yX1_calls : MethodName := ⟨RX1, "calls", "(I)Z"⟩
abbrev cX1_canCall : ByteArray := prog_3_method_9_code
def yX1_canCall : MethodName := ⟨RX1, "canCall", "(I)Z"⟩
abbrev cX1_beginCall : ByteArray := prog_3_method_10_code
def yX1_beginCall : MethodName := ⟨RX1, "beginCall", "(I)I"⟩
abbrev cX1_give : ByteArray := prog_3_method_11_code
def yX1_give : MethodName := ⟨RX1, "give", "(III)I"⟩
def RX2 : String := "SluiceTurns$History"
def TX2 : u_T := fun k => match k with
  | 0 => ("SluiceTurns$History", "size", "I", false)
  | _ => ("SluiceTurns$History", "states", "[LSluiceTurns$Terrace;", true)
def tyX2 : Nat → FieldType := fun k => match k with
  | 0 => .int
  | _ => .array (.object "SluiceTurns$Terrace")
abbrev wsX20 : List Cond := u_ws RX2 TX2 2
theorem nmX2 : ∀ a, a < 2 → ∀ b, b < 2 → a ≠ b → (TX2 a).2.1 ≠ (TX2 b).2.1 := by decide +kernel
theorem tyX2_ok : ∀ k, k < 2 → parseFieldDescriptor (TX2 k).2.2.1 = some (tyX2 k) := by decide +kernel
abbrev cX2_init : ByteArray := prog_4_method_1_code
def yX2_init : MethodName := ⟨RX2, "<init>", "()V"⟩
abbrev cX2_record : ByteArray := prog_4_method_2_code
def yX2_record : MethodName := ⟨RX2, "record", "(LSluiceTurns$Terrace;)V"⟩
abbrev cX2_dropOldest : ByteArray := prog_4_method_3_code
def yX2_dropOldest : MethodName := ⟨RX2, "dropOldest", "()V"⟩
abbrev cX2_restoreLatest : ByteArray := prog_4_method_4_code
def yX2_restoreLatest : MethodName := ⟨RX2, "restoreLatest", "(LSluiceTurns$Terrace;)I"⟩
def RX3 : String := "SluiceTurns$Orders"
def TX3 : u_T := fun k => match k with
  | 0 => ("SluiceTurns$Orders", "length", "I", false)
  | 1 => ("SluiceTurns$Orders", "characters", "[I", true)
  | 2 => ("SluiceTurns$Orders", "start", "I", false)
  | 3 => ("SluiceTurns$Orders", "place", "I", false)
  | 4 => ("SluiceTurns$Orders", "letter", "I", false)
  | 5 => ("SluiceTurns$Orders", "first", "I", false)
  | 6 => ("SluiceTurns$Orders", "second", "I", false)
  | 7 => ("SluiceTurns$Orders", "reason", "I", false)
  | _ => ("SluiceTurns$Orders", "cause", "I", false)
def tyX3 : Nat → FieldType := fun k => match k with
  | 0 => .int
  | 1 => .array .int
  | 2 => .int
  | 3 => .int
  | 4 => .int
  | 5 => .int
  | 6 => .int
  | 7 => .int
  | _ => .int
abbrev wsX30 : List Cond := u_ws RX3 TX3 9
theorem nmX3 : ∀ a, a < 9 → ∀ b, b < 9 → a ≠ b → (TX3 a).2.1 ≠ (TX3 b).2.1 := by decide +kernel
theorem tyX3_ok : ∀ k, k < 9 → parseFieldDescriptor (TX3 k).2.2.1 = some (tyX3 k) := by decide +kernel
abbrev cX3_init : ByteArray := prog_5_method_1_code
def yX3_init : MethodName := ⟨RX3, "<init>", "()V"⟩
abbrev cX3_append : ByteArray := prog_5_method_2_code
def yX3_append : MethodName := ⟨RX3, "append", "(I)I"⟩
abbrev cX3_carryOutAll : ByteArray := prog_5_method_3_code
def yX3_carryOutAll : MethodName := ⟨RX3, "carryOutToFault", "(LSluiceTurns$Terrace;)I"⟩
abbrev cX3_reasonAgainst : ByteArray := prog_5_method_4_code
def yX3_reasonAgainst : MethodName := ⟨RX3, "reasonAgainst", "(LSluiceTurns$Terrace;)I"⟩
abbrev cX3_readOrder : ByteArray := prog_5_method_5_code
def yX3_readOrder : MethodName := ⟨RX3, "readOrder", "()Z"⟩
abbrev cX3_readNumber : ByteArray := prog_5_method_6_code
def yX3_readNumber : MethodName := ⟨RX3, "readNumber", "()I"⟩
abbrev cX3_skip : ByteArray := prog_5_method_7_code
def yX3_skip : MethodName := ⟨RX3, "skip", "(I)Z"⟩
abbrev cX3_characterAt : ByteArray := prog_5_method_8_code
def yX3_characterAt : MethodName := ⟨RX3, "characterAt", "(I)I"⟩
abbrev cX3_isInRange : ByteArray := prog_5_method_9_code
def yX3_isInRange : MethodName := ⟨RX3, "isInRange", "(LSluiceTurns$Terrace;)Z"⟩
abbrev cX3_isPossible : ByteArray := prog_5_method_10_code
def yX3_isPossible : MethodName := ⟨RX3, "isPossible", "(LSluiceTurns$Terrace;)Z"⟩
abbrev cX3_carryOut : ByteArray := prog_5_method_11_code
def yX3_carryOut : MethodName := ⟨RX3, "carryOut", "(LSluiceTurns$Terrace;)I"⟩
def RX4 : String := "SluiceTurns$Terrace"
def TX4 : u_T := fun k => match k with
  | 0 => ("SluiceTurns$Terrace", "canals", "LSluiceTurns$Canals;", true)
  | 1 => ("SluiceTurns$Terrace", "fields", "LSluiceTurns$Fields;", true)
  | 2 => ("SluiceTurns$Terrace", "turns", "LSluiceTurns$Turns;", true)
  | 3 => ("SluiceTurns$Terrace", "hours", "I", false)
  | 4 => ("SluiceTurns$Terrace", "letIn", "I", false)
  | 5 => ("SluiceTurns$Terrace", "got", "I", false)
  | 6 => ("SluiceTurns$Terrace", "seeped", "I", false)
  | 7 => ("SluiceTurns$Terrace", "ranOff", "I", false)
  | 8 => ("SluiceTurns$Terrace", "callAt", "[I", true)
  | 9 => ("SluiceTurns$Terrace", "callBelow", "[I", true)
  | _ => ("SluiceTurns$Terrace", "passing", "I", false)
def tyX4 : Nat → FieldType := fun k => match k with
  | 0 => .object "SluiceTurns$Canals"
  | 1 => .object "SluiceTurns$Fields"
  | 2 => .object "SluiceTurns$Turns"
  | 3 => .int
  | 4 => .int
  | 5 => .int
  | 6 => .int
  | 7 => .int
  | 8 => .array .int
  | 9 => .array .int
  | _ => .int
abbrev wsX40 : List Cond := u_ws RX4 TX4 11
theorem nmX4 : ∀ a, a < 11 → ∀ b, b < 11 → a ≠ b → (TX4 a).2.1 ≠ (TX4 b).2.1 := by decide +kernel
theorem tyX4_ok : ∀ k, k < 11 → parseFieldDescriptor (TX4 k).2.2.1 = some (tyX4 k) := by decide +kernel
abbrev cX4_init : ByteArray := prog_6_method_1_code
def yX4_init : MethodName := ⟨RX4, "<init>", "()V"⟩
abbrev cX4_become : ByteArray := prog_6_method_2_code
def yX4_become : MethodName := ⟨RX4, "become", "(LSluiceTurns$Terrace;)V"⟩
abbrev cX4_hasHoursLeft : ByteArray := prog_6_method_3_code
def yX4_hasHoursLeft : MethodName := ⟨RX4, "hasHoursLeft", "(I)Z"⟩
abbrev cX4_runHours : ByteArray := prog_6_method_4_code
def yX4_runHours : MethodName := ⟨RX4, "runHours", "(II)I"⟩
abbrev cX4_passHour : ByteArray := prog_6_method_5_code
def yX4_passHour : MethodName := ⟨RX4, "passHour", "(I)I"⟩
abbrev cX4_findCallsBelow : ByteArray := prog_6_method_6_code
def yX4_findCallsBelow : MethodName := ⟨RX4, "findCallsBelow", "()V"⟩
abbrev cX4_mayTake : ByteArray := prog_6_method_7_code
def yX4_mayTake : MethodName := ⟨RX4, "mayTake", "(I)Z"⟩
abbrev cX4_findPassingGates : ByteArray := prog_6_method_8_code
def yX4_findPassingGates : MethodName := ⟨RX4, "findPassingGates", "()V"⟩
abbrev cX4_seepAway : ByteArray := prog_6_method_9_code
def yX4_seepAway : MethodName := ⟨RX4, "seepAway", "(II)I"⟩
abbrev cX4_giveToFields : ByteArray := prog_6_method_10_code
def yX4_giveToFields : MethodName := ⟨RX4, "giveToFields", "(II)I"⟩
abbrev cX4_partAmongGates : ByteArray := prog_6_method_11_code
def yX4_partAmongGates : MethodName := ⟨RX4, "partAmongGates", "(II)I"⟩
abbrev cX4_isPassingFrom : ByteArray := prog_6_method_12_code
def yX4_isPassingFrom : MethodName := ⟨RX4, "isPassingFrom", "(II)Z"⟩
abbrev cX4_throughGate : ByteArray := prog_6_method_13_code
def yX4_throughGate : MethodName := ⟨RX4, "throughGate", "(II)I"⟩
abbrev cX4_endCalls : ByteArray := prog_6_method_14_code
def yX4_endCalls : MethodName := ⟨RX4, "endCalls", "()V"⟩
def RX5 : String := "SluiceTurns$Turns"
def TX5 : u_T := fun k => match k with
  | 0 => ("SluiceTurns$Turns", "size", "I", false)
  | 1 => ("SluiceTurns$Turns", "on", "I", false)
  | 2 => ("SluiceTurns$Turns", "gone", "I", false)
  | 3 => ("SluiceTurns$Turns", "gates", "[I", true)
  | _ => ("SluiceTurns$Turns", "hours", "[I", true)
def tyX5 : Nat → FieldType := fun k => match k with
  | 0 => .int
  | 1 => .int
  | 2 => .int
  | 3 => .array .int
  | _ => .array .int
abbrev wsX50 : List Cond := u_ws RX5 TX5 5
theorem nmX5 : ∀ a, a < 5 → ∀ b, b < 5 → a ≠ b → (TX5 a).2.1 ≠ (TX5 b).2.1 := by decide +kernel
theorem tyX5_ok : ∀ k, k < 5 → parseFieldDescriptor (TX5 k).2.2.1 = some (tyX5 k) := by decide +kernel
abbrev cX5_init : ByteArray := prog_7_method_1_code
def yX5_init : MethodName := ⟨RX5, "<init>", "()V"⟩
abbrev cX5_become : ByteArray := prog_7_method_2_code
def yX5_become : MethodName := ⟨RX5, "become", "(LSluiceTurns$Turns;)V"⟩
abbrev cX5_has : ByteArray := prog_7_method_3_code
def yX5_has : MethodName := ⟨RX5, "has", "(I)Z"⟩
abbrev cX5_add : ByteArray := prog_7_method_4_code
def yX5_add : MethodName := ⟨RX5, "add", "(II)I"⟩
abbrev cX5_removeAll : ByteArray := prog_7_method_5_code
def yX5_removeAll : MethodName := ⟨RX5, "removeAll", "()I"⟩
abbrev cX5_beginAgain : ByteArray := prog_7_method_6_code
def yX5_beginAgain : MethodName := ⟨RX5, "beginAgain", "()V"⟩
abbrev cX5_gatesFor : ByteArray := prog_7_method_7_code
def yX5_gatesFor : MethodName := ⟨RX5, "gatesInNextHour", "(I)I"⟩
abbrev cX5_goOn : ByteArray := prog_7_method_8_code
def yX5_goOn : MethodName := ⟨RX5, "goOn", "()V"⟩
def RX6 : String := "SluiceTurns"
def TX6 : u_T := fun k => match k with
  | 0 => ("SluiceTurns", "now", "LSluiceTurns$Terrace;", true)
  | 1 => ("SluiceTurns", "trial", "LSluiceTurns$Terrace;", true)
  | 2 => ("SluiceTurns", "history", "LSluiceTurns$History;", true)
  | _ => ("SluiceTurns", "orders", "LSluiceTurns$Orders;", true)
def tyX6 : Nat → FieldType := fun k => match k with
  | 0 => .object "SluiceTurns$Terrace"
  | 1 => .object "SluiceTurns$Terrace"
  | 2 => .object "SluiceTurns$History"
  | _ => .object "SluiceTurns$Orders"
abbrev wsX60 : List Cond := u_ws RX6 TX6 4
theorem nmX6 : ∀ a, a < 4 → ∀ b, b < 4 → a ≠ b → (TX6 a).2.1 ≠ (TX6 b).2.1 := by decide +kernel
theorem tyX6_ok : ∀ k, k < 4 → parseFieldDescriptor (TX6 k).2.2.1 = some (tyX6 k) := by decide +kernel
abbrev cX6_init : ByteArray := prog_1_method_1_code
def yX6_init : MethodName := ⟨RX6, "<init>", "()V"⟩
abbrev cX6_canal : ByteArray := prog_1_method_2_code
def yX6_canal : MethodName := ⟨RX6, "canal", "(IIII)I"⟩
abbrev cX6_field : ByteArray := prog_1_method_3_code
def yX6_field : MethodName := ⟨RX6, "field", "(IIII)I"⟩
abbrev cX6_tend : ByteArray := prog_1_method_4_code
def yX6_tend : MethodName := ⟨RX6, "tend", "(II)I"⟩
abbrev cX6_leave : ByteArray := prog_1_method_5_code
def yX6_leave : MethodName := ⟨RX6, "leave", "(I)I"⟩
abbrev cX6_open : ByteArray := prog_1_method_6_code
def yX6_open : MethodName := ⟨RX6, "open", "(I)I"⟩
abbrev cX6_close : ByteArray := prog_1_method_7_code
def yX6_close : MethodName := ⟨RX6, "close", "(I)I"⟩
abbrev cX6_call : ByteArray := prog_1_method_8_code
def yX6_call : MethodName := ⟨RX6, "call", "(I)I"⟩
abbrev cX6_turn : ByteArray := prog_1_method_9_code
def yX6_turn : MethodName := ⟨RX6, "turn", "(II)I"⟩
abbrev cX6_noTurns : ByteArray := prog_1_method_10_code
def yX6_noTurns : MethodName := ⟨RX6, "noTurns", "()I"⟩
abbrev cX6_hour : ByteArray := prog_1_method_11_code
def yX6_hour : MethodName := ⟨RX6, "hour", "(I)I"⟩
abbrev cX6_run : ByteArray := prog_1_method_12_code
def yX6_run : MethodName := ⟨RX6, "run", "(II)I"⟩
abbrev cX6_canalOf : ByteArray := prog_1_method_13_code
def yX6_canalOf : MethodName := ⟨RX6, "canalOf", "(II)I"⟩
abbrev cX6_fieldOf : ByteArray := prog_1_method_14_code
def yX6_fieldOf : MethodName := ⟨RX6, "fieldOf", "(II)I"⟩
abbrev cX6_turnOf : ByteArray := prog_1_method_15_code
def yX6_turnOf : MethodName := ⟨RX6, "turnOf", "(II)I"⟩
abbrev cX6_share : ByteArray := prog_1_method_16_code
def yX6_share : MethodName := ⟨RX6, "share", "(I)I"⟩
abbrev cX6_would : ByteArray := prog_1_method_17_code
def yX6_would : MethodName := ⟨RX6, "would", "(III)I"⟩
abbrev cX6_leastGates : ByteArray := prog_1_method_18_code
def yX6_leastGates : MethodName := ⟨RX6, "leastGates", "(III)I"⟩
abbrev cX6_fewestBuckets : ByteArray := prog_1_method_19_code
def yX6_fewestBuckets : MethodName := ⟨RX6, "fewestBuckets", "(I)I"⟩
abbrev cX6_hoursFor : ByteArray := prog_1_method_20_code
def yX6_hoursFor : MethodName := ⟨RX6, "hoursFor", "(I)I"⟩
abbrev cX6_rightAt : ByteArray := prog_1_method_21_code
def yX6_rightAt : MethodName := ⟨RX6, "rightAt", "(I)I"⟩
abbrev cX6_count : ByteArray := prog_1_method_22_code
def yX6_count : MethodName := ⟨RX6, "count", "(I)I"⟩
abbrev cX6_undo : ByteArray := prog_1_method_23_code
def yX6_undo : MethodName := ⟨RX6, "undo", "()I"⟩
abbrev cX6_type : ByteArray := prog_1_method_24_code
def yX6_type : MethodName := ⟨RX6, "type", "(I)I"⟩
abbrev cX6_clearText : ByteArray := prog_1_method_25_code
def yX6_clearText : MethodName := ⟨RX6, "clearText", "()I"⟩
abbrev cX6_fault : ByteArray := prog_1_method_26_code
def yX6_fault : MethodName := ⟨RX6, "fault", "(I)I"⟩
abbrev cX6_play : ByteArray := prog_1_method_27_code
def yX6_play : MethodName := ⟨RX6, "play", "()I"⟩
abbrev cX6_isOutside : ByteArray := prog_1_method_28_code
def yX6_isOutside : MethodName := ⟨RX6, "isOutside", "(III)Z"⟩
abbrev cX6_asNumber : ByteArray := prog_1_method_29_code
def yX6_asNumber : MethodName := ⟨RX6, "asNumber", "(Z)I"⟩
abbrev cX6_tendsKind : ByteArray := prog_1_method_30_code
def yX6_tendsKind : MethodName := ⟨RX6, "tendsKind", "(II)Z"⟩
abbrev cX6_gain : ByteArray := prog_1_method_31_code
def yX6_gain : MethodName := ⟨RX6, "gainOnTrial", "(I)I"⟩
abbrev cX6_wouldServe : ByteArray := prog_1_method_32_code
def yX6_wouldServe : MethodName := ⟨RX6, "wouldServe", "(IIII)Z"⟩
abbrev cX6_floatBits : ByteArray := prog_1_method_33_code
def yX6_floatBits : MethodName := ⟨RX6, "floatBits", "(JJ)I"⟩
def RX7 : String := "SluiceTurnsModel"
def TX7 : u_T := fun k => match k with
  | 0 => ("SluiceTurnsModel", "s", "[I", true)
  | 1 => ("SluiceTurnsModel", "was", "[I", true)
  | 2 => ("SluiceTurnsModel", "begun", "[I", true)
  | 3 => ("SluiceTurnsModel", "aside", "[I", true)
  | 4 => ("SluiceTurnsModel", "states", "I", false)
  | 5 => ("SluiceTurnsModel", "text", "[C", true)
  | 6 => ("SluiceTurnsModel", "typed", "I", false)
  | 7 => ("SluiceTurnsModel", "at", "I", false)
  | 8 => ("SluiceTurnsModel", "number", "[I", true)
  | 9 => ("SluiceTurnsModel", "numbers", "I", false)
  | 10 => ("SluiceTurnsModel", "reason", "I", false)
  | 11 => ("SluiceTurnsModel", "cause", "I", false)
  | _ => ("SluiceTurnsModel", "sum", "I", false)
def tyX7 : Nat → FieldType := fun k => match k with
  | 0 => .array .int
  | 1 => .array .int
  | 2 => .array .int
  | 3 => .array .int
  | 4 => .int
  | 5 => .array .char
  | 6 => .int
  | 7 => .int
  | 8 => .array .int
  | 9 => .int
  | 10 => .int
  | 11 => .int
  | _ => .int
abbrev wsX70 : List Cond := u_ws RX7 TX7 13
theorem nmX7 : ∀ a, a < 13 → ∀ b, b < 13 → a ≠ b → (TX7 a).2.1 ≠ (TX7 b).2.1 := by decide +kernel
theorem tyX7_ok : ∀ k, k < 13 → parseFieldDescriptor (TX7 k).2.2.1 = some (tyX7 k) := by decide +kernel
abbrev cX7_init : ByteArray := prog_9_method_1_code
def yX7_init : MethodName := ⟨RX7, "<init>", "()V"⟩
abbrev cX7_in : ByteArray := prog_9_method_2_code
def yX7_in : MethodName := ⟨RX7, "in", "(III)Z"⟩
abbrev cX7_ca : ByteArray := prog_9_method_3_code
def yX7_ca : MethodName := ⟨RX7, "ca", "(II)I"⟩
abbrev cX7_fi : ByteArray := prog_9_method_4_code
def yX7_fi : MethodName := ⟨RX7, "fi", "(II)I"⟩
abbrev cX7_isCanal : ByteArray := prog_9_method_5_code
def yX7_isCanal : MethodName := ⟨RX7, "isCanal", "(I)Z"⟩
abbrev cX7_isGate : ByteArray := prog_9_method_6_code
def yX7_isGate : MethodName := ⟨RX7, "isGate", "(I)Z"⟩
abbrev cX7_isField : ByteArray := prog_9_method_7_code
def yX7_isField : MethodName := ⟨RX7, "isField", "(I)Z"⟩
abbrev cX7_areGates : ByteArray := prog_9_method_8_code
def yX7_areGates : MethodName := ⟨RX7, "areGates", "(I)Z"⟩
abbrev cX7_wants : ByteArray := prog_9_method_9_code
def yX7_wants : MethodName := ⟨RX7, "wants", "(I)Z"⟩
abbrev cX7_keeps : ByteArray := prog_9_method_10_code
def yX7_keeps : MethodName := ⟨RX7, "keeps", "()V"⟩
abbrev cX7_acted : ByteArray := prog_9_method_11_code
def yX7_acted : MethodName := ⟨RX7, "acted", "(I)I"⟩
abbrev cX7_puts : ByteArray := prog_9_method_12_code
def yX7_puts : MethodName := ⟨RX7, "puts", "()V"⟩
abbrev cX7_restores : ByteArray := prog_9_method_13_code
def yX7_restores : MethodName := ⟨RX7, "restores", "()V"⟩
abbrev cX7_canal : ByteArray := prog_9_method_14_code
def yX7_canal : MethodName := ⟨RX7, "canal", "(IIII)I"⟩
abbrev cX7_field : ByteArray := prog_9_method_15_code
def yX7_field : MethodName := ⟨RX7, "field", "(IIII)I"⟩
abbrev cX7_tended : ByteArray := prog_9_method_16_code
def yX7_tended : MethodName := ⟨RX7, "tended", "(I)I"⟩
abbrev cX7_tend : ByteArray := prog_9_method_17_code
def yX7_tend : MethodName := ⟨RX7, "tend", "(II)I"⟩
abbrev cX7_leave : ByteArray := prog_9_method_18_code
def yX7_leave : MethodName := ⟨RX7, "leave", "(I)I"⟩
abbrev cX7_openOnes : ByteArray := prog_9_method_19_code
def yX7_openOnes : MethodName := ⟨RX7, "openOnes", "()I"⟩
abbrev cX7_sets : ByteArray := prog_9_method_20_code
def yX7_sets : MethodName := ⟨RX7, "sets", "(I)V"⟩
abbrev cX7_moves : ByteArray := prog_9_method_21_code
def yX7_moves : MethodName := ⟨RX7, "moves", "(II)I"⟩
abbrev cX7_open : ByteArray := prog_9_method_22_code
def yX7_open : MethodName := ⟨RX7, "open", "(I)I"⟩
abbrev cX7_close : ByteArray := prog_9_method_23_code
def yX7_close : MethodName := ⟨RX7, "close", "(I)I"⟩
abbrev cX7_calling : ByteArray := prog_9_method_24_code
def yX7_calling : MethodName := ⟨RX7, "calling", "()I"⟩
abbrev cX7_ones : ByteArray := prog_9_method_25_code
def yX7_ones : MethodName := ⟨RX7, "ones", "(I)I"⟩
abbrev cX7_calls : ByteArray := prog_9_method_26_code
def yX7_calls : MethodName := ⟨RX7, "calls", "(I)I"⟩
abbrev cX7_call : ByteArray := prog_9_method_27_code
def yX7_call : MethodName := ⟨RX7, "call", "(I)I"⟩
abbrev cX7_turn : ByteArray := prog_9_method_28_code
def yX7_turn : MethodName := ⟨RX7, "turn", "(II)I"⟩
abbrev cX7_noTurns : ByteArray := prog_9_method_29_code
def yX7_noTurns : MethodName := ⟨RX7, "noTurns", "()I"⟩
abbrev cX7_isBelow : ByteArray := prog_9_method_30_code
def yX7_isBelow : MethodName := ⟨RX7, "isBelow", "(IIZ)Z"⟩
abbrev cX7_mayTake : ByteArray := prog_9_method_31_code
def yX7_mayTake : MethodName := ⟨RX7, "mayTake", "(I)Z"⟩
abbrev cX7_isWanted : ByteArray := prog_9_method_32_code
def yX7_isWanted : MethodName := ⟨RX7, "isWanted", "(I)Z"⟩
abbrev cX7_next : ByteArray := prog_9_method_33_code
def yX7_next : MethodName := ⟨RX7, "next", "(I)I"⟩
abbrev cX7_serves : ByteArray := prog_9_method_34_code
def yX7_serves : MethodName := ⟨RX7, "serves", "(II)I"⟩
abbrev cX7_lets : ByteArray := prog_9_method_35_code
def yX7_lets : MethodName := ⟨RX7, "lets", "(II)Z"⟩
abbrev cX7_parts : ByteArray := prog_9_method_36_code
def yX7_parts : MethodName := ⟨RX7, "parts", "(II)I"⟩
abbrev cX7_flows : ByteArray := prog_9_method_37_code
def yX7_flows : MethodName := ⟨RX7, "flows", "(I)I"⟩
abbrev cX7_goes : ByteArray := prog_9_method_38_code
def yX7_goes : MethodName := ⟨RX7, "goes", "(I)I"⟩
abbrev cX7_hour : ByteArray := prog_9_method_39_code
def yX7_hour : MethodName := ⟨RX7, "hour", "(I)I"⟩
abbrev cX7_runsOne : ByteArray := prog_9_method_40_code
def yX7_runsOne : MethodName := ⟨RX7, "runsOne", "(I)I"⟩
abbrev cX7_runs : ByteArray := prog_9_method_41_code
def yX7_runs : MethodName := ⟨RX7, "runs", "(III)I"⟩
abbrev cX7_run : ByteArray := prog_9_method_42_code
def yX7_run : MethodName := ⟨RX7, "run", "(II)I"⟩
abbrev cX7_below : ByteArray := prog_9_method_43_code
def yX7_below : MethodName := ⟨RX7, "below", "(I)I"⟩
abbrev cX7_canalOf : ByteArray := prog_9_method_44_code
def yX7_canalOf : MethodName := ⟨RX7, "canalOf", "(II)I"⟩
abbrev cX7_fieldOf : ByteArray := prog_9_method_45_code
def yX7_fieldOf : MethodName := ⟨RX7, "fieldOf", "(II)I"⟩
abbrev cX7_turnOf : ByteArray := prog_9_method_46_code
def yX7_turnOf : MethodName := ⟨RX7, "turnOf", "(II)I"⟩
abbrev cX7_share : ByteArray := prog_9_method_47_code
def yX7_share : MethodName := ⟨RX7, "share", "(I)I"⟩
abbrev cX7_would : ByteArray := prog_9_method_48_code
def yX7_would : MethodName := ⟨RX7, "would", "(III)I"⟩
abbrev cX7_haveGot : ByteArray := prog_9_method_49_code
def yX7_haveGot : MethodName := ⟨RX7, "haveGot", "(I)Z"⟩
abbrev cX7_leastGates : ByteArray := prog_9_method_50_code
def yX7_leastGates : MethodName := ⟨RX7, "leastGates", "(III)I"⟩
abbrev cX7_fewestBuckets : ByteArray := prog_9_method_51_code
def yX7_fewestBuckets : MethodName := ⟨RX7, "fewestBuckets", "(I)I"⟩
abbrev cX7_hoursFor : ByteArray := prog_9_method_52_code
def yX7_hoursFor : MethodName := ⟨RX7, "hoursFor", "(I)I"⟩
abbrev cX7_rightAt : ByteArray := prog_9_method_53_code
def yX7_rightAt : MethodName := ⟨RX7, "rightAt", "(I)I"⟩
abbrev cX7_tendedOnes : ByteArray := prog_9_method_54_code
def yX7_tendedOnes : MethodName := ⟨RX7, "tendedOnes", "()I"⟩
abbrev cX7_wanting : ByteArray := prog_9_method_55_code
def yX7_wanting : MethodName := ⟨RX7, "wanting", "()I"⟩
abbrev cX7_count : ByteArray := prog_9_method_56_code
def yX7_count : MethodName := ⟨RX7, "count", "(I)I"⟩
abbrev cX7_undo : ByteArray := prog_9_method_57_code
def yX7_undo : MethodName := ⟨RX7, "undo", "()I"⟩
abbrev cX7_type : ByteArray := prog_9_method_58_code
def yX7_type : MethodName := ⟨RX7, "type", "(I)I"⟩
abbrev cX7_clearText : ByteArray := prog_9_method_59_code
def yX7_clearText : MethodName := ⟨RX7, "clearText", "()I"⟩
abbrev cX7_sign : ByteArray := prog_9_method_60_code
def yX7_sign : MethodName := ⟨RX7, "sign", "()I"⟩
abbrev cX7_readsNumber : ByteArray := prog_9_method_61_code
def yX7_readsNumber : MethodName := ⟨RX7, "readsNumber", "()Z"⟩
abbrev cX7_readsForm : ByteArray := prog_9_method_62_code
def yX7_readsForm : MethodName := ⟨RX7, "readsForm", "()Z"⟩
abbrev cX7_isInRange : ByteArray := prog_9_method_63_code
def yX7_isInRange : MethodName := ⟨RX7, "isInRange", "(I)Z"⟩
abbrev cX7_does : ByteArray := prog_9_method_64_code
def yX7_does : MethodName := ⟨RX7, "does", "(I)I"⟩
abbrev cX7_doesNext : ByteArray := prog_9_method_65_code
def yX7_doesNext : MethodName := ⟨RX7, "doesNext", "()I"⟩
abbrev cX7_faulty : ByteArray := prog_9_method_66_code
def yX7_faulty : MethodName := ⟨RX7, "faulty", "()I"⟩
abbrev cX7_fault : ByteArray := prog_9_method_67_code
def yX7_fault : MethodName := ⟨RX7, "fault", "(I)I"⟩
abbrev cX7_play : ByteArray := prog_9_method_68_code
def yX7_play : MethodName := ⟨RX7, "play", "()I"⟩
def RJx145de : String := "java/io/Serializable"
def TJx145de : u_T := fun k => match k with
  | _ => ("", "", "", false)
def tyJx145de : Nat → FieldType := fun k => match k with
  | _ => .int
abbrev wsJx145de0 : List Cond := u_ws RJx145de TJx145de 0
theorem nmJx145de : ∀ a, a < 0 → ∀ b, b < 0 → a ≠ b → (TJx145de a).2.1 ≠ (TJx145de b).2.1 := by decide +kernel
theorem tyJx145de_ok : ∀ k, k < 0 → parseFieldDescriptor (TJx145de k).2.2.1 = some (tyJx145de k) := by decide +kernel
def RJxb160c : String := "java/lang/Comparable"
def TJxb160c : u_T := fun k => match k with
  | _ => ("", "", "", false)
def tyJxb160c : Nat → FieldType := fun k => match k with
  | _ => .int
abbrev wsJxb160c0 : List Cond := u_ws RJxb160c TJxb160c 0
theorem nmJxb160c : ∀ a, a < 0 → ∀ b, b < 0 → a ≠ b → (TJxb160c a).2.1 ≠ (TJxb160c b).2.1 := by decide +kernel
theorem tyJxb160c_ok : ∀ k, k < 0 → parseFieldDescriptor (TJxb160c k).2.2.1 = some (tyJxb160c k) := by decide +kernel
def RJxf58ca : String := "java/lang/Float"
def TJxf58ca : u_T := fun k => match k with
  | _ => ("", "", "", false)
def tyJxf58ca : Nat → FieldType := fun k => match k with
  | _ => .int
abbrev wsJxf58ca0 : List Cond := u_ws RJxf58ca TJxf58ca 0
theorem nmJxf58ca : ∀ a, a < 0 → ∀ b, b < 0 → a ≠ b → (TJxf58ca a).2.1 ≠ (TJxf58ca b).2.1 := by decide +kernel
theorem tyJxf58ca_ok : ∀ k, k < 0 → parseFieldDescriptor (TJxf58ca k).2.2.1 = some (tyJxf58ca k) := by decide +kernel
abbrev cJxf58ca_isNaN_12338 : ByteArray := prog_10_method_6_code
def yJxf58ca_isNaN_12338 : MethodName := ⟨RJxf58ca, "isNaN", "(F)Z"⟩
abbrev cJxf58ca_floatToIntBits_5c35a : ByteArray := prog_10_method_24_code
def yJxf58ca_floatToIntBits_5c35a : MethodName := ⟨RJxf58ca, "floatToIntBits", "(F)I"⟩
def RJ6 : String := "java/lang/Integer"
def TJ6 : u_T := fun k => match k with
  | _ => ("", "", "", false)
def tyJ6 : Nat → FieldType := fun k => match k with
  | _ => .int
abbrev wsJ60 : List Cond := u_ws RJ6 TJ6 0
theorem nmJ6 : ∀ a, a < 0 → ∀ b, b < 0 → a ≠ b → (TJ6 a).2.1 ≠ (TJ6 b).2.1 := by decide +kernel
theorem tyJ6_ok : ∀ k, k < 0 → parseFieldDescriptor (TJ6 k).2.2.1 = some (tyJ6 k) := by decide +kernel
abbrev cJ6_bitCount_0f7a4 : ByteArray := prog_11_method_49_code
def yJ6_bitCount_0f7a4 : MethodName := ⟨RJ6, "bitCount", "(I)I"⟩
def RJ9 : String := "java/lang/Math"
def TJ9 : u_T := fun k => match k with
  | _ => ("", "", "", false)
def tyJ9 : Nat → FieldType := fun k => match k with
  | _ => .int
abbrev wsJ90 : List Cond := u_ws RJ9 TJ9 0
theorem nmJ9 : ∀ a, a < 0 → ∀ b, b < 0 → a ≠ b → (TJ9 a).2.1 ≠ (TJ9 b).2.1 := by decide +kernel
theorem tyJ9_ok : ∀ k, k < 0 → parseFieldDescriptor (TJ9 k).2.2.1 = some (tyJ9 k) := by decide +kernel
abbrev cJ9_max_7cf53 : ByteArray := prog_12_method_65_code
def yJ9_max_7cf53 : MethodName := ⟨RJ9, "max", "(II)I"⟩
abbrev cJ9_min_7cf53 : ByteArray := prog_12_method_69_code
def yJ9_min_7cf53 : MethodName := ⟨RJ9, "min", "(II)I"⟩
def RJxd2413 : String := "java/lang/Number"
def TJxd2413 : u_T := fun k => match k with
  | _ => ("", "", "", false)
def tyJxd2413 : Nat → FieldType := fun k => match k with
  | _ => .int
abbrev wsJxd24130 : List Cond := u_ws RJxd2413 TJxd2413 0
theorem nmJxd2413 : ∀ a, a < 0 → ∀ b, b < 0 → a ≠ b → (TJxd2413 a).2.1 ≠ (TJxd2413 b).2.1 := by decide +kernel
theorem tyJxd2413_ok : ∀ k, k < 0 → parseFieldDescriptor (TJxd2413 k).2.2.1 = some (tyJxd2413 k) := by decide +kernel
def RJ10 : String := "java/lang/System"
def TJ10 : u_T := fun k => match k with
  | _ => ("", "", "", false)
def tyJ10 : Nat → FieldType := fun k => match k with
  | _ => .int
abbrev wsJ100 : List Cond := u_ws RJ10 TJ10 0
theorem nmJ10 : ∀ a, a < 0 → ∀ b, b < 0 → a ≠ b → (TJ10 a).2.1 ≠ (TJ10 b).2.1 := by decide +kernel
theorem tyJ10_ok : ∀ k, k < 0 → parseFieldDescriptor (TJ10 k).2.2.1 = some (tyJ10 k) := by decide +kernel
def RJxfd54e : String := "java/lang/constant/Constable"
def TJxfd54e : u_T := fun k => match k with
  | _ => ("", "", "", false)
def tyJxfd54e : Nat → FieldType := fun k => match k with
  | _ => .int
abbrev wsJxfd54e0 : List Cond := u_ws RJxfd54e TJxfd54e 0
theorem nmJxfd54e : ∀ a, a < 0 → ∀ b, b < 0 → a ≠ b → (TJxfd54e a).2.1 ≠ (TJxfd54e b).2.1 := by decide +kernel
theorem tyJxfd54e_ok : ∀ k, k < 0 → parseFieldDescriptor (TJxfd54e k).2.2.1 = some (tyJxfd54e k) := by decide +kernel
def RJx3cf43 : String := "java/lang/constant/ConstantDesc"
def TJx3cf43 : u_T := fun k => match k with
  | _ => ("", "", "", false)
def tyJx3cf43 : Nat → FieldType := fun k => match k with
  | _ => .int
abbrev wsJx3cf430 : List Cond := u_ws RJx3cf43 TJx3cf43 0
theorem nmJx3cf43 : ∀ a, a < 0 → ∀ b, b < 0 → a ≠ b → (TJx3cf43 a).2.1 ≠ (TJx3cf43 b).2.1 := by decide +kernel
theorem tyJx3cf43_ok : ∀ k, k < 0 → parseFieldDescriptor (TJx3cf43 k).2.2.1 = some (tyJx3cf43 k) := by decide +kernel
def RJ7 : String := "java/util/Arrays"
def TJ7 : u_T := fun k => match k with
  | _ => ("", "", "", false)
def tyJ7 : Nat → FieldType := fun k => match k with
  | _ => .int
abbrev wsJ70 : List Cond := u_ws RJ7 TJ7 0
theorem nmJ7 : ∀ a, a < 0 → ∀ b, b < 0 → a ≠ b → (TJ7 a).2.1 ≠ (TJ7 b).2.1 := by decide +kernel
theorem tyJ7_ok : ∀ k, k < 0 → parseFieldDescriptor (TJ7 k).2.2.1 = some (tyJ7 k) := by decide +kernel
abbrev cJ7_fill_53178 : ByteArray := prog_15_method_103_code
def yJ7_fill_53178 : MethodName := ⟨RJ7, "fill", "([II)V"⟩
def RL : String := "SluiceTurnsLaw"
abbrev cL_law : ByteArray := code
def yL_law : MethodName := ⟨RL, "law", "([I)Z"⟩
def wsL_law_r1 : List Cond := [Cond.classLink RL 7 RX6, Cond.instantiable RX6 4, Cond.initialized RX6, Cond.classLink RL 10 RX7, Cond.instantiable RX7 13, Cond.initialized RX7, Cond.methodLink RL 9 yX6_init, Cond.instanceMethod yX6_init, Cond.code yX6_init cX6_init 1 none, Cond.methodLink RX6 3 objectInit, Cond.instanceMethod objectInit, Cond.code objectInit ⟨#[0xb1]⟩ 1 none, Cond.classLink RX6 9 RX4, Cond.instantiable RX4 11, Cond.initialized RX4, Cond.fieldLink RX6 12 "SluiceTurns" "now" "LSluiceTurns$Terrace;", Cond.fieldLink RX6 16 "SluiceTurns" "trial" "LSluiceTurns$Terrace;", Cond.classLink RX6 19 RX2, Cond.instantiable RX2 2, Cond.initialized RX2, Cond.fieldLink RX6 22 "SluiceTurns" "history" "LSluiceTurns$History;", Cond.classLink RX6 26 RX3, Cond.instantiable RX3 9, Cond.initialized RX3]
def wsL_law_r2 : List Cond := [Cond.fieldLink RX6 29 "SluiceTurns" "orders" "LSluiceTurns$Orders;", Cond.instanceMethod yX4_init, Cond.code yX4_init cX4_init 1 none, Cond.methodLink RX4 3 objectInit, Cond.classLink RX4 9 RX0, Cond.instantiable RX0 10, Cond.initialized RX0, Cond.fieldLink RX4 12 "SluiceTurns$Terrace" "canals" "LSluiceTurns$Canals;", Cond.classLink RX4 18 RX1, Cond.instantiable RX1 9, Cond.initialized RX1, Cond.fieldLink RX4 21 "SluiceTurns$Terrace" "fields" "LSluiceTurns$Fields;", Cond.classLink RX4 25 RX5, Cond.instantiable RX5 5, Cond.initialized RX5, Cond.fieldLink RX4 28 "SluiceTurns$Terrace" "turns" "LSluiceTurns$Turns;", Cond.arrayClass .int, Cond.fieldLink RX4 32 "SluiceTurns$Terrace" "callAt" "[I", Cond.fieldLink RX4 36 "SluiceTurns$Terrace" "callBelow" "[I", Cond.methodLink RX4 11 yX0_init, Cond.instanceMethod yX0_init, Cond.code yX0_init cX0_init 2 none, Cond.methodLink RX0 3 objectInit, Cond.fieldLink RX0 9 "SluiceTurns$Canals" "size" "I"]
def wsL_law_r3 : List Cond := [Cond.fieldLink RX0 15 "SluiceTurns$Canals" "parent" "[I", Cond.fieldLink RX0 19 "SluiceTurns$Canals" "kind" "[I", Cond.fieldLink RX0 22 "SluiceTurns$Canals" "width" "[I", Cond.fieldLink RX0 25 "SluiceTurns$Canals" "seepage" "[I", Cond.fieldLink RX0 28 "SluiceTurns$Canals" "crew" "[I", Cond.fieldLink RX0 31 "SluiceTurns$Canals" "came" "[I", Cond.fieldLink RX0 34 "SluiceTurns$Canals" "seeped" "[I", Cond.fieldLink RX0 37 "SluiceTurns$Canals" "ranOff" "[I", Cond.instanceMethod yX1_init, Cond.code yX1_init cX1_init 1 none, Cond.methodLink RX1 3 objectInit, Cond.fieldLink RX1 9 "SluiceTurns$Fields" "canal" "[I", Cond.fieldLink RX1 15 "SluiceTurns$Fields" "need" "[I", Cond.fieldLink RX1 18 "SluiceTurns$Fields" "mouth" "[I", Cond.fieldLink RX1 21 "SluiceTurns$Fields" "right" "[I", Cond.fieldLink RX1 24 "SluiceTurns$Fields" "got" "[I", Cond.fieldLink RX1 27 "SluiceTurns$Fields" "hourOfNeed" "[I", Cond.fieldLink RX1 30 "SluiceTurns$Fields" "byRight" "[I", Cond.instanceMethod yX5_init, Cond.code yX5_init cX5_init 1 none, Cond.methodLink RX5 3 objectInit, Cond.fieldLink RX5 9 "SluiceTurns$Turns" "gates" "[I", Cond.fieldLink RX5 15 "SluiceTurns$Turns" "hours" "[I", Cond.methodLink RX6 21 yX2_init]
def wsL_law_r4 : List Cond := [Cond.instanceMethod yX2_init, Cond.code yX2_init cX2_init 2 none, Cond.methodLink RX2 3 objectInit, Cond.classLink RX2 9 RX4, Cond.fieldLink RX2 11 "SluiceTurns$History" "states" "[LSluiceTurns$Terrace;", Cond.instanceMethod yX3_init, Cond.code yX3_init cX3_init 1 none, Cond.methodLink RX3 3 objectInit, Cond.fieldLink RX3 9 "SluiceTurns$Orders" "characters" "[I", Cond.methodLink RL 12 yX7_init, Cond.instanceMethod yX7_init, Cond.code yX7_init cX7_init 1 none, Cond.methodLink RX7 1 objectInit, Cond.fieldLink RX7 7 "SluiceTurnsModel" "s" "[I", Cond.fieldLink RX7 13 "SluiceTurnsModel" "was" "[I", Cond.fieldLink RX7 16 "SluiceTurnsModel" "begun" "[I", Cond.fieldLink RX7 19 "SluiceTurnsModel" "aside" "[I", Cond.arrayClass .char, Cond.fieldLink RX7 22 "SluiceTurnsModel" "text" "[C", Cond.fieldLink RX7 26 "SluiceTurnsModel" "number" "[I", Cond.methodLink RL 13 yX6_canal, Cond.instanceMethod yX6_canal, Cond.selects RX6 yX6_canal yX6_canal, Cond.code yX6_canal cX6_canal 5 (some .int)]
def wsL_law_r5 : List Cond := [Cond.fieldLink RX6 33 "SluiceTurns$Terrace" "canals" "LSluiceTurns$Canals;", Cond.constant RX6 47 (-1000001), Cond.fieldLink RX6 48 "SluiceTurns$Canals" "size" "I", Cond.constant RX6 52 (-1000003), Cond.methodLink RX6 37 yX0_has, Cond.instanceMethod yX0_has, Cond.selects RX0 yX0_has yX0_has, Cond.code yX0_has cX0_has 2 (some .boolean), Cond.methodLink RX6 43 yX6_isOutside, Cond.static yX6_isOutside, Cond.code yX6_isOutside cX6_isOutside 3 (some .boolean), Cond.methodLink RX6 53 yX2_record, Cond.instanceMethod yX2_record, Cond.selects RX2 yX2_record yX2_record, Cond.code yX2_record cX2_record 2 none, Cond.fieldLink RX2 18 "SluiceTurns$History" "size" "I", Cond.methodLink RX2 22 yX2_dropOldest, Cond.instanceMethod yX2_dropOldest, Cond.selects RX2 yX2_dropOldest yX2_dropOldest, Cond.code yX2_dropOldest cX2_dropOldest 3 none, Cond.methodLink RX2 25 yX4_become, Cond.instanceMethod yX4_become, Cond.selects RX4 yX4_become yX4_become, Cond.code yX4_become cX4_become 2 none]
def wsL_law_r6 : List Cond := [Cond.fieldLink RX4 49 "SluiceTurns$Terrace" "hours" "I", Cond.fieldLink RX4 53 "SluiceTurns$Terrace" "letIn" "I", Cond.fieldLink RX4 56 "SluiceTurns$Terrace" "got" "I", Cond.fieldLink RX4 59 "SluiceTurns$Terrace" "seeped" "I", Cond.fieldLink RX4 62 "SluiceTurns$Terrace" "ranOff" "I", Cond.methodLink RX4 39 yX0_become, Cond.instanceMethod yX0_become, Cond.selects RX0 yX0_become yX0_become, Cond.code yX0_become cX0_become 2 none, Cond.fieldLink RX0 40 "SluiceTurns$Canals" "open" "I", Cond.methodLink RX0 43 arraycopyName, Cond.native arraycopyName, Cond.static arraycopyName, Cond.initialized "java/lang/System", Cond.methodLink RX4 43 yX1_become, Cond.instanceMethod yX1_become, Cond.selects RX1 yX1_become yX1_become, Cond.code yX1_become cX1_become 2 none, Cond.fieldLink RX1 33 "SluiceTurns$Fields" "size" "I", Cond.fieldLink RX1 37 "SluiceTurns$Fields" "calling" "I", Cond.methodLink RX1 40 arraycopyName, Cond.methodLink RX4 46 yX5_become, Cond.instanceMethod yX5_become, Cond.selects RX5 yX5_become yX5_become]
def wsL_law_r7 : List Cond := [Cond.code yX5_become cX5_become 2 none, Cond.fieldLink RX5 18 "SluiceTurns$Turns" "size" "I", Cond.fieldLink RX5 22 "SluiceTurns$Turns" "on" "I", Cond.fieldLink RX5 25 "SluiceTurns$Turns" "gone" "I", Cond.methodLink RX5 28 arraycopyName, Cond.methodLink RX6 57 yX0_add, Cond.instanceMethod yX0_add, Cond.selects RX0 yX0_add yX0_add, Cond.code yX0_add cX0_add 6 (some .int), Cond.methodLink RL 17 yX7_canal, Cond.instanceMethod yX7_canal, Cond.selects RX7 yX7_canal yX7_canal, Cond.code yX7_canal cX7_canal 7 (some .int), Cond.constant RX7 37 (-1000001), Cond.constant RX7 46 (-1000003), Cond.methodLink RX7 42 yX7_isCanal, Cond.instanceMethod yX7_isCanal, Cond.selects RX7 yX7_isCanal yX7_isCanal, Cond.code yX7_isCanal cX7_isCanal 2 (some .boolean), Cond.methodLink RX7 29 yX7_in, Cond.static yX7_in, Cond.code yX7_in cX7_in 3 (some .boolean), Cond.methodLink RX7 47 yX7_keeps, Cond.instanceMethod yX7_keeps]
def wsL_law_r8 : List Cond := [Cond.selects RX7 yX7_keeps yX7_keeps, Cond.code yX7_keeps cX7_keeps 2 none, Cond.methodLink RX7 50 yX7_acted, Cond.instanceMethod yX7_acted, Cond.selects RX7 yX7_acted yX7_acted, Cond.code yX7_acted cX7_acted 3 (some .int), Cond.fieldLink RX7 38 "SluiceTurnsModel" "states" "I", Cond.methodLink RL 18 yX6_field, Cond.instanceMethod yX6_field, Cond.selects RX6 yX6_field yX6_field, Cond.code yX6_field cX6_field 5 (some .int), Cond.fieldLink RX6 61 "SluiceTurns$Terrace" "fields" "LSluiceTurns$Fields;", Cond.fieldLink RX6 65 "SluiceTurns$Fields" "size" "I", Cond.methodLink RX6 68 yX1_add, Cond.instanceMethod yX1_add, Cond.selects RX1 yX1_add yX1_add, Cond.code yX1_add cX1_add 7 (some .int), Cond.methodLink RL 21 yX7_field, Cond.instanceMethod yX7_field, Cond.selects RX7 yX7_field yX7_field, Cond.code yX7_field cX7_field 7 (some .int), Cond.methodLink RL 22 yX6_tend, Cond.instanceMethod yX6_tend, Cond.selects RX6 yX6_tend yX6_tend]
def wsL_law_r9 : List Cond := [Cond.code yX6_tend cX6_tend 3 (some .int), Cond.fieldLink RX6 75 "SluiceTurns$Canals" "kind" "[I", Cond.constant RX6 83 (-1000002), Cond.fieldLink RX6 88 "SluiceTurns$Canals" "crew" "[I", Cond.methodLink RX6 69 yX0_hasGate, Cond.instanceMethod yX0_hasGate, Cond.selects RX0 yX0_hasGate yX0_hasGate, Cond.code yX0_hasGate cX0_hasGate 2 (some .boolean), Cond.methodLink RX6 72 yX0_isTended, Cond.instanceMethod yX0_isTended, Cond.selects RX0 yX0_isTended yX0_isTended, Cond.code yX0_isTended cX0_isTended 2 (some .boolean), Cond.methodLink RX6 79 yX6_tendsKind, Cond.static yX6_tendsKind, Cond.code yX6_tendsKind cX6_tendsKind 2 (some .boolean), Cond.methodLink RX6 84 yX0_gatesOf, Cond.instanceMethod yX0_gatesOf, Cond.selects RX0 yX0_gatesOf yX0_gatesOf, Cond.code yX0_gatesOf cX0_gatesOf 4 (some .int), Cond.methodLink RL 26 yX7_tend, Cond.instanceMethod yX7_tend, Cond.selects RX7 yX7_tend yX7_tend, Cond.code yX7_tend cX7_tend 3 (some .int), Cond.constant RX7 60 (-1000002)]
def wsL_law_r10 : List Cond := [Cond.methodLink RX7 57 yX7_isGate, Cond.instanceMethod yX7_isGate, Cond.selects RX7 yX7_isGate yX7_isGate, Cond.code yX7_isGate cX7_isGate 2 (some .boolean), Cond.methodLink RX7 54 yX7_ca, Cond.instanceMethod yX7_ca, Cond.selects RX7 yX7_ca yX7_ca, Cond.code yX7_ca cX7_ca 3 (some .int), Cond.methodLink RX7 61 yX7_tended, Cond.instanceMethod yX7_tended, Cond.selects RX7 yX7_tended yX7_tended, Cond.code yX7_tended cX7_tended 4 (some .int), Cond.methodLink RL 27 yX6_leave, Cond.instanceMethod yX6_leave, Cond.selects RX6 yX6_leave yX6_leave, Cond.code yX6_leave cX6_leave 3 (some .int), Cond.methodLink RL 31 yX7_leave, Cond.instanceMethod yX7_leave, Cond.selects RX7 yX7_leave yX7_leave, Cond.code yX7_leave cX7_leave 3 (some .int), Cond.methodLink RL 32 yX6_open, Cond.instanceMethod yX6_open, Cond.selects RX6 yX6_open yX6_open, Cond.code yX6_open cX6_open 2 (some .int)]
def wsL_law_r11 : List Cond := [Cond.methodLink RX6 91 yX0_canBeOpened, Cond.instanceMethod yX0_canBeOpened, Cond.selects RX0 yX0_canBeOpened yX0_canBeOpened, Cond.code yX0_canBeOpened cX0_canBeOpened 2 (some .boolean), Cond.methodLink RX0 53 yX0_isTended, Cond.methodLink RX0 57 yX0_isOpen, Cond.instanceMethod yX0_isOpen, Cond.selects RX0 yX0_isOpen yX0_isOpen, Cond.code yX0_isOpen cX0_isOpen 2 (some .boolean), Cond.methodLink RX6 94 yX0_moveGate, Cond.instanceMethod yX0_moveGate, Cond.selects RX0 yX0_moveGate yX0_moveGate, Cond.code yX0_moveGate cX0_moveGate 2 (some .int), Cond.methodLink RL 35 yX7_open, Cond.instanceMethod yX7_open, Cond.selects RX7 yX7_open yX7_open, Cond.code yX7_open cX7_open 2 (some .int), Cond.methodLink RX7 68 yX7_moves, Cond.instanceMethod yX7_moves, Cond.selects RX7 yX7_moves yX7_moves, Cond.code yX7_moves cX7_moves 3 (some .int), Cond.methodLink RX7 64 yX7_openOnes, Cond.instanceMethod yX7_openOnes, Cond.selects RX7 yX7_openOnes yX7_openOnes]
def wsL_law_r12 : List Cond := [Cond.code yX7_openOnes cX7_openOnes 3 (some .int), Cond.methodLink RL 36 yX6_close, Cond.instanceMethod yX6_close, Cond.selects RX6 yX6_close yX6_close, Cond.code yX6_close cX6_close 2 (some .int), Cond.methodLink RX6 97 yX0_canBeClosed, Cond.instanceMethod yX0_canBeClosed, Cond.selects RX0 yX0_canBeClosed yX0_canBeClosed, Cond.code yX0_canBeClosed cX0_canBeClosed 2 (some .boolean), Cond.methodLink RL 39 yX7_close, Cond.instanceMethod yX7_close, Cond.selects RX7 yX7_close yX7_close, Cond.code yX7_close cX7_close 2 (some .int), Cond.methodLink RL 40 yX6_call, Cond.instanceMethod yX6_call, Cond.selects RX6 yX6_call yX6_call, Cond.code yX6_call cX6_call 2 (some .int), Cond.methodLink RX6 100 yX1_has, Cond.instanceMethod yX1_has, Cond.selects RX1 yX1_has yX1_has, Cond.code yX1_has cX1_has 2 (some .boolean), Cond.methodLink RX6 101 yX1_canCall, Cond.instanceMethod yX1_canCall, Cond.selects RX1 yX1_canCall yX1_canCall]
def wsL_law_r13 : List Cond := [Cond.code yX1_canCall cX1_canCall 2 (some .boolean), Cond.methodLink RX1 46 yX1_wants, Cond.instanceMethod yX1_wants, Cond.selects RX1 yX1_wants yX1_wants, Cond.code yX1_wants cX1_wants 2 (some .boolean), Cond.methodLink RX1 50 yX1_calls, Cond.instanceMethod yX1_calls, Cond.selects RX1 yX1_calls yX1_calls, Cond.code yX1_calls cX1_calls 2 (some .boolean), Cond.methodLink RX6 104 yX1_beginCall, Cond.instanceMethod yX1_beginCall, Cond.selects RX1 yX1_beginCall yX1_beginCall, Cond.code yX1_beginCall cX1_beginCall 2 (some .int), Cond.methodLink RX1 53 yJ6_bitCount_0f7a4, Cond.static yJ6_bitCount_0f7a4, Cond.initialized RJ6, Cond.code yJ6_bitCount_0f7a4 cJ6_bitCount_0f7a4 1 (some .int), Cond.constant RJ6 265 (1431655765), Cond.constant RJ6 266 (858993459), Cond.constant RJ6 267 (252645135), Cond.methodLink RL 43 yX7_call, Cond.instanceMethod yX7_call, Cond.selects RX7 yX7_call yX7_call, Cond.code yX7_call cX7_call 2 (some .int)]
def wsL_law_r14 : List Cond := [Cond.methodLink RX7 83 yX7_calls, Cond.instanceMethod yX7_calls, Cond.selects RX7 yX7_calls yX7_calls, Cond.code yX7_calls cX7_calls 2 (some .int), Cond.methodLink RX7 71 yX7_isField, Cond.instanceMethod yX7_isField, Cond.selects RX7 yX7_isField yX7_isField, Cond.code yX7_isField cX7_isField 2 (some .boolean), Cond.methodLink RX7 33 yX7_fi, Cond.instanceMethod yX7_fi, Cond.selects RX7 yX7_fi yX7_fi, Cond.code yX7_fi cX7_fi 3 (some .int), Cond.methodLink RX7 74 yX7_wants, Cond.instanceMethod yX7_wants, Cond.selects RX7 yX7_wants yX7_wants, Cond.code yX7_wants cX7_wants 2 (some .boolean), Cond.methodLink RX7 77 yX7_calling, Cond.instanceMethod yX7_calling, Cond.selects RX7 yX7_calling yX7_calling, Cond.code yX7_calling cX7_calling 3 (some .int), Cond.methodLink RX7 80 yX7_ones, Cond.static yX7_ones, Cond.code yX7_ones cX7_ones 3 (some .int), Cond.methodLink RL 44 yX6_turn]
def wsL_law_r15 : List Cond := [Cond.instanceMethod yX6_turn, Cond.selects RX6 yX6_turn yX6_turn, Cond.code yX6_turn cX6_turn 3 (some .int), Cond.fieldLink RX6 110 "SluiceTurns$Terrace" "turns" "LSluiceTurns$Turns;", Cond.fieldLink RX6 114 "SluiceTurns$Turns" "size" "I", Cond.methodLink RX6 107 yX0_areGates, Cond.instanceMethod yX0_areGates, Cond.selects RX0 yX0_areGates yX0_areGates, Cond.code yX0_areGates cX0_areGates 2 (some .boolean), Cond.methodLink RX0 49 yX0_allGates, Cond.instanceMethod yX0_allGates, Cond.selects RX0 yX0_allGates yX0_allGates, Cond.code yX0_allGates cX0_allGates 1 (some .int), Cond.methodLink RX6 117 yX5_add, Cond.instanceMethod yX5_add, Cond.selects RX5 yX5_add yX5_add, Cond.code yX5_add cX5_add 3 (some .int), Cond.methodLink RX5 34 yX5_beginAgain, Cond.instanceMethod yX5_beginAgain, Cond.selects RX5 yX5_beginAgain yX5_beginAgain, Cond.code yX5_beginAgain cX5_beginAgain 1 none, Cond.methodLink RL 47 yX7_turn, Cond.instanceMethod yX7_turn, Cond.selects RX7 yX7_turn yX7_turn]
def wsL_law_r16 : List Cond := [Cond.code yX7_turn cX7_turn 3 (some .int), Cond.methodLink RX7 86 yX7_areGates, Cond.instanceMethod yX7_areGates, Cond.selects RX7 yX7_areGates yX7_areGates, Cond.code yX7_areGates cX7_areGates 2 (some .boolean), Cond.methodLink RL 48 yX6_noTurns, Cond.instanceMethod yX6_noTurns, Cond.selects RX6 yX6_noTurns yX6_noTurns, Cond.code yX6_noTurns cX6_noTurns 1 (some .int), Cond.methodLink RX6 120 yX5_removeAll, Cond.instanceMethod yX5_removeAll, Cond.selects RX5 yX5_removeAll yX5_removeAll, Cond.code yX5_removeAll cX5_removeAll 2 (some .int), Cond.methodLink RL 52 yX7_noTurns, Cond.instanceMethod yX7_noTurns, Cond.selects RX7 yX7_noTurns yX7_noTurns, Cond.code yX7_noTurns cX7_noTurns 2 (some .int), Cond.methodLink RL 53 yX6_hour, Cond.instanceMethod yX6_hour, Cond.selects RX6 yX6_hour yX6_hour, Cond.code yX6_hour cX6_hour 2 (some .int), Cond.methodLink RX6 124 yX4_hasHoursLeft, Cond.instanceMethod yX4_hasHoursLeft, Cond.selects RX4 yX4_hasHoursLeft yX4_hasHoursLeft]
def wsL_law_r17 : List Cond := [Cond.code yX4_hasHoursLeft cX4_hasHoursLeft 2 (some .boolean), Cond.methodLink RX6 127 yX4_passHour, Cond.instanceMethod yX4_passHour, Cond.selects RX4 yX4_passHour yX4_passHour, Cond.code yX4_passHour cX4_passHour 5 (some .int), Cond.fieldLink RX4 84 "SluiceTurns$Canals" "came" "[I", Cond.fieldLink RX4 93 "SluiceTurns$Canals" "width" "[I", Cond.methodLink RX4 96 Lib.Math.min.name, Cond.static Lib.Math.min.name, Cond.initialized "java/lang/Math", Cond.code Lib.Math.min.name Lib.Math.min.code 2 (some .int), Cond.fieldLink RX4 102 "SluiceTurns$Canals" "size" "I", Cond.fieldLink RX4 114 "SluiceTurns$Canals" "ranOff" "[I", Cond.methodLink RX4 78 yX4_findCallsBelow, Cond.instanceMethod yX4_findCallsBelow, Cond.selects RX4 yX4_findCallsBelow yX4_findCallsBelow, Cond.code yX4_findCallsBelow cX4_findCallsBelow 3 none, Cond.fieldLink RX4 119 "SluiceTurns$Fields" "size" "I", Cond.fieldLink RX4 124 "SluiceTurns$Fields" "canal" "[I", Cond.fieldLink RX4 127 "SluiceTurns$Fields" "right" "[I", Cond.fieldLink RX4 133 "SluiceTurns$Canals" "parent" "[I", Cond.methodLink RX4 87 yJ7_fill_53178, Cond.static yJ7_fill_53178, Cond.initialized RJ7]
def wsL_law_r18 : List Cond := [Cond.code yJ7_fill_53178 cJ7_fill_53178 4 none, Cond.methodLink RX4 120 yX1_calls, Cond.methodLink RX4 130 yX0_isOpen, Cond.methodLink RX4 81 yX4_findPassingGates, Cond.instanceMethod yX4_findPassingGates, Cond.selects RX4 yX4_findPassingGates yX4_findPassingGates, Cond.code yX4_findPassingGates cX4_findPassingGates 4 none, Cond.fieldLink RX4 139 "SluiceTurns$Terrace" "passing" "I", Cond.fieldLink RX4 142 "SluiceTurns$Canals" "kind" "[I", Cond.methodLink RX4 136 yX1_wants, Cond.methodLink RX4 105 yX4_seepAway, Cond.instanceMethod yX4_seepAway, Cond.selects RX4 yX4_seepAway yX4_seepAway, Cond.code yX4_seepAway cX4_seepAway 4 (some .int), Cond.fieldLink RX4 145 "SluiceTurns$Canals" "seepage" "[I", Cond.fieldLink RX4 148 "SluiceTurns$Canals" "seeped" "[I", Cond.methodLink RX4 108 yX4_giveToFields, Cond.instanceMethod yX4_giveToFields, Cond.selects RX4 yX4_giveToFields yX4_giveToFields, Cond.code yX4_giveToFields cX4_giveToFields 6 (some .int), Cond.fieldLink RX4 150 "SluiceTurns$Fields" "byRight" "[I", Cond.methodLink RX4 153 yX4_mayTake, Cond.instanceMethod yX4_mayTake, Cond.selects RX4 yX4_mayTake yX4_mayTake]
def wsL_law_r19 : List Cond := [Cond.code yX4_mayTake cX4_mayTake 2 (some .boolean), Cond.methodLink RX4 156 yX1_give, Cond.instanceMethod yX1_give, Cond.selects RX1 yX1_give yX1_give, Cond.code yX1_give cX1_give 5 (some .int), Cond.methodLink RX1 59 Lib.Math.min.name, Cond.methodLink RX4 111 yX4_partAmongGates, Cond.instanceMethod yX4_partAmongGates, Cond.selects RX4 yX4_partAmongGates yX4_partAmongGates, Cond.code yX4_partAmongGates cX4_partAmongGates 8 (some .int), Cond.methodLink RX4 160 yX4_isPassingFrom, Cond.instanceMethod yX4_isPassingFrom, Cond.selects RX4 yX4_isPassingFrom yX4_isPassingFrom, Cond.code yX4_isPassingFrom cX4_isPassingFrom 3 (some .boolean), Cond.methodLink RX4 164 yX4_throughGate, Cond.instanceMethod yX4_throughGate, Cond.selects RX4 yX4_throughGate yX4_throughGate, Cond.code yX4_throughGate cX4_throughGate 4 (some .int), Cond.methodLink RX4 116 yX4_endCalls, Cond.instanceMethod yX4_endCalls, Cond.selects RX4 yX4_endCalls yX4_endCalls, Cond.code yX4_endCalls cX4_endCalls 1 none, Cond.fieldLink RX4 167 "SluiceTurns$Fields" "calling" "I", Cond.methodLink RX4 170 yX1_wanting]
def wsL_law_r20 : List Cond := [Cond.instanceMethod yX1_wanting, Cond.selects RX1 yX1_wanting yX1_wanting, Cond.code yX1_wanting cX1_wanting 3 (some .int), Cond.methodLink RL 56 yX7_hour, Cond.instanceMethod yX7_hour, Cond.selects RX7 yX7_hour yX7_hour, Cond.code yX7_hour cX7_hour 2 (some .int), Cond.methodLink RX7 115 yX7_goes, Cond.instanceMethod yX7_goes, Cond.selects RX7 yX7_goes yX7_goes, Cond.code yX7_goes cX7_goes 2 (some .int), Cond.methodLink RX7 112 yX7_flows, Cond.instanceMethod yX7_flows, Cond.selects RX7 yX7_flows yX7_flows, Cond.code yX7_flows cX7_flows 8 (some .int), Cond.methodLink RX7 106 yX7_serves, Cond.instanceMethod yX7_serves, Cond.selects RX7 yX7_serves yX7_serves, Cond.code yX7_serves cX7_serves 7 (some .int), Cond.methodLink RX7 93 yX7_mayTake, Cond.instanceMethod yX7_mayTake, Cond.selects RX7 yX7_mayTake yX7_mayTake, Cond.code yX7_mayTake cX7_mayTake 4 (some .boolean), Cond.methodLink RX7 89 yX7_isBelow]
def wsL_law_r21 : List Cond := [Cond.instanceMethod yX7_isBelow, Cond.selects RX7 yX7_isBelow yX7_isBelow, Cond.code yX7_isBelow cX7_isBelow 5 (some .boolean), Cond.methodLink RX7 96 yX7_next, Cond.instanceMethod yX7_next, Cond.selects RX7 yX7_next yX7_next, Cond.code yX7_next cX7_next 5 (some .int), Cond.methodLink RX7 109 yX7_parts, Cond.instanceMethod yX7_parts, Cond.selects RX7 yX7_parts yX7_parts, Cond.code yX7_parts cX7_parts 8 (some .int), Cond.methodLink RX7 102 yX7_lets, Cond.instanceMethod yX7_lets, Cond.selects RX7 yX7_lets yX7_lets, Cond.code yX7_lets cX7_lets 3 (some .boolean), Cond.methodLink RX7 99 yX7_isWanted, Cond.instanceMethod yX7_isWanted, Cond.selects RX7 yX7_isWanted yX7_isWanted, Cond.code yX7_isWanted cX7_isWanted 4 (some .boolean), Cond.methodLink RL 57 yX6_run, Cond.instanceMethod yX6_run, Cond.selects RX6 yX6_run yX6_run, Cond.code yX6_run cX6_run 3 (some .int), Cond.methodLink RX6 130 yX4_runHours]
def wsL_law_r22 : List Cond := [Cond.instanceMethod yX4_runHours, Cond.selects RX4 yX4_runHours yX4_runHours, Cond.code yX4_runHours cX4_runHours 5 (some .int), Cond.fieldLink RX4 65 "SluiceTurns$Canals" "open" "I", Cond.methodLink RX4 68 yX5_gatesFor, Cond.instanceMethod yX5_gatesFor, Cond.selects RX5 yX5_gatesFor yX5_gatesFor, Cond.code yX5_gatesFor cX5_gatesFor 2 (some .int), Cond.methodLink RX4 72 yX4_passHour, Cond.methodLink RX4 75 yX5_goOn, Cond.instanceMethod yX5_goOn, Cond.selects RX5 yX5_goOn yX5_goOn, Cond.code yX5_goOn cX5_goOn 1 none, Cond.methodLink RL 60 yX7_run, Cond.instanceMethod yX7_run, Cond.selects RX7 yX7_run yX7_run, Cond.code yX7_run cX7_run 3 (some .int), Cond.methodLink RX7 125 yX7_runs, Cond.instanceMethod yX7_runs, Cond.selects RX7 yX7_runs yX7_runs, Cond.code yX7_runs cX7_runs 6 (some .int), Cond.methodLink RX7 122 yX7_runsOne, Cond.instanceMethod yX7_runsOne, Cond.selects RX7 yX7_runsOne yX7_runsOne]
def wsL_law_r23 : List Cond := [Cond.code yX7_runsOne cX7_runsOne 3 (some .int), Cond.methodLink RX7 118 yX7_sets, Cond.instanceMethod yX7_sets, Cond.selects RX7 yX7_sets yX7_sets, Cond.code yX7_sets cX7_sets 3 none, Cond.methodLink RL 61 yX6_canalOf, Cond.instanceMethod yX6_canalOf, Cond.selects RX6 yX6_canalOf yX6_canalOf, Cond.code yX6_canalOf cX6_canalOf 4 (some .int), Cond.constant RX6 133 (-1000004), Cond.fieldLink RX6 134 "SluiceTurns$Canals" "parent" "[I", Cond.fieldLink RX6 137 "SluiceTurns$Canals" "width" "[I", Cond.fieldLink RX6 140 "SluiceTurns$Canals" "seepage" "[I", Cond.fieldLink RX6 153 "SluiceTurns$Canals" "came" "[I", Cond.fieldLink RX6 156 "SluiceTurns$Canals" "seeped" "[I", Cond.fieldLink RX6 159 "SluiceTurns$Canals" "ranOff" "[I", Cond.methodLink RX6 143 yX0_isOpen, Cond.methodLink RX6 146 yX6_asNumber, Cond.static yX6_asNumber, Cond.code yX6_asNumber cX6_asNumber 1 (some .int), Cond.methodLink RX6 150 yX0_below, Cond.instanceMethod yX0_below, Cond.selects RX0 yX0_below yX0_below, Cond.code yX0_below cX0_below 4 (some .int)]
def wsL_law_r24 : List Cond := [Cond.methodLink RL 64 yX7_canalOf, Cond.instanceMethod yX7_canalOf, Cond.selects RX7 yX7_canalOf yX7_canalOf, Cond.code yX7_canalOf cX7_canalOf 4 (some .int), Cond.constant RX7 129 (-1000004), Cond.methodLink RX7 130 yX7_below, Cond.instanceMethod yX7_below, Cond.selects RX7 yX7_below yX7_below, Cond.code yX7_below cX7_below 4 (some .int), Cond.methodLink RL 65 yX6_fieldOf, Cond.instanceMethod yX6_fieldOf, Cond.selects RX6 yX6_fieldOf yX6_fieldOf, Cond.code yX6_fieldOf cX6_fieldOf 4 (some .int), Cond.fieldLink RX6 162 "SluiceTurns$Fields" "canal" "[I", Cond.fieldLink RX6 165 "SluiceTurns$Fields" "need" "[I", Cond.fieldLink RX6 168 "SluiceTurns$Fields" "mouth" "[I", Cond.fieldLink RX6 171 "SluiceTurns$Fields" "right" "[I", Cond.fieldLink RX6 174 "SluiceTurns$Fields" "got" "[I", Cond.fieldLink RX6 189 "SluiceTurns$Fields" "hourOfNeed" "[I", Cond.methodLink RX6 177 yX1_calls, Cond.methodLink RX6 180 yX4_findCallsBelow, Cond.methodLink RX6 183 yX4_mayTake, Cond.methodLink RX6 186 yX1_wants, Cond.methodLink RL 68 yX7_fieldOf]
def wsL_law_r25 : List Cond := [Cond.instanceMethod yX7_fieldOf, Cond.selects RX7 yX7_fieldOf yX7_fieldOf, Cond.code yX7_fieldOf cX7_fieldOf 3 (some .int), Cond.methodLink RL 69 yX6_turnOf, Cond.instanceMethod yX6_turnOf, Cond.selects RX6 yX6_turnOf yX6_turnOf, Cond.code yX6_turnOf cX6_turnOf 3 (some .int), Cond.fieldLink RX6 193 "SluiceTurns$Turns" "gates" "[I", Cond.fieldLink RX6 196 "SluiceTurns$Turns" "hours" "[I", Cond.methodLink RX6 192 yX5_has, Cond.instanceMethod yX5_has, Cond.selects RX5 yX5_has yX5_has, Cond.code yX5_has cX5_has 2 (some .boolean), Cond.methodLink RL 72 yX7_turnOf, Cond.instanceMethod yX7_turnOf, Cond.selects RX7 yX7_turnOf yX7_turnOf, Cond.code yX7_turnOf cX7_turnOf 3 (some .int), Cond.methodLink RL 73 yX6_share, Cond.instanceMethod yX6_share, Cond.selects RX6 yX6_share yX6_share, Cond.code yX6_share cX6_share 2 (some .int), Cond.fieldLink RX6 199 "SluiceTurns$Terrace" "letIn" "I", Cond.fieldLink RX6 202 "SluiceTurns$Terrace" "got" "I", Cond.fieldLink RX6 208 "SluiceTurns$Terrace" "seeped" "I"]
def wsL_law_r26 : List Cond := [Cond.fieldLink RX6 210 "SluiceTurns$Terrace" "ranOff" "I", Cond.methodLink RX6 204 yX6_floatBits, Cond.static yX6_floatBits, Cond.code yX6_floatBits cX6_floatBits 10 (some .int), Cond.constantLong RX6 279 (2), Cond.constantLong RX6 281 (8388608), Cond.methodLink RL 76 yX7_share, Cond.instanceMethod yX7_share, Cond.selects RX7 yX7_share yX7_share, Cond.code yX7_share cX7_share 2 (some .int), Cond.methodLink RX7 133 yJxf58ca_floatToIntBits_5c35a, Cond.static yJxf58ca_floatToIntBits_5c35a, Cond.initialized RJxf58ca, Cond.code yJxf58ca_floatToIntBits_5c35a cJxf58ca_floatToIntBits_5c35a 1 (some .int), Cond.methodLink RJxf58ca 74 ⟨"java/lang/Float", "floatToRawIntBits", "(F)I"⟩, Cond.native ⟨"java/lang/Float", "floatToRawIntBits", "(F)I"⟩, Cond.static ⟨"java/lang/Float", "floatToRawIntBits", "(F)I"⟩, Cond.initialized "java/lang/Float", Cond.constant RJxf58ca 77 (2143289344), Cond.methodLink RJxf58ca 59 yJxf58ca_isNaN_12338, Cond.static yJxf58ca_isNaN_12338, Cond.code yJxf58ca_isNaN_12338 cJxf58ca_isNaN_12338 1 (some .boolean), Cond.methodLink RL 77 yX6_would, Cond.instanceMethod yX6_would]
def wsL_law_r27 : List Cond := [Cond.selects RX6 yX6_would yX6_would, Cond.code yX6_would cX6_would 5 (some .int), Cond.fieldLink RX6 215 "SluiceTurns$Canals" "open" "I", Cond.methodLink RX6 212 yX4_become, Cond.methodLink RX6 218 yX6_gain, Cond.instanceMethod yX6_gain, Cond.selects RX6 yX6_gain yX6_gain, Cond.code yX6_gain cX6_gain 2 (some .int), Cond.methodLink RL 81 yX7_would, Cond.instanceMethod yX7_would, Cond.selects RX7 yX7_would yX7_would, Cond.code yX7_would cX7_would 6 (some .int), Cond.methodLink RX7 139 yX7_puts, Cond.instanceMethod yX7_puts, Cond.selects RX7 yX7_puts yX7_puts, Cond.code yX7_puts cX7_puts 2 none, Cond.methodLink RX7 142 yX7_restores, Cond.instanceMethod yX7_restores, Cond.selects RX7 yX7_restores yX7_restores, Cond.code yX7_restores cX7_restores 2 none, Cond.methodLink RL 82 yX6_leastGates, Cond.instanceMethod yX6_leastGates, Cond.selects RX6 yX6_leastGates yX6_leastGates, Cond.code yX6_leastGates cX6_leastGates 8 (some .int)]
def wsL_law_r28 : List Cond := [Cond.methodLink RX6 221 yX1_areFields, Cond.instanceMethod yX1_areFields, Cond.selects RX1 yX1_areFields yX1_areFields, Cond.code yX1_areFields cX1_areFields 2 (some .boolean), Cond.methodLink RX6 224 yX0_allGates, Cond.methodLink RX6 227 yJ6_bitCount_0f7a4, Cond.methodLink RX6 232 yX6_wouldServe, Cond.instanceMethod yX6_wouldServe, Cond.selects RX6 yX6_wouldServe yX6_wouldServe, Cond.code yX6_wouldServe cX6_wouldServe 6 (some .boolean), Cond.methodLink RX6 236 yX1_wanting, Cond.methodLink RL 85 yX7_leastGates, Cond.instanceMethod yX7_leastGates, Cond.selects RX7 yX7_leastGates yX7_leastGates, Cond.code yX7_leastGates cX7_leastGates 7 (some .int), Cond.methodLink RX7 145 yX7_haveGot, Cond.instanceMethod yX7_haveGot, Cond.selects RX7 yX7_haveGot yX7_haveGot, Cond.code yX7_haveGot cX7_haveGot 4 (some .boolean), Cond.methodLink RL 86 yX6_fewestBuckets, Cond.instanceMethod yX6_fewestBuckets, Cond.selects RX6 yX6_fewestBuckets yX6_fewestBuckets, Cond.code yX6_fewestBuckets cX6_fewestBuckets 3 (some .int), Cond.methodLink RL 89 yX7_fewestBuckets]
def wsL_law_r29 : List Cond := [Cond.instanceMethod yX7_fewestBuckets, Cond.selects RX7 yX7_fewestBuckets yX7_fewestBuckets, Cond.code yX7_fewestBuckets cX7_fewestBuckets 5 (some .int), Cond.methodLink RL 90 yX6_hoursFor, Cond.instanceMethod yX6_hoursFor, Cond.selects RX6 yX6_hoursFor yX6_hoursFor, Cond.code yX6_hoursFor cX6_hoursFor 3 (some .int), Cond.methodLink RL 93 yX7_hoursFor, Cond.instanceMethod yX7_hoursFor, Cond.selects RX7 yX7_hoursFor yX7_hoursFor, Cond.code yX7_hoursFor cX7_hoursFor 5 (some .int), Cond.methodLink RL 94 yX6_rightAt, Cond.instanceMethod yX6_rightAt, Cond.selects RX6 yX6_rightAt yX6_rightAt, Cond.code yX6_rightAt cX6_rightAt 5 (some .int), Cond.fieldLink RX6 239 "SluiceTurns$Fields" "byRight" "[I", Cond.methodLink RL 97 yX7_rightAt, Cond.instanceMethod yX7_rightAt, Cond.selects RX7 yX7_rightAt yX7_rightAt, Cond.code yX7_rightAt cX7_rightAt 5 (some .int), Cond.methodLink RL 98 yX6_count, Cond.instanceMethod yX6_count, Cond.selects RX6 yX6_count yX6_count, Cond.code yX6_count cX6_count 2 (some .int)]
def wsL_law_r30 : List Cond := [Cond.fieldLink RX6 242 "SluiceTurns$Fields" "calling" "I", Cond.fieldLink RX6 248 "SluiceTurns$Terrace" "hours" "I", Cond.fieldLink RX6 250 "SluiceTurns$Turns" "on" "I", Cond.fieldLink RX6 253 "SluiceTurns$Turns" "gone" "I", Cond.fieldLink RX6 256 "SluiceTurns$History" "size" "I", Cond.fieldLink RX6 257 "SluiceTurns$Orders" "length" "I", Cond.methodLink RX6 245 yX0_tended, Cond.instanceMethod yX0_tended, Cond.selects RX0 yX0_tended yX0_tended, Cond.code yX0_tended cX0_tended 3 (some .int), Cond.methodLink RL 101 yX7_count, Cond.instanceMethod yX7_count, Cond.selects RX7 yX7_count yX7_count, Cond.code yX7_count cX7_count 2 (some .int), Cond.fieldLink RX7 154 "SluiceTurnsModel" "typed" "I", Cond.methodLink RX7 148 yX7_wanting, Cond.instanceMethod yX7_wanting, Cond.selects RX7 yX7_wanting yX7_wanting, Cond.code yX7_wanting cX7_wanting 3 (some .int), Cond.methodLink RX7 151 yX7_tendedOnes, Cond.instanceMethod yX7_tendedOnes, Cond.selects RX7 yX7_tendedOnes yX7_tendedOnes, Cond.code yX7_tendedOnes cX7_tendedOnes 3 (some .int), Cond.methodLink RL 102 yX6_undo]
def wsL_law_r31 : List Cond := [Cond.instanceMethod yX6_undo, Cond.selects RX6 yX6_undo yX6_undo, Cond.code yX6_undo cX6_undo 1 (some .int), Cond.methodLink RX6 260 yX2_restoreLatest, Cond.instanceMethod yX2_restoreLatest, Cond.selects RX2 yX2_restoreLatest yX2_restoreLatest, Cond.code yX2_restoreLatest cX2_restoreLatest 2 (some .int), Cond.methodLink RL 105 yX7_undo, Cond.instanceMethod yX7_undo, Cond.selects RX7 yX7_undo yX7_undo, Cond.code yX7_undo cX7_undo 2 (some .int), Cond.methodLink RL 106 yX6_type, Cond.instanceMethod yX6_type, Cond.selects RX6 yX6_type yX6_type, Cond.code yX6_type cX6_type 2 (some .int), Cond.methodLink RX6 264 yX3_append, Cond.instanceMethod yX3_append, Cond.selects RX3 yX3_append yX3_append, Cond.code yX3_append cX3_append 2 (some .int), Cond.fieldLink RX3 15 "SluiceTurns$Orders" "length" "I", Cond.methodLink RL 109 yX7_type, Cond.instanceMethod yX7_type, Cond.selects RX7 yX7_type yX7_type, Cond.code yX7_type cX7_type 2 (some .int)]
def wsL_law_r32 : List Cond := [Cond.methodLink RL 110 yX6_clearText, Cond.instanceMethod yX6_clearText, Cond.selects RX6 yX6_clearText yX6_clearText, Cond.code yX6_clearText cX6_clearText 2 (some .int), Cond.methodLink RL 113 yX7_clearText, Cond.instanceMethod yX7_clearText, Cond.selects RX7 yX7_clearText yX7_clearText, Cond.code yX7_clearText cX7_clearText 2 (some .int), Cond.methodLink RL 114 yX6_fault, Cond.instanceMethod yX6_fault, Cond.selects RX6 yX6_fault yX6_fault, Cond.code yX6_fault cX6_fault 2 (some .int), Cond.fieldLink RX6 270 "SluiceTurns$Orders" "reason" "I", Cond.fieldLink RX6 273 "SluiceTurns$Orders" "start" "I", Cond.fieldLink RX6 276 "SluiceTurns$Orders" "cause" "I", Cond.methodLink RX6 267 yX3_carryOutAll, Cond.instanceMethod yX3_carryOutAll, Cond.selects RX3 yX3_carryOutAll yX3_carryOutAll, Cond.code yX3_carryOutAll cX3_carryOutAll 4 (some .int), Cond.fieldLink RX3 19 "SluiceTurns$Orders" "place" "I", Cond.fieldLink RX3 22 "SluiceTurns$Orders" "reason" "I", Cond.fieldLink RX3 25 "SluiceTurns$Orders" "start" "I", Cond.methodLink RX3 28 yX3_reasonAgainst, Cond.instanceMethod yX3_reasonAgainst]
def wsL_law_r33 : List Cond := [Cond.selects RX3 yX3_reasonAgainst yX3_reasonAgainst, Cond.code yX3_reasonAgainst cX3_reasonAgainst 2 (some .int), Cond.fieldLink RX3 39 "SluiceTurns$Orders" "cause" "I", Cond.methodLink RX3 35 yX3_readOrder, Cond.instanceMethod yX3_readOrder, Cond.selects RX3 yX3_readOrder yX3_readOrder, Cond.code yX3_readOrder cX3_readOrder 1 (some .boolean), Cond.fieldLink RX3 53 "SluiceTurns$Orders" "letter" "I", Cond.fieldLink RX3 60 "SluiceTurns$Orders" "first" "I", Cond.fieldLink RX3 67 "SluiceTurns$Orders" "second" "I", Cond.methodLink RX3 49 yX3_characterAt, Cond.instanceMethod yX3_characterAt, Cond.selects RX3 yX3_characterAt yX3_characterAt, Cond.code yX3_characterAt cX3_characterAt 2 (some .int), Cond.methodLink RX3 56 yX3_readNumber, Cond.instanceMethod yX3_readNumber, Cond.selects RX3 yX3_readNumber yX3_readNumber, Cond.code yX3_readNumber cX3_readNumber 4 (some .int), Cond.methodLink RX3 70 Lib.Math.max.name, Cond.static Lib.Math.max.name, Cond.code Lib.Math.max.name Lib.Math.max.code 2 (some .int), Cond.methodLink RX3 63 yX3_skip, Cond.instanceMethod yX3_skip, Cond.selects RX3 yX3_skip yX3_skip]
def wsL_law_r34 : List Cond := [Cond.code yX3_skip cX3_skip 2 (some .boolean), Cond.methodLink RX3 42 yX3_isInRange, Cond.instanceMethod yX3_isInRange, Cond.selects RX3 yX3_isInRange yX3_isInRange, Cond.code yX3_isInRange cX3_isInRange 2 (some .boolean), Cond.fieldLink RX3 76 "SluiceTurns$Terrace" "canals" "LSluiceTurns$Canals;", Cond.fieldLink RX3 87 "SluiceTurns$Terrace" "fields" "LSluiceTurns$Fields;", Cond.methodLink RX3 82 yX0_hasGate, Cond.methodLink RX3 91 yX1_has, Cond.methodLink RX3 46 yX3_isPossible, Cond.instanceMethod yX3_isPossible, Cond.selects RX3 yX3_isPossible yX3_isPossible, Cond.code yX3_isPossible cX3_isPossible 2 (some .boolean), Cond.methodLink RX3 100 yX0_canBeOpened, Cond.methodLink RX3 103 yX0_canBeClosed, Cond.methodLink RX3 106 yX1_canCall, Cond.methodLink RX3 109 yX4_hasHoursLeft, Cond.methodLink RX3 32 yX3_carryOut, Cond.instanceMethod yX3_carryOut, Cond.selects RX3 yX3_carryOut yX3_carryOut, Cond.code yX3_carryOut cX3_carryOut 2 (some .int), Cond.methodLink RX3 112 yX0_moveGate, Cond.methodLink RX3 115 yX1_beginCall, Cond.methodLink RX3 118 yX4_passHour]
def wsL_law_r35 : List Cond := [Cond.methodLink RX3 121 yX4_runHours, Cond.methodLink RL 117 yX7_fault, Cond.instanceMethod yX7_fault, Cond.selects RX7 yX7_fault yX7_fault, Cond.code yX7_fault cX7_fault 3 (some .int), Cond.fieldLink RX7 188 "SluiceTurnsModel" "reason" "I", Cond.fieldLink RX7 173 "SluiceTurnsModel" "cause" "I", Cond.methodLink RX7 191 yX7_faulty, Cond.instanceMethod yX7_faulty, Cond.selects RX7 yX7_faulty yX7_faulty, Cond.code yX7_faulty cX7_faulty 3 (some .int), Cond.fieldLink RX7 157 "SluiceTurnsModel" "at" "I", Cond.methodLink RX7 185 yX7_doesNext, Cond.instanceMethod yX7_doesNext, Cond.selects RX7 yX7_doesNext yX7_doesNext, Cond.code yX7_doesNext cX7_doesNext 4 (some .int), Cond.fieldLink RX7 182 "SluiceTurnsModel" "sum" "I", Cond.methodLink RX7 160 yX7_sign, Cond.instanceMethod yX7_sign, Cond.selects RX7 yX7_sign yX7_sign, Cond.code yX7_sign cX7_sign 1 (some .int), Cond.methodLink RX7 170 yX7_readsForm, Cond.instanceMethod yX7_readsForm, Cond.selects RX7 yX7_readsForm yX7_readsForm]
def wsL_law_r36 : List Cond := [Cond.code yX7_readsForm cX7_readsForm 3 (some .boolean), Cond.fieldLink RX7 163 "SluiceTurnsModel" "numbers" "I", Cond.methodLink RX7 166 yX7_readsNumber, Cond.instanceMethod yX7_readsNumber, Cond.selects RX7 yX7_readsNumber yX7_readsNumber, Cond.code yX7_readsNumber cX7_readsNumber 3 (some .boolean), Cond.methodLink RX7 176 yX7_isInRange, Cond.instanceMethod yX7_isInRange, Cond.selects RX7 yX7_isInRange yX7_isInRange, Cond.code yX7_isInRange cX7_isInRange 2 (some .boolean), Cond.methodLink RX7 179 yX7_does, Cond.instanceMethod yX7_does, Cond.selects RX7 yX7_does yX7_does, Cond.code yX7_does cX7_does 2 (some .int), Cond.methodLink RL 118 yX6_play, Cond.instanceMethod yX6_play, Cond.selects RX6 yX6_play yX6_play, Cond.code yX6_play cX6_play 2 (some .int), Cond.methodLink RL 121 yX7_play, Cond.instanceMethod yX7_play, Cond.selects RX7 yX7_play yX7_play, Cond.code yX7_play cX7_play 1 (some .int)]
def wsL_law : List Cond := (wsL_law_r1 ++ (wsL_law_r2 ++ (wsL_law_r3 ++ (wsL_law_r4 ++ (wsL_law_r5 ++ (wsL_law_r6 ++ (wsL_law_r7 ++ (wsL_law_r8 ++ (wsL_law_r9 ++ (wsL_law_r10 ++ (wsL_law_r11 ++ (wsL_law_r12 ++ (wsL_law_r13 ++ (wsL_law_r14 ++ (wsL_law_r15 ++ (wsL_law_r16 ++ (wsL_law_r17 ++ (wsL_law_r18 ++ (wsL_law_r19 ++ (wsL_law_r20 ++ (wsL_law_r21 ++ (wsL_law_r22 ++ (wsL_law_r23 ++ (wsL_law_r24 ++ (wsL_law_r25 ++ (wsL_law_r26 ++ (wsL_law_r27 ++ (wsL_law_r28 ++ (wsL_law_r29 ++ (wsL_law_r30 ++ (wsL_law_r31 ++ (wsL_law_r32 ++ (wsL_law_r33 ++ (wsL_law_r34 ++ (wsL_law_r35 ++ wsL_law_r36))))))))))))))))))))))))))))))))))) ++ wsX60 ++ wsX70 ++ wsX40 ++ wsX20 ++ wsX30 ++ wsX00 ++ wsX10 ++ wsX50 ++ ([] : List Cond)
theorem inlX0 : ∀ w ∈ wsX00, w ∈ wsL_law := fun _ h => List.mem_append_left _ (List.mem_append_left _ (List.mem_append_left _ (List.mem_append_right _ h)))
theorem inlX1 : ∀ w ∈ wsX10, w ∈ wsL_law := fun _ h => List.mem_append_left _ (List.mem_append_left _ (List.mem_append_right _ h))
theorem inlX2 : ∀ w ∈ wsX20, w ∈ wsL_law := fun _ h => List.mem_append_left _ (List.mem_append_left _ (List.mem_append_left _ (List.mem_append_left _ (List.mem_append_left _ (List.mem_append_right _ h)))))
theorem inlX3 : ∀ w ∈ wsX30, w ∈ wsL_law := fun _ h => List.mem_append_left _ (List.mem_append_left _ (List.mem_append_left _ (List.mem_append_left _ (List.mem_append_right _ h))))
theorem inlX4 : ∀ w ∈ wsX40, w ∈ wsL_law := fun _ h => List.mem_append_left _ (List.mem_append_left _ (List.mem_append_left _ (List.mem_append_left _ (List.mem_append_left _ (List.mem_append_left _ (List.mem_append_right _ h))))))
theorem inlX5 : ∀ w ∈ wsX50, w ∈ wsL_law := fun _ h => List.mem_append_left _ (List.mem_append_right _ h)
theorem inlX6 : ∀ w ∈ wsX60, w ∈ wsL_law := fun _ h => List.mem_append_left _ (List.mem_append_left _ (List.mem_append_left _ (List.mem_append_left _ (List.mem_append_left _ (List.mem_append_left _ (List.mem_append_left _ (List.mem_append_left _ (List.mem_append_right _ h))))))))
theorem inlX7 : ∀ w ∈ wsX70, w ∈ wsL_law := fun _ h => List.mem_append_left _ (List.mem_append_left _ (List.mem_append_left _ (List.mem_append_left _ (List.mem_append_left _ (List.mem_append_left _ (List.mem_append_left _ (List.mem_append_right _ h)))))))
abbrev vwCl : List vw_C := [(RX0, TX0, 10), (RX1, TX1, 9), (RX2, TX2, 2), (RX3, TX3, 9), (RX4, TX4, 11), (RX5, TX5, 5), (RX6, TX6, 4), (RX7, TX7, 13)]
