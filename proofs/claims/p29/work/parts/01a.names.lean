/-! ===== BEGIN words of one list among another's, by their places ===== -/
theorem goodIn_r {big : List Cond} (ws : List Cond) (ps : List Nat) (hp : ws = ps.filterMap (fun i => big[i]?)) (h : ws.all goodWord = true) : GoodIn big ws := by
  intro w hw
  have h1 := List.all_eq_true.mp h w hw
  rw [hp] at hw
  obtain ⟨i, -, hi⟩ := List.mem_filterMap.mp hw
  have hm : w ∈ big := by first | exact List.mem_of_getElem? hi | exact List.getElem?_mem hi
  exact ⟨hm, good_of_word h1⟩
theorem goodIn_app {big a b : List Cond} (ha : GoodIn big a) (hb : GoodIn big b) : GoodIn big (a ++ b) := fun w h => (List.mem_append.mp h).elim (ha w) (hb w)
theorem goodIn_ca {big a b : List Cond} {c : Cond} (ha : GoodIn big (c :: a)) (hb : GoodIn big b) : GoodIn big (c :: (a ++ b)) := fun w h => (List.mem_cons.mp h).elim (fun e => ha w (List.mem_cons.mpr (Or.inl e))) (fun h => (List.mem_append.mp h).elim (fun h => ha w (List.mem_cons.mpr (Or.inr h))) (hb w))
theorem goodIn_sub {big ws : List Cond} (hm : ∀ w ∈ ws, w ∈ big) (h : ws.all goodWord = true) : GoodIn big ws := fun w hw => ⟨hm w hw, good_of_word (List.all_eq_true.mp h w hw)⟩
/-! ===== END ===== -/

/-! ===== BEGIN printed: names, fields, word lists, decode rows ===== -/
def RX0 : String := "SluiceTurns$Canals"
def TX0 : u_T := fun k => match k with
  | 0 => ("SluiceTurns$Canals", "size", "I", false)
  | 1 => ("SluiceTurns$Canals", "open", "I", false)
  | 2 => ("SluiceTurns$Canals", "parent", "[I", true)
  | 3 => ("SluiceTurns$Canals", "kind", "[I", true)
  | 4 => ("SluiceTurns$Canals", "width", "[I", true)
  | 5 => ("SluiceTurns$Canals", "seepage", "[I", true)
  | 6 => ("SluiceTurns$Canals", "crew", "[I", true)
  | 7 => ("SluiceTurns$Canals", "came", "[I", true)
  | 8 => ("SluiceTurns$Canals", "seeped", "[I", true)
  | _ => ("SluiceTurns$Canals", "ranOff", "[I", true)
def tyX0 : Nat → FieldType := fun k => match k with
  | 0 => .int
  | 1 => .int
  | 2 => .array .int
  | 3 => .array .int
  | 4 => .array .int
  | 5 => .array .int
  | 6 => .array .int
  | 7 => .array .int
  | 8 => .array .int
  | _ => .array .int
abbrev wsX00 : List Cond := u_ws RX0 TX0 10
theorem nmX0 : ∀ a, a < 10 → ∀ b, b < 10 → a ≠ b → (TX0 a).2.1 ≠ (TX0 b).2.1 := by decide +kernel
theorem tyX0_ok : ∀ k, k < 10 → parseFieldDescriptor (TX0 k).2.2.1 = some (tyX0 k) := by decide +kernel
abbrev cX0_init : ByteArray := prog_2_method_1_code
def yX0_init : MethodName := ⟨RX0, "<init>", "()V"⟩
abbrev cX0_become : ByteArray := prog_2_method_2_code
def yX0_become : MethodName := ⟨RX0, "become", "(LSluiceTurns$Canals;)V"⟩
abbrev cX0_has : ByteArray := prog_2_method_3_code
def yX0_has : MethodName := ⟨RX0, "has", "(I)Z"⟩
abbrev cX0_hasGate : ByteArray := prog_2_method_4_code
def yX0_hasGate : MethodName := ⟨RX0, "hasGate", "(I)Z"⟩
abbrev cX0_allGates : ByteArray := prog_2_method_5_code
def yX0_allGates : MethodName := ⟨RX0, "allGates", "()I"⟩
abbrev cX0_areGates : ByteArray := prog_2_method_6_code
def yX0_areGates : MethodName := ⟨RX0, "areGates", "(I)Z"⟩
abbrev cX0_add : ByteArray := prog_2_method_7_code
def yX0_add : MethodName := ⟨RX0, "add", "(IIII)I"⟩
abbrev cX0_isOpen : ByteArray := prog_2_method_8_code
def yX0_isOpen : MethodName := ⟨RX0, "isOpen", "(I)Z"⟩
abbrev cX0_isTended : ByteArray := prog_2_method_9_code
def yX0_isTended : MethodName := ⟨RX0, "isTended", "(I)Z"⟩
abbrev cX0_canBeOpened : ByteArray := prog_2_method_10_code
def yX0_canBeOpened : MethodName := ⟨RX0, "canBeOpened", "(I)Z"⟩
abbrev cX0_flipGate : ByteArray := prog_2_method_12_code
def yX0_flipGate : MethodName := ⟨RX0, "flipGate", "(I)I"⟩
abbrev cX0_tended : ByteArray := prog_2_method_13_code
def yX0_tended : MethodName := ⟨RX0, "tended", "()I"⟩
abbrev cX0_gatesOf : ByteArray := prog_2_method_14_code
def yX0_gatesOf : MethodName := ⟨RX0, "gatesOf", "(I)I"⟩
abbrev cX0_below : ByteArray := prog_2_method_15_code
def yX0_below : MethodName := ⟨RX0, "below", "(I)I"⟩
def RX1 : String := "SluiceTurns$Fields"
def TX1 : u_T := fun k => match k with
  | 0 => ("SluiceTurns$Fields", "size", "I", false)
  | 1 => ("SluiceTurns$Fields", "calling", "I", false)
  | 2 => ("SluiceTurns$Fields", "canal", "[I", true)
  | 3 => ("SluiceTurns$Fields", "need", "[I", true)
  | 4 => ("SluiceTurns$Fields", "mouth", "[I", true)
  | 5 => ("SluiceTurns$Fields", "right", "[I", true)
  | 6 => ("SluiceTurns$Fields", "got", "[I", true)
  | 7 => ("SluiceTurns$Fields", "hourOfNeed", "[I", true)
  | _ => ("SluiceTurns$Fields", "byRight", "[I", true)
def tyX1 : Nat → FieldType := fun k => match k with
  | 0 => .int
  | 1 => .int
  | 2 => .array .int
  | 3 => .array .int
  | 4 => .array .int
  | 5 => .array .int
  | 6 => .array .int
  | 7 => .array .int
  | _ => .array .int
abbrev wsX10 : List Cond := u_ws RX1 TX1 9
theorem nmX1 : ∀ a, a < 9 → ∀ b, b < 9 → a ≠ b → (TX1 a).2.1 ≠ (TX1 b).2.1 := by decide +kernel
theorem tyX1_ok : ∀ k, k < 9 → parseFieldDescriptor (TX1 k).2.2.1 = some (tyX1 k) := by decide +kernel
abbrev cX1_init : ByteArray := prog_3_method_1_code
def yX1_init : MethodName := ⟨RX1, "<init>", "()V"⟩
abbrev cX1_become : ByteArray := prog_3_method_2_code
def yX1_become : MethodName := ⟨RX1, "become", "(LSluiceTurns$Fields;)V"⟩
abbrev cX1_has : ByteArray := prog_3_method_3_code
def yX1_has : MethodName := ⟨RX1, "has", "(I)Z"⟩
abbrev cX1_add : ByteArray := prog_3_method_5_code
def yX1_add : MethodName := ⟨RX1, "add", "(IIII)I"⟩
abbrev cX1_wants : ByteArray := prog_3_method_6_code
def yX1_wants : MethodName := ⟨RX1, "wants", "(I)Z"⟩
abbrev cX1_wanting : ByteArray := prog_3_method_7_code
def yX1_wanting : MethodName := ⟨RX1, "wanting", "()I"⟩
abbrev cX1_calls : ByteArray := prog_3_method_8_code
def yX1_calls : MethodName := ⟨RX1, "calls", "(I)Z"⟩
abbrev cX1_canCall : ByteArray := prog_3_method_9_code
def yX1_canCall : MethodName := ⟨RX1, "canCall", "(I)Z"⟩
abbrev cX1_beginCall : ByteArray := prog_3_method_10_code
def yX1_beginCall : MethodName := ⟨RX1, "beginCall", "(I)I"⟩
abbrev cX1_give : ByteArray := prog_3_method_11_code
def yX1_give : MethodName := ⟨RX1, "give", "(III)I"⟩
def RX2 : String := "SluiceTurns$History"
def TX2 : u_T := fun k => match k with
  | 0 => ("SluiceTurns$History", "size", "I", false)
  | _ => ("SluiceTurns$History", "states", "[LSluiceTurns$Terrace;", true)
def tyX2 : Nat → FieldType := fun k => match k with
  | 0 => .int
  | _ => .array (.object "SluiceTurns$Terrace")
abbrev wsX20 : List Cond := u_ws RX2 TX2 2
theorem nmX2 : ∀ a, a < 2 → ∀ b, b < 2 → a ≠ b → (TX2 a).2.1 ≠ (TX2 b).2.1 := by decide +kernel
theorem tyX2_ok : ∀ k, k < 2 → parseFieldDescriptor (TX2 k).2.2.1 = some (tyX2 k) := by decide +kernel
abbrev cX2_init : ByteArray := prog_4_method_1_code
def yX2_init : MethodName := ⟨RX2, "<init>", "()V"⟩
abbrev cX2_record : ByteArray := prog_4_method_2_code
def yX2_record : MethodName := ⟨RX2, "record", "(LSluiceTurns$Terrace;)V"⟩
abbrev cX2_dropOldest : ByteArray := prog_4_method_3_code
def yX2_dropOldest : MethodName := ⟨RX2, "dropOldest", "()V"⟩
abbrev cX2_restoreLatest : ByteArray := prog_4_method_4_code
def yX2_restoreLatest : MethodName := ⟨RX2, "restoreLatest", "(LSluiceTurns$Terrace;)I"⟩
def RX3 : String := "SluiceTurns$Orders"
def TX3 : u_T := fun k => match k with
  | 0 => ("SluiceTurns$Orders", "length", "I", false)
  | 1 => ("SluiceTurns$Orders", "characters", "[I", true)
  | 2 => ("SluiceTurns$Orders", "start", "I", false)
  | 3 => ("SluiceTurns$Orders", "place", "I", false)
  | 4 => ("SluiceTurns$Orders", "letter", "I", false)
  | 5 => ("SluiceTurns$Orders", "first", "I", false)
  | 6 => ("SluiceTurns$Orders", "second", "I", false)
  | 7 => ("SluiceTurns$Orders", "reason", "I", false)
  | _ => ("SluiceTurns$Orders", "cause", "I", false)
def tyX3 : Nat → FieldType := fun k => match k with
  | 0 => .int
  | 1 => .array .int
  | 2 => .int
  | 3 => .int
  | 4 => .int
  | 5 => .int
  | 6 => .int
  | 7 => .int
  | _ => .int
abbrev wsX30 : List Cond := u_ws RX3 TX3 9
theorem nmX3 : ∀ a, a < 9 → ∀ b, b < 9 → a ≠ b → (TX3 a).2.1 ≠ (TX3 b).2.1 := by decide +kernel
theorem tyX3_ok : ∀ k, k < 9 → parseFieldDescriptor (TX3 k).2.2.1 = some (tyX3 k) := by decide +kernel
abbrev cX3_init : ByteArray := prog_5_method_1_code
def yX3_init : MethodName := ⟨RX3, "<init>", "()V"⟩
def RX4 : String := "SluiceTurns$Terrace"
def TX4 : u_T := fun k => match k with
  | 0 => ("SluiceTurns$Terrace", "canals", "LSluiceTurns$Canals;", true)
  | 1 => ("SluiceTurns$Terrace", "fields", "LSluiceTurns$Fields;", true)
  | 2 => ("SluiceTurns$Terrace", "turns", "LSluiceTurns$Turns;", true)
  | 3 => ("SluiceTurns$Terrace", "hours", "I", false)
  | 4 => ("SluiceTurns$Terrace", "letIn", "I", false)
  | 5 => ("SluiceTurns$Terrace", "got", "I", false)
  | 6 => ("SluiceTurns$Terrace", "seeped", "I", false)
  | 7 => ("SluiceTurns$Terrace", "ranOff", "I", false)
  | 8 => ("SluiceTurns$Terrace", "callAt", "[I", true)
  | 9 => ("SluiceTurns$Terrace", "callBelow", "[I", true)
  | _ => ("SluiceTurns$Terrace", "passing", "I", false)
def tyX4 : Nat → FieldType := fun k => match k with
  | 0 => .object "SluiceTurns$Canals"
  | 1 => .object "SluiceTurns$Fields"
  | 2 => .object "SluiceTurns$Turns"
  | 3 => .int
  | 4 => .int
  | 5 => .int
  | 6 => .int
  | 7 => .int
  | 8 => .array .int
  | 9 => .array .int
  | _ => .int
abbrev wsX40 : List Cond := u_ws RX4 TX4 11
theorem nmX4 : ∀ a, a < 11 → ∀ b, b < 11 → a ≠ b → (TX4 a).2.1 ≠ (TX4 b).2.1 := by decide +kernel
theorem tyX4_ok : ∀ k, k < 11 → parseFieldDescriptor (TX4 k).2.2.1 = some (tyX4 k) := by decide +kernel
abbrev cX4_init : ByteArray := prog_6_method_1_code
def yX4_init : MethodName := ⟨RX4, "<init>", "()V"⟩
abbrev cX4_become : ByteArray := prog_6_method_2_code
def yX4_become : MethodName := ⟨RX4, "become", "(LSluiceTurns$Terrace;)V"⟩
abbrev cX4_hasHoursLeft : ByteArray := prog_6_method_3_code
def yX4_hasHoursLeft : MethodName := ⟨RX4, "hasHoursLeft", "(I)Z"⟩
abbrev cX4_runHours : ByteArray := prog_6_method_4_code
def yX4_runHours : MethodName := ⟨RX4, "runHours", "(II)I"⟩
abbrev cX4_passHour : ByteArray := prog_6_method_5_code
def yX4_passHour : MethodName := ⟨RX4, "passHour", "(I)I"⟩
abbrev cX4_findCallsBelow : ByteArray := prog_6_method_6_code
def yX4_findCallsBelow : MethodName := ⟨RX4, "findCallsBelow", "()V"⟩
abbrev cX4_mayTake : ByteArray := prog_6_method_7_code
def yX4_mayTake : MethodName := ⟨RX4, "mayTake", "(I)Z"⟩
abbrev cX4_findPassingGates : ByteArray := prog_6_method_8_code
def yX4_findPassingGates : MethodName := ⟨RX4, "findPassingGates", "()V"⟩
abbrev cX4_seepAway : ByteArray := prog_6_method_9_code
def yX4_seepAway : MethodName := ⟨RX4, "seepAway", "(II)I"⟩
abbrev cX4_giveToFields : ByteArray := prog_6_method_10_code
def yX4_giveToFields : MethodName := ⟨RX4, "giveToFields", "(II)I"⟩
abbrev cX4_partAmongGates : ByteArray := prog_6_method_11_code
def yX4_partAmongGates : MethodName := ⟨RX4, "partAmongGates", "(II)I"⟩
abbrev cX4_isPassingFrom : ByteArray := prog_6_method_12_code
def yX4_isPassingFrom : MethodName := ⟨RX4, "isPassingFrom", "(II)Z"⟩
abbrev cX4_throughGate : ByteArray := prog_6_method_13_code
def yX4_throughGate : MethodName := ⟨RX4, "throughGate", "(II)I"⟩
abbrev cX4_endCalls : ByteArray := prog_6_method_14_code
def yX4_endCalls : MethodName := ⟨RX4, "endCalls", "()V"⟩
def RX5 : String := "SluiceTurns$Turns"
def TX5 : u_T := fun k => match k with
  | 0 => ("SluiceTurns$Turns", "size", "I", false)
  | 1 => ("SluiceTurns$Turns", "on", "I", false)
  | 2 => ("SluiceTurns$Turns", "gone", "I", false)
  | 3 => ("SluiceTurns$Turns", "gates", "[I", true)
  | _ => ("SluiceTurns$Turns", "hours", "[I", true)
def tyX5 : Nat → FieldType := fun k => match k with
  | 0 => .int
  | 1 => .int
  | 2 => .int
  | 3 => .array .int
  | _ => .array .int
abbrev wsX50 : List Cond := u_ws RX5 TX5 5
theorem nmX5 : ∀ a, a < 5 → ∀ b, b < 5 → a ≠ b → (TX5 a).2.1 ≠ (TX5 b).2.1 := by decide +kernel
theorem tyX5_ok : ∀ k, k < 5 → parseFieldDescriptor (TX5 k).2.2.1 = some (tyX5 k) := by decide +kernel
abbrev cX5_init : ByteArray := prog_7_method_1_code
def yX5_init : MethodName := ⟨RX5, "<init>", "()V"⟩
abbrev cX5_become : ByteArray := prog_7_method_2_code
def yX5_become : MethodName := ⟨RX5, "become", "(LSluiceTurns$Turns;)V"⟩
abbrev cX5_has : ByteArray := prog_7_method_3_code
def yX5_has : MethodName := ⟨RX5, "has", "(I)Z"⟩
abbrev cX5_add : ByteArray := prog_7_method_4_code
def yX5_add : MethodName := ⟨RX5, "add", "(II)I"⟩
abbrev cX5_removeAll : ByteArray := prog_7_method_5_code
def yX5_removeAll : MethodName := ⟨RX5, "removeAll", "()I"⟩
abbrev cX5_beginAgain : ByteArray := prog_7_method_6_code
def yX5_beginAgain : MethodName := ⟨RX5, "beginAgain", "()V"⟩
abbrev cX5_gatesInNextHour : ByteArray := prog_7_method_7_code
def yX5_gatesInNextHour : MethodName := ⟨RX5, "gatesInNextHour", "(I)I"⟩
abbrev cX5_goOn : ByteArray := prog_7_method_8_code
def yX5_goOn : MethodName := ⟨RX5, "goOn", "()V"⟩
def RX6 : String := "SluiceTurns"
def TX6 : u_T := fun k => match k with
  | 0 => ("SluiceTurns", "now", "LSluiceTurns$Terrace;", true)
  | 1 => ("SluiceTurns", "trial", "LSluiceTurns$Terrace;", true)
  | 2 => ("SluiceTurns", "history", "LSluiceTurns$History;", true)
  | _ => ("SluiceTurns", "orders", "LSluiceTurns$Orders;", true)
def tyX6 : Nat → FieldType := fun k => match k with
  | 0 => .object "SluiceTurns$Terrace"
  | 1 => .object "SluiceTurns$Terrace"
  | 2 => .object "SluiceTurns$History"
  | _ => .object "SluiceTurns$Orders"
abbrev wsX60 : List Cond := u_ws RX6 TX6 4
theorem nmX6 : ∀ a, a < 4 → ∀ b, b < 4 → a ≠ b → (TX6 a).2.1 ≠ (TX6 b).2.1 := by decide +kernel
theorem tyX6_ok : ∀ k, k < 4 → parseFieldDescriptor (TX6 k).2.2.1 = some (tyX6 k) := by decide +kernel
abbrev cX6_init : ByteArray := prog_1_method_1_code
def yX6_init : MethodName := ⟨RX6, "<init>", "()V"⟩
abbrev cX6_canal : ByteArray := prog_1_method_2_code
def yX6_canal : MethodName := ⟨RX6, "canal", "(IIII)I"⟩
abbrev cX6_field : ByteArray := prog_1_method_3_code
def yX6_field : MethodName := ⟨RX6, "field", "(IIII)I"⟩
abbrev cX6_tend : ByteArray := prog_1_method_4_code
def yX6_tend : MethodName := ⟨RX6, "tend", "(II)I"⟩
abbrev cX6_open : ByteArray := prog_1_method_6_code
def yX6_open : MethodName := ⟨RX6, "open", "(I)I"⟩
abbrev cX6_call : ByteArray := prog_1_method_8_code
def yX6_call : MethodName := ⟨RX6, "call", "(I)I"⟩
abbrev cX6_turn : ByteArray := prog_1_method_9_code
def yX6_turn : MethodName := ⟨RX6, "turn", "(II)I"⟩
abbrev cX6_noTurns : ByteArray := prog_1_method_10_code
def yX6_noTurns : MethodName := ⟨RX6, "noTurns", "()I"⟩
abbrev cX6_hour : ByteArray := prog_1_method_11_code
def yX6_hour : MethodName := ⟨RX6, "hour", "(I)I"⟩
abbrev cX6_run : ByteArray := prog_1_method_12_code
def yX6_run : MethodName := ⟨RX6, "run", "(II)I"⟩
abbrev cX6_canalOf : ByteArray := prog_1_method_13_code
def yX6_canalOf : MethodName := ⟨RX6, "canalOf", "(II)I"⟩
abbrev cX6_fieldOf : ByteArray := prog_1_method_14_code
def yX6_fieldOf : MethodName := ⟨RX6, "fieldOf", "(II)I"⟩
abbrev cX6_turnOf : ByteArray := prog_1_method_15_code
def yX6_turnOf : MethodName := ⟨RX6, "turnOf", "(II)I"⟩
abbrev cX6_share : ByteArray := prog_1_method_16_code
def yX6_share : MethodName := ⟨RX6, "share", "(I)I"⟩
abbrev cX6_count : ByteArray := prog_1_method_22_code
def yX6_count : MethodName := ⟨RX6, "count", "(I)I"⟩
abbrev cX6_undo : ByteArray := prog_1_method_23_code
def yX6_undo : MethodName := ⟨RX6, "undo", "()I"⟩
abbrev cX6_isOutside : ByteArray := prog_1_method_28_code
def yX6_isOutside : MethodName := ⟨RX6, "isOutside", "(III)Z"⟩
abbrev cX6_asNumber : ByteArray := prog_1_method_29_code
def yX6_asNumber : MethodName := ⟨RX6, "asNumber", "(Z)I"⟩
abbrev cX6_tendsKind : ByteArray := prog_1_method_30_code
def yX6_tendsKind : MethodName := ⟨RX6, "tendsKind", "(II)Z"⟩
abbrev cX6_floatBits : ByteArray := prog_1_method_33_code
def yX6_floatBits : MethodName := ⟨RX6, "floatBits", "(JJ)I"⟩
def RX7 : String := "SluiceTurnsModel"
def TX7 : u_T := fun k => match k with
  | _ => ("", "", "", false)
def tyX7 : Nat → FieldType := fun k => match k with
  | _ => .int
abbrev wsX70 : List Cond := u_ws RX7 TX7 0
theorem nmX7 : ∀ a, a < 0 → ∀ b, b < 0 → a ≠ b → (TX7 a).2.1 ≠ (TX7 b).2.1 := by decide +kernel
theorem tyX7_ok : ∀ k, k < 0 → parseFieldDescriptor (TX7 k).2.2.1 = some (tyX7 k) := by decide +kernel
def RJ6 : String := "java/lang/Integer"
def TJ6 : u_T := fun k => match k with
  | _ => ("", "", "", false)
def tyJ6 : Nat → FieldType := fun k => match k with
  | _ => .int
abbrev wsJ60 : List Cond := u_ws RJ6 TJ6 0
theorem nmJ6 : ∀ a, a < 0 → ∀ b, b < 0 → a ≠ b → (TJ6 a).2.1 ≠ (TJ6 b).2.1 := by decide +kernel
theorem tyJ6_ok : ∀ k, k < 0 → parseFieldDescriptor (TJ6 k).2.2.1 = some (tyJ6 k) := by decide +kernel
abbrev cJ6_bitCount_0f7a4 : ByteArray := prog_10_method_49_code
def yJ6_bitCount_0f7a4 : MethodName := ⟨RJ6, "bitCount", "(I)I"⟩
def RJ9 : String := "java/lang/Math"
def TJ9 : u_T := fun k => match k with
  | _ => ("", "", "", false)
def tyJ9 : Nat → FieldType := fun k => match k with
  | _ => .int
abbrev wsJ90 : List Cond := u_ws RJ9 TJ9 0
theorem nmJ9 : ∀ a, a < 0 → ∀ b, b < 0 → a ≠ b → (TJ9 a).2.1 ≠ (TJ9 b).2.1 := by decide +kernel
theorem tyJ9_ok : ∀ k, k < 0 → parseFieldDescriptor (TJ9 k).2.2.1 = some (tyJ9 k) := by decide +kernel
abbrev cJ9_min_7cf53 : ByteArray := prog_11_method_69_code
def yJ9_min_7cf53 : MethodName := ⟨RJ9, "min", "(II)I"⟩
def RJ10 : String := "java/lang/System"
def TJ10 : u_T := fun k => match k with
  | _ => ("", "", "", false)
def tyJ10 : Nat → FieldType := fun k => match k with
  | _ => .int
abbrev wsJ100 : List Cond := u_ws RJ10 TJ10 0
theorem nmJ10 : ∀ a, a < 0 → ∀ b, b < 0 → a ≠ b → (TJ10 a).2.1 ≠ (TJ10 b).2.1 := by decide +kernel
theorem tyJ10_ok : ∀ k, k < 0 → parseFieldDescriptor (TJ10 k).2.2.1 = some (tyJ10 k) := by decide +kernel
def RJ7 : String := "java/util/Arrays"
def TJ7 : u_T := fun k => match k with
  | _ => ("", "", "", false)
def tyJ7 : Nat → FieldType := fun k => match k with
  | _ => .int
abbrev wsJ70 : List Cond := u_ws RJ7 TJ7 0
theorem nmJ7 : ∀ a, a < 0 → ∀ b, b < 0 → a ≠ b → (TJ7 a).2.1 ≠ (TJ7 b).2.1 := by decide +kernel
theorem tyJ7_ok : ∀ k, k < 0 → parseFieldDescriptor (TJ7 k).2.2.1 = some (tyJ7 k) := by decide +kernel
abbrev cJ7_fill_53178 : ByteArray := prog_13_method_103_code
def yJ7_fill_53178 : MethodName := ⟨RJ7, "fill", "([II)V"⟩
def RL : String := "SluiceTurnsLaw"
abbrev cL_cell : ByteArray := method_2_code
def yL_cell : MethodName := ⟨RL, "cell", "([II)I"⟩
abbrev cL_holds : ByteArray := method_3_code
def yL_holds : MethodName := ⟨RL, "holds", "(LSluiceTurns;)Z"⟩
abbrev cL_hour : ByteArray := method_4_code
def yL_hour : MethodName := ⟨RL, "hour", "(LSluiceTurns;I)Z"⟩
abbrev cL_acts : ByteArray := method_5_code
def yL_acts : MethodName := ⟨RL, "acts", "(LSluiceTurns;I)Z"⟩
abbrev cL_law : ByteArray := code
def yL_law : MethodName := ⟨RL, "law", "([I)Z"⟩
def wsL_law_r1 : List Cond := [Cond.classLink RL 10 RX6, Cond.instantiable RX6 4, Cond.initialized RX6, Cond.methodLink RL 67 yX6_init, Cond.instanceMethod yX6_init, Cond.code yX6_init cX6_init 1 none, Cond.methodLink RX6 3 objectInit, Cond.instanceMethod objectInit, Cond.code objectInit ⟨#[0xb1]⟩ 1 none, Cond.classLink RX6 9 RX4, Cond.instantiable RX4 11, Cond.initialized RX4, Cond.fieldLink RX6 12 "SluiceTurns" "now" "LSluiceTurns$Terrace;", Cond.fieldLink RX6 16 "SluiceTurns" "trial" "LSluiceTurns$Terrace;", Cond.classLink RX6 19 RX2, Cond.instantiable RX2 2, Cond.initialized RX2, Cond.fieldLink RX6 22 "SluiceTurns" "history" "LSluiceTurns$History;", Cond.classLink RX6 26 RX3, Cond.instantiable RX3 9, Cond.initialized RX3, Cond.fieldLink RX6 29 "SluiceTurns" "orders" "LSluiceTurns$Orders;", Cond.instanceMethod yX4_init, Cond.code yX4_init cX4_init 1 none]
def wsL_law_r2 : List Cond := [Cond.methodLink RX4 3 objectInit, Cond.classLink RX4 9 RX0, Cond.instantiable RX0 10, Cond.initialized RX0, Cond.fieldLink RX4 12 "SluiceTurns$Terrace" "canals" "LSluiceTurns$Canals;", Cond.classLink RX4 18 RX1, Cond.instantiable RX1 9, Cond.initialized RX1, Cond.fieldLink RX4 21 "SluiceTurns$Terrace" "fields" "LSluiceTurns$Fields;", Cond.classLink RX4 25 RX5, Cond.instantiable RX5 5, Cond.initialized RX5, Cond.fieldLink RX4 28 "SluiceTurns$Terrace" "turns" "LSluiceTurns$Turns;", Cond.arrayClass .int, Cond.fieldLink RX4 32 "SluiceTurns$Terrace" "callAt" "[I", Cond.fieldLink RX4 36 "SluiceTurns$Terrace" "callBelow" "[I", Cond.methodLink RX4 11 yX0_init, Cond.instanceMethod yX0_init, Cond.code yX0_init cX0_init 2 none, Cond.methodLink RX0 3 objectInit, Cond.fieldLink RX0 9 "SluiceTurns$Canals" "size" "I", Cond.fieldLink RX0 15 "SluiceTurns$Canals" "parent" "[I", Cond.fieldLink RX0 19 "SluiceTurns$Canals" "kind" "[I", Cond.fieldLink RX0 22 "SluiceTurns$Canals" "width" "[I"]
def wsL_law_r3 : List Cond := [Cond.fieldLink RX0 25 "SluiceTurns$Canals" "seepage" "[I", Cond.fieldLink RX0 28 "SluiceTurns$Canals" "crew" "[I", Cond.fieldLink RX0 31 "SluiceTurns$Canals" "came" "[I", Cond.fieldLink RX0 34 "SluiceTurns$Canals" "seeped" "[I", Cond.fieldLink RX0 37 "SluiceTurns$Canals" "ranOff" "[I", Cond.instanceMethod yX1_init, Cond.code yX1_init cX1_init 1 none, Cond.methodLink RX1 3 objectInit, Cond.fieldLink RX1 9 "SluiceTurns$Fields" "canal" "[I", Cond.fieldLink RX1 15 "SluiceTurns$Fields" "need" "[I", Cond.fieldLink RX1 18 "SluiceTurns$Fields" "mouth" "[I", Cond.fieldLink RX1 21 "SluiceTurns$Fields" "right" "[I", Cond.fieldLink RX1 24 "SluiceTurns$Fields" "got" "[I", Cond.fieldLink RX1 27 "SluiceTurns$Fields" "hourOfNeed" "[I", Cond.fieldLink RX1 30 "SluiceTurns$Fields" "byRight" "[I", Cond.instanceMethod yX5_init, Cond.code yX5_init cX5_init 1 none, Cond.methodLink RX5 3 objectInit, Cond.fieldLink RX5 9 "SluiceTurns$Turns" "gates" "[I", Cond.fieldLink RX5 15 "SluiceTurns$Turns" "hours" "[I", Cond.methodLink RX6 21 yX2_init, Cond.instanceMethod yX2_init, Cond.code yX2_init cX2_init 2 none, Cond.methodLink RX2 3 objectInit]
def wsL_law_r4 : List Cond := [Cond.classLink RX2 9 RX4, Cond.fieldLink RX2 11 "SluiceTurns$History" "states" "[LSluiceTurns$Terrace;", Cond.instanceMethod yX3_init, Cond.code yX3_init cX3_init 1 none, Cond.methodLink RX3 3 objectInit, Cond.fieldLink RX3 9 "SluiceTurns$Orders" "characters" "[I", Cond.methodLink RL 68 yL_holds, Cond.static yL_holds, Cond.initialized RL, Cond.code yL_holds cL_holds 12 (some .boolean), Cond.constant RL 19 (-1000004), Cond.methodLink RL 9 yX6_count, Cond.instanceMethod yX6_count, Cond.selects RX6 yX6_count yX6_count, Cond.code yX6_count cX6_count 2 (some .int), Cond.fieldLink RX6 33 "SluiceTurns$Terrace" "canals" "LSluiceTurns$Canals;", Cond.fieldLink RX6 48 "SluiceTurns$Canals" "size" "I", Cond.fieldLink RX6 61 "SluiceTurns$Terrace" "fields" "LSluiceTurns$Fields;", Cond.fieldLink RX6 65 "SluiceTurns$Fields" "size" "I", Cond.fieldLink RX6 242 "SluiceTurns$Fields" "calling" "I", Cond.fieldLink RX6 215 "SluiceTurns$Canals" "open" "I", Cond.fieldLink RX6 248 "SluiceTurns$Terrace" "hours" "I", Cond.fieldLink RX6 199 "SluiceTurns$Terrace" "letIn" "I", Cond.fieldLink RX6 202 "SluiceTurns$Terrace" "got" "I"]
def wsL_law_r5 : List Cond := [Cond.fieldLink RX6 208 "SluiceTurns$Terrace" "seeped" "I", Cond.fieldLink RX6 210 "SluiceTurns$Terrace" "ranOff" "I", Cond.fieldLink RX6 110 "SluiceTurns$Terrace" "turns" "LSluiceTurns$Turns;", Cond.fieldLink RX6 114 "SluiceTurns$Turns" "size" "I", Cond.constant RX6 133 (-1000004), Cond.fieldLink RX6 250 "SluiceTurns$Turns" "on" "I", Cond.fieldLink RX6 253 "SluiceTurns$Turns" "gone" "I", Cond.fieldLink RX6 256 "SluiceTurns$History" "size" "I", Cond.fieldLink RX6 257 "SluiceTurns$Orders" "length" "I", Cond.constant RX6 47 (-1000001), Cond.methodLink RX6 236 yX1_wanting, Cond.instanceMethod yX1_wanting, Cond.selects RX1 yX1_wanting yX1_wanting, Cond.code yX1_wanting cX1_wanting 3 (some .int), Cond.fieldLink RX1 33 "SluiceTurns$Fields" "size" "I", Cond.methodLink RX1 46 yX1_wants, Cond.instanceMethod yX1_wants, Cond.selects RX1 yX1_wants yX1_wants, Cond.code yX1_wants cX1_wants 2 (some .boolean), Cond.methodLink RX6 227 yJ6_bitCount_0f7a4, Cond.static yJ6_bitCount_0f7a4, Cond.initialized RJ6, Cond.code yJ6_bitCount_0f7a4 cJ6_bitCount_0f7a4 1 (some .int), Cond.constant RJ6 265 (1431655765)]
def wsL_law_r6 : List Cond := [Cond.constant RJ6 266 (858993459), Cond.constant RJ6 267 (252645135), Cond.methodLink RX6 245 yX0_tended, Cond.instanceMethod yX0_tended, Cond.selects RX0 yX0_tended yX0_tended, Cond.code yX0_tended cX0_tended 3 (some .int), Cond.methodLink RX0 53 yX0_isTended, Cond.instanceMethod yX0_isTended, Cond.selects RX0 yX0_isTended yX0_isTended, Cond.code yX0_isTended cX0_isTended 2 (some .boolean), Cond.methodLink RL 15 yX6_fieldOf, Cond.instanceMethod yX6_fieldOf, Cond.selects RX6 yX6_fieldOf yX6_fieldOf, Cond.code yX6_fieldOf cX6_fieldOf 4 (some .int), Cond.fieldLink RX6 162 "SluiceTurns$Fields" "canal" "[I", Cond.fieldLink RX6 165 "SluiceTurns$Fields" "need" "[I", Cond.fieldLink RX6 168 "SluiceTurns$Fields" "mouth" "[I", Cond.fieldLink RX6 171 "SluiceTurns$Fields" "right" "[I", Cond.fieldLink RX6 174 "SluiceTurns$Fields" "got" "[I", Cond.fieldLink RX6 189 "SluiceTurns$Fields" "hourOfNeed" "[I", Cond.methodLink RX6 100 yX1_has, Cond.instanceMethod yX1_has, Cond.selects RX1 yX1_has yX1_has, Cond.code yX1_has cX1_has 2 (some .boolean)]
def wsL_law_r7 : List Cond := [Cond.methodLink RX6 177 yX1_calls, Cond.instanceMethod yX1_calls, Cond.selects RX1 yX1_calls yX1_calls, Cond.code yX1_calls cX1_calls 2 (some .boolean), Cond.fieldLink RX1 37 "SluiceTurns$Fields" "calling" "I", Cond.methodLink RX6 146 yX6_asNumber, Cond.static yX6_asNumber, Cond.code yX6_asNumber cX6_asNumber 1 (some .int), Cond.methodLink RX6 180 yX4_findCallsBelow, Cond.instanceMethod yX4_findCallsBelow, Cond.selects RX4 yX4_findCallsBelow yX4_findCallsBelow, Cond.code yX4_findCallsBelow cX4_findCallsBelow 3 none, Cond.fieldLink RX4 119 "SluiceTurns$Fields" "size" "I", Cond.fieldLink RX4 124 "SluiceTurns$Fields" "canal" "[I", Cond.fieldLink RX4 127 "SluiceTurns$Fields" "right" "[I", Cond.methodLink RX4 96 Lib.Math.min.name, Cond.static Lib.Math.min.name, Cond.initialized "java/lang/Math", Cond.code Lib.Math.min.name Lib.Math.min.code 2 (some .int), Cond.fieldLink RX4 102 "SluiceTurns$Canals" "size" "I", Cond.fieldLink RX4 133 "SluiceTurns$Canals" "parent" "[I", Cond.methodLink RX4 87 yJ7_fill_53178, Cond.static yJ7_fill_53178, Cond.initialized RJ7]
def wsL_law_r8 : List Cond := [Cond.code yJ7_fill_53178 cJ7_fill_53178 4 none, Cond.methodLink RX4 120 yX1_calls, Cond.methodLink RX4 130 yX0_isOpen, Cond.instanceMethod yX0_isOpen, Cond.selects RX0 yX0_isOpen yX0_isOpen, Cond.code yX0_isOpen cX0_isOpen 2 (some .boolean), Cond.fieldLink RX0 40 "SluiceTurns$Canals" "open" "I", Cond.methodLink RX6 183 yX4_mayTake, Cond.instanceMethod yX4_mayTake, Cond.selects RX4 yX4_mayTake yX4_mayTake, Cond.code yX4_mayTake cX4_mayTake 2 (some .boolean), Cond.methodLink RX6 186 yX1_wants, Cond.methodLink RL 20 yX6_canalOf, Cond.instanceMethod yX6_canalOf, Cond.selects RX6 yX6_canalOf yX6_canalOf, Cond.code yX6_canalOf cX6_canalOf 4 (some .int), Cond.fieldLink RX6 134 "SluiceTurns$Canals" "parent" "[I", Cond.fieldLink RX6 75 "SluiceTurns$Canals" "kind" "[I", Cond.fieldLink RX6 137 "SluiceTurns$Canals" "width" "[I", Cond.fieldLink RX6 140 "SluiceTurns$Canals" "seepage" "[I", Cond.fieldLink RX6 88 "SluiceTurns$Canals" "crew" "[I", Cond.fieldLink RX6 153 "SluiceTurns$Canals" "came" "[I", Cond.fieldLink RX6 156 "SluiceTurns$Canals" "seeped" "[I", Cond.fieldLink RX6 159 "SluiceTurns$Canals" "ranOff" "[I"]
def wsL_law_r9 : List Cond := [Cond.methodLink RX6 37 yX0_has, Cond.instanceMethod yX0_has, Cond.selects RX0 yX0_has yX0_has, Cond.code yX0_has cX0_has 2 (some .boolean), Cond.methodLink RX6 143 yX0_isOpen, Cond.methodLink RX6 72 yX0_isTended, Cond.methodLink RX6 150 yX0_below, Cond.instanceMethod yX0_below, Cond.selects RX0 yX0_below yX0_below, Cond.code yX0_below cX0_below 4 (some .int), Cond.methodLink RL 23 yX6_share, Cond.instanceMethod yX6_share, Cond.selects RX6 yX6_share yX6_share, Cond.code yX6_share cX6_share 2 (some .int), Cond.methodLink RX6 43 yX6_isOutside, Cond.static yX6_isOutside, Cond.code yX6_isOutside cX6_isOutside 3 (some .boolean), Cond.methodLink RX6 204 yX6_floatBits, Cond.static yX6_floatBits, Cond.code yX6_floatBits cX6_floatBits 10 (some .int), Cond.constantLong RX6 279 (2), Cond.constantLong RX6 281 (8388608), Cond.methodLink RL 29 yX6_canal, Cond.instanceMethod yX6_canal]
def wsL_law_r10 : List Cond := [Cond.selects RX6 yX6_canal yX6_canal, Cond.code yX6_canal cX6_canal 5 (some .int), Cond.constant RX6 52 (-1000003), Cond.methodLink RX6 53 yX2_record, Cond.instanceMethod yX2_record, Cond.selects RX2 yX2_record yX2_record, Cond.code yX2_record cX2_record 2 none, Cond.fieldLink RX2 18 "SluiceTurns$History" "size" "I", Cond.methodLink RX2 22 yX2_dropOldest, Cond.instanceMethod yX2_dropOldest, Cond.selects RX2 yX2_dropOldest yX2_dropOldest, Cond.code yX2_dropOldest cX2_dropOldest 3 none, Cond.methodLink RX2 25 yX4_become, Cond.instanceMethod yX4_become, Cond.selects RX4 yX4_become yX4_become, Cond.code yX4_become cX4_become 2 none, Cond.fieldLink RX4 49 "SluiceTurns$Terrace" "hours" "I", Cond.fieldLink RX4 53 "SluiceTurns$Terrace" "letIn" "I", Cond.fieldLink RX4 56 "SluiceTurns$Terrace" "got" "I", Cond.fieldLink RX4 59 "SluiceTurns$Terrace" "seeped" "I", Cond.fieldLink RX4 62 "SluiceTurns$Terrace" "ranOff" "I", Cond.methodLink RX4 39 yX0_become, Cond.instanceMethod yX0_become, Cond.selects RX0 yX0_become yX0_become]
def wsL_law_r11 : List Cond := [Cond.code yX0_become cX0_become 2 none, Cond.methodLink RX0 43 arraycopyName, Cond.native arraycopyName, Cond.static arraycopyName, Cond.initialized "java/lang/System", Cond.methodLink RX4 43 yX1_become, Cond.instanceMethod yX1_become, Cond.selects RX1 yX1_become yX1_become, Cond.code yX1_become cX1_become 2 none, Cond.methodLink RX1 40 arraycopyName, Cond.methodLink RX4 46 yX5_become, Cond.instanceMethod yX5_become, Cond.selects RX5 yX5_become yX5_become, Cond.code yX5_become cX5_become 2 none, Cond.fieldLink RX5 18 "SluiceTurns$Turns" "size" "I", Cond.fieldLink RX5 22 "SluiceTurns$Turns" "on" "I", Cond.fieldLink RX5 25 "SluiceTurns$Turns" "gone" "I", Cond.methodLink RX5 28 arraycopyName, Cond.methodLink RX6 57 yX0_add, Cond.instanceMethod yX0_add, Cond.selects RX0 yX0_add yX0_add, Cond.code yX0_add cX0_add 6 (some .int), Cond.methodLink RL 35 yX6_field, Cond.instanceMethod yX6_field]
def wsL_law_r12 : List Cond := [Cond.selects RX6 yX6_field yX6_field, Cond.code yX6_field cX6_field 5 (some .int), Cond.methodLink RX6 68 yX1_add, Cond.instanceMethod yX1_add, Cond.selects RX1 yX1_add yX1_add, Cond.code yX1_add cX1_add 7 (some .int), Cond.methodLink RL 72 yL_cell, Cond.static yL_cell, Cond.code yL_cell cL_cell 2 (some .int), Cond.constant RL 7 (65539), Cond.constant RL 8 (2147483647), Cond.methodLink RL 76 yL_acts, Cond.static yL_acts, Cond.code yL_acts cL_acts 16 (some .boolean), Cond.constant RL 33 (-1000003), Cond.constant RL 34 (524288), Cond.constant RL 41 (-1000001), Cond.constant RL 42 (-1000002), Cond.methodLink RL 38 yX6_call, Cond.instanceMethod yX6_call, Cond.selects RX6 yX6_call yX6_call, Cond.code yX6_call cX6_call 2 (some .int), Cond.constant RX6 83 (-1000002), Cond.methodLink RX6 101 yX1_canCall]
def wsL_law_r13 : List Cond := [Cond.instanceMethod yX1_canCall, Cond.selects RX1 yX1_canCall yX1_canCall, Cond.code yX1_canCall cX1_canCall 2 (some .boolean), Cond.methodLink RX1 50 yX1_calls, Cond.methodLink RX6 104 yX1_beginCall, Cond.instanceMethod yX1_beginCall, Cond.selects RX1 yX1_beginCall yX1_beginCall, Cond.code yX1_beginCall cX1_beginCall 2 (some .int), Cond.methodLink RX1 53 yJ6_bitCount_0f7a4, Cond.methodLink RL 43 yX6_noTurns, Cond.instanceMethod yX6_noTurns, Cond.selects RX6 yX6_noTurns yX6_noTurns, Cond.code yX6_noTurns cX6_noTurns 1 (some .int), Cond.methodLink RX6 120 yX5_removeAll, Cond.instanceMethod yX5_removeAll, Cond.selects RX5 yX5_removeAll yX5_removeAll, Cond.code yX5_removeAll cX5_removeAll 2 (some .int), Cond.methodLink RX5 34 yX5_beginAgain, Cond.instanceMethod yX5_beginAgain, Cond.selects RX5 yX5_beginAgain yX5_beginAgain, Cond.code yX5_beginAgain cX5_beginAgain 1 none, Cond.methodLink RL 47 yX6_turn, Cond.instanceMethod yX6_turn, Cond.selects RX6 yX6_turn yX6_turn]
def wsL_law_r14 : List Cond := [Cond.code yX6_turn cX6_turn 3 (some .int), Cond.methodLink RX6 107 yX0_areGates, Cond.instanceMethod yX0_areGates, Cond.selects RX0 yX0_areGates yX0_areGates, Cond.code yX0_areGates cX0_areGates 2 (some .boolean), Cond.methodLink RX0 49 yX0_allGates, Cond.instanceMethod yX0_allGates, Cond.selects RX0 yX0_allGates yX0_allGates, Cond.code yX0_allGates cX0_allGates 1 (some .int), Cond.methodLink RX6 117 yX5_add, Cond.instanceMethod yX5_add, Cond.selects RX5 yX5_add yX5_add, Cond.code yX5_add cX5_add 3 (some .int), Cond.methodLink RL 50 yX6_run, Cond.instanceMethod yX6_run, Cond.selects RX6 yX6_run yX6_run, Cond.code yX6_run cX6_run 3 (some .int), Cond.methodLink RX6 124 yX4_hasHoursLeft, Cond.instanceMethod yX4_hasHoursLeft, Cond.selects RX4 yX4_hasHoursLeft yX4_hasHoursLeft, Cond.code yX4_hasHoursLeft cX4_hasHoursLeft 2 (some .boolean), Cond.methodLink RX6 130 yX4_runHours, Cond.instanceMethod yX4_runHours, Cond.selects RX4 yX4_runHours yX4_runHours]
def wsL_law_r15 : List Cond := [Cond.code yX4_runHours cX4_runHours 5 (some .int), Cond.fieldLink RX4 65 "SluiceTurns$Canals" "open" "I", Cond.methodLink RX4 68 yX5_gatesInNextHour, Cond.instanceMethod yX5_gatesInNextHour, Cond.selects RX5 yX5_gatesInNextHour yX5_gatesInNextHour, Cond.code yX5_gatesInNextHour cX5_gatesInNextHour 2 (some .int), Cond.methodLink RX4 72 yX4_passHour, Cond.instanceMethod yX4_passHour, Cond.selects RX4 yX4_passHour yX4_passHour, Cond.code yX4_passHour cX4_passHour 5 (some .int), Cond.fieldLink RX4 84 "SluiceTurns$Canals" "came" "[I", Cond.fieldLink RX4 93 "SluiceTurns$Canals" "width" "[I", Cond.fieldLink RX4 114 "SluiceTurns$Canals" "ranOff" "[I", Cond.methodLink RX4 78 yX4_findCallsBelow, Cond.methodLink RX4 81 yX4_findPassingGates, Cond.instanceMethod yX4_findPassingGates, Cond.selects RX4 yX4_findPassingGates yX4_findPassingGates, Cond.code yX4_findPassingGates cX4_findPassingGates 4 none, Cond.fieldLink RX4 139 "SluiceTurns$Terrace" "passing" "I", Cond.fieldLink RX4 142 "SluiceTurns$Canals" "kind" "[I", Cond.methodLink RX4 136 yX1_wants, Cond.methodLink RX4 105 yX4_seepAway, Cond.instanceMethod yX4_seepAway, Cond.selects RX4 yX4_seepAway yX4_seepAway]
def wsL_law_r16 : List Cond := [Cond.code yX4_seepAway cX4_seepAway 4 (some .int), Cond.fieldLink RX4 145 "SluiceTurns$Canals" "seepage" "[I", Cond.fieldLink RX4 148 "SluiceTurns$Canals" "seeped" "[I", Cond.methodLink RX4 108 yX4_giveToFields, Cond.instanceMethod yX4_giveToFields, Cond.selects RX4 yX4_giveToFields yX4_giveToFields, Cond.code yX4_giveToFields cX4_giveToFields 6 (some .int), Cond.fieldLink RX4 150 "SluiceTurns$Fields" "byRight" "[I", Cond.methodLink RX4 153 yX4_mayTake, Cond.methodLink RX4 156 yX1_give, Cond.instanceMethod yX1_give, Cond.selects RX1 yX1_give yX1_give, Cond.code yX1_give cX1_give 5 (some .int), Cond.methodLink RX1 59 Lib.Math.min.name, Cond.methodLink RX4 111 yX4_partAmongGates, Cond.instanceMethod yX4_partAmongGates, Cond.selects RX4 yX4_partAmongGates yX4_partAmongGates, Cond.code yX4_partAmongGates cX4_partAmongGates 8 (some .int), Cond.methodLink RX4 160 yX4_isPassingFrom, Cond.instanceMethod yX4_isPassingFrom, Cond.selects RX4 yX4_isPassingFrom yX4_isPassingFrom, Cond.code yX4_isPassingFrom cX4_isPassingFrom 3 (some .boolean), Cond.methodLink RX4 164 yX4_throughGate, Cond.instanceMethod yX4_throughGate]
def wsL_law_r17 : List Cond := [Cond.selects RX4 yX4_throughGate yX4_throughGate, Cond.code yX4_throughGate cX4_throughGate 4 (some .int), Cond.methodLink RX4 116 yX4_endCalls, Cond.instanceMethod yX4_endCalls, Cond.selects RX4 yX4_endCalls yX4_endCalls, Cond.code yX4_endCalls cX4_endCalls 1 none, Cond.fieldLink RX4 167 "SluiceTurns$Fields" "calling" "I", Cond.methodLink RX4 170 yX1_wanting, Cond.methodLink RX4 75 yX5_goOn, Cond.instanceMethod yX5_goOn, Cond.selects RX5 yX5_goOn yX5_goOn, Cond.code yX5_goOn cX5_goOn 1 none, Cond.methodLink RL 53 yX6_turnOf, Cond.instanceMethod yX6_turnOf, Cond.selects RX6 yX6_turnOf yX6_turnOf, Cond.code yX6_turnOf cX6_turnOf 3 (some .int), Cond.fieldLink RX6 193 "SluiceTurns$Turns" "gates" "[I", Cond.fieldLink RX6 196 "SluiceTurns$Turns" "hours" "[I", Cond.methodLink RX6 192 yX5_has, Cond.instanceMethod yX5_has, Cond.selects RX5 yX5_has yX5_has, Cond.code yX5_has cX5_has 2 (some .boolean), Cond.methodLink RL 56 yX6_open, Cond.instanceMethod yX6_open]
def wsL_law_r18 : List Cond := [Cond.selects RX6 yX6_open yX6_open, Cond.code yX6_open cX6_open 2 (some .int), Cond.methodLink RX6 69 yX0_hasGate, Cond.instanceMethod yX0_hasGate, Cond.selects RX0 yX0_hasGate yX0_hasGate, Cond.code yX0_hasGate cX0_hasGate 2 (some .boolean), Cond.methodLink RX6 91 yX0_canBeOpened, Cond.instanceMethod yX0_canBeOpened, Cond.selects RX0 yX0_canBeOpened yX0_canBeOpened, Cond.code yX0_canBeOpened cX0_canBeOpened 2 (some .boolean), Cond.methodLink RX0 57 yX0_isOpen, Cond.methodLink RX6 94 yX0_flipGate, Cond.instanceMethod yX0_flipGate, Cond.selects RX0 yX0_flipGate yX0_flipGate, Cond.code yX0_flipGate cX0_flipGate 2 (some .int), Cond.methodLink RL 59 yX6_tend, Cond.instanceMethod yX6_tend, Cond.selects RX6 yX6_tend yX6_tend, Cond.code yX6_tend cX6_tend 3 (some .int), Cond.methodLink RX6 79 yX6_tendsKind, Cond.static yX6_tendsKind, Cond.code yX6_tendsKind cX6_tendsKind 2 (some .boolean), Cond.methodLink RX6 84 yX0_gatesOf, Cond.instanceMethod yX0_gatesOf]
def wsL_law_r19 : List Cond := [Cond.selects RX0 yX0_gatesOf yX0_gatesOf, Cond.code yX0_gatesOf cX0_gatesOf 4 (some .int), Cond.methodLink RL 62 yL_hour, Cond.static yL_hour, Cond.code yL_hour cL_hour 14 (some .boolean), Cond.methodLink RL 26 yX6_hour, Cond.instanceMethod yX6_hour, Cond.selects RX6 yX6_hour yX6_hour, Cond.code yX6_hour cX6_hour 2 (some .int), Cond.methodLink RX6 127 yX4_passHour, Cond.methodLink RL 79 yX6_undo, Cond.instanceMethod yX6_undo, Cond.selects RX6 yX6_undo yX6_undo, Cond.code yX6_undo cX6_undo 1 (some .int), Cond.methodLink RX6 260 yX2_restoreLatest, Cond.instanceMethod yX2_restoreLatest, Cond.selects RX2 yX2_restoreLatest yX2_restoreLatest, Cond.code yX2_restoreLatest cX2_restoreLatest 2 (some .int)]
def wsL_law : List Cond := (wsL_law_r1 ++ (wsL_law_r2 ++ (wsL_law_r3 ++ (wsL_law_r4 ++ (wsL_law_r5 ++ (wsL_law_r6 ++ (wsL_law_r7 ++ (wsL_law_r8 ++ (wsL_law_r9 ++ (wsL_law_r10 ++ (wsL_law_r11 ++ (wsL_law_r12 ++ (wsL_law_r13 ++ (wsL_law_r14 ++ (wsL_law_r15 ++ (wsL_law_r16 ++ (wsL_law_r17 ++ (wsL_law_r18 ++ wsL_law_r19)))))))))))))))))) ++ wsX60 ++ wsX40 ++ wsX20 ++ wsX30 ++ wsX00 ++ wsX10 ++ wsX50 ++ ([] : List Cond)
theorem inlX0 : ∀ w ∈ wsX00, w ∈ wsL_law := fun _ h => List.mem_append_left _ (List.mem_append_left _ (List.mem_append_left _ (List.mem_append_right _ h)))
theorem inlX1 : ∀ w ∈ wsX10, w ∈ wsL_law := fun _ h => List.mem_append_left _ (List.mem_append_left _ (List.mem_append_right _ h))
theorem inlX2 : ∀ w ∈ wsX20, w ∈ wsL_law := fun _ h => List.mem_append_left _ (List.mem_append_left _ (List.mem_append_left _ (List.mem_append_left _ (List.mem_append_left _ (List.mem_append_right _ h)))))
theorem inlX3 : ∀ w ∈ wsX30, w ∈ wsL_law := fun _ h => List.mem_append_left _ (List.mem_append_left _ (List.mem_append_left _ (List.mem_append_left _ (List.mem_append_right _ h))))
theorem inlX4 : ∀ w ∈ wsX40, w ∈ wsL_law := fun _ h => List.mem_append_left _ (List.mem_append_left _ (List.mem_append_left _ (List.mem_append_left _ (List.mem_append_left _ (List.mem_append_left _ (List.mem_append_right _ h))))))
theorem inlX5 : ∀ w ∈ wsX50, w ∈ wsL_law := fun _ h => List.mem_append_left _ (List.mem_append_right _ h)
theorem inlX6 : ∀ w ∈ wsX60, w ∈ wsL_law := fun _ h => List.mem_append_left _ (List.mem_append_left _ (List.mem_append_left _ (List.mem_append_left _ (List.mem_append_left _ (List.mem_append_left _ (List.mem_append_left _ (List.mem_append_right _ h)))))))
abbrev vwCl : List vw_C := [(RX0, TX0, 10), (RX1, TX1, 9), (RX2, TX2, 2), (RX3, TX3, 9), (RX4, TX4, 11), (RX5, TX5, 5), (RX6, TX6, 4)]
