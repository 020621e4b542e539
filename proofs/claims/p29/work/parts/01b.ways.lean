/-! each method's words: its own code, and the words of all -/
def wsX0_become : List Cond := .code yX0_become cX0_become 2 none :: wsL_law
def wsX0_has : List Cond := .code yX0_has cX0_has 2 (some .boolean) :: wsL_law
def wsX0_hasGate : List Cond := .code yX0_hasGate cX0_hasGate 2 (some .boolean) :: wsL_law
def wsX0_allGates : List Cond := .code yX0_allGates cX0_allGates 1 (some .int) :: wsL_law
def wsX0_areGates : List Cond := .code yX0_areGates cX0_areGates 2 (some .boolean) :: wsL_law
def wsX0_add : List Cond := .code yX0_add cX0_add 6 (some .int) :: wsL_law
def wsX0_isOpen : List Cond := .code yX0_isOpen cX0_isOpen 2 (some .boolean) :: wsL_law
def wsX0_isTended : List Cond := .code yX0_isTended cX0_isTended 2 (some .boolean) :: wsL_law
def wsX0_canBeOpened : List Cond := .code yX0_canBeOpened cX0_canBeOpened 2 (some .boolean) :: wsL_law
def wsX0_flipGate : List Cond := .code yX0_flipGate cX0_flipGate 2 (some .int) :: wsL_law
def wsX0_tended : List Cond := .code yX0_tended cX0_tended 3 (some .int) :: wsL_law
def wsX0_gatesOf : List Cond := .code yX0_gatesOf cX0_gatesOf 4 (some .int) :: wsL_law
def wsX0_below : List Cond := .code yX0_below cX0_below 4 (some .int) :: wsL_law
def wsX1_become : List Cond := .code yX1_become cX1_become 2 none :: wsL_law
def wsX1_has : List Cond := .code yX1_has cX1_has 2 (some .boolean) :: wsL_law
def wsX1_add : List Cond := .code yX1_add cX1_add 7 (some .int) :: wsL_law
def wsX1_wants : List Cond := .code yX1_wants cX1_wants 2 (some .boolean) :: wsL_law
def wsX1_wanting : List Cond := .code yX1_wanting cX1_wanting 3 (some .int) :: wsL_law
def wsX1_calls : List Cond := .code yX1_calls cX1_calls 2 (some .boolean) :: wsL_law
def wsX1_canCall : List Cond := .code yX1_canCall cX1_canCall 2 (some .boolean) :: wsL_law
def wsJ6_bitCount_0f7a4 : List Cond := .code yJ6_bitCount_0f7a4 cJ6_bitCount_0f7a4 1 (some .int) :: wsL_law
def wsX1_beginCall : List Cond := .code yX1_beginCall cX1_beginCall 2 (some .int) :: wsL_law
def wsX1_give : List Cond := .code yX1_give cX1_give 5 (some .int) :: wsL_law
def wsX2_dropOldest : List Cond := .code yX2_dropOldest cX2_dropOldest 3 none :: wsL_law
def wsX5_become : List Cond := .code yX5_become cX5_become 2 none :: wsL_law
def wsX4_become : List Cond := .code yX4_become cX4_become 2 none :: wsL_law
def wsX2_record : List Cond := .code yX2_record cX2_record 2 none :: wsL_law
def wsX2_restoreLatest : List Cond := .code yX2_restoreLatest cX2_restoreLatest 2 (some .int) :: wsL_law
def wsX4_hasHoursLeft : List Cond := .code yX4_hasHoursLeft cX4_hasHoursLeft 2 (some .boolean) :: wsL_law
def wsX5_gatesInNextHour : List Cond := .code yX5_gatesInNextHour cX5_gatesInNextHour 2 (some .int) :: wsL_law
def wsJ7_fill_53178 : List Cond := .code yJ7_fill_53178 cJ7_fill_53178 4 none :: wsL_law
def wsX4_findCallsBelow : List Cond := .code yX4_findCallsBelow cX4_findCallsBelow 3 none :: wsL_law
def wsX4_findPassingGates : List Cond := .code yX4_findPassingGates cX4_findPassingGates 4 none :: wsL_law
def wsX4_seepAway : List Cond := .code yX4_seepAway cX4_seepAway 4 (some .int) :: wsL_law
def wsX4_mayTake : List Cond := .code yX4_mayTake cX4_mayTake 2 (some .boolean) :: wsL_law
def wsX4_giveToFields : List Cond := .code yX4_giveToFields cX4_giveToFields 6 (some .int) :: wsL_law
def wsX4_isPassingFrom : List Cond := .code yX4_isPassingFrom cX4_isPassingFrom 3 (some .boolean) :: wsL_law
def wsX4_throughGate : List Cond := .code yX4_throughGate cX4_throughGate 4 (some .int) :: wsL_law
def wsX4_partAmongGates : List Cond := .code yX4_partAmongGates cX4_partAmongGates 8 (some .int) :: wsL_law
def wsX4_endCalls : List Cond := .code yX4_endCalls cX4_endCalls 1 none :: wsL_law
def wsX4_passHour : List Cond := .code yX4_passHour cX4_passHour 5 (some .int) :: wsL_law
def wsX5_goOn : List Cond := .code yX5_goOn cX5_goOn 1 none :: wsL_law
def wsX4_runHours : List Cond := .code yX4_runHours cX4_runHours 5 (some .int) :: wsL_law
def wsX5_has : List Cond := .code yX5_has cX5_has 2 (some .boolean) :: wsL_law
def wsX5_beginAgain : List Cond := .code yX5_beginAgain cX5_beginAgain 1 none :: wsL_law
def wsX5_add : List Cond := .code yX5_add cX5_add 3 (some .int) :: wsL_law
def wsX5_removeAll : List Cond := .code yX5_removeAll cX5_removeAll 2 (some .int) :: wsL_law
def wsX6_isOutside : List Cond := .code yX6_isOutside cX6_isOutside 3 (some .boolean) :: wsL_law
def wsX6_canal : List Cond := .code yX6_canal cX6_canal 5 (some .int) :: wsL_law
def wsX6_field : List Cond := .code yX6_field cX6_field 5 (some .int) :: wsL_law
def wsX6_tendsKind : List Cond := .code yX6_tendsKind cX6_tendsKind 2 (some .boolean) :: wsL_law
def wsX6_tend : List Cond := .code yX6_tend cX6_tend 3 (some .int) :: wsL_law
def wsX6_open : List Cond := .code yX6_open cX6_open 2 (some .int) :: wsL_law
def wsX6_call : List Cond := .code yX6_call cX6_call 2 (some .int) :: wsL_law
def wsX6_turn : List Cond := .code yX6_turn cX6_turn 3 (some .int) :: wsL_law
def wsX6_noTurns : List Cond := .code yX6_noTurns cX6_noTurns 1 (some .int) :: wsL_law
def wsX6_hour : List Cond := .code yX6_hour cX6_hour 2 (some .int) :: wsL_law
def wsX6_run : List Cond := .code yX6_run cX6_run 3 (some .int) :: wsL_law
def wsX6_asNumber : List Cond := .code yX6_asNumber cX6_asNumber 1 (some .int) :: wsL_law
def wsX6_canalOf : List Cond := .code yX6_canalOf cX6_canalOf 4 (some .int) :: wsL_law
def wsX6_fieldOf : List Cond := .code yX6_fieldOf cX6_fieldOf 4 (some .int) :: wsL_law
def wsX6_turnOf : List Cond := .code yX6_turnOf cX6_turnOf 3 (some .int) :: wsL_law
def wsX6_floatBits : List Cond := .code yX6_floatBits cX6_floatBits 10 (some .int) :: wsL_law
def wsX6_share : List Cond := .code yX6_share cX6_share 2 (some .int) :: wsL_law
def wsX6_count : List Cond := .code yX6_count cX6_count 2 (some .int) :: wsL_law
def wsX6_undo : List Cond := .code yX6_undo cX6_undo 1 (some .int) :: wsL_law
def wsL_cell : List Cond := .code yL_cell cL_cell 2 (some .int) :: wsL_law
def wsL_holds : List Cond := .code yL_holds cL_holds 12 (some .boolean) :: wsL_law
def wsL_hour : List Cond := .code yL_hour cL_hour 14 (some .boolean) :: wsL_law
def wsL_acts : List Cond := .code yL_acts cL_acts 16 (some .boolean) :: wsL_law
theorem iL_1 : ∀ w ∈ wsL_law_r1, w ∈ wsL_law := by intro w h; unfold wsL_law; simp only [List.mem_append, h, true_or, or_true]
theorem kL_1 : wsL_law_r1.all goodWord = true := by decide +kernel
theorem iL_2 : ∀ w ∈ wsL_law_r2, w ∈ wsL_law := by intro w h; unfold wsL_law; simp only [List.mem_append, h, true_or, or_true]
theorem kL_2 : wsL_law_r2.all goodWord = true := by decide +kernel
theorem iL_3 : ∀ w ∈ wsL_law_r3, w ∈ wsL_law := by intro w h; unfold wsL_law; simp only [List.mem_append, h, true_or, or_true]
theorem kL_3 : wsL_law_r3.all goodWord = true := by decide +kernel
theorem iL_4 : ∀ w ∈ wsL_law_r4, w ∈ wsL_law := by intro w h; unfold wsL_law; simp only [List.mem_append, h, true_or, or_true]
theorem kL_4 : wsL_law_r4.all goodWord = true := by decide +kernel
theorem iL_5 : ∀ w ∈ wsL_law_r5, w ∈ wsL_law := by intro w h; unfold wsL_law; simp only [List.mem_append, h, true_or, or_true]
theorem kL_5 : wsL_law_r5.all goodWord = true := by decide +kernel
theorem iL_6 : ∀ w ∈ wsL_law_r6, w ∈ wsL_law := by intro w h; unfold wsL_law; simp only [List.mem_append, h, true_or, or_true]
theorem kL_6 : wsL_law_r6.all goodWord = true := by decide +kernel
theorem iL_7 : ∀ w ∈ wsL_law_r7, w ∈ wsL_law := by intro w h; unfold wsL_law; simp only [List.mem_append, h, true_or, or_true]
theorem kL_7 : wsL_law_r7.all goodWord = true := by decide +kernel
theorem iL_8 : ∀ w ∈ wsL_law_r8, w ∈ wsL_law := by intro w h; unfold wsL_law; simp only [List.mem_append, h, true_or, or_true]
theorem kL_8 : wsL_law_r8.all goodWord = true := by decide +kernel
theorem iL_9 : ∀ w ∈ wsL_law_r9, w ∈ wsL_law := by intro w h; unfold wsL_law; simp only [List.mem_append, h, true_or, or_true]
theorem kL_9 : wsL_law_r9.all goodWord = true := by decide +kernel
theorem iL_10 : ∀ w ∈ wsL_law_r10, w ∈ wsL_law := by intro w h; unfold wsL_law; simp only [List.mem_append, h, true_or, or_true]
theorem kL_10 : wsL_law_r10.all goodWord = true := by decide +kernel
theorem iL_11 : ∀ w ∈ wsL_law_r11, w ∈ wsL_law := by intro w h; unfold wsL_law; simp only [List.mem_append, h, true_or, or_true]
theorem kL_11 : wsL_law_r11.all goodWord = true := by decide +kernel
theorem iL_12 : ∀ w ∈ wsL_law_r12, w ∈ wsL_law := by intro w h; unfold wsL_law; simp only [List.mem_append, h, true_or, or_true]
theorem kL_12 : wsL_law_r12.all goodWord = true := by decide +kernel
theorem iL_13 : ∀ w ∈ wsL_law_r13, w ∈ wsL_law := by intro w h; unfold wsL_law; simp only [List.mem_append, h, true_or, or_true]
theorem kL_13 : wsL_law_r13.all goodWord = true := by decide +kernel
theorem iL_14 : ∀ w ∈ wsL_law_r14, w ∈ wsL_law := by intro w h; unfold wsL_law; simp only [List.mem_append, h, true_or, or_true]
theorem kL_14 : wsL_law_r14.all goodWord = true := by decide +kernel
theorem iL_15 : ∀ w ∈ wsL_law_r15, w ∈ wsL_law := by intro w h; unfold wsL_law; simp only [List.mem_append, h, true_or, or_true]
theorem kL_15 : wsL_law_r15.all goodWord = true := by decide +kernel
theorem iL_16 : ∀ w ∈ wsL_law_r16, w ∈ wsL_law := by intro w h; unfold wsL_law; simp only [List.mem_append, h, true_or, or_true]
theorem kL_16 : wsL_law_r16.all goodWord = true := by decide +kernel
theorem iL_17 : ∀ w ∈ wsL_law_r17, w ∈ wsL_law := by intro w h; unfold wsL_law; simp only [List.mem_append, h, true_or, or_true]
theorem kL_17 : wsL_law_r17.all goodWord = true := by decide +kernel
theorem iL_18 : ∀ w ∈ wsL_law_r18, w ∈ wsL_law := by intro w h; unfold wsL_law; simp only [List.mem_append, h, true_or, or_true]
theorem kL_18 : wsL_law_r18.all goodWord = true := by decide +kernel
theorem iL_19 : ∀ w ∈ wsL_law_r19, w ∈ wsL_law := by intro w h; unfold wsL_law; simp only [List.mem_append, h, true_or, or_true]
theorem kL_19 : wsL_law_r19.all goodWord = true := by decide +kernel
theorem kX_0 : wsX00.all goodWord = true := by decide +kernel
theorem kX_1 : wsX10.all goodWord = true := by decide +kernel
theorem kX_2 : wsX20.all goodWord = true := by decide +kernel
theorem kX_3 : wsX30.all goodWord = true := by decide +kernel
theorem kX_4 : wsX40.all goodWord = true := by decide +kernel
theorem kX_5 : wsX50.all goodWord = true := by decide +kernel
theorem kX_6 : wsX60.all goodWord = true := by decide +kernel
theorem goodL : ∀ w ∈ wsL_law, goodWord w = true := List.all_eq_true.mp (by
  unfold wsL_law
  simp only [List.all_append, List.all_nil, Bool.and_self, kL_1, kL_2, kL_3, kL_4, kL_5, kL_6, kL_7, kL_8, kL_9, kL_10, kL_11, kL_12, kL_13, kL_14, kL_15, kL_16, kL_17, kL_18, kL_19, kX_0, kX_1, kX_2, kX_3, kX_4, kX_5, kX_6])
theorem q_1_2 : Cond.initialized RX6 ∈ wsL_law := iL_1 _ (List.mem_of_getElem? (i := 2) rfl)
theorem q_1_5 : Cond.code yX6_init cX6_init 1 none ∈ wsL_law := iL_1 _ (List.mem_of_getElem? (i := 5) rfl)
theorem q_1_6 : Cond.methodLink RX6 3 objectInit ∈ wsL_law := iL_1 _ (List.mem_of_getElem? (i := 6) rfl)
theorem q_1_7 : Cond.instanceMethod objectInit ∈ wsL_law := iL_1 _ (List.mem_of_getElem? (i := 7) rfl)
theorem q_1_8 : Cond.code objectInit ⟨#[0xb1]⟩ 1 none ∈ wsL_law := iL_1 _ (List.mem_of_getElem? (i := 8) rfl)
theorem q_1_9 : Cond.classLink RX6 9 RX4 ∈ wsL_law := iL_1 _ (List.mem_of_getElem? (i := 9) rfl)
theorem q_1_10 : Cond.instantiable RX4 11 ∈ wsL_law := iL_1 _ (List.mem_of_getElem? (i := 10) rfl)
theorem q_1_11 : Cond.initialized RX4 ∈ wsL_law := iL_1 _ (List.mem_of_getElem? (i := 11) rfl)
theorem q_1_12 : Cond.fieldLink RX6 12 "SluiceTurns" "now" "LSluiceTurns$Terrace;" ∈ wsL_law := iL_1 _ (List.mem_of_getElem? (i := 12) rfl)
theorem q_1_13 : Cond.fieldLink RX6 16 "SluiceTurns" "trial" "LSluiceTurns$Terrace;" ∈ wsL_law := iL_1 _ (List.mem_of_getElem? (i := 13) rfl)
theorem q_1_14 : Cond.classLink RX6 19 RX2 ∈ wsL_law := iL_1 _ (List.mem_of_getElem? (i := 14) rfl)
theorem q_1_15 : Cond.instantiable RX2 2 ∈ wsL_law := iL_1 _ (List.mem_of_getElem? (i := 15) rfl)
theorem q_1_16 : Cond.initialized RX2 ∈ wsL_law := iL_1 _ (List.mem_of_getElem? (i := 16) rfl)
theorem q_1_17 : Cond.fieldLink RX6 22 "SluiceTurns" "history" "LSluiceTurns$History;" ∈ wsL_law := iL_1 _ (List.mem_of_getElem? (i := 17) rfl)
theorem q_1_18 : Cond.classLink RX6 26 RX3 ∈ wsL_law := iL_1 _ (List.mem_of_getElem? (i := 18) rfl)
theorem q_1_19 : Cond.instantiable RX3 9 ∈ wsL_law := iL_1 _ (List.mem_of_getElem? (i := 19) rfl)
theorem q_1_20 : Cond.initialized RX3 ∈ wsL_law := iL_1 _ (List.mem_of_getElem? (i := 20) rfl)
theorem q_1_21 : Cond.fieldLink RX6 29 "SluiceTurns" "orders" "LSluiceTurns$Orders;" ∈ wsL_law := iL_1 _ (List.mem_of_getElem? (i := 21) rfl)
theorem q_1_22 : Cond.instanceMethod yX4_init ∈ wsL_law := iL_1 _ (List.mem_of_getElem? (i := 22) rfl)
theorem q_1_23 : Cond.code yX4_init cX4_init 1 none ∈ wsL_law := iL_1 _ (List.mem_of_getElem? (i := 23) rfl)
theorem q_2_0 : Cond.methodLink RX4 3 objectInit ∈ wsL_law := iL_2 _ (List.mem_of_getElem? (i := 0) rfl)
theorem q_2_1 : Cond.classLink RX4 9 RX0 ∈ wsL_law := iL_2 _ (List.mem_of_getElem? (i := 1) rfl)
theorem q_2_2 : Cond.instantiable RX0 10 ∈ wsL_law := iL_2 _ (List.mem_of_getElem? (i := 2) rfl)
theorem q_2_3 : Cond.initialized RX0 ∈ wsL_law := iL_2 _ (List.mem_of_getElem? (i := 3) rfl)
theorem q_2_4 : Cond.fieldLink RX4 12 "SluiceTurns$Terrace" "canals" "LSluiceTurns$Canals;" ∈ wsL_law := iL_2 _ (List.mem_of_getElem? (i := 4) rfl)
theorem q_2_5 : Cond.classLink RX4 18 RX1 ∈ wsL_law := iL_2 _ (List.mem_of_getElem? (i := 5) rfl)
theorem q_2_6 : Cond.instantiable RX1 9 ∈ wsL_law := iL_2 _ (List.mem_of_getElem? (i := 6) rfl)
theorem q_2_7 : Cond.initialized RX1 ∈ wsL_law := iL_2 _ (List.mem_of_getElem? (i := 7) rfl)
theorem q_2_8 : Cond.fieldLink RX4 21 "SluiceTurns$Terrace" "fields" "LSluiceTurns$Fields;" ∈ wsL_law := iL_2 _ (List.mem_of_getElem? (i := 8) rfl)
theorem q_2_9 : Cond.classLink RX4 25 RX5 ∈ wsL_law := iL_2 _ (List.mem_of_getElem? (i := 9) rfl)
theorem q_2_10 : Cond.instantiable RX5 5 ∈ wsL_law := iL_2 _ (List.mem_of_getElem? (i := 10) rfl)
theorem q_2_11 : Cond.initialized RX5 ∈ wsL_law := iL_2 _ (List.mem_of_getElem? (i := 11) rfl)
theorem q_2_12 : Cond.fieldLink RX4 28 "SluiceTurns$Terrace" "turns" "LSluiceTurns$Turns;" ∈ wsL_law := iL_2 _ (List.mem_of_getElem? (i := 12) rfl)
theorem q_2_13 : Cond.arrayClass .int ∈ wsL_law := iL_2 _ (List.mem_of_getElem? (i := 13) rfl)
theorem q_2_14 : Cond.fieldLink RX4 32 "SluiceTurns$Terrace" "callAt" "[I" ∈ wsL_law := iL_2 _ (List.mem_of_getElem? (i := 14) rfl)
theorem q_2_15 : Cond.fieldLink RX4 36 "SluiceTurns$Terrace" "callBelow" "[I" ∈ wsL_law := iL_2 _ (List.mem_of_getElem? (i := 15) rfl)
theorem q_2_16 : Cond.methodLink RX4 11 yX0_init ∈ wsL_law := iL_2 _ (List.mem_of_getElem? (i := 16) rfl)
theorem q_2_17 : Cond.instanceMethod yX0_init ∈ wsL_law := iL_2 _ (List.mem_of_getElem? (i := 17) rfl)
theorem q_2_18 : Cond.code yX0_init cX0_init 2 none ∈ wsL_law := iL_2 _ (List.mem_of_getElem? (i := 18) rfl)
theorem q_2_19 : Cond.methodLink RX0 3 objectInit ∈ wsL_law := iL_2 _ (List.mem_of_getElem? (i := 19) rfl)
theorem q_2_20 : Cond.fieldLink RX0 9 "SluiceTurns$Canals" "size" "I" ∈ wsL_law := iL_2 _ (List.mem_of_getElem? (i := 20) rfl)
theorem q_2_21 : Cond.fieldLink RX0 15 "SluiceTurns$Canals" "parent" "[I" ∈ wsL_law := iL_2 _ (List.mem_of_getElem? (i := 21) rfl)
theorem q_2_22 : Cond.fieldLink RX0 19 "SluiceTurns$Canals" "kind" "[I" ∈ wsL_law := iL_2 _ (List.mem_of_getElem? (i := 22) rfl)
theorem q_2_23 : Cond.fieldLink RX0 22 "SluiceTurns$Canals" "width" "[I" ∈ wsL_law := iL_2 _ (List.mem_of_getElem? (i := 23) rfl)
theorem q_3_0 : Cond.fieldLink RX0 25 "SluiceTurns$Canals" "seepage" "[I" ∈ wsL_law := iL_3 _ (List.mem_of_getElem? (i := 0) rfl)
theorem q_3_1 : Cond.fieldLink RX0 28 "SluiceTurns$Canals" "crew" "[I" ∈ wsL_law := iL_3 _ (List.mem_of_getElem? (i := 1) rfl)
theorem q_3_2 : Cond.fieldLink RX0 31 "SluiceTurns$Canals" "came" "[I" ∈ wsL_law := iL_3 _ (List.mem_of_getElem? (i := 2) rfl)
theorem q_3_3 : Cond.fieldLink RX0 34 "SluiceTurns$Canals" "seeped" "[I" ∈ wsL_law := iL_3 _ (List.mem_of_getElem? (i := 3) rfl)
theorem q_3_4 : Cond.fieldLink RX0 37 "SluiceTurns$Canals" "ranOff" "[I" ∈ wsL_law := iL_3 _ (List.mem_of_getElem? (i := 4) rfl)
theorem q_3_5 : Cond.instanceMethod yX1_init ∈ wsL_law := iL_3 _ (List.mem_of_getElem? (i := 5) rfl)
theorem q_3_6 : Cond.code yX1_init cX1_init 1 none ∈ wsL_law := iL_3 _ (List.mem_of_getElem? (i := 6) rfl)
theorem q_3_7 : Cond.methodLink RX1 3 objectInit ∈ wsL_law := iL_3 _ (List.mem_of_getElem? (i := 7) rfl)
theorem q_3_8 : Cond.fieldLink RX1 9 "SluiceTurns$Fields" "canal" "[I" ∈ wsL_law := iL_3 _ (List.mem_of_getElem? (i := 8) rfl)
theorem q_3_9 : Cond.fieldLink RX1 15 "SluiceTurns$Fields" "need" "[I" ∈ wsL_law := iL_3 _ (List.mem_of_getElem? (i := 9) rfl)
theorem q_3_10 : Cond.fieldLink RX1 18 "SluiceTurns$Fields" "mouth" "[I" ∈ wsL_law := iL_3 _ (List.mem_of_getElem? (i := 10) rfl)
theorem q_3_11 : Cond.fieldLink RX1 21 "SluiceTurns$Fields" "right" "[I" ∈ wsL_law := iL_3 _ (List.mem_of_getElem? (i := 11) rfl)
theorem q_3_12 : Cond.fieldLink RX1 24 "SluiceTurns$Fields" "got" "[I" ∈ wsL_law := iL_3 _ (List.mem_of_getElem? (i := 12) rfl)
theorem q_3_13 : Cond.fieldLink RX1 27 "SluiceTurns$Fields" "hourOfNeed" "[I" ∈ wsL_law := iL_3 _ (List.mem_of_getElem? (i := 13) rfl)
theorem q_3_14 : Cond.fieldLink RX1 30 "SluiceTurns$Fields" "byRight" "[I" ∈ wsL_law := iL_3 _ (List.mem_of_getElem? (i := 14) rfl)
theorem q_3_15 : Cond.instanceMethod yX5_init ∈ wsL_law := iL_3 _ (List.mem_of_getElem? (i := 15) rfl)
theorem q_3_16 : Cond.code yX5_init cX5_init 1 none ∈ wsL_law := iL_3 _ (List.mem_of_getElem? (i := 16) rfl)
theorem q_3_17 : Cond.methodLink RX5 3 objectInit ∈ wsL_law := iL_3 _ (List.mem_of_getElem? (i := 17) rfl)
theorem q_3_18 : Cond.fieldLink RX5 9 "SluiceTurns$Turns" "gates" "[I" ∈ wsL_law := iL_3 _ (List.mem_of_getElem? (i := 18) rfl)
theorem q_3_19 : Cond.fieldLink RX5 15 "SluiceTurns$Turns" "hours" "[I" ∈ wsL_law := iL_3 _ (List.mem_of_getElem? (i := 19) rfl)
theorem q_3_20 : Cond.methodLink RX6 21 yX2_init ∈ wsL_law := iL_3 _ (List.mem_of_getElem? (i := 20) rfl)
theorem q_3_21 : Cond.instanceMethod yX2_init ∈ wsL_law := iL_3 _ (List.mem_of_getElem? (i := 21) rfl)
theorem q_3_22 : Cond.code yX2_init cX2_init 2 none ∈ wsL_law := iL_3 _ (List.mem_of_getElem? (i := 22) rfl)
theorem q_3_23 : Cond.methodLink RX2 3 objectInit ∈ wsL_law := iL_3 _ (List.mem_of_getElem? (i := 23) rfl)
theorem q_4_0 : Cond.classLink RX2 9 RX4 ∈ wsL_law := iL_4 _ (List.mem_of_getElem? (i := 0) rfl)
theorem q_4_1 : Cond.fieldLink RX2 11 "SluiceTurns$History" "states" "[LSluiceTurns$Terrace;" ∈ wsL_law := iL_4 _ (List.mem_of_getElem? (i := 1) rfl)
theorem q_4_2 : Cond.instanceMethod yX3_init ∈ wsL_law := iL_4 _ (List.mem_of_getElem? (i := 2) rfl)
theorem q_4_3 : Cond.code yX3_init cX3_init 1 none ∈ wsL_law := iL_4 _ (List.mem_of_getElem? (i := 3) rfl)
theorem q_4_4 : Cond.methodLink RX3 3 objectInit ∈ wsL_law := iL_4 _ (List.mem_of_getElem? (i := 4) rfl)
theorem q_4_5 : Cond.fieldLink RX3 9 "SluiceTurns$Orders" "characters" "[I" ∈ wsL_law := iL_4 _ (List.mem_of_getElem? (i := 5) rfl)
theorem q_4_6 : Cond.methodLink RL 68 yL_holds ∈ wsL_law := iL_4 _ (List.mem_of_getElem? (i := 6) rfl)
theorem q_4_7 : Cond.static yL_holds ∈ wsL_law := iL_4 _ (List.mem_of_getElem? (i := 7) rfl)
theorem q_4_8 : Cond.initialized RL ∈ wsL_law := iL_4 _ (List.mem_of_getElem? (i := 8) rfl)
theorem q_4_9 : Cond.code yL_holds cL_holds 12 (some .boolean) ∈ wsL_law := iL_4 _ (List.mem_of_getElem? (i := 9) rfl)
theorem q_4_10 : Cond.constant RL 19 (-1000004) ∈ wsL_law := iL_4 _ (List.mem_of_getElem? (i := 10) rfl)
theorem q_4_11 : Cond.methodLink RL 9 yX6_count ∈ wsL_law := iL_4 _ (List.mem_of_getElem? (i := 11) rfl)
theorem q_4_12 : Cond.instanceMethod yX6_count ∈ wsL_law := iL_4 _ (List.mem_of_getElem? (i := 12) rfl)
theorem q_4_13 : Cond.selects RX6 yX6_count yX6_count ∈ wsL_law := iL_4 _ (List.mem_of_getElem? (i := 13) rfl)
theorem q_4_14 : Cond.code yX6_count cX6_count 2 (some .int) ∈ wsL_law := iL_4 _ (List.mem_of_getElem? (i := 14) rfl)
theorem q_4_15 : Cond.fieldLink RX6 33 "SluiceTurns$Terrace" "canals" "LSluiceTurns$Canals;" ∈ wsL_law := iL_4 _ (List.mem_of_getElem? (i := 15) rfl)
theorem q_4_16 : Cond.fieldLink RX6 48 "SluiceTurns$Canals" "size" "I" ∈ wsL_law := iL_4 _ (List.mem_of_getElem? (i := 16) rfl)
theorem q_4_17 : Cond.fieldLink RX6 61 "SluiceTurns$Terrace" "fields" "LSluiceTurns$Fields;" ∈ wsL_law := iL_4 _ (List.mem_of_getElem? (i := 17) rfl)
theorem q_4_18 : Cond.fieldLink RX6 65 "SluiceTurns$Fields" "size" "I" ∈ wsL_law := iL_4 _ (List.mem_of_getElem? (i := 18) rfl)
theorem q_4_19 : Cond.fieldLink RX6 242 "SluiceTurns$Fields" "calling" "I" ∈ wsL_law := iL_4 _ (List.mem_of_getElem? (i := 19) rfl)
theorem q_4_20 : Cond.fieldLink RX6 215 "SluiceTurns$Canals" "open" "I" ∈ wsL_law := iL_4 _ (List.mem_of_getElem? (i := 20) rfl)
theorem q_4_21 : Cond.fieldLink RX6 248 "SluiceTurns$Terrace" "hours" "I" ∈ wsL_law := iL_4 _ (List.mem_of_getElem? (i := 21) rfl)
theorem q_4_22 : Cond.fieldLink RX6 199 "SluiceTurns$Terrace" "letIn" "I" ∈ wsL_law := iL_4 _ (List.mem_of_getElem? (i := 22) rfl)
theorem q_4_23 : Cond.fieldLink RX6 202 "SluiceTurns$Terrace" "got" "I" ∈ wsL_law := iL_4 _ (List.mem_of_getElem? (i := 23) rfl)
theorem q_5_0 : Cond.fieldLink RX6 208 "SluiceTurns$Terrace" "seeped" "I" ∈ wsL_law := iL_5 _ (List.mem_of_getElem? (i := 0) rfl)
theorem q_5_1 : Cond.fieldLink RX6 210 "SluiceTurns$Terrace" "ranOff" "I" ∈ wsL_law := iL_5 _ (List.mem_of_getElem? (i := 1) rfl)
theorem q_5_2 : Cond.fieldLink RX6 110 "SluiceTurns$Terrace" "turns" "LSluiceTurns$Turns;" ∈ wsL_law := iL_5 _ (List.mem_of_getElem? (i := 2) rfl)
theorem q_5_3 : Cond.fieldLink RX6 114 "SluiceTurns$Turns" "size" "I" ∈ wsL_law := iL_5 _ (List.mem_of_getElem? (i := 3) rfl)
theorem q_5_4 : Cond.constant RX6 133 (-1000004) ∈ wsL_law := iL_5 _ (List.mem_of_getElem? (i := 4) rfl)
theorem q_5_5 : Cond.fieldLink RX6 250 "SluiceTurns$Turns" "on" "I" ∈ wsL_law := iL_5 _ (List.mem_of_getElem? (i := 5) rfl)
theorem q_5_6 : Cond.fieldLink RX6 253 "SluiceTurns$Turns" "gone" "I" ∈ wsL_law := iL_5 _ (List.mem_of_getElem? (i := 6) rfl)
theorem q_5_7 : Cond.fieldLink RX6 256 "SluiceTurns$History" "size" "I" ∈ wsL_law := iL_5 _ (List.mem_of_getElem? (i := 7) rfl)
theorem q_5_8 : Cond.fieldLink RX6 257 "SluiceTurns$Orders" "length" "I" ∈ wsL_law := iL_5 _ (List.mem_of_getElem? (i := 8) rfl)
theorem q_5_9 : Cond.constant RX6 47 (-1000001) ∈ wsL_law := iL_5 _ (List.mem_of_getElem? (i := 9) rfl)
theorem q_5_10 : Cond.methodLink RX6 236 yX1_wanting ∈ wsL_law := iL_5 _ (List.mem_of_getElem? (i := 10) rfl)
theorem q_5_11 : Cond.instanceMethod yX1_wanting ∈ wsL_law := iL_5 _ (List.mem_of_getElem? (i := 11) rfl)
theorem q_5_12 : Cond.selects RX1 yX1_wanting yX1_wanting ∈ wsL_law := iL_5 _ (List.mem_of_getElem? (i := 12) rfl)
theorem q_5_13 : Cond.code yX1_wanting cX1_wanting 3 (some .int) ∈ wsL_law := iL_5 _ (List.mem_of_getElem? (i := 13) rfl)
theorem q_5_14 : Cond.fieldLink RX1 33 "SluiceTurns$Fields" "size" "I" ∈ wsL_law := iL_5 _ (List.mem_of_getElem? (i := 14) rfl)
theorem q_5_15 : Cond.methodLink RX1 46 yX1_wants ∈ wsL_law := iL_5 _ (List.mem_of_getElem? (i := 15) rfl)
theorem q_5_16 : Cond.instanceMethod yX1_wants ∈ wsL_law := iL_5 _ (List.mem_of_getElem? (i := 16) rfl)
theorem q_5_17 : Cond.selects RX1 yX1_wants yX1_wants ∈ wsL_law := iL_5 _ (List.mem_of_getElem? (i := 17) rfl)
theorem q_5_18 : Cond.code yX1_wants cX1_wants 2 (some .boolean) ∈ wsL_law := iL_5 _ (List.mem_of_getElem? (i := 18) rfl)
theorem q_5_19 : Cond.methodLink RX6 227 yJ6_bitCount_0f7a4 ∈ wsL_law := iL_5 _ (List.mem_of_getElem? (i := 19) rfl)
theorem q_5_20 : Cond.static yJ6_bitCount_0f7a4 ∈ wsL_law := iL_5 _ (List.mem_of_getElem? (i := 20) rfl)
theorem q_5_21 : Cond.initialized RJ6 ∈ wsL_law := iL_5 _ (List.mem_of_getElem? (i := 21) rfl)
theorem q_5_22 : Cond.code yJ6_bitCount_0f7a4 cJ6_bitCount_0f7a4 1 (some .int) ∈ wsL_law := iL_5 _ (List.mem_of_getElem? (i := 22) rfl)
theorem q_5_23 : Cond.constant RJ6 265 (1431655765) ∈ wsL_law := iL_5 _ (List.mem_of_getElem? (i := 23) rfl)
theorem q_6_0 : Cond.constant RJ6 266 (858993459) ∈ wsL_law := iL_6 _ (List.mem_of_getElem? (i := 0) rfl)
theorem q_6_1 : Cond.constant RJ6 267 (252645135) ∈ wsL_law := iL_6 _ (List.mem_of_getElem? (i := 1) rfl)
theorem q_6_2 : Cond.methodLink RX6 245 yX0_tended ∈ wsL_law := iL_6 _ (List.mem_of_getElem? (i := 2) rfl)
theorem q_6_3 : Cond.instanceMethod yX0_tended ∈ wsL_law := iL_6 _ (List.mem_of_getElem? (i := 3) rfl)
theorem q_6_4 : Cond.selects RX0 yX0_tended yX0_tended ∈ wsL_law := iL_6 _ (List.mem_of_getElem? (i := 4) rfl)
theorem q_6_5 : Cond.code yX0_tended cX0_tended 3 (some .int) ∈ wsL_law := iL_6 _ (List.mem_of_getElem? (i := 5) rfl)
theorem q_6_6 : Cond.methodLink RX0 53 yX0_isTended ∈ wsL_law := iL_6 _ (List.mem_of_getElem? (i := 6) rfl)
theorem q_6_7 : Cond.instanceMethod yX0_isTended ∈ wsL_law := iL_6 _ (List.mem_of_getElem? (i := 7) rfl)
theorem q_6_8 : Cond.selects RX0 yX0_isTended yX0_isTended ∈ wsL_law := iL_6 _ (List.mem_of_getElem? (i := 8) rfl)
theorem q_6_9 : Cond.code yX0_isTended cX0_isTended 2 (some .boolean) ∈ wsL_law := iL_6 _ (List.mem_of_getElem? (i := 9) rfl)
theorem q_6_10 : Cond.methodLink RL 15 yX6_fieldOf ∈ wsL_law := iL_6 _ (List.mem_of_getElem? (i := 10) rfl)
theorem q_6_11 : Cond.instanceMethod yX6_fieldOf ∈ wsL_law := iL_6 _ (List.mem_of_getElem? (i := 11) rfl)
theorem q_6_12 : Cond.selects RX6 yX6_fieldOf yX6_fieldOf ∈ wsL_law := iL_6 _ (List.mem_of_getElem? (i := 12) rfl)
theorem q_6_13 : Cond.code yX6_fieldOf cX6_fieldOf 4 (some .int) ∈ wsL_law := iL_6 _ (List.mem_of_getElem? (i := 13) rfl)
theorem q_6_14 : Cond.fieldLink RX6 162 "SluiceTurns$Fields" "canal" "[I" ∈ wsL_law := iL_6 _ (List.mem_of_getElem? (i := 14) rfl)
theorem q_6_15 : Cond.fieldLink RX6 165 "SluiceTurns$Fields" "need" "[I" ∈ wsL_law := iL_6 _ (List.mem_of_getElem? (i := 15) rfl)
theorem q_6_16 : Cond.fieldLink RX6 168 "SluiceTurns$Fields" "mouth" "[I" ∈ wsL_law := iL_6 _ (List.mem_of_getElem? (i := 16) rfl)
theorem q_6_17 : Cond.fieldLink RX6 171 "SluiceTurns$Fields" "right" "[I" ∈ wsL_law := iL_6 _ (List.mem_of_getElem? (i := 17) rfl)
theorem q_6_18 : Cond.fieldLink RX6 174 "SluiceTurns$Fields" "got" "[I" ∈ wsL_law := iL_6 _ (List.mem_of_getElem? (i := 18) rfl)
theorem q_6_19 : Cond.fieldLink RX6 189 "SluiceTurns$Fields" "hourOfNeed" "[I" ∈ wsL_law := iL_6 _ (List.mem_of_getElem? (i := 19) rfl)
theorem q_6_20 : Cond.methodLink RX6 100 yX1_has ∈ wsL_law := iL_6 _ (List.mem_of_getElem? (i := 20) rfl)
theorem q_6_21 : Cond.instanceMethod yX1_has ∈ wsL_law := iL_6 _ (List.mem_of_getElem? (i := 21) rfl)
theorem q_6_22 : Cond.selects RX1 yX1_has yX1_has ∈ wsL_law := iL_6 _ (List.mem_of_getElem? (i := 22) rfl)
theorem q_6_23 : Cond.code yX1_has cX1_has 2 (some .boolean) ∈ wsL_law := iL_6 _ (List.mem_of_getElem? (i := 23) rfl)
theorem q_7_0 : Cond.methodLink RX6 177 yX1_calls ∈ wsL_law := iL_7 _ (List.mem_of_getElem? (i := 0) rfl)
theorem q_7_1 : Cond.instanceMethod yX1_calls ∈ wsL_law := iL_7 _ (List.mem_of_getElem? (i := 1) rfl)
theorem q_7_2 : Cond.selects RX1 yX1_calls yX1_calls ∈ wsL_law := iL_7 _ (List.mem_of_getElem? (i := 2) rfl)
theorem q_7_3 : Cond.code yX1_calls cX1_calls 2 (some .boolean) ∈ wsL_law := iL_7 _ (List.mem_of_getElem? (i := 3) rfl)
theorem q_7_4 : Cond.fieldLink RX1 37 "SluiceTurns$Fields" "calling" "I" ∈ wsL_law := iL_7 _ (List.mem_of_getElem? (i := 4) rfl)
theorem q_7_5 : Cond.methodLink RX6 146 yX6_asNumber ∈ wsL_law := iL_7 _ (List.mem_of_getElem? (i := 5) rfl)
theorem q_7_6 : Cond.static yX6_asNumber ∈ wsL_law := iL_7 _ (List.mem_of_getElem? (i := 6) rfl)
theorem q_7_7 : Cond.code yX6_asNumber cX6_asNumber 1 (some .int) ∈ wsL_law := iL_7 _ (List.mem_of_getElem? (i := 7) rfl)
theorem q_7_8 : Cond.methodLink RX6 180 yX4_findCallsBelow ∈ wsL_law := iL_7 _ (List.mem_of_getElem? (i := 8) rfl)
theorem q_7_9 : Cond.instanceMethod yX4_findCallsBelow ∈ wsL_law := iL_7 _ (List.mem_of_getElem? (i := 9) rfl)
theorem q_7_10 : Cond.selects RX4 yX4_findCallsBelow yX4_findCallsBelow ∈ wsL_law := iL_7 _ (List.mem_of_getElem? (i := 10) rfl)
theorem q_7_11 : Cond.code yX4_findCallsBelow cX4_findCallsBelow 3 none ∈ wsL_law := iL_7 _ (List.mem_of_getElem? (i := 11) rfl)
theorem q_7_12 : Cond.fieldLink RX4 119 "SluiceTurns$Fields" "size" "I" ∈ wsL_law := iL_7 _ (List.mem_of_getElem? (i := 12) rfl)
theorem q_7_13 : Cond.fieldLink RX4 124 "SluiceTurns$Fields" "canal" "[I" ∈ wsL_law := iL_7 _ (List.mem_of_getElem? (i := 13) rfl)
theorem q_7_14 : Cond.fieldLink RX4 127 "SluiceTurns$Fields" "right" "[I" ∈ wsL_law := iL_7 _ (List.mem_of_getElem? (i := 14) rfl)
theorem q_7_15 : Cond.methodLink RX4 96 Lib.Math.min.name ∈ wsL_law := iL_7 _ (List.mem_of_getElem? (i := 15) rfl)
theorem q_7_16 : Cond.static Lib.Math.min.name ∈ wsL_law := iL_7 _ (List.mem_of_getElem? (i := 16) rfl)
theorem q_7_17 : Cond.initialized "java/lang/Math" ∈ wsL_law := iL_7 _ (List.mem_of_getElem? (i := 17) rfl)
theorem q_7_18 : Cond.code Lib.Math.min.name Lib.Math.min.code 2 (some .int) ∈ wsL_law := iL_7 _ (List.mem_of_getElem? (i := 18) rfl)
theorem q_7_19 : Cond.fieldLink RX4 102 "SluiceTurns$Canals" "size" "I" ∈ wsL_law := iL_7 _ (List.mem_of_getElem? (i := 19) rfl)
theorem q_7_20 : Cond.fieldLink RX4 133 "SluiceTurns$Canals" "parent" "[I" ∈ wsL_law := iL_7 _ (List.mem_of_getElem? (i := 20) rfl)
theorem q_7_21 : Cond.methodLink RX4 87 yJ7_fill_53178 ∈ wsL_law := iL_7 _ (List.mem_of_getElem? (i := 21) rfl)
theorem q_7_22 : Cond.static yJ7_fill_53178 ∈ wsL_law := iL_7 _ (List.mem_of_getElem? (i := 22) rfl)
theorem q_7_23 : Cond.initialized RJ7 ∈ wsL_law := iL_7 _ (List.mem_of_getElem? (i := 23) rfl)
theorem q_8_0 : Cond.code yJ7_fill_53178 cJ7_fill_53178 4 none ∈ wsL_law := iL_8 _ (List.mem_of_getElem? (i := 0) rfl)
theorem q_8_1 : Cond.methodLink RX4 120 yX1_calls ∈ wsL_law := iL_8 _ (List.mem_of_getElem? (i := 1) rfl)
theorem q_8_2 : Cond.methodLink RX4 130 yX0_isOpen ∈ wsL_law := iL_8 _ (List.mem_of_getElem? (i := 2) rfl)
theorem q_8_3 : Cond.instanceMethod yX0_isOpen ∈ wsL_law := iL_8 _ (List.mem_of_getElem? (i := 3) rfl)
theorem q_8_4 : Cond.selects RX0 yX0_isOpen yX0_isOpen ∈ wsL_law := iL_8 _ (List.mem_of_getElem? (i := 4) rfl)
theorem q_8_5 : Cond.code yX0_isOpen cX0_isOpen 2 (some .boolean) ∈ wsL_law := iL_8 _ (List.mem_of_getElem? (i := 5) rfl)
theorem q_8_6 : Cond.fieldLink RX0 40 "SluiceTurns$Canals" "open" "I" ∈ wsL_law := iL_8 _ (List.mem_of_getElem? (i := 6) rfl)
theorem q_8_7 : Cond.methodLink RX6 183 yX4_mayTake ∈ wsL_law := iL_8 _ (List.mem_of_getElem? (i := 7) rfl)
theorem q_8_8 : Cond.instanceMethod yX4_mayTake ∈ wsL_law := iL_8 _ (List.mem_of_getElem? (i := 8) rfl)
theorem q_8_9 : Cond.selects RX4 yX4_mayTake yX4_mayTake ∈ wsL_law := iL_8 _ (List.mem_of_getElem? (i := 9) rfl)
theorem q_8_10 : Cond.code yX4_mayTake cX4_mayTake 2 (some .boolean) ∈ wsL_law := iL_8 _ (List.mem_of_getElem? (i := 10) rfl)
theorem q_8_11 : Cond.methodLink RX6 186 yX1_wants ∈ wsL_law := iL_8 _ (List.mem_of_getElem? (i := 11) rfl)
theorem q_8_12 : Cond.methodLink RL 20 yX6_canalOf ∈ wsL_law := iL_8 _ (List.mem_of_getElem? (i := 12) rfl)
theorem q_8_13 : Cond.instanceMethod yX6_canalOf ∈ wsL_law := iL_8 _ (List.mem_of_getElem? (i := 13) rfl)
theorem q_8_14 : Cond.selects RX6 yX6_canalOf yX6_canalOf ∈ wsL_law := iL_8 _ (List.mem_of_getElem? (i := 14) rfl)
theorem q_8_15 : Cond.code yX6_canalOf cX6_canalOf 4 (some .int) ∈ wsL_law := iL_8 _ (List.mem_of_getElem? (i := 15) rfl)
theorem q_8_16 : Cond.fieldLink RX6 134 "SluiceTurns$Canals" "parent" "[I" ∈ wsL_law := iL_8 _ (List.mem_of_getElem? (i := 16) rfl)
theorem q_8_17 : Cond.fieldLink RX6 75 "SluiceTurns$Canals" "kind" "[I" ∈ wsL_law := iL_8 _ (List.mem_of_getElem? (i := 17) rfl)
theorem q_8_18 : Cond.fieldLink RX6 137 "SluiceTurns$Canals" "width" "[I" ∈ wsL_law := iL_8 _ (List.mem_of_getElem? (i := 18) rfl)
theorem q_8_19 : Cond.fieldLink RX6 140 "SluiceTurns$Canals" "seepage" "[I" ∈ wsL_law := iL_8 _ (List.mem_of_getElem? (i := 19) rfl)
theorem q_8_20 : Cond.fieldLink RX6 88 "SluiceTurns$Canals" "crew" "[I" ∈ wsL_law := iL_8 _ (List.mem_of_getElem? (i := 20) rfl)
theorem q_8_21 : Cond.fieldLink RX6 153 "SluiceTurns$Canals" "came" "[I" ∈ wsL_law := iL_8 _ (List.mem_of_getElem? (i := 21) rfl)
theorem q_8_22 : Cond.fieldLink RX6 156 "SluiceTurns$Canals" "seeped" "[I" ∈ wsL_law := iL_8 _ (List.mem_of_getElem? (i := 22) rfl)
theorem q_8_23 : Cond.fieldLink RX6 159 "SluiceTurns$Canals" "ranOff" "[I" ∈ wsL_law := iL_8 _ (List.mem_of_getElem? (i := 23) rfl)
theorem q_9_0 : Cond.methodLink RX6 37 yX0_has ∈ wsL_law := iL_9 _ (List.mem_of_getElem? (i := 0) rfl)
theorem q_9_1 : Cond.instanceMethod yX0_has ∈ wsL_law := iL_9 _ (List.mem_of_getElem? (i := 1) rfl)
theorem q_9_2 : Cond.selects RX0 yX0_has yX0_has ∈ wsL_law := iL_9 _ (List.mem_of_getElem? (i := 2) rfl)
theorem q_9_3 : Cond.code yX0_has cX0_has 2 (some .boolean) ∈ wsL_law := iL_9 _ (List.mem_of_getElem? (i := 3) rfl)
theorem q_9_4 : Cond.methodLink RX6 143 yX0_isOpen ∈ wsL_law := iL_9 _ (List.mem_of_getElem? (i := 4) rfl)
theorem q_9_5 : Cond.methodLink RX6 72 yX0_isTended ∈ wsL_law := iL_9 _ (List.mem_of_getElem? (i := 5) rfl)
theorem q_9_6 : Cond.methodLink RX6 150 yX0_below ∈ wsL_law := iL_9 _ (List.mem_of_getElem? (i := 6) rfl)
theorem q_9_7 : Cond.instanceMethod yX0_below ∈ wsL_law := iL_9 _ (List.mem_of_getElem? (i := 7) rfl)
theorem q_9_8 : Cond.selects RX0 yX0_below yX0_below ∈ wsL_law := iL_9 _ (List.mem_of_getElem? (i := 8) rfl)
theorem q_9_9 : Cond.code yX0_below cX0_below 4 (some .int) ∈ wsL_law := iL_9 _ (List.mem_of_getElem? (i := 9) rfl)
theorem q_9_10 : Cond.methodLink RL 23 yX6_share ∈ wsL_law := iL_9 _ (List.mem_of_getElem? (i := 10) rfl)
theorem q_9_11 : Cond.instanceMethod yX6_share ∈ wsL_law := iL_9 _ (List.mem_of_getElem? (i := 11) rfl)
theorem q_9_12 : Cond.selects RX6 yX6_share yX6_share ∈ wsL_law := iL_9 _ (List.mem_of_getElem? (i := 12) rfl)
theorem q_9_13 : Cond.code yX6_share cX6_share 2 (some .int) ∈ wsL_law := iL_9 _ (List.mem_of_getElem? (i := 13) rfl)
theorem q_9_14 : Cond.methodLink RX6 43 yX6_isOutside ∈ wsL_law := iL_9 _ (List.mem_of_getElem? (i := 14) rfl)
theorem q_9_15 : Cond.static yX6_isOutside ∈ wsL_law := iL_9 _ (List.mem_of_getElem? (i := 15) rfl)
theorem q_9_16 : Cond.code yX6_isOutside cX6_isOutside 3 (some .boolean) ∈ wsL_law := iL_9 _ (List.mem_of_getElem? (i := 16) rfl)
theorem q_9_17 : Cond.methodLink RX6 204 yX6_floatBits ∈ wsL_law := iL_9 _ (List.mem_of_getElem? (i := 17) rfl)
theorem q_9_18 : Cond.static yX6_floatBits ∈ wsL_law := iL_9 _ (List.mem_of_getElem? (i := 18) rfl)
theorem q_9_19 : Cond.code yX6_floatBits cX6_floatBits 10 (some .int) ∈ wsL_law := iL_9 _ (List.mem_of_getElem? (i := 19) rfl)
theorem q_9_20 : Cond.constantLong RX6 279 (2) ∈ wsL_law := iL_9 _ (List.mem_of_getElem? (i := 20) rfl)
theorem q_9_21 : Cond.constantLong RX6 281 (8388608) ∈ wsL_law := iL_9 _ (List.mem_of_getElem? (i := 21) rfl)
theorem q_9_22 : Cond.methodLink RL 29 yX6_canal ∈ wsL_law := iL_9 _ (List.mem_of_getElem? (i := 22) rfl)
theorem q_9_23 : Cond.instanceMethod yX6_canal ∈ wsL_law := iL_9 _ (List.mem_of_getElem? (i := 23) rfl)
theorem q_10_0 : Cond.selects RX6 yX6_canal yX6_canal ∈ wsL_law := iL_10 _ (List.mem_of_getElem? (i := 0) rfl)
theorem q_10_1 : Cond.code yX6_canal cX6_canal 5 (some .int) ∈ wsL_law := iL_10 _ (List.mem_of_getElem? (i := 1) rfl)
theorem q_10_2 : Cond.constant RX6 52 (-1000003) ∈ wsL_law := iL_10 _ (List.mem_of_getElem? (i := 2) rfl)
theorem q_10_3 : Cond.methodLink RX6 53 yX2_record ∈ wsL_law := iL_10 _ (List.mem_of_getElem? (i := 3) rfl)
theorem q_10_4 : Cond.instanceMethod yX2_record ∈ wsL_law := iL_10 _ (List.mem_of_getElem? (i := 4) rfl)
theorem q_10_5 : Cond.selects RX2 yX2_record yX2_record ∈ wsL_law := iL_10 _ (List.mem_of_getElem? (i := 5) rfl)
theorem q_10_6 : Cond.code yX2_record cX2_record 2 none ∈ wsL_law := iL_10 _ (List.mem_of_getElem? (i := 6) rfl)
theorem q_10_7 : Cond.fieldLink RX2 18 "SluiceTurns$History" "size" "I" ∈ wsL_law := iL_10 _ (List.mem_of_getElem? (i := 7) rfl)
theorem q_10_8 : Cond.methodLink RX2 22 yX2_dropOldest ∈ wsL_law := iL_10 _ (List.mem_of_getElem? (i := 8) rfl)
theorem q_10_9 : Cond.instanceMethod yX2_dropOldest ∈ wsL_law := iL_10 _ (List.mem_of_getElem? (i := 9) rfl)
theorem q_10_10 : Cond.selects RX2 yX2_dropOldest yX2_dropOldest ∈ wsL_law := iL_10 _ (List.mem_of_getElem? (i := 10) rfl)
theorem q_10_11 : Cond.code yX2_dropOldest cX2_dropOldest 3 none ∈ wsL_law := iL_10 _ (List.mem_of_getElem? (i := 11) rfl)
theorem q_10_12 : Cond.methodLink RX2 25 yX4_become ∈ wsL_law := iL_10 _ (List.mem_of_getElem? (i := 12) rfl)
theorem q_10_13 : Cond.instanceMethod yX4_become ∈ wsL_law := iL_10 _ (List.mem_of_getElem? (i := 13) rfl)
theorem q_10_14 : Cond.selects RX4 yX4_become yX4_become ∈ wsL_law := iL_10 _ (List.mem_of_getElem? (i := 14) rfl)
theorem q_10_15 : Cond.code yX4_become cX4_become 2 none ∈ wsL_law := iL_10 _ (List.mem_of_getElem? (i := 15) rfl)
theorem q_10_16 : Cond.fieldLink RX4 49 "SluiceTurns$Terrace" "hours" "I" ∈ wsL_law := iL_10 _ (List.mem_of_getElem? (i := 16) rfl)
theorem q_10_17 : Cond.fieldLink RX4 53 "SluiceTurns$Terrace" "letIn" "I" ∈ wsL_law := iL_10 _ (List.mem_of_getElem? (i := 17) rfl)
theorem q_10_18 : Cond.fieldLink RX4 56 "SluiceTurns$Terrace" "got" "I" ∈ wsL_law := iL_10 _ (List.mem_of_getElem? (i := 18) rfl)
theorem q_10_19 : Cond.fieldLink RX4 59 "SluiceTurns$Terrace" "seeped" "I" ∈ wsL_law := iL_10 _ (List.mem_of_getElem? (i := 19) rfl)
theorem q_10_20 : Cond.fieldLink RX4 62 "SluiceTurns$Terrace" "ranOff" "I" ∈ wsL_law := iL_10 _ (List.mem_of_getElem? (i := 20) rfl)
theorem q_10_21 : Cond.methodLink RX4 39 yX0_become ∈ wsL_law := iL_10 _ (List.mem_of_getElem? (i := 21) rfl)
theorem q_10_22 : Cond.instanceMethod yX0_become ∈ wsL_law := iL_10 _ (List.mem_of_getElem? (i := 22) rfl)
theorem q_10_23 : Cond.selects RX0 yX0_become yX0_become ∈ wsL_law := iL_10 _ (List.mem_of_getElem? (i := 23) rfl)
theorem q_11_0 : Cond.code yX0_become cX0_become 2 none ∈ wsL_law := iL_11 _ (List.mem_of_getElem? (i := 0) rfl)
theorem q_11_1 : Cond.methodLink RX0 43 arraycopyName ∈ wsL_law := iL_11 _ (List.mem_of_getElem? (i := 1) rfl)
theorem q_11_2 : Cond.native arraycopyName ∈ wsL_law := iL_11 _ (List.mem_of_getElem? (i := 2) rfl)
theorem q_11_3 : Cond.static arraycopyName ∈ wsL_law := iL_11 _ (List.mem_of_getElem? (i := 3) rfl)
theorem q_11_4 : Cond.initialized "java/lang/System" ∈ wsL_law := iL_11 _ (List.mem_of_getElem? (i := 4) rfl)
theorem q_11_5 : Cond.methodLink RX4 43 yX1_become ∈ wsL_law := iL_11 _ (List.mem_of_getElem? (i := 5) rfl)
theorem q_11_6 : Cond.instanceMethod yX1_become ∈ wsL_law := iL_11 _ (List.mem_of_getElem? (i := 6) rfl)
theorem q_11_7 : Cond.selects RX1 yX1_become yX1_become ∈ wsL_law := iL_11 _ (List.mem_of_getElem? (i := 7) rfl)
theorem q_11_8 : Cond.code yX1_become cX1_become 2 none ∈ wsL_law := iL_11 _ (List.mem_of_getElem? (i := 8) rfl)
theorem q_11_9 : Cond.methodLink RX1 40 arraycopyName ∈ wsL_law := iL_11 _ (List.mem_of_getElem? (i := 9) rfl)
theorem q_11_10 : Cond.methodLink RX4 46 yX5_become ∈ wsL_law := iL_11 _ (List.mem_of_getElem? (i := 10) rfl)
theorem q_11_11 : Cond.instanceMethod yX5_become ∈ wsL_law := iL_11 _ (List.mem_of_getElem? (i := 11) rfl)
theorem q_11_12 : Cond.selects RX5 yX5_become yX5_become ∈ wsL_law := iL_11 _ (List.mem_of_getElem? (i := 12) rfl)
theorem q_11_13 : Cond.code yX5_become cX5_become 2 none ∈ wsL_law := iL_11 _ (List.mem_of_getElem? (i := 13) rfl)
theorem q_11_14 : Cond.fieldLink RX5 18 "SluiceTurns$Turns" "size" "I" ∈ wsL_law := iL_11 _ (List.mem_of_getElem? (i := 14) rfl)
theorem q_11_15 : Cond.fieldLink RX5 22 "SluiceTurns$Turns" "on" "I" ∈ wsL_law := iL_11 _ (List.mem_of_getElem? (i := 15) rfl)
theorem q_11_16 : Cond.fieldLink RX5 25 "SluiceTurns$Turns" "gone" "I" ∈ wsL_law := iL_11 _ (List.mem_of_getElem? (i := 16) rfl)
theorem q_11_17 : Cond.methodLink RX5 28 arraycopyName ∈ wsL_law := iL_11 _ (List.mem_of_getElem? (i := 17) rfl)
theorem q_11_18 : Cond.methodLink RX6 57 yX0_add ∈ wsL_law := iL_11 _ (List.mem_of_getElem? (i := 18) rfl)
theorem q_11_19 : Cond.instanceMethod yX0_add ∈ wsL_law := iL_11 _ (List.mem_of_getElem? (i := 19) rfl)
theorem q_11_20 : Cond.selects RX0 yX0_add yX0_add ∈ wsL_law := iL_11 _ (List.mem_of_getElem? (i := 20) rfl)
theorem q_11_21 : Cond.code yX0_add cX0_add 6 (some .int) ∈ wsL_law := iL_11 _ (List.mem_of_getElem? (i := 21) rfl)
theorem q_11_22 : Cond.methodLink RL 35 yX6_field ∈ wsL_law := iL_11 _ (List.mem_of_getElem? (i := 22) rfl)
theorem q_11_23 : Cond.instanceMethod yX6_field ∈ wsL_law := iL_11 _ (List.mem_of_getElem? (i := 23) rfl)
theorem q_12_0 : Cond.selects RX6 yX6_field yX6_field ∈ wsL_law := iL_12 _ (List.mem_of_getElem? (i := 0) rfl)
theorem q_12_1 : Cond.code yX6_field cX6_field 5 (some .int) ∈ wsL_law := iL_12 _ (List.mem_of_getElem? (i := 1) rfl)
theorem q_12_2 : Cond.methodLink RX6 68 yX1_add ∈ wsL_law := iL_12 _ (List.mem_of_getElem? (i := 2) rfl)
theorem q_12_3 : Cond.instanceMethod yX1_add ∈ wsL_law := iL_12 _ (List.mem_of_getElem? (i := 3) rfl)
theorem q_12_4 : Cond.selects RX1 yX1_add yX1_add ∈ wsL_law := iL_12 _ (List.mem_of_getElem? (i := 4) rfl)
theorem q_12_5 : Cond.code yX1_add cX1_add 7 (some .int) ∈ wsL_law := iL_12 _ (List.mem_of_getElem? (i := 5) rfl)
theorem q_12_6 : Cond.methodLink RL 72 yL_cell ∈ wsL_law := iL_12 _ (List.mem_of_getElem? (i := 6) rfl)
theorem q_12_7 : Cond.static yL_cell ∈ wsL_law := iL_12 _ (List.mem_of_getElem? (i := 7) rfl)
theorem q_12_8 : Cond.code yL_cell cL_cell 2 (some .int) ∈ wsL_law := iL_12 _ (List.mem_of_getElem? (i := 8) rfl)
theorem q_12_9 : Cond.constant RL 7 (65539) ∈ wsL_law := iL_12 _ (List.mem_of_getElem? (i := 9) rfl)
theorem q_12_10 : Cond.constant RL 8 (2147483647) ∈ wsL_law := iL_12 _ (List.mem_of_getElem? (i := 10) rfl)
theorem q_12_11 : Cond.methodLink RL 76 yL_acts ∈ wsL_law := iL_12 _ (List.mem_of_getElem? (i := 11) rfl)
theorem q_12_12 : Cond.static yL_acts ∈ wsL_law := iL_12 _ (List.mem_of_getElem? (i := 12) rfl)
theorem q_12_13 : Cond.code yL_acts cL_acts 16 (some .boolean) ∈ wsL_law := iL_12 _ (List.mem_of_getElem? (i := 13) rfl)
theorem q_12_14 : Cond.constant RL 33 (-1000003) ∈ wsL_law := iL_12 _ (List.mem_of_getElem? (i := 14) rfl)
theorem q_12_15 : Cond.constant RL 34 (524288) ∈ wsL_law := iL_12 _ (List.mem_of_getElem? (i := 15) rfl)
theorem q_12_16 : Cond.constant RL 41 (-1000001) ∈ wsL_law := iL_12 _ (List.mem_of_getElem? (i := 16) rfl)
theorem q_12_17 : Cond.constant RL 42 (-1000002) ∈ wsL_law := iL_12 _ (List.mem_of_getElem? (i := 17) rfl)
theorem q_12_18 : Cond.methodLink RL 38 yX6_call ∈ wsL_law := iL_12 _ (List.mem_of_getElem? (i := 18) rfl)
theorem q_12_19 : Cond.instanceMethod yX6_call ∈ wsL_law := iL_12 _ (List.mem_of_getElem? (i := 19) rfl)
theorem q_12_20 : Cond.selects RX6 yX6_call yX6_call ∈ wsL_law := iL_12 _ (List.mem_of_getElem? (i := 20) rfl)
theorem q_12_21 : Cond.code yX6_call cX6_call 2 (some .int) ∈ wsL_law := iL_12 _ (List.mem_of_getElem? (i := 21) rfl)
theorem q_12_22 : Cond.constant RX6 83 (-1000002) ∈ wsL_law := iL_12 _ (List.mem_of_getElem? (i := 22) rfl)
theorem q_12_23 : Cond.methodLink RX6 101 yX1_canCall ∈ wsL_law := iL_12 _ (List.mem_of_getElem? (i := 23) rfl)
theorem q_13_0 : Cond.instanceMethod yX1_canCall ∈ wsL_law := iL_13 _ (List.mem_of_getElem? (i := 0) rfl)
theorem q_13_1 : Cond.selects RX1 yX1_canCall yX1_canCall ∈ wsL_law := iL_13 _ (List.mem_of_getElem? (i := 1) rfl)
theorem q_13_2 : Cond.code yX1_canCall cX1_canCall 2 (some .boolean) ∈ wsL_law := iL_13 _ (List.mem_of_getElem? (i := 2) rfl)
theorem q_13_3 : Cond.methodLink RX1 50 yX1_calls ∈ wsL_law := iL_13 _ (List.mem_of_getElem? (i := 3) rfl)
theorem q_13_4 : Cond.methodLink RX6 104 yX1_beginCall ∈ wsL_law := iL_13 _ (List.mem_of_getElem? (i := 4) rfl)
theorem q_13_5 : Cond.instanceMethod yX1_beginCall ∈ wsL_law := iL_13 _ (List.mem_of_getElem? (i := 5) rfl)
theorem q_13_6 : Cond.selects RX1 yX1_beginCall yX1_beginCall ∈ wsL_law := iL_13 _ (List.mem_of_getElem? (i := 6) rfl)
theorem q_13_7 : Cond.code yX1_beginCall cX1_beginCall 2 (some .int) ∈ wsL_law := iL_13 _ (List.mem_of_getElem? (i := 7) rfl)
theorem q_13_8 : Cond.methodLink RX1 53 yJ6_bitCount_0f7a4 ∈ wsL_law := iL_13 _ (List.mem_of_getElem? (i := 8) rfl)
theorem q_13_9 : Cond.methodLink RL 43 yX6_noTurns ∈ wsL_law := iL_13 _ (List.mem_of_getElem? (i := 9) rfl)
theorem q_13_10 : Cond.instanceMethod yX6_noTurns ∈ wsL_law := iL_13 _ (List.mem_of_getElem? (i := 10) rfl)
theorem q_13_11 : Cond.selects RX6 yX6_noTurns yX6_noTurns ∈ wsL_law := iL_13 _ (List.mem_of_getElem? (i := 11) rfl)
theorem q_13_12 : Cond.code yX6_noTurns cX6_noTurns 1 (some .int) ∈ wsL_law := iL_13 _ (List.mem_of_getElem? (i := 12) rfl)
theorem q_13_13 : Cond.methodLink RX6 120 yX5_removeAll ∈ wsL_law := iL_13 _ (List.mem_of_getElem? (i := 13) rfl)
theorem q_13_14 : Cond.instanceMethod yX5_removeAll ∈ wsL_law := iL_13 _ (List.mem_of_getElem? (i := 14) rfl)
theorem q_13_15 : Cond.selects RX5 yX5_removeAll yX5_removeAll ∈ wsL_law := iL_13 _ (List.mem_of_getElem? (i := 15) rfl)
theorem q_13_16 : Cond.code yX5_removeAll cX5_removeAll 2 (some .int) ∈ wsL_law := iL_13 _ (List.mem_of_getElem? (i := 16) rfl)
theorem q_13_17 : Cond.methodLink RX5 34 yX5_beginAgain ∈ wsL_law := iL_13 _ (List.mem_of_getElem? (i := 17) rfl)
theorem q_13_18 : Cond.instanceMethod yX5_beginAgain ∈ wsL_law := iL_13 _ (List.mem_of_getElem? (i := 18) rfl)
theorem q_13_19 : Cond.selects RX5 yX5_beginAgain yX5_beginAgain ∈ wsL_law := iL_13 _ (List.mem_of_getElem? (i := 19) rfl)
theorem q_13_20 : Cond.code yX5_beginAgain cX5_beginAgain 1 none ∈ wsL_law := iL_13 _ (List.mem_of_getElem? (i := 20) rfl)
theorem q_13_21 : Cond.methodLink RL 47 yX6_turn ∈ wsL_law := iL_13 _ (List.mem_of_getElem? (i := 21) rfl)
theorem q_13_22 : Cond.instanceMethod yX6_turn ∈ wsL_law := iL_13 _ (List.mem_of_getElem? (i := 22) rfl)
theorem q_13_23 : Cond.selects RX6 yX6_turn yX6_turn ∈ wsL_law := iL_13 _ (List.mem_of_getElem? (i := 23) rfl)
theorem q_14_0 : Cond.code yX6_turn cX6_turn 3 (some .int) ∈ wsL_law := iL_14 _ (List.mem_of_getElem? (i := 0) rfl)
theorem q_14_1 : Cond.methodLink RX6 107 yX0_areGates ∈ wsL_law := iL_14 _ (List.mem_of_getElem? (i := 1) rfl)
theorem q_14_2 : Cond.instanceMethod yX0_areGates ∈ wsL_law := iL_14 _ (List.mem_of_getElem? (i := 2) rfl)
theorem q_14_3 : Cond.selects RX0 yX0_areGates yX0_areGates ∈ wsL_law := iL_14 _ (List.mem_of_getElem? (i := 3) rfl)
theorem q_14_4 : Cond.code yX0_areGates cX0_areGates 2 (some .boolean) ∈ wsL_law := iL_14 _ (List.mem_of_getElem? (i := 4) rfl)
theorem q_14_5 : Cond.methodLink RX0 49 yX0_allGates ∈ wsL_law := iL_14 _ (List.mem_of_getElem? (i := 5) rfl)
theorem q_14_6 : Cond.instanceMethod yX0_allGates ∈ wsL_law := iL_14 _ (List.mem_of_getElem? (i := 6) rfl)
theorem q_14_7 : Cond.selects RX0 yX0_allGates yX0_allGates ∈ wsL_law := iL_14 _ (List.mem_of_getElem? (i := 7) rfl)
theorem q_14_8 : Cond.code yX0_allGates cX0_allGates 1 (some .int) ∈ wsL_law := iL_14 _ (List.mem_of_getElem? (i := 8) rfl)
theorem q_14_9 : Cond.methodLink RX6 117 yX5_add ∈ wsL_law := iL_14 _ (List.mem_of_getElem? (i := 9) rfl)
theorem q_14_10 : Cond.instanceMethod yX5_add ∈ wsL_law := iL_14 _ (List.mem_of_getElem? (i := 10) rfl)
theorem q_14_11 : Cond.selects RX5 yX5_add yX5_add ∈ wsL_law := iL_14 _ (List.mem_of_getElem? (i := 11) rfl)
theorem q_14_12 : Cond.code yX5_add cX5_add 3 (some .int) ∈ wsL_law := iL_14 _ (List.mem_of_getElem? (i := 12) rfl)
theorem q_14_13 : Cond.methodLink RL 50 yX6_run ∈ wsL_law := iL_14 _ (List.mem_of_getElem? (i := 13) rfl)
theorem q_14_14 : Cond.instanceMethod yX6_run ∈ wsL_law := iL_14 _ (List.mem_of_getElem? (i := 14) rfl)
theorem q_14_15 : Cond.selects RX6 yX6_run yX6_run ∈ wsL_law := iL_14 _ (List.mem_of_getElem? (i := 15) rfl)
theorem q_14_16 : Cond.code yX6_run cX6_run 3 (some .int) ∈ wsL_law := iL_14 _ (List.mem_of_getElem? (i := 16) rfl)
theorem q_14_17 : Cond.methodLink RX6 124 yX4_hasHoursLeft ∈ wsL_law := iL_14 _ (List.mem_of_getElem? (i := 17) rfl)
theorem q_14_18 : Cond.instanceMethod yX4_hasHoursLeft ∈ wsL_law := iL_14 _ (List.mem_of_getElem? (i := 18) rfl)
theorem q_14_19 : Cond.selects RX4 yX4_hasHoursLeft yX4_hasHoursLeft ∈ wsL_law := iL_14 _ (List.mem_of_getElem? (i := 19) rfl)
theorem q_14_20 : Cond.code yX4_hasHoursLeft cX4_hasHoursLeft 2 (some .boolean) ∈ wsL_law := iL_14 _ (List.mem_of_getElem? (i := 20) rfl)
theorem q_14_21 : Cond.methodLink RX6 130 yX4_runHours ∈ wsL_law := iL_14 _ (List.mem_of_getElem? (i := 21) rfl)
theorem q_14_22 : Cond.instanceMethod yX4_runHours ∈ wsL_law := iL_14 _ (List.mem_of_getElem? (i := 22) rfl)
theorem q_14_23 : Cond.selects RX4 yX4_runHours yX4_runHours ∈ wsL_law := iL_14 _ (List.mem_of_getElem? (i := 23) rfl)
theorem q_15_0 : Cond.code yX4_runHours cX4_runHours 5 (some .int) ∈ wsL_law := iL_15 _ (List.mem_of_getElem? (i := 0) rfl)
theorem q_15_1 : Cond.fieldLink RX4 65 "SluiceTurns$Canals" "open" "I" ∈ wsL_law := iL_15 _ (List.mem_of_getElem? (i := 1) rfl)
theorem q_15_2 : Cond.methodLink RX4 68 yX5_gatesInNextHour ∈ wsL_law := iL_15 _ (List.mem_of_getElem? (i := 2) rfl)
theorem q_15_3 : Cond.instanceMethod yX5_gatesInNextHour ∈ wsL_law := iL_15 _ (List.mem_of_getElem? (i := 3) rfl)
theorem q_15_4 : Cond.selects RX5 yX5_gatesInNextHour yX5_gatesInNextHour ∈ wsL_law := iL_15 _ (List.mem_of_getElem? (i := 4) rfl)
theorem q_15_5 : Cond.code yX5_gatesInNextHour cX5_gatesInNextHour 2 (some .int) ∈ wsL_law := iL_15 _ (List.mem_of_getElem? (i := 5) rfl)
theorem q_15_6 : Cond.methodLink RX4 72 yX4_passHour ∈ wsL_law := iL_15 _ (List.mem_of_getElem? (i := 6) rfl)
theorem q_15_7 : Cond.instanceMethod yX4_passHour ∈ wsL_law := iL_15 _ (List.mem_of_getElem? (i := 7) rfl)
theorem q_15_8 : Cond.selects RX4 yX4_passHour yX4_passHour ∈ wsL_law := iL_15 _ (List.mem_of_getElem? (i := 8) rfl)
theorem q_15_9 : Cond.code yX4_passHour cX4_passHour 5 (some .int) ∈ wsL_law := iL_15 _ (List.mem_of_getElem? (i := 9) rfl)
theorem q_15_10 : Cond.fieldLink RX4 84 "SluiceTurns$Canals" "came" "[I" ∈ wsL_law := iL_15 _ (List.mem_of_getElem? (i := 10) rfl)
theorem q_15_11 : Cond.fieldLink RX4 93 "SluiceTurns$Canals" "width" "[I" ∈ wsL_law := iL_15 _ (List.mem_of_getElem? (i := 11) rfl)
theorem q_15_12 : Cond.fieldLink RX4 114 "SluiceTurns$Canals" "ranOff" "[I" ∈ wsL_law := iL_15 _ (List.mem_of_getElem? (i := 12) rfl)
theorem q_15_13 : Cond.methodLink RX4 78 yX4_findCallsBelow ∈ wsL_law := iL_15 _ (List.mem_of_getElem? (i := 13) rfl)
theorem q_15_14 : Cond.methodLink RX4 81 yX4_findPassingGates ∈ wsL_law := iL_15 _ (List.mem_of_getElem? (i := 14) rfl)
theorem q_15_15 : Cond.instanceMethod yX4_findPassingGates ∈ wsL_law := iL_15 _ (List.mem_of_getElem? (i := 15) rfl)
theorem q_15_16 : Cond.selects RX4 yX4_findPassingGates yX4_findPassingGates ∈ wsL_law := iL_15 _ (List.mem_of_getElem? (i := 16) rfl)
theorem q_15_17 : Cond.code yX4_findPassingGates cX4_findPassingGates 4 none ∈ wsL_law := iL_15 _ (List.mem_of_getElem? (i := 17) rfl)
theorem q_15_18 : Cond.fieldLink RX4 139 "SluiceTurns$Terrace" "passing" "I" ∈ wsL_law := iL_15 _ (List.mem_of_getElem? (i := 18) rfl)
theorem q_15_19 : Cond.fieldLink RX4 142 "SluiceTurns$Canals" "kind" "[I" ∈ wsL_law := iL_15 _ (List.mem_of_getElem? (i := 19) rfl)
theorem q_15_20 : Cond.methodLink RX4 136 yX1_wants ∈ wsL_law := iL_15 _ (List.mem_of_getElem? (i := 20) rfl)
theorem q_15_21 : Cond.methodLink RX4 105 yX4_seepAway ∈ wsL_law := iL_15 _ (List.mem_of_getElem? (i := 21) rfl)
theorem q_15_22 : Cond.instanceMethod yX4_seepAway ∈ wsL_law := iL_15 _ (List.mem_of_getElem? (i := 22) rfl)
theorem q_15_23 : Cond.selects RX4 yX4_seepAway yX4_seepAway ∈ wsL_law := iL_15 _ (List.mem_of_getElem? (i := 23) rfl)
theorem q_16_0 : Cond.code yX4_seepAway cX4_seepAway 4 (some .int) ∈ wsL_law := iL_16 _ (List.mem_of_getElem? (i := 0) rfl)
theorem q_16_1 : Cond.fieldLink RX4 145 "SluiceTurns$Canals" "seepage" "[I" ∈ wsL_law := iL_16 _ (List.mem_of_getElem? (i := 1) rfl)
theorem q_16_2 : Cond.fieldLink RX4 148 "SluiceTurns$Canals" "seeped" "[I" ∈ wsL_law := iL_16 _ (List.mem_of_getElem? (i := 2) rfl)
theorem q_16_3 : Cond.methodLink RX4 108 yX4_giveToFields ∈ wsL_law := iL_16 _ (List.mem_of_getElem? (i := 3) rfl)
theorem q_16_4 : Cond.instanceMethod yX4_giveToFields ∈ wsL_law := iL_16 _ (List.mem_of_getElem? (i := 4) rfl)
theorem q_16_5 : Cond.selects RX4 yX4_giveToFields yX4_giveToFields ∈ wsL_law := iL_16 _ (List.mem_of_getElem? (i := 5) rfl)
theorem q_16_6 : Cond.code yX4_giveToFields cX4_giveToFields 6 (some .int) ∈ wsL_law := iL_16 _ (List.mem_of_getElem? (i := 6) rfl)
theorem q_16_7 : Cond.fieldLink RX4 150 "SluiceTurns$Fields" "byRight" "[I" ∈ wsL_law := iL_16 _ (List.mem_of_getElem? (i := 7) rfl)
theorem q_16_8 : Cond.methodLink RX4 153 yX4_mayTake ∈ wsL_law := iL_16 _ (List.mem_of_getElem? (i := 8) rfl)
theorem q_16_9 : Cond.methodLink RX4 156 yX1_give ∈ wsL_law := iL_16 _ (List.mem_of_getElem? (i := 9) rfl)
theorem q_16_10 : Cond.instanceMethod yX1_give ∈ wsL_law := iL_16 _ (List.mem_of_getElem? (i := 10) rfl)
theorem q_16_11 : Cond.selects RX1 yX1_give yX1_give ∈ wsL_law := iL_16 _ (List.mem_of_getElem? (i := 11) rfl)
theorem q_16_12 : Cond.code yX1_give cX1_give 5 (some .int) ∈ wsL_law := iL_16 _ (List.mem_of_getElem? (i := 12) rfl)
theorem q_16_13 : Cond.methodLink RX1 59 Lib.Math.min.name ∈ wsL_law := iL_16 _ (List.mem_of_getElem? (i := 13) rfl)
theorem q_16_14 : Cond.methodLink RX4 111 yX4_partAmongGates ∈ wsL_law := iL_16 _ (List.mem_of_getElem? (i := 14) rfl)
theorem q_16_15 : Cond.instanceMethod yX4_partAmongGates ∈ wsL_law := iL_16 _ (List.mem_of_getElem? (i := 15) rfl)
theorem q_16_16 : Cond.selects RX4 yX4_partAmongGates yX4_partAmongGates ∈ wsL_law := iL_16 _ (List.mem_of_getElem? (i := 16) rfl)
theorem q_16_17 : Cond.code yX4_partAmongGates cX4_partAmongGates 8 (some .int) ∈ wsL_law := iL_16 _ (List.mem_of_getElem? (i := 17) rfl)
theorem q_16_18 : Cond.methodLink RX4 160 yX4_isPassingFrom ∈ wsL_law := iL_16 _ (List.mem_of_getElem? (i := 18) rfl)
theorem q_16_19 : Cond.instanceMethod yX4_isPassingFrom ∈ wsL_law := iL_16 _ (List.mem_of_getElem? (i := 19) rfl)
theorem q_16_20 : Cond.selects RX4 yX4_isPassingFrom yX4_isPassingFrom ∈ wsL_law := iL_16 _ (List.mem_of_getElem? (i := 20) rfl)
theorem q_16_21 : Cond.code yX4_isPassingFrom cX4_isPassingFrom 3 (some .boolean) ∈ wsL_law := iL_16 _ (List.mem_of_getElem? (i := 21) rfl)
theorem q_16_22 : Cond.methodLink RX4 164 yX4_throughGate ∈ wsL_law := iL_16 _ (List.mem_of_getElem? (i := 22) rfl)
theorem q_16_23 : Cond.instanceMethod yX4_throughGate ∈ wsL_law := iL_16 _ (List.mem_of_getElem? (i := 23) rfl)
theorem q_17_0 : Cond.selects RX4 yX4_throughGate yX4_throughGate ∈ wsL_law := iL_17 _ (List.mem_of_getElem? (i := 0) rfl)
theorem q_17_1 : Cond.code yX4_throughGate cX4_throughGate 4 (some .int) ∈ wsL_law := iL_17 _ (List.mem_of_getElem? (i := 1) rfl)
theorem q_17_2 : Cond.methodLink RX4 116 yX4_endCalls ∈ wsL_law := iL_17 _ (List.mem_of_getElem? (i := 2) rfl)
theorem q_17_3 : Cond.instanceMethod yX4_endCalls ∈ wsL_law := iL_17 _ (List.mem_of_getElem? (i := 3) rfl)
theorem q_17_4 : Cond.selects RX4 yX4_endCalls yX4_endCalls ∈ wsL_law := iL_17 _ (List.mem_of_getElem? (i := 4) rfl)
theorem q_17_5 : Cond.code yX4_endCalls cX4_endCalls 1 none ∈ wsL_law := iL_17 _ (List.mem_of_getElem? (i := 5) rfl)
theorem q_17_6 : Cond.fieldLink RX4 167 "SluiceTurns$Fields" "calling" "I" ∈ wsL_law := iL_17 _ (List.mem_of_getElem? (i := 6) rfl)
theorem q_17_7 : Cond.methodLink RX4 170 yX1_wanting ∈ wsL_law := iL_17 _ (List.mem_of_getElem? (i := 7) rfl)
theorem q_17_8 : Cond.methodLink RX4 75 yX5_goOn ∈ wsL_law := iL_17 _ (List.mem_of_getElem? (i := 8) rfl)
theorem q_17_9 : Cond.instanceMethod yX5_goOn ∈ wsL_law := iL_17 _ (List.mem_of_getElem? (i := 9) rfl)
theorem q_17_10 : Cond.selects RX5 yX5_goOn yX5_goOn ∈ wsL_law := iL_17 _ (List.mem_of_getElem? (i := 10) rfl)
theorem q_17_11 : Cond.code yX5_goOn cX5_goOn 1 none ∈ wsL_law := iL_17 _ (List.mem_of_getElem? (i := 11) rfl)
theorem q_17_12 : Cond.methodLink RL 53 yX6_turnOf ∈ wsL_law := iL_17 _ (List.mem_of_getElem? (i := 12) rfl)
theorem q_17_13 : Cond.instanceMethod yX6_turnOf ∈ wsL_law := iL_17 _ (List.mem_of_getElem? (i := 13) rfl)
theorem q_17_14 : Cond.selects RX6 yX6_turnOf yX6_turnOf ∈ wsL_law := iL_17 _ (List.mem_of_getElem? (i := 14) rfl)
theorem q_17_15 : Cond.code yX6_turnOf cX6_turnOf 3 (some .int) ∈ wsL_law := iL_17 _ (List.mem_of_getElem? (i := 15) rfl)
theorem q_17_16 : Cond.fieldLink RX6 193 "SluiceTurns$Turns" "gates" "[I" ∈ wsL_law := iL_17 _ (List.mem_of_getElem? (i := 16) rfl)
theorem q_17_17 : Cond.fieldLink RX6 196 "SluiceTurns$Turns" "hours" "[I" ∈ wsL_law := iL_17 _ (List.mem_of_getElem? (i := 17) rfl)
theorem q_17_18 : Cond.methodLink RX6 192 yX5_has ∈ wsL_law := iL_17 _ (List.mem_of_getElem? (i := 18) rfl)
theorem q_17_19 : Cond.instanceMethod yX5_has ∈ wsL_law := iL_17 _ (List.mem_of_getElem? (i := 19) rfl)
theorem q_17_20 : Cond.selects RX5 yX5_has yX5_has ∈ wsL_law := iL_17 _ (List.mem_of_getElem? (i := 20) rfl)
theorem q_17_21 : Cond.code yX5_has cX5_has 2 (some .boolean) ∈ wsL_law := iL_17 _ (List.mem_of_getElem? (i := 21) rfl)
theorem q_17_22 : Cond.methodLink RL 56 yX6_open ∈ wsL_law := iL_17 _ (List.mem_of_getElem? (i := 22) rfl)
theorem q_17_23 : Cond.instanceMethod yX6_open ∈ wsL_law := iL_17 _ (List.mem_of_getElem? (i := 23) rfl)
theorem q_18_0 : Cond.selects RX6 yX6_open yX6_open ∈ wsL_law := iL_18 _ (List.mem_of_getElem? (i := 0) rfl)
theorem q_18_1 : Cond.code yX6_open cX6_open 2 (some .int) ∈ wsL_law := iL_18 _ (List.mem_of_getElem? (i := 1) rfl)
theorem q_18_2 : Cond.methodLink RX6 69 yX0_hasGate ∈ wsL_law := iL_18 _ (List.mem_of_getElem? (i := 2) rfl)
theorem q_18_3 : Cond.instanceMethod yX0_hasGate ∈ wsL_law := iL_18 _ (List.mem_of_getElem? (i := 3) rfl)
theorem q_18_4 : Cond.selects RX0 yX0_hasGate yX0_hasGate ∈ wsL_law := iL_18 _ (List.mem_of_getElem? (i := 4) rfl)
theorem q_18_5 : Cond.code yX0_hasGate cX0_hasGate 2 (some .boolean) ∈ wsL_law := iL_18 _ (List.mem_of_getElem? (i := 5) rfl)
theorem q_18_6 : Cond.methodLink RX6 91 yX0_canBeOpened ∈ wsL_law := iL_18 _ (List.mem_of_getElem? (i := 6) rfl)
theorem q_18_7 : Cond.instanceMethod yX0_canBeOpened ∈ wsL_law := iL_18 _ (List.mem_of_getElem? (i := 7) rfl)
theorem q_18_8 : Cond.selects RX0 yX0_canBeOpened yX0_canBeOpened ∈ wsL_law := iL_18 _ (List.mem_of_getElem? (i := 8) rfl)
theorem q_18_9 : Cond.code yX0_canBeOpened cX0_canBeOpened 2 (some .boolean) ∈ wsL_law := iL_18 _ (List.mem_of_getElem? (i := 9) rfl)
theorem q_18_10 : Cond.methodLink RX0 57 yX0_isOpen ∈ wsL_law := iL_18 _ (List.mem_of_getElem? (i := 10) rfl)
theorem q_18_11 : Cond.methodLink RX6 94 yX0_flipGate ∈ wsL_law := iL_18 _ (List.mem_of_getElem? (i := 11) rfl)
theorem q_18_12 : Cond.instanceMethod yX0_flipGate ∈ wsL_law := iL_18 _ (List.mem_of_getElem? (i := 12) rfl)
theorem q_18_13 : Cond.selects RX0 yX0_flipGate yX0_flipGate ∈ wsL_law := iL_18 _ (List.mem_of_getElem? (i := 13) rfl)
theorem q_18_14 : Cond.code yX0_flipGate cX0_flipGate 2 (some .int) ∈ wsL_law := iL_18 _ (List.mem_of_getElem? (i := 14) rfl)
theorem q_18_15 : Cond.methodLink RL 59 yX6_tend ∈ wsL_law := iL_18 _ (List.mem_of_getElem? (i := 15) rfl)
theorem q_18_16 : Cond.instanceMethod yX6_tend ∈ wsL_law := iL_18 _ (List.mem_of_getElem? (i := 16) rfl)
theorem q_18_17 : Cond.selects RX6 yX6_tend yX6_tend ∈ wsL_law := iL_18 _ (List.mem_of_getElem? (i := 17) rfl)
theorem q_18_18 : Cond.code yX6_tend cX6_tend 3 (some .int) ∈ wsL_law := iL_18 _ (List.mem_of_getElem? (i := 18) rfl)
theorem q_18_19 : Cond.methodLink RX6 79 yX6_tendsKind ∈ wsL_law := iL_18 _ (List.mem_of_getElem? (i := 19) rfl)
theorem q_18_20 : Cond.static yX6_tendsKind ∈ wsL_law := iL_18 _ (List.mem_of_getElem? (i := 20) rfl)
theorem q_18_21 : Cond.code yX6_tendsKind cX6_tendsKind 2 (some .boolean) ∈ wsL_law := iL_18 _ (List.mem_of_getElem? (i := 21) rfl)
theorem q_18_22 : Cond.methodLink RX6 84 yX0_gatesOf ∈ wsL_law := iL_18 _ (List.mem_of_getElem? (i := 22) rfl)
theorem q_18_23 : Cond.instanceMethod yX0_gatesOf ∈ wsL_law := iL_18 _ (List.mem_of_getElem? (i := 23) rfl)
theorem q_19_0 : Cond.selects RX0 yX0_gatesOf yX0_gatesOf ∈ wsL_law := iL_19 _ (List.mem_of_getElem? (i := 0) rfl)
theorem q_19_1 : Cond.code yX0_gatesOf cX0_gatesOf 4 (some .int) ∈ wsL_law := iL_19 _ (List.mem_of_getElem? (i := 1) rfl)
theorem q_19_2 : Cond.methodLink RL 62 yL_hour ∈ wsL_law := iL_19 _ (List.mem_of_getElem? (i := 2) rfl)
theorem q_19_3 : Cond.static yL_hour ∈ wsL_law := iL_19 _ (List.mem_of_getElem? (i := 3) rfl)
theorem q_19_4 : Cond.code yL_hour cL_hour 14 (some .boolean) ∈ wsL_law := iL_19 _ (List.mem_of_getElem? (i := 4) rfl)
theorem q_19_5 : Cond.methodLink RL 26 yX6_hour ∈ wsL_law := iL_19 _ (List.mem_of_getElem? (i := 5) rfl)
theorem q_19_6 : Cond.instanceMethod yX6_hour ∈ wsL_law := iL_19 _ (List.mem_of_getElem? (i := 6) rfl)
theorem q_19_7 : Cond.selects RX6 yX6_hour yX6_hour ∈ wsL_law := iL_19 _ (List.mem_of_getElem? (i := 7) rfl)
theorem q_19_8 : Cond.code yX6_hour cX6_hour 2 (some .int) ∈ wsL_law := iL_19 _ (List.mem_of_getElem? (i := 8) rfl)
theorem q_19_9 : Cond.methodLink RX6 127 yX4_passHour ∈ wsL_law := iL_19 _ (List.mem_of_getElem? (i := 9) rfl)
theorem q_19_10 : Cond.methodLink RL 79 yX6_undo ∈ wsL_law := iL_19 _ (List.mem_of_getElem? (i := 10) rfl)
theorem q_19_11 : Cond.instanceMethod yX6_undo ∈ wsL_law := iL_19 _ (List.mem_of_getElem? (i := 11) rfl)
theorem q_19_12 : Cond.selects RX6 yX6_undo yX6_undo ∈ wsL_law := iL_19 _ (List.mem_of_getElem? (i := 12) rfl)
theorem q_19_13 : Cond.code yX6_undo cX6_undo 1 (some .int) ∈ wsL_law := iL_19 _ (List.mem_of_getElem? (i := 13) rfl)
theorem q_19_14 : Cond.methodLink RX6 260 yX2_restoreLatest ∈ wsL_law := iL_19 _ (List.mem_of_getElem? (i := 14) rfl)
theorem q_19_15 : Cond.instanceMethod yX2_restoreLatest ∈ wsL_law := iL_19 _ (List.mem_of_getElem? (i := 15) rfl)
theorem q_19_16 : Cond.selects RX2 yX2_restoreLatest yX2_restoreLatest ∈ wsL_law := iL_19 _ (List.mem_of_getElem? (i := 16) rfl)
theorem q_19_17 : Cond.code yX2_restoreLatest cX2_restoreLatest 2 (some .int) ∈ wsL_law := iL_19 _ (List.mem_of_getElem? (i := 17) rfl)
theorem qk_7 : Cond.constant RL 7 (65539) ∈ wsL_law := q_12_9
theorem qk_8 : Cond.constant RL 8 (2147483647) ∈ wsL_law := q_12_10
theorem goodI {ws : List Cond} (h : ∀ w ∈ ws, w ∈ wsL_law) : GoodIn wsL_law ws := fun w hw => ⟨h w hw, good_of_word (goodL w (h w hw))⟩
theorem gV_of {own : String} {idx : Nat} {C : String} {y : MethodName} {cd : ByteArray} {n : Nat} {rt : Option FieldType} {ws : List Cond} (hw : ws = .code y cd n rt :: wsL_law) (h1 : Cond.methodLink own idx y ∈ wsL_law) (h2 : Cond.instanceMethod y ∈ wsL_law) (h3 : Cond.selects C y y ∈ wsL_law) (h4 : Cond.initialized C ∈ wsL_law) (h5 : Cond.code y cd n rt ∈ wsL_law) : GoodIn wsL_law (wsV own idx C y ws) := by
  subst hw
  refine goodI (fun w h => ?_)
  simp only [wsV, List.mem_append, List.mem_cons, List.not_mem_nil, or_false] at h
  rcases h with (rfl | rfl | rfl | rfl) | rfl | h
  · exact h1
  · exact h2
  · exact h3
  · exact h4
  · exact h5
  · exact h
theorem gS_of {own : String} {idx : Nat} {y : MethodName} {cd : ByteArray} {n : Nat} {rt : Option FieldType} {ws : List Cond} (hw : ws = .code y cd n rt :: wsL_law) (h1 : Cond.methodLink own idx y ∈ wsL_law) (h2 : Cond.static y ∈ wsL_law) (h3 : Cond.initialized y.cls ∈ wsL_law) (h5 : Cond.code y cd n rt ∈ wsL_law) : GoodIn wsL_law (va_wsS own idx y ws) := by
  subst hw
  refine goodI (fun w h => ?_)
  simp only [va_wsS, List.mem_append, List.mem_cons, List.not_mem_nil, or_false] at h
  rcases h with (rfl | rfl | rfl) | rfl | h
  · exact h1
  · exact h2
  · exact h3
  · exact h5
  · exact h
theorem gN_of {y : MethodName} {cd : ByteArray} {n : Nat} {rt : Option FieldType} {ws : List Cond} (hw : ws = .code y cd n rt :: wsL_law) (h5 : Cond.code y cd n rt ∈ wsL_law) : GoodIn wsL_law ws := by
  subst hw
  refine goodI (fun w h => ?_)
  rcases List.mem_cons.mp h with rfl | h
  · exact h5
  · exact h
theorem gV_X0_become {own : String} {idx : Nat} (h1 : Cond.methodLink own idx yX0_become ∈ wsL_law) : GoodIn wsL_law (wsV own idx RX0 yX0_become wsX0_become) := gV_of rfl h1 q_10_22 q_10_23 q_2_3 q_11_0
theorem gV_X0_has {own : String} {idx : Nat} (h1 : Cond.methodLink own idx yX0_has ∈ wsL_law) : GoodIn wsL_law (wsV own idx RX0 yX0_has wsX0_has) := gV_of rfl h1 q_9_1 q_9_2 q_2_3 q_9_3
theorem gV_X0_hasGate {own : String} {idx : Nat} (h1 : Cond.methodLink own idx yX0_hasGate ∈ wsL_law) : GoodIn wsL_law (wsV own idx RX0 yX0_hasGate wsX0_hasGate) := gV_of rfl h1 q_18_3 q_18_4 q_2_3 q_18_5
theorem gV_X0_allGates {own : String} {idx : Nat} (h1 : Cond.methodLink own idx yX0_allGates ∈ wsL_law) : GoodIn wsL_law (wsV own idx RX0 yX0_allGates wsX0_allGates) := gV_of rfl h1 q_14_6 q_14_7 q_2_3 q_14_8
theorem gV_X0_areGates {own : String} {idx : Nat} (h1 : Cond.methodLink own idx yX0_areGates ∈ wsL_law) : GoodIn wsL_law (wsV own idx RX0 yX0_areGates wsX0_areGates) := gV_of rfl h1 q_14_2 q_14_3 q_2_3 q_14_4
theorem gV_X0_add {own : String} {idx : Nat} (h1 : Cond.methodLink own idx yX0_add ∈ wsL_law) : GoodIn wsL_law (wsV own idx RX0 yX0_add wsX0_add) := gV_of rfl h1 q_11_19 q_11_20 q_2_3 q_11_21
theorem gV_X0_isOpen {own : String} {idx : Nat} (h1 : Cond.methodLink own idx yX0_isOpen ∈ wsL_law) : GoodIn wsL_law (wsV own idx RX0 yX0_isOpen wsX0_isOpen) := gV_of rfl h1 q_8_3 q_8_4 q_2_3 q_8_5
theorem gV_X0_isTended {own : String} {idx : Nat} (h1 : Cond.methodLink own idx yX0_isTended ∈ wsL_law) : GoodIn wsL_law (wsV own idx RX0 yX0_isTended wsX0_isTended) := gV_of rfl h1 q_6_7 q_6_8 q_2_3 q_6_9
theorem gV_X0_canBeOpened {own : String} {idx : Nat} (h1 : Cond.methodLink own idx yX0_canBeOpened ∈ wsL_law) : GoodIn wsL_law (wsV own idx RX0 yX0_canBeOpened wsX0_canBeOpened) := gV_of rfl h1 q_18_7 q_18_8 q_2_3 q_18_9
theorem gV_X0_flipGate {own : String} {idx : Nat} (h1 : Cond.methodLink own idx yX0_flipGate ∈ wsL_law) : GoodIn wsL_law (wsV own idx RX0 yX0_flipGate wsX0_flipGate) := gV_of rfl h1 q_18_12 q_18_13 q_2_3 q_18_14
theorem gV_X0_tended {own : String} {idx : Nat} (h1 : Cond.methodLink own idx yX0_tended ∈ wsL_law) : GoodIn wsL_law (wsV own idx RX0 yX0_tended wsX0_tended) := gV_of rfl h1 q_6_3 q_6_4 q_2_3 q_6_5
theorem gV_X0_gatesOf {own : String} {idx : Nat} (h1 : Cond.methodLink own idx yX0_gatesOf ∈ wsL_law) : GoodIn wsL_law (wsV own idx RX0 yX0_gatesOf wsX0_gatesOf) := gV_of rfl h1 q_18_23 q_19_0 q_2_3 q_19_1
theorem gV_X0_below {own : String} {idx : Nat} (h1 : Cond.methodLink own idx yX0_below ∈ wsL_law) : GoodIn wsL_law (wsV own idx RX0 yX0_below wsX0_below) := gV_of rfl h1 q_9_7 q_9_8 q_2_3 q_9_9
theorem gV_X1_become {own : String} {idx : Nat} (h1 : Cond.methodLink own idx yX1_become ∈ wsL_law) : GoodIn wsL_law (wsV own idx RX1 yX1_become wsX1_become) := gV_of rfl h1 q_11_6 q_11_7 q_2_7 q_11_8
theorem gV_X1_has {own : String} {idx : Nat} (h1 : Cond.methodLink own idx yX1_has ∈ wsL_law) : GoodIn wsL_law (wsV own idx RX1 yX1_has wsX1_has) := gV_of rfl h1 q_6_21 q_6_22 q_2_7 q_6_23
theorem gV_X1_add {own : String} {idx : Nat} (h1 : Cond.methodLink own idx yX1_add ∈ wsL_law) : GoodIn wsL_law (wsV own idx RX1 yX1_add wsX1_add) := gV_of rfl h1 q_12_3 q_12_4 q_2_7 q_12_5
theorem gV_X1_wants {own : String} {idx : Nat} (h1 : Cond.methodLink own idx yX1_wants ∈ wsL_law) : GoodIn wsL_law (wsV own idx RX1 yX1_wants wsX1_wants) := gV_of rfl h1 q_5_16 q_5_17 q_2_7 q_5_18
theorem gV_X1_wanting {own : String} {idx : Nat} (h1 : Cond.methodLink own idx yX1_wanting ∈ wsL_law) : GoodIn wsL_law (wsV own idx RX1 yX1_wanting wsX1_wanting) := gV_of rfl h1 q_5_11 q_5_12 q_2_7 q_5_13
theorem gV_X1_calls {own : String} {idx : Nat} (h1 : Cond.methodLink own idx yX1_calls ∈ wsL_law) : GoodIn wsL_law (wsV own idx RX1 yX1_calls wsX1_calls) := gV_of rfl h1 q_7_1 q_7_2 q_2_7 q_7_3
theorem gV_X1_canCall {own : String} {idx : Nat} (h1 : Cond.methodLink own idx yX1_canCall ∈ wsL_law) : GoodIn wsL_law (wsV own idx RX1 yX1_canCall wsX1_canCall) := gV_of rfl h1 q_13_0 q_13_1 q_2_7 q_13_2
theorem gS_J6_bitCount_0f7a4 {own : String} {idx : Nat} (h1 : Cond.methodLink own idx yJ6_bitCount_0f7a4 ∈ wsL_law) : GoodIn wsL_law (va_wsS own idx yJ6_bitCount_0f7a4 wsJ6_bitCount_0f7a4) := gS_of rfl h1 q_5_20 q_5_21 q_5_22
theorem gN_J6_bitCount_0f7a4 : GoodIn wsL_law wsJ6_bitCount_0f7a4 := gN_of rfl q_5_22
theorem gV_X1_beginCall {own : String} {idx : Nat} (h1 : Cond.methodLink own idx yX1_beginCall ∈ wsL_law) : GoodIn wsL_law (wsV own idx RX1 yX1_beginCall wsX1_beginCall) := gV_of rfl h1 q_13_5 q_13_6 q_2_7 q_13_7
theorem gV_X1_give {own : String} {idx : Nat} (h1 : Cond.methodLink own idx yX1_give ∈ wsL_law) : GoodIn wsL_law (wsV own idx RX1 yX1_give wsX1_give) := gV_of rfl h1 q_16_10 q_16_11 q_2_7 q_16_12
theorem gV_X2_dropOldest {own : String} {idx : Nat} (h1 : Cond.methodLink own idx yX2_dropOldest ∈ wsL_law) : GoodIn wsL_law (wsV own idx RX2 yX2_dropOldest wsX2_dropOldest) := gV_of rfl h1 q_10_9 q_10_10 q_1_16 q_10_11
theorem gV_X5_become {own : String} {idx : Nat} (h1 : Cond.methodLink own idx yX5_become ∈ wsL_law) : GoodIn wsL_law (wsV own idx RX5 yX5_become wsX5_become) := gV_of rfl h1 q_11_11 q_11_12 q_2_11 q_11_13
theorem gV_X4_become {own : String} {idx : Nat} (h1 : Cond.methodLink own idx yX4_become ∈ wsL_law) : GoodIn wsL_law (wsV own idx RX4 yX4_become wsX4_become) := gV_of rfl h1 q_10_13 q_10_14 q_1_11 q_10_15
theorem gV_X2_record {own : String} {idx : Nat} (h1 : Cond.methodLink own idx yX2_record ∈ wsL_law) : GoodIn wsL_law (wsV own idx RX2 yX2_record wsX2_record) := gV_of rfl h1 q_10_4 q_10_5 q_1_16 q_10_6
theorem gV_X2_restoreLatest {own : String} {idx : Nat} (h1 : Cond.methodLink own idx yX2_restoreLatest ∈ wsL_law) : GoodIn wsL_law (wsV own idx RX2 yX2_restoreLatest wsX2_restoreLatest) := gV_of rfl h1 q_19_15 q_19_16 q_1_16 q_19_17
theorem gV_X4_hasHoursLeft {own : String} {idx : Nat} (h1 : Cond.methodLink own idx yX4_hasHoursLeft ∈ wsL_law) : GoodIn wsL_law (wsV own idx RX4 yX4_hasHoursLeft wsX4_hasHoursLeft) := gV_of rfl h1 q_14_18 q_14_19 q_1_11 q_14_20
theorem gV_X5_gatesInNextHour {own : String} {idx : Nat} (h1 : Cond.methodLink own idx yX5_gatesInNextHour ∈ wsL_law) : GoodIn wsL_law (wsV own idx RX5 yX5_gatesInNextHour wsX5_gatesInNextHour) := gV_of rfl h1 q_15_3 q_15_4 q_2_11 q_15_5
theorem gS_J7_fill_53178 {own : String} {idx : Nat} (h1 : Cond.methodLink own idx yJ7_fill_53178 ∈ wsL_law) : GoodIn wsL_law (va_wsS own idx yJ7_fill_53178 wsJ7_fill_53178) := gS_of rfl h1 q_7_22 q_7_23 q_8_0
theorem gN_J7_fill_53178 : GoodIn wsL_law wsJ7_fill_53178 := gN_of rfl q_8_0
theorem gV_X4_findCallsBelow {own : String} {idx : Nat} (h1 : Cond.methodLink own idx yX4_findCallsBelow ∈ wsL_law) : GoodIn wsL_law (wsV own idx RX4 yX4_findCallsBelow wsX4_findCallsBelow) := gV_of rfl h1 q_7_9 q_7_10 q_1_11 q_7_11
theorem gV_X4_findPassingGates {own : String} {idx : Nat} (h1 : Cond.methodLink own idx yX4_findPassingGates ∈ wsL_law) : GoodIn wsL_law (wsV own idx RX4 yX4_findPassingGates wsX4_findPassingGates) := gV_of rfl h1 q_15_15 q_15_16 q_1_11 q_15_17
theorem gV_X4_seepAway {own : String} {idx : Nat} (h1 : Cond.methodLink own idx yX4_seepAway ∈ wsL_law) : GoodIn wsL_law (wsV own idx RX4 yX4_seepAway wsX4_seepAway) := gV_of rfl h1 q_15_22 q_15_23 q_1_11 q_16_0
theorem gV_X4_mayTake {own : String} {idx : Nat} (h1 : Cond.methodLink own idx yX4_mayTake ∈ wsL_law) : GoodIn wsL_law (wsV own idx RX4 yX4_mayTake wsX4_mayTake) := gV_of rfl h1 q_8_8 q_8_9 q_1_11 q_8_10
theorem gV_X4_giveToFields {own : String} {idx : Nat} (h1 : Cond.methodLink own idx yX4_giveToFields ∈ wsL_law) : GoodIn wsL_law (wsV own idx RX4 yX4_giveToFields wsX4_giveToFields) := gV_of rfl h1 q_16_4 q_16_5 q_1_11 q_16_6
theorem gV_X4_isPassingFrom {own : String} {idx : Nat} (h1 : Cond.methodLink own idx yX4_isPassingFrom ∈ wsL_law) : GoodIn wsL_law (wsV own idx RX4 yX4_isPassingFrom wsX4_isPassingFrom) := gV_of rfl h1 q_16_19 q_16_20 q_1_11 q_16_21
theorem gV_X4_throughGate {own : String} {idx : Nat} (h1 : Cond.methodLink own idx yX4_throughGate ∈ wsL_law) : GoodIn wsL_law (wsV own idx RX4 yX4_throughGate wsX4_throughGate) := gV_of rfl h1 q_16_23 q_17_0 q_1_11 q_17_1
theorem gV_X4_partAmongGates {own : String} {idx : Nat} (h1 : Cond.methodLink own idx yX4_partAmongGates ∈ wsL_law) : GoodIn wsL_law (wsV own idx RX4 yX4_partAmongGates wsX4_partAmongGates) := gV_of rfl h1 q_16_15 q_16_16 q_1_11 q_16_17
theorem gV_X4_endCalls {own : String} {idx : Nat} (h1 : Cond.methodLink own idx yX4_endCalls ∈ wsL_law) : GoodIn wsL_law (wsV own idx RX4 yX4_endCalls wsX4_endCalls) := gV_of rfl h1 q_17_3 q_17_4 q_1_11 q_17_5
theorem gV_X4_passHour {own : String} {idx : Nat} (h1 : Cond.methodLink own idx yX4_passHour ∈ wsL_law) : GoodIn wsL_law (wsV own idx RX4 yX4_passHour wsX4_passHour) := gV_of rfl h1 q_15_7 q_15_8 q_1_11 q_15_9
theorem gV_X5_goOn {own : String} {idx : Nat} (h1 : Cond.methodLink own idx yX5_goOn ∈ wsL_law) : GoodIn wsL_law (wsV own idx RX5 yX5_goOn wsX5_goOn) := gV_of rfl h1 q_17_9 q_17_10 q_2_11 q_17_11
theorem gV_X4_runHours {own : String} {idx : Nat} (h1 : Cond.methodLink own idx yX4_runHours ∈ wsL_law) : GoodIn wsL_law (wsV own idx RX4 yX4_runHours wsX4_runHours) := gV_of rfl h1 q_14_22 q_14_23 q_1_11 q_15_0
theorem gV_X5_has {own : String} {idx : Nat} (h1 : Cond.methodLink own idx yX5_has ∈ wsL_law) : GoodIn wsL_law (wsV own idx RX5 yX5_has wsX5_has) := gV_of rfl h1 q_17_19 q_17_20 q_2_11 q_17_21
theorem gV_X5_beginAgain {own : String} {idx : Nat} (h1 : Cond.methodLink own idx yX5_beginAgain ∈ wsL_law) : GoodIn wsL_law (wsV own idx RX5 yX5_beginAgain wsX5_beginAgain) := gV_of rfl h1 q_13_18 q_13_19 q_2_11 q_13_20
theorem gV_X5_add {own : String} {idx : Nat} (h1 : Cond.methodLink own idx yX5_add ∈ wsL_law) : GoodIn wsL_law (wsV own idx RX5 yX5_add wsX5_add) := gV_of rfl h1 q_14_10 q_14_11 q_2_11 q_14_12
theorem gV_X5_removeAll {own : String} {idx : Nat} (h1 : Cond.methodLink own idx yX5_removeAll ∈ wsL_law) : GoodIn wsL_law (wsV own idx RX5 yX5_removeAll wsX5_removeAll) := gV_of rfl h1 q_13_14 q_13_15 q_2_11 q_13_16
theorem gS_X6_isOutside {own : String} {idx : Nat} (h1 : Cond.methodLink own idx yX6_isOutside ∈ wsL_law) : GoodIn wsL_law (va_wsS own idx yX6_isOutside wsX6_isOutside) := gS_of rfl h1 q_9_15 q_1_2 q_9_16
theorem gN_X6_isOutside : GoodIn wsL_law wsX6_isOutside := gN_of rfl q_9_16
theorem gV_X6_canal {own : String} {idx : Nat} (h1 : Cond.methodLink own idx yX6_canal ∈ wsL_law) : GoodIn wsL_law (wsV own idx RX6 yX6_canal wsX6_canal) := gV_of rfl h1 q_9_23 q_10_0 q_1_2 q_10_1
theorem gV_X6_field {own : String} {idx : Nat} (h1 : Cond.methodLink own idx yX6_field ∈ wsL_law) : GoodIn wsL_law (wsV own idx RX6 yX6_field wsX6_field) := gV_of rfl h1 q_11_23 q_12_0 q_1_2 q_12_1
theorem gS_X6_tendsKind {own : String} {idx : Nat} (h1 : Cond.methodLink own idx yX6_tendsKind ∈ wsL_law) : GoodIn wsL_law (va_wsS own idx yX6_tendsKind wsX6_tendsKind) := gS_of rfl h1 q_18_20 q_1_2 q_18_21
theorem gN_X6_tendsKind : GoodIn wsL_law wsX6_tendsKind := gN_of rfl q_18_21
theorem gV_X6_tend {own : String} {idx : Nat} (h1 : Cond.methodLink own idx yX6_tend ∈ wsL_law) : GoodIn wsL_law (wsV own idx RX6 yX6_tend wsX6_tend) := gV_of rfl h1 q_18_16 q_18_17 q_1_2 q_18_18
theorem gV_X6_open {own : String} {idx : Nat} (h1 : Cond.methodLink own idx yX6_open ∈ wsL_law) : GoodIn wsL_law (wsV own idx RX6 yX6_open wsX6_open) := gV_of rfl h1 q_17_23 q_18_0 q_1_2 q_18_1
theorem gV_X6_call {own : String} {idx : Nat} (h1 : Cond.methodLink own idx yX6_call ∈ wsL_law) : GoodIn wsL_law (wsV own idx RX6 yX6_call wsX6_call) := gV_of rfl h1 q_12_19 q_12_20 q_1_2 q_12_21
theorem gV_X6_turn {own : String} {idx : Nat} (h1 : Cond.methodLink own idx yX6_turn ∈ wsL_law) : GoodIn wsL_law (wsV own idx RX6 yX6_turn wsX6_turn) := gV_of rfl h1 q_13_22 q_13_23 q_1_2 q_14_0
theorem gV_X6_noTurns {own : String} {idx : Nat} (h1 : Cond.methodLink own idx yX6_noTurns ∈ wsL_law) : GoodIn wsL_law (wsV own idx RX6 yX6_noTurns wsX6_noTurns) := gV_of rfl h1 q_13_10 q_13_11 q_1_2 q_13_12
theorem gV_X6_hour {own : String} {idx : Nat} (h1 : Cond.methodLink own idx yX6_hour ∈ wsL_law) : GoodIn wsL_law (wsV own idx RX6 yX6_hour wsX6_hour) := gV_of rfl h1 q_19_6 q_19_7 q_1_2 q_19_8
theorem gV_X6_run {own : String} {idx : Nat} (h1 : Cond.methodLink own idx yX6_run ∈ wsL_law) : GoodIn wsL_law (wsV own idx RX6 yX6_run wsX6_run) := gV_of rfl h1 q_14_14 q_14_15 q_1_2 q_14_16
theorem gS_X6_asNumber {own : String} {idx : Nat} (h1 : Cond.methodLink own idx yX6_asNumber ∈ wsL_law) : GoodIn wsL_law (va_wsS own idx yX6_asNumber wsX6_asNumber) := gS_of rfl h1 q_7_6 q_1_2 q_7_7
theorem gN_X6_asNumber : GoodIn wsL_law wsX6_asNumber := gN_of rfl q_7_7
theorem gV_X6_canalOf {own : String} {idx : Nat} (h1 : Cond.methodLink own idx yX6_canalOf ∈ wsL_law) : GoodIn wsL_law (wsV own idx RX6 yX6_canalOf wsX6_canalOf) := gV_of rfl h1 q_8_13 q_8_14 q_1_2 q_8_15
theorem gV_X6_fieldOf {own : String} {idx : Nat} (h1 : Cond.methodLink own idx yX6_fieldOf ∈ wsL_law) : GoodIn wsL_law (wsV own idx RX6 yX6_fieldOf wsX6_fieldOf) := gV_of rfl h1 q_6_11 q_6_12 q_1_2 q_6_13
theorem gV_X6_turnOf {own : String} {idx : Nat} (h1 : Cond.methodLink own idx yX6_turnOf ∈ wsL_law) : GoodIn wsL_law (wsV own idx RX6 yX6_turnOf wsX6_turnOf) := gV_of rfl h1 q_17_13 q_17_14 q_1_2 q_17_15
theorem gS_X6_floatBits {own : String} {idx : Nat} (h1 : Cond.methodLink own idx yX6_floatBits ∈ wsL_law) : GoodIn wsL_law (va_wsS own idx yX6_floatBits wsX6_floatBits) := gS_of rfl h1 q_9_18 q_1_2 q_9_19
theorem gN_X6_floatBits : GoodIn wsL_law wsX6_floatBits := gN_of rfl q_9_19
theorem gV_X6_share {own : String} {idx : Nat} (h1 : Cond.methodLink own idx yX6_share ∈ wsL_law) : GoodIn wsL_law (wsV own idx RX6 yX6_share wsX6_share) := gV_of rfl h1 q_9_11 q_9_12 q_1_2 q_9_13
theorem gV_X6_count {own : String} {idx : Nat} (h1 : Cond.methodLink own idx yX6_count ∈ wsL_law) : GoodIn wsL_law (wsV own idx RX6 yX6_count wsX6_count) := gV_of rfl h1 q_4_12 q_4_13 q_1_2 q_4_14
theorem gV_X6_undo {own : String} {idx : Nat} (h1 : Cond.methodLink own idx yX6_undo ∈ wsL_law) : GoodIn wsL_law (wsV own idx RX6 yX6_undo wsX6_undo) := gV_of rfl h1 q_19_11 q_19_12 q_1_2 q_19_13
theorem gS_L_cell {own : String} {idx : Nat} (h1 : Cond.methodLink own idx yL_cell ∈ wsL_law) : GoodIn wsL_law (va_wsS own idx yL_cell wsL_cell) := gS_of rfl h1 q_12_7 q_4_8 q_12_8
theorem gN_L_cell : GoodIn wsL_law wsL_cell := gN_of rfl q_12_8
theorem gS_L_holds {own : String} {idx : Nat} (h1 : Cond.methodLink own idx yL_holds ∈ wsL_law) : GoodIn wsL_law (va_wsS own idx yL_holds wsL_holds) := gS_of rfl h1 q_4_7 q_4_8 q_4_9
theorem gN_L_holds : GoodIn wsL_law wsL_holds := gN_of rfl q_4_9
theorem gS_L_hour {own : String} {idx : Nat} (h1 : Cond.methodLink own idx yL_hour ∈ wsL_law) : GoodIn wsL_law (va_wsS own idx yL_hour wsL_hour) := gS_of rfl h1 q_19_3 q_4_8 q_19_4
theorem gN_L_hour : GoodIn wsL_law wsL_hour := gN_of rfl q_19_4
theorem gS_L_acts {own : String} {idx : Nat} (h1 : Cond.methodLink own idx yL_acts ∈ wsL_law) : GoodIn wsL_law (va_wsS own idx yL_acts wsL_acts) := gS_of rfl h1 q_12_12 q_4_8 q_12_13
theorem gN_L_acts : GoodIn wsL_law wsL_acts := gN_of rfl q_12_13
