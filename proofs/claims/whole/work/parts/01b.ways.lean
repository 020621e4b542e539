/-! each method's words: its own code, and the words of all -/
def wsX0_become : List Cond := .code yX0_become cX0_become 2 none :: wsL_law
def wsX0_has : List Cond := .code yX0_has cX0_has 2 (some .boolean) :: wsL_law
def wsX0_hasGate : List Cond := .code yX0_hasGate cX0_hasGate 2 (some .boolean) :: wsL_law
def wsX0_allGates : List Cond := .code yX0_allGates cX0_allGates 1 (some .int) :: wsL_law
def wsX0_areGates : List Cond := .code yX0_areGates cX0_areGates 2 (some .boolean) :: wsL_law
def wsX0_add : List Cond := .code yX0_add cX0_add 6 (some .int) :: wsL_law
def wsX0_isOpen : List Cond := .code yX0_isOpen cX0_isOpen 2 (some .boolean) :: wsL_law
def wsX0_isTended : List Cond := .code yX0_isTended cX0_isTended 2 (some .boolean) :: wsL_law
def wsX0_canBeOpened : List Cond := .code yX0_canBeOpened cX0_canBeOpened 2 (some .boolean) :: wsL_law
def wsX0_canBeClosed : List Cond := .code yX0_canBeClosed cX0_canBeClosed 2 (some .boolean) :: wsL_law
def wsX0_moveGate : List Cond := .code yX0_moveGate cX0_moveGate 2 (some .int) :: wsL_law
def wsX0_tended : List Cond := .code yX0_tended cX0_tended 3 (some .int) :: wsL_law
def wsX0_gatesOf : List Cond := .code yX0_gatesOf cX0_gatesOf 4 (some .int) :: wsL_law
def wsX0_below : List Cond := .code yX0_below cX0_below 4 (some .int) :: wsL_law
def wsX1_become : List Cond := .code yX1_become cX1_become 2 none :: wsL_law
def wsX1_has : List Cond := .code yX1_has cX1_has 2 (some .boolean) :: wsL_law
def wsX1_areFields : List Cond := .code yX1_areFields cX1_areFields 2 (some .boolean) :: wsL_law
def wsX1_add : List Cond := .code yX1_add cX1_add 7 (some .int) :: wsL_law
def wsX1_wants : List Cond := .code yX1_wants cX1_wants 2 (some .boolean) :: wsL_law
def wsX1_wanting : List Cond := .code yX1_wanting cX1_wanting 3 (some .int) :: wsL_law
def wsX1_calls : List Cond := .code yX1_calls cX1_calls 2 (some .boolean) :: wsL_law
def wsX1_canCall : List Cond := .code yX1_canCall cX1_canCall 2 (some .boolean) :: wsL_law
def wsJ6_bitCount_0f7a4 : List Cond := .code yJ6_bitCount_0f7a4 cJ6_bitCount_0f7a4 1 (some .int) :: wsL_law
def wsX1_beginCall : List Cond := .code yX1_beginCall cX1_beginCall 2 (some .int) :: wsL_law
def wsX1_give : List Cond := .code yX1_give cX1_give 5 (some .int) :: wsL_law
def wsX2_dropOldest : List Cond := .code yX2_dropOldest cX2_dropOldest 3 none :: wsL_law
def wsX5_become : List Cond := .code yX5_become cX5_become 2 none :: wsL_law
def wsX4_become : List Cond := .code yX4_become cX4_become 2 none :: wsL_law
def wsX2_record : List Cond := .code yX2_record cX2_record 2 none :: wsL_law
def wsX2_restoreLatest : List Cond := .code yX2_restoreLatest cX2_restoreLatest 2 (some .int) :: wsL_law
def wsX3_append : List Cond := .code yX3_append cX3_append 2 (some .int) :: wsL_law
def wsX3_characterAt : List Cond := .code yX3_characterAt cX3_characterAt 2 (some .int) :: wsL_law
def wsX3_readNumber : List Cond := .code yX3_readNumber cX3_readNumber 4 (some .int) :: wsL_law
def wsX3_skip : List Cond := .code yX3_skip cX3_skip 2 (some .boolean) :: wsL_law
def wsX3_readOrder : List Cond := .code yX3_readOrder cX3_readOrder 1 (some .boolean) :: wsL_law
def wsX6_isOutside : List Cond := .code yX6_isOutside cX6_isOutside 3 (some .boolean) :: wsL_law
def wsX3_isInRange : List Cond := .code yX3_isInRange cX3_isInRange 2 (some .boolean) :: wsL_law
def wsX4_hasHoursLeft : List Cond := .code yX4_hasHoursLeft cX4_hasHoursLeft 2 (some .boolean) :: wsL_law
def wsX3_isPossible : List Cond := .code yX3_isPossible cX3_isPossible 2 (some .boolean) :: wsL_law
def wsX3_reasonAgainst : List Cond := .code yX3_reasonAgainst cX3_reasonAgainst 2 (some .int) :: wsL_law
def wsJ7_fill_53178 : List Cond := .code yJ7_fill_53178 cJ7_fill_53178 4 none :: wsL_law
def wsX4_findCallsBelow : List Cond := .code yX4_findCallsBelow cX4_findCallsBelow 3 none :: wsL_law
def wsX4_findPassingGates : List Cond := .code yX4_findPassingGates cX4_findPassingGates 4 none :: wsL_law
def wsX4_seepAway : List Cond := .code yX4_seepAway cX4_seepAway 4 (some .int) :: wsL_law
def wsX4_mayTake : List Cond := .code yX4_mayTake cX4_mayTake 2 (some .boolean) :: wsL_law
def wsX4_giveToFields : List Cond := .code yX4_giveToFields cX4_giveToFields 6 (some .int) :: wsL_law
def wsX4_isPassingFrom : List Cond := .code yX4_isPassingFrom cX4_isPassingFrom 3 (some .boolean) :: wsL_law
def wsX4_throughGate : List Cond := .code yX4_throughGate cX4_throughGate 4 (some .int) :: wsL_law
def wsX4_partAmongGates : List Cond := .code yX4_partAmongGates cX4_partAmongGates 8 (some .int) :: wsL_law
def wsX4_endCalls : List Cond := .code yX4_endCalls cX4_endCalls 1 none :: wsL_law
def wsX4_passHour : List Cond := .code yX4_passHour cX4_passHour 5 (some .int) :: wsL_law
def wsX5_gatesFor : List Cond := .code yX5_gatesFor cX5_gatesFor 2 (some .int) :: wsL_law
def wsX5_goOn : List Cond := .code yX5_goOn cX5_goOn 1 none :: wsL_law
def wsX4_runHours : List Cond := .code yX4_runHours cX4_runHours 5 (some .int) :: wsL_law
def wsX3_carryOut : List Cond := .code yX3_carryOut cX3_carryOut 2 (some .int) :: wsL_law
def wsX3_carryOutAll : List Cond := .code yX3_carryOutAll cX3_carryOutAll 4 (some .int) :: wsL_law
def wsX5_has : List Cond := .code yX5_has cX5_has 2 (some .boolean) :: wsL_law
def wsX5_beginAgain : List Cond := .code yX5_beginAgain cX5_beginAgain 1 none :: wsL_law
def wsX5_add : List Cond := .code yX5_add cX5_add 3 (some .int) :: wsL_law
def wsX5_removeAll : List Cond := .code yX5_removeAll cX5_removeAll 2 (some .int) :: wsL_law
def wsX6_canal : List Cond := .code yX6_canal cX6_canal 5 (some .int) :: wsL_law
def wsX6_field : List Cond := .code yX6_field cX6_field 5 (some .int) :: wsL_law
def wsX6_tendsKind : List Cond := .code yX6_tendsKind cX6_tendsKind 2 (some .boolean) :: wsL_law
def wsX6_tend : List Cond := .code yX6_tend cX6_tend 3 (some .int) :: wsL_law
def wsX6_leave : List Cond := .code yX6_leave cX6_leave 3 (some .int) :: wsL_law
def wsX6_open : List Cond := .code yX6_open cX6_open 2 (some .int) :: wsL_law
def wsX6_close : List Cond := .code yX6_close cX6_close 2 (some .int) :: wsL_law
def wsX6_call : List Cond := .code yX6_call cX6_call 2 (some .int) :: wsL_law
def wsX6_turn : List Cond := .code yX6_turn cX6_turn 3 (some .int) :: wsL_law
def wsX6_noTurns : List Cond := .code yX6_noTurns cX6_noTurns 1 (some .int) :: wsL_law
def wsX6_hour : List Cond := .code yX6_hour cX6_hour 2 (some .int) :: wsL_law
def wsX6_run : List Cond := .code yX6_run cX6_run 3 (some .int) :: wsL_law
def wsX6_asNumber : List Cond := .code yX6_asNumber cX6_asNumber 1 (some .int) :: wsL_law
def wsX6_canalOf : List Cond := .code yX6_canalOf cX6_canalOf 4 (some .int) :: wsL_law
def wsX6_fieldOf : List Cond := .code yX6_fieldOf cX6_fieldOf 4 (some .int) :: wsL_law
def wsX6_turnOf : List Cond := .code yX6_turnOf cX6_turnOf 3 (some .int) :: wsL_law
def wsX6_floatBits : List Cond := .code yX6_floatBits cX6_floatBits 10 (some .int) :: wsL_law
def wsX6_share : List Cond := .code yX6_share cX6_share 2 (some .int) :: wsL_law
def wsX6_gain : List Cond := .code yX6_gain cX6_gain 2 (some .int) :: wsL_law
def wsX6_would : List Cond := .code yX6_would cX6_would 5 (some .int) :: wsL_law
def wsX6_wouldServe : List Cond := .code yX6_wouldServe cX6_wouldServe 6 (some .boolean) :: wsL_law
def wsX6_leastGates : List Cond := .code yX6_leastGates cX6_leastGates 8 (some .int) :: wsL_law
def wsX6_fewestBuckets : List Cond := .code yX6_fewestBuckets cX6_fewestBuckets 3 (some .int) :: wsL_law
def wsX6_hoursFor : List Cond := .code yX6_hoursFor cX6_hoursFor 3 (some .int) :: wsL_law
def wsX6_rightAt : List Cond := .code yX6_rightAt cX6_rightAt 5 (some .int) :: wsL_law
def wsX6_count : List Cond := .code yX6_count cX6_count 2 (some .int) :: wsL_law
def wsX6_undo : List Cond := .code yX6_undo cX6_undo 1 (some .int) :: wsL_law
def wsX6_type : List Cond := .code yX6_type cX6_type 2 (some .int) :: wsL_law
def wsX6_clearText : List Cond := .code yX6_clearText cX6_clearText 2 (some .int) :: wsL_law
def wsX6_fault : List Cond := .code yX6_fault cX6_fault 2 (some .int) :: wsL_law
def wsX6_play : List Cond := .code yX6_play cX6_play 2 (some .int) :: wsL_law
def wsX7_in : List Cond := .code yX7_in cX7_in 3 (some .boolean) :: wsL_law
def wsX7_ca : List Cond := .code yX7_ca cX7_ca 3 (some .int) :: wsL_law
def wsX7_fi : List Cond := .code yX7_fi cX7_fi 3 (some .int) :: wsL_law
def wsX7_isCanal : List Cond := .code yX7_isCanal cX7_isCanal 2 (some .boolean) :: wsL_law
def wsX7_isGate : List Cond := .code yX7_isGate cX7_isGate 2 (some .boolean) :: wsL_law
def wsX7_isField : List Cond := .code yX7_isField cX7_isField 2 (some .boolean) :: wsL_law
def wsX7_areGates : List Cond := .code yX7_areGates cX7_areGates 2 (some .boolean) :: wsL_law
def wsX7_wants : List Cond := .code yX7_wants cX7_wants 2 (some .boolean) :: wsL_law
def wsX7_keeps : List Cond := .code yX7_keeps cX7_keeps 2 none :: wsL_law
def wsX7_acted : List Cond := .code yX7_acted cX7_acted 3 (some .int) :: wsL_law
def wsX7_puts : List Cond := .code yX7_puts cX7_puts 2 none :: wsL_law
def wsX7_restores : List Cond := .code yX7_restores cX7_restores 2 none :: wsL_law
def wsX7_canal : List Cond := .code yX7_canal cX7_canal 7 (some .int) :: wsL_law
def wsX7_field : List Cond := .code yX7_field cX7_field 7 (some .int) :: wsL_law
def wsX7_tended : List Cond := .code yX7_tended cX7_tended 4 (some .int) :: wsL_law
def wsX7_tend : List Cond := .code yX7_tend cX7_tend 3 (some .int) :: wsL_law
def wsX7_leave : List Cond := .code yX7_leave cX7_leave 3 (some .int) :: wsL_law
def wsX7_openOnes : List Cond := .code yX7_openOnes cX7_openOnes 3 (some .int) :: wsL_law
def wsX7_sets : List Cond := .code yX7_sets cX7_sets 3 none :: wsL_law
def wsX7_moves : List Cond := .code yX7_moves cX7_moves 3 (some .int) :: wsL_law
def wsX7_open : List Cond := .code yX7_open cX7_open 2 (some .int) :: wsL_law
def wsX7_close : List Cond := .code yX7_close cX7_close 2 (some .int) :: wsL_law
def wsX7_calling : List Cond := .code yX7_calling cX7_calling 3 (some .int) :: wsL_law
def wsX7_ones : List Cond := .code yX7_ones cX7_ones 3 (some .int) :: wsL_law
def wsX7_calls : List Cond := .code yX7_calls cX7_calls 2 (some .int) :: wsL_law
def wsX7_call : List Cond := .code yX7_call cX7_call 2 (some .int) :: wsL_law
def wsX7_turn : List Cond := .code yX7_turn cX7_turn 3 (some .int) :: wsL_law
def wsX7_noTurns : List Cond := .code yX7_noTurns cX7_noTurns 2 (some .int) :: wsL_law
def wsX7_isBelow : List Cond := .code yX7_isBelow cX7_isBelow 5 (some .boolean) :: wsL_law
def wsX7_mayTake : List Cond := .code yX7_mayTake cX7_mayTake 4 (some .boolean) :: wsL_law
def wsX7_isWanted : List Cond := .code yX7_isWanted cX7_isWanted 4 (some .boolean) :: wsL_law
def wsX7_next : List Cond := .code yX7_next cX7_next 5 (some .int) :: wsL_law
def wsX7_serves : List Cond := .code yX7_serves cX7_serves 7 (some .int) :: wsL_law
def wsX7_lets : List Cond := .code yX7_lets cX7_lets 3 (some .boolean) :: wsL_law
def wsX7_parts : List Cond := .code yX7_parts cX7_parts 8 (some .int) :: wsL_law
def wsX7_flows : List Cond := .code yX7_flows cX7_flows 8 (some .int) :: wsL_law
def wsX7_goes : List Cond := .code yX7_goes cX7_goes 2 (some .int) :: wsL_law
def wsX7_hour : List Cond := .code yX7_hour cX7_hour 2 (some .int) :: wsL_law
def wsX7_runsOne : List Cond := .code yX7_runsOne cX7_runsOne 3 (some .int) :: wsL_law
def wsX7_runs : List Cond := .code yX7_runs cX7_runs 6 (some .int) :: wsL_law
def wsX7_run : List Cond := .code yX7_run cX7_run 3 (some .int) :: wsL_law
def wsX7_below : List Cond := .code yX7_below cX7_below 4 (some .int) :: wsL_law
def wsX7_canalOf : List Cond := .code yX7_canalOf cX7_canalOf 4 (some .int) :: wsL_law
def wsX7_fieldOf : List Cond := .code yX7_fieldOf cX7_fieldOf 3 (some .int) :: wsL_law
def wsX7_turnOf : List Cond := .code yX7_turnOf cX7_turnOf 3 (some .int) :: wsL_law
def wsJxf58ca_isNaN_12338 : List Cond := .code yJxf58ca_isNaN_12338 cJxf58ca_isNaN_12338 1 (some .boolean) :: wsL_law
def wsJxf58ca_floatToIntBits_5c35a : List Cond := .code yJxf58ca_floatToIntBits_5c35a cJxf58ca_floatToIntBits_5c35a 1 (some .int) :: wsL_law
def wsX7_share : List Cond := .code yX7_share cX7_share 2 (some .int) :: wsL_law
def wsX7_would : List Cond := .code yX7_would cX7_would 6 (some .int) :: wsL_law
def wsX7_haveGot : List Cond := .code yX7_haveGot cX7_haveGot 4 (some .boolean) :: wsL_law
def wsX7_leastGates : List Cond := .code yX7_leastGates cX7_leastGates 7 (some .int) :: wsL_law
def wsX7_fewestBuckets : List Cond := .code yX7_fewestBuckets cX7_fewestBuckets 5 (some .int) :: wsL_law
def wsX7_hoursFor : List Cond := .code yX7_hoursFor cX7_hoursFor 5 (some .int) :: wsL_law
def wsX7_rightAt : List Cond := .code yX7_rightAt cX7_rightAt 5 (some .int) :: wsL_law
def wsX7_tendedOnes : List Cond := .code yX7_tendedOnes cX7_tendedOnes 3 (some .int) :: wsL_law
def wsX7_wanting : List Cond := .code yX7_wanting cX7_wanting 3 (some .int) :: wsL_law
def wsX7_count : List Cond := .code yX7_count cX7_count 2 (some .int) :: wsL_law
def wsX7_undo : List Cond := .code yX7_undo cX7_undo 2 (some .int) :: wsL_law
def wsX7_type : List Cond := .code yX7_type cX7_type 2 (some .int) :: wsL_law
def wsX7_clearText : List Cond := .code yX7_clearText cX7_clearText 2 (some .int) :: wsL_law
def wsX7_sign : List Cond := .code yX7_sign cX7_sign 1 (some .int) :: wsL_law
def wsX7_readsNumber : List Cond := .code yX7_readsNumber cX7_readsNumber 3 (some .boolean) :: wsL_law
def wsX7_readsForm : List Cond := .code yX7_readsForm cX7_readsForm 3 (some .boolean) :: wsL_law
def wsX7_isInRange : List Cond := .code yX7_isInRange cX7_isInRange 2 (some .boolean) :: wsL_law
def wsX7_does : List Cond := .code yX7_does cX7_does 2 (some .int) :: wsL_law
def wsX7_doesNext : List Cond := .code yX7_doesNext cX7_doesNext 4 (some .int) :: wsL_law
def wsX7_faulty : List Cond := .code yX7_faulty cX7_faulty 3 (some .int) :: wsL_law
def wsX7_fault : List Cond := .code yX7_fault cX7_fault 3 (some .int) :: wsL_law
def wsX7_play : List Cond := .code yX7_play cX7_play 1 (some .int) :: wsL_law
theorem iL_1 : ∀ w ∈ wsL_law_r1, w ∈ wsL_law := by intro w h; unfold wsL_law; simp only [List.mem_append, h, true_or, or_true]
theorem kL_1 : wsL_law_r1.all goodWord = true := by decide +kernel
theorem iL_2 : ∀ w ∈ wsL_law_r2, w ∈ wsL_law := by intro w h; unfold wsL_law; simp only [List.mem_append, h, true_or, or_true]
theorem kL_2 : wsL_law_r2.all goodWord = true := by decide +kernel
theorem iL_3 : ∀ w ∈ wsL_law_r3, w ∈ wsL_law := by intro w h; unfold wsL_law; simp only [List.mem_append, h, true_or, or_true]
theorem kL_3 : wsL_law_r3.all goodWord = true := by decide +kernel
theorem iL_4 : ∀ w ∈ wsL_law_r4, w ∈ wsL_law := by intro w h; unfold wsL_law; simp only [List.mem_append, h, true_or, or_true]
theorem kL_4 : wsL_law_r4.all goodWord = true := by decide +kernel
theorem iL_5 : ∀ w ∈ wsL_law_r5, w ∈ wsL_law := by intro w h; unfold wsL_law; simp only [List.mem_append, h, true_or, or_true]
theorem kL_5 : wsL_law_r5.all goodWord = true := by decide +kernel
theorem iL_6 : ∀ w ∈ wsL_law_r6, w ∈ wsL_law := by intro w h; unfold wsL_law; simp only [List.mem_append, h, true_or, or_true]
theorem kL_6 : wsL_law_r6.all goodWord = true := by decide +kernel
theorem iL_7 : ∀ w ∈ wsL_law_r7, w ∈ wsL_law := by intro w h; unfold wsL_law; simp only [List.mem_append, h, true_or, or_true]
theorem kL_7 : wsL_law_r7.all goodWord = true := by decide +kernel
theorem iL_8 : ∀ w ∈ wsL_law_r8, w ∈ wsL_law := by intro w h; unfold wsL_law; simp only [List.mem_append, h, true_or, or_true]
theorem kL_8 : wsL_law_r8.all goodWord = true := by decide +kernel
theorem iL_9 : ∀ w ∈ wsL_law_r9, w ∈ wsL_law := by intro w h; unfold wsL_law; simp only [List.mem_append, h, true_or, or_true]
theorem kL_9 : wsL_law_r9.all goodWord = true := by decide +kernel
theorem iL_10 : ∀ w ∈ wsL_law_r10, w ∈ wsL_law := by intro w h; unfold wsL_law; simp only [List.mem_append, h, true_or, or_true]
theorem kL_10 : wsL_law_r10.all goodWord = true := by decide +kernel
theorem iL_11 : ∀ w ∈ wsL_law_r11, w ∈ wsL_law := by intro w h; unfold wsL_law; simp only [List.mem_append, h, true_or, or_true]
theorem kL_11 : wsL_law_r11.all goodWord = true := by decide +kernel
theorem iL_12 : ∀ w ∈ wsL_law_r12, w ∈ wsL_law := by intro w h; unfold wsL_law; simp only [List.mem_append, h, true_or, or_true]
theorem kL_12 : wsL_law_r12.all goodWord = true := by decide +kernel
theorem iL_13 : ∀ w ∈ wsL_law_r13, w ∈ wsL_law := by intro w h; unfold wsL_law; simp only [List.mem_append, h, true_or, or_true]
theorem kL_13 : wsL_law_r13.all goodWord = true := by decide +kernel
theorem iL_14 : ∀ w ∈ wsL_law_r14, w ∈ wsL_law := by intro w h; unfold wsL_law; simp only [List.mem_append, h, true_or, or_true]
theorem kL_14 : wsL_law_r14.all goodWord = true := by decide +kernel
theorem iL_15 : ∀ w ∈ wsL_law_r15, w ∈ wsL_law := by intro w h; unfold wsL_law; simp only [List.mem_append, h, true_or, or_true]
theorem kL_15 : wsL_law_r15.all goodWord = true := by decide +kernel
theorem iL_16 : ∀ w ∈ wsL_law_r16, w ∈ wsL_law := by intro w h; unfold wsL_law; simp only [List.mem_append, h, true_or, or_true]
theorem kL_16 : wsL_law_r16.all goodWord = true := by decide +kernel
theorem iL_17 : ∀ w ∈ wsL_law_r17, w ∈ wsL_law := by intro w h; unfold wsL_law; simp only [List.mem_append, h, true_or, or_true]
theorem kL_17 : wsL_law_r17.all goodWord = true := by decide +kernel
theorem iL_18 : ∀ w ∈ wsL_law_r18, w ∈ wsL_law := by intro w h; unfold wsL_law; simp only [List.mem_append, h, true_or, or_true]
theorem kL_18 : wsL_law_r18.all goodWord = true := by decide +kernel
theorem iL_19 : ∀ w ∈ wsL_law_r19, w ∈ wsL_law := by intro w h; unfold wsL_law; simp only [List.mem_append, h, true_or, or_true]
theorem kL_19 : wsL_law_r19.all goodWord = true := by decide +kernel
theorem iL_20 : ∀ w ∈ wsL_law_r20, w ∈ wsL_law := by intro w h; unfold wsL_law; simp only [List.mem_append, h, true_or, or_true]
theorem kL_20 : wsL_law_r20.all goodWord = true := by decide +kernel
theorem iL_21 : ∀ w ∈ wsL_law_r21, w ∈ wsL_law := by intro w h; unfold wsL_law; simp only [List.mem_append, h, true_or, or_true]
theorem kL_21 : wsL_law_r21.all goodWord = true := by decide +kernel
theorem iL_22 : ∀ w ∈ wsL_law_r22, w ∈ wsL_law := by intro w h; unfold wsL_law; simp only [List.mem_append, h, true_or, or_true]
theorem kL_22 : wsL_law_r22.all goodWord = true := by decide +kernel
theorem iL_23 : ∀ w ∈ wsL_law_r23, w ∈ wsL_law := by intro w h; unfold wsL_law; simp only [List.mem_append, h, true_or, or_true]
theorem kL_23 : wsL_law_r23.all goodWord = true := by decide +kernel
theorem iL_24 : ∀ w ∈ wsL_law_r24, w ∈ wsL_law := by intro w h; unfold wsL_law; simp only [List.mem_append, h, true_or, or_true]
theorem kL_24 : wsL_law_r24.all goodWord = true := by decide +kernel
theorem iL_25 : ∀ w ∈ wsL_law_r25, w ∈ wsL_law := by intro w h; unfold wsL_law; simp only [List.mem_append, h, true_or, or_true]
theorem kL_25 : wsL_law_r25.all goodWord = true := by decide +kernel
theorem iL_26 : ∀ w ∈ wsL_law_r26, w ∈ wsL_law := by intro w h; unfold wsL_law; simp only [List.mem_append, h, true_or, or_true]
theorem kL_26 : wsL_law_r26.all goodWord = true := by decide +kernel
theorem iL_27 : ∀ w ∈ wsL_law_r27, w ∈ wsL_law := by intro w h; unfold wsL_law; simp only [List.mem_append, h, true_or, or_true]
theorem kL_27 : wsL_law_r27.all goodWord = true := by decide +kernel
theorem iL_28 : ∀ w ∈ wsL_law_r28, w ∈ wsL_law := by intro w h; unfold wsL_law; simp only [List.mem_append, h, true_or, or_true]
theorem kL_28 : wsL_law_r28.all goodWord = true := by decide +kernel
theorem iL_29 : ∀ w ∈ wsL_law_r29, w ∈ wsL_law := by intro w h; unfold wsL_law; simp only [List.mem_append, h, true_or, or_true]
theorem kL_29 : wsL_law_r29.all goodWord = true := by decide +kernel
theorem iL_30 : ∀ w ∈ wsL_law_r30, w ∈ wsL_law := by intro w h; unfold wsL_law; simp only [List.mem_append, h, true_or, or_true]
theorem kL_30 : wsL_law_r30.all goodWord = true := by decide +kernel
theorem iL_31 : ∀ w ∈ wsL_law_r31, w ∈ wsL_law := by intro w h; unfold wsL_law; simp only [List.mem_append, h, true_or, or_true]
theorem kL_31 : wsL_law_r31.all goodWord = true := by decide +kernel
theorem iL_32 : ∀ w ∈ wsL_law_r32, w ∈ wsL_law := by intro w h; unfold wsL_law; simp only [List.mem_append, h, true_or, or_true]
theorem kL_32 : wsL_law_r32.all goodWord = true := by decide +kernel
theorem iL_33 : ∀ w ∈ wsL_law_r33, w ∈ wsL_law := by intro w h; unfold wsL_law; simp only [List.mem_append, h, true_or, or_true]
theorem kL_33 : wsL_law_r33.all goodWord = true := by decide +kernel
theorem iL_34 : ∀ w ∈ wsL_law_r34, w ∈ wsL_law := by intro w h; unfold wsL_law; simp only [List.mem_append, h, true_or, or_true]
theorem kL_34 : wsL_law_r34.all goodWord = true := by decide +kernel
theorem iL_35 : ∀ w ∈ wsL_law_r35, w ∈ wsL_law := by intro w h; unfold wsL_law; simp only [List.mem_append, h, true_or, or_true]
theorem kL_35 : wsL_law_r35.all goodWord = true := by decide +kernel
theorem iL_36 : ∀ w ∈ wsL_law_r36, w ∈ wsL_law := by intro w h; unfold wsL_law; simp only [List.mem_append, h, true_or, or_true]
theorem kL_36 : wsL_law_r36.all goodWord = true := by decide +kernel
theorem kX_0 : wsX00.all goodWord = true := by decide +kernel
theorem kX_1 : wsX10.all goodWord = true := by decide +kernel
theorem kX_2 : wsX20.all goodWord = true := by decide +kernel
theorem kX_3 : wsX30.all goodWord = true := by decide +kernel
theorem kX_4 : wsX40.all goodWord = true := by decide +kernel
theorem kX_5 : wsX50.all goodWord = true := by decide +kernel
theorem kX_6 : wsX60.all goodWord = true := by decide +kernel
theorem kX_7 : wsX70.all goodWord = true := by decide +kernel
theorem goodL : ∀ w ∈ wsL_law, goodWord w = true := List.all_eq_true.mp (by
  unfold wsL_law
  simp only [List.all_append, List.all_nil, Bool.and_self, kL_1, kL_2, kL_3, kL_4, kL_5, kL_6, kL_7, kL_8, kL_9, kL_10, kL_11, kL_12, kL_13, kL_14, kL_15, kL_16, kL_17, kL_18, kL_19, kL_20, kL_21, kL_22, kL_23, kL_24, kL_25, kL_26, kL_27, kL_28, kL_29, kL_30, kL_31, kL_32, kL_33, kL_34, kL_35, kL_36, kX_0, kX_1, kX_2, kX_3, kX_4, kX_5, kX_6, kX_7])
theorem q_1_2 : Cond.initialized RX6 ∈ wsL_law := iL_1 _ (List.mem_of_getElem? (i := 2) rfl)
theorem q_1_5 : Cond.initialized RX7 ∈ wsL_law := iL_1 _ (List.mem_of_getElem? (i := 5) rfl)
theorem q_1_8 : Cond.code yX6_init cX6_init 1 none ∈ wsL_law := iL_1 _ (List.mem_of_getElem? (i := 8) rfl)
theorem q_1_9 : Cond.methodLink RX6 3 objectInit ∈ wsL_law := iL_1 _ (List.mem_of_getElem? (i := 9) rfl)
theorem q_1_10 : Cond.instanceMethod objectInit ∈ wsL_law := iL_1 _ (List.mem_of_getElem? (i := 10) rfl)
theorem q_1_11 : Cond.code objectInit ⟨#[0xb1]⟩ 1 none ∈ wsL_law := iL_1 _ (List.mem_of_getElem? (i := 11) rfl)
theorem q_1_12 : Cond.classLink RX6 9 RX4 ∈ wsL_law := iL_1 _ (List.mem_of_getElem? (i := 12) rfl)
theorem q_1_13 : Cond.instantiable RX4 11 ∈ wsL_law := iL_1 _ (List.mem_of_getElem? (i := 13) rfl)
theorem q_1_14 : Cond.initialized RX4 ∈ wsL_law := iL_1 _ (List.mem_of_getElem? (i := 14) rfl)
theorem q_1_15 : Cond.fieldLink RX6 12 "SluiceTurns" "now" "LSluiceTurns$Terrace;" ∈ wsL_law := iL_1 _ (List.mem_of_getElem? (i := 15) rfl)
theorem q_1_16 : Cond.fieldLink RX6 16 "SluiceTurns" "trial" "LSluiceTurns$Terrace;" ∈ wsL_law := iL_1 _ (List.mem_of_getElem? (i := 16) rfl)
theorem q_1_17 : Cond.classLink RX6 19 RX2 ∈ wsL_law := iL_1 _ (List.mem_of_getElem? (i := 17) rfl)
theorem q_1_18 : Cond.instantiable RX2 2 ∈ wsL_law := iL_1 _ (List.mem_of_getElem? (i := 18) rfl)
theorem q_1_19 : Cond.initialized RX2 ∈ wsL_law := iL_1 _ (List.mem_of_getElem? (i := 19) rfl)
theorem q_1_20 : Cond.fieldLink RX6 22 "SluiceTurns" "history" "LSluiceTurns$History;" ∈ wsL_law := iL_1 _ (List.mem_of_getElem? (i := 20) rfl)
theorem q_1_21 : Cond.classLink RX6 26 RX3 ∈ wsL_law := iL_1 _ (List.mem_of_getElem? (i := 21) rfl)
theorem q_1_22 : Cond.instantiable RX3 9 ∈ wsL_law := iL_1 _ (List.mem_of_getElem? (i := 22) rfl)
theorem q_1_23 : Cond.initialized RX3 ∈ wsL_law := iL_1 _ (List.mem_of_getElem? (i := 23) rfl)
theorem q_2_0 : Cond.fieldLink RX6 29 "SluiceTurns" "orders" "LSluiceTurns$Orders;" ∈ wsL_law := iL_2 _ (List.mem_of_getElem? (i := 0) rfl)
theorem q_2_1 : Cond.instanceMethod yX4_init ∈ wsL_law := iL_2 _ (List.mem_of_getElem? (i := 1) rfl)
theorem q_2_2 : Cond.code yX4_init cX4_init 1 none ∈ wsL_law := iL_2 _ (List.mem_of_getElem? (i := 2) rfl)
theorem q_2_3 : Cond.methodLink RX4 3 objectInit ∈ wsL_law := iL_2 _ (List.mem_of_getElem? (i := 3) rfl)
theorem q_2_4 : Cond.classLink RX4 9 RX0 ∈ wsL_law := iL_2 _ (List.mem_of_getElem? (i := 4) rfl)
theorem q_2_5 : Cond.instantiable RX0 10 ∈ wsL_law := iL_2 _ (List.mem_of_getElem? (i := 5) rfl)
theorem q_2_6 : Cond.initialized RX0 ∈ wsL_law := iL_2 _ (List.mem_of_getElem? (i := 6) rfl)
theorem q_2_7 : Cond.fieldLink RX4 12 "SluiceTurns$Terrace" "canals" "LSluiceTurns$Canals;" ∈ wsL_law := iL_2 _ (List.mem_of_getElem? (i := 7) rfl)
theorem q_2_8 : Cond.classLink RX4 18 RX1 ∈ wsL_law := iL_2 _ (List.mem_of_getElem? (i := 8) rfl)
theorem q_2_9 : Cond.instantiable RX1 9 ∈ wsL_law := iL_2 _ (List.mem_of_getElem? (i := 9) rfl)
theorem q_2_10 : Cond.initialized RX1 ∈ wsL_law := iL_2 _ (List.mem_of_getElem? (i := 10) rfl)
theorem q_2_11 : Cond.fieldLink RX4 21 "SluiceTurns$Terrace" "fields" "LSluiceTurns$Fields;" ∈ wsL_law := iL_2 _ (List.mem_of_getElem? (i := 11) rfl)
theorem q_2_12 : Cond.classLink RX4 25 RX5 ∈ wsL_law := iL_2 _ (List.mem_of_getElem? (i := 12) rfl)
theorem q_2_13 : Cond.instantiable RX5 5 ∈ wsL_law := iL_2 _ (List.mem_of_getElem? (i := 13) rfl)
theorem q_2_14 : Cond.initialized RX5 ∈ wsL_law := iL_2 _ (List.mem_of_getElem? (i := 14) rfl)
theorem q_2_15 : Cond.fieldLink RX4 28 "SluiceTurns$Terrace" "turns" "LSluiceTurns$Turns;" ∈ wsL_law := iL_2 _ (List.mem_of_getElem? (i := 15) rfl)
theorem q_2_16 : Cond.arrayClass .int ∈ wsL_law := iL_2 _ (List.mem_of_getElem? (i := 16) rfl)
theorem q_2_17 : Cond.fieldLink RX4 32 "SluiceTurns$Terrace" "callAt" "[I" ∈ wsL_law := iL_2 _ (List.mem_of_getElem? (i := 17) rfl)
theorem q_2_18 : Cond.fieldLink RX4 36 "SluiceTurns$Terrace" "callBelow" "[I" ∈ wsL_law := iL_2 _ (List.mem_of_getElem? (i := 18) rfl)
theorem q_2_19 : Cond.methodLink RX4 11 yX0_init ∈ wsL_law := iL_2 _ (List.mem_of_getElem? (i := 19) rfl)
theorem q_2_20 : Cond.instanceMethod yX0_init ∈ wsL_law := iL_2 _ (List.mem_of_getElem? (i := 20) rfl)
theorem q_2_21 : Cond.code yX0_init cX0_init 2 none ∈ wsL_law := iL_2 _ (List.mem_of_getElem? (i := 21) rfl)
theorem q_2_22 : Cond.methodLink RX0 3 objectInit ∈ wsL_law := iL_2 _ (List.mem_of_getElem? (i := 22) rfl)
theorem q_2_23 : Cond.fieldLink RX0 9 "SluiceTurns$Canals" "size" "I" ∈ wsL_law := iL_2 _ (List.mem_of_getElem? (i := 23) rfl)
theorem q_3_0 : Cond.fieldLink RX0 15 "SluiceTurns$Canals" "parent" "[I" ∈ wsL_law := iL_3 _ (List.mem_of_getElem? (i := 0) rfl)
theorem q_3_1 : Cond.fieldLink RX0 19 "SluiceTurns$Canals" "kind" "[I" ∈ wsL_law := iL_3 _ (List.mem_of_getElem? (i := 1) rfl)
theorem q_3_2 : Cond.fieldLink RX0 22 "SluiceTurns$Canals" "width" "[I" ∈ wsL_law := iL_3 _ (List.mem_of_getElem? (i := 2) rfl)
theorem q_3_3 : Cond.fieldLink RX0 25 "SluiceTurns$Canals" "seepage" "[I" ∈ wsL_law := iL_3 _ (List.mem_of_getElem? (i := 3) rfl)
theorem q_3_4 : Cond.fieldLink RX0 28 "SluiceTurns$Canals" "crew" "[I" ∈ wsL_law := iL_3 _ (List.mem_of_getElem? (i := 4) rfl)
theorem q_3_5 : Cond.fieldLink RX0 31 "SluiceTurns$Canals" "came" "[I" ∈ wsL_law := iL_3 _ (List.mem_of_getElem? (i := 5) rfl)
theorem q_3_6 : Cond.fieldLink RX0 34 "SluiceTurns$Canals" "seeped" "[I" ∈ wsL_law := iL_3 _ (List.mem_of_getElem? (i := 6) rfl)
theorem q_3_7 : Cond.fieldLink RX0 37 "SluiceTurns$Canals" "ranOff" "[I" ∈ wsL_law := iL_3 _ (List.mem_of_getElem? (i := 7) rfl)
theorem q_3_8 : Cond.instanceMethod yX1_init ∈ wsL_law := iL_3 _ (List.mem_of_getElem? (i := 8) rfl)
theorem q_3_9 : Cond.code yX1_init cX1_init 1 none ∈ wsL_law := iL_3 _ (List.mem_of_getElem? (i := 9) rfl)
theorem q_3_10 : Cond.methodLink RX1 3 objectInit ∈ wsL_law := iL_3 _ (List.mem_of_getElem? (i := 10) rfl)
theorem q_3_11 : Cond.fieldLink RX1 9 "SluiceTurns$Fields" "canal" "[I" ∈ wsL_law := iL_3 _ (List.mem_of_getElem? (i := 11) rfl)
theorem q_3_12 : Cond.fieldLink RX1 15 "SluiceTurns$Fields" "need" "[I" ∈ wsL_law := iL_3 _ (List.mem_of_getElem? (i := 12) rfl)
theorem q_3_13 : Cond.fieldLink RX1 18 "SluiceTurns$Fields" "mouth" "[I" ∈ wsL_law := iL_3 _ (List.mem_of_getElem? (i := 13) rfl)
theorem q_3_14 : Cond.fieldLink RX1 21 "SluiceTurns$Fields" "right" "[I" ∈ wsL_law := iL_3 _ (List.mem_of_getElem? (i := 14) rfl)
theorem q_3_15 : Cond.fieldLink RX1 24 "SluiceTurns$Fields" "got" "[I" ∈ wsL_law := iL_3 _ (List.mem_of_getElem? (i := 15) rfl)
theorem q_3_16 : Cond.fieldLink RX1 27 "SluiceTurns$Fields" "hourOfNeed" "[I" ∈ wsL_law := iL_3 _ (List.mem_of_getElem? (i := 16) rfl)
theorem q_3_17 : Cond.fieldLink RX1 30 "SluiceTurns$Fields" "byRight" "[I" ∈ wsL_law := iL_3 _ (List.mem_of_getElem? (i := 17) rfl)
theorem q_3_18 : Cond.instanceMethod yX5_init ∈ wsL_law := iL_3 _ (List.mem_of_getElem? (i := 18) rfl)
theorem q_3_19 : Cond.code yX5_init cX5_init 1 none ∈ wsL_law := iL_3 _ (List.mem_of_getElem? (i := 19) rfl)
theorem q_3_20 : Cond.methodLink RX5 3 objectInit ∈ wsL_law := iL_3 _ (List.mem_of_getElem? (i := 20) rfl)
theorem q_3_21 : Cond.fieldLink RX5 9 "SluiceTurns$Turns" "gates" "[I" ∈ wsL_law := iL_3 _ (List.mem_of_getElem? (i := 21) rfl)
theorem q_3_22 : Cond.fieldLink RX5 15 "SluiceTurns$Turns" "hours" "[I" ∈ wsL_law := iL_3 _ (List.mem_of_getElem? (i := 22) rfl)
theorem q_3_23 : Cond.methodLink RX6 21 yX2_init ∈ wsL_law := iL_3 _ (List.mem_of_getElem? (i := 23) rfl)
theorem q_4_0 : Cond.instanceMethod yX2_init ∈ wsL_law := iL_4 _ (List.mem_of_getElem? (i := 0) rfl)
theorem q_4_1 : Cond.code yX2_init cX2_init 2 none ∈ wsL_law := iL_4 _ (List.mem_of_getElem? (i := 1) rfl)
theorem q_4_2 : Cond.methodLink RX2 3 objectInit ∈ wsL_law := iL_4 _ (List.mem_of_getElem? (i := 2) rfl)
theorem q_4_3 : Cond.classLink RX2 9 RX4 ∈ wsL_law := iL_4 _ (List.mem_of_getElem? (i := 3) rfl)
theorem q_4_4 : Cond.fieldLink RX2 11 "SluiceTurns$History" "states" "[LSluiceTurns$Terrace;" ∈ wsL_law := iL_4 _ (List.mem_of_getElem? (i := 4) rfl)
theorem q_4_5 : Cond.instanceMethod yX3_init ∈ wsL_law := iL_4 _ (List.mem_of_getElem? (i := 5) rfl)
theorem q_4_6 : Cond.code yX3_init cX3_init 1 none ∈ wsL_law := iL_4 _ (List.mem_of_getElem? (i := 6) rfl)
theorem q_4_7 : Cond.methodLink RX3 3 objectInit ∈ wsL_law := iL_4 _ (List.mem_of_getElem? (i := 7) rfl)
theorem q_4_8 : Cond.fieldLink RX3 9 "SluiceTurns$Orders" "characters" "[I" ∈ wsL_law := iL_4 _ (List.mem_of_getElem? (i := 8) rfl)
theorem q_4_11 : Cond.code yX7_init cX7_init 1 none ∈ wsL_law := iL_4 _ (List.mem_of_getElem? (i := 11) rfl)
theorem q_4_12 : Cond.methodLink RX7 1 objectInit ∈ wsL_law := iL_4 _ (List.mem_of_getElem? (i := 12) rfl)
theorem q_4_13 : Cond.fieldLink RX7 7 "SluiceTurnsModel" "s" "[I" ∈ wsL_law := iL_4 _ (List.mem_of_getElem? (i := 13) rfl)
theorem q_4_14 : Cond.fieldLink RX7 13 "SluiceTurnsModel" "was" "[I" ∈ wsL_law := iL_4 _ (List.mem_of_getElem? (i := 14) rfl)
theorem q_4_15 : Cond.fieldLink RX7 16 "SluiceTurnsModel" "begun" "[I" ∈ wsL_law := iL_4 _ (List.mem_of_getElem? (i := 15) rfl)
theorem q_4_16 : Cond.fieldLink RX7 19 "SluiceTurnsModel" "aside" "[I" ∈ wsL_law := iL_4 _ (List.mem_of_getElem? (i := 16) rfl)
theorem q_4_17 : Cond.arrayClass .char ∈ wsL_law := iL_4 _ (List.mem_of_getElem? (i := 17) rfl)
theorem q_4_18 : Cond.fieldLink RX7 22 "SluiceTurnsModel" "text" "[C" ∈ wsL_law := iL_4 _ (List.mem_of_getElem? (i := 18) rfl)
theorem q_4_19 : Cond.fieldLink RX7 26 "SluiceTurnsModel" "number" "[I" ∈ wsL_law := iL_4 _ (List.mem_of_getElem? (i := 19) rfl)
theorem q_4_20 : Cond.methodLink RL 13 yX6_canal ∈ wsL_law := iL_4 _ (List.mem_of_getElem? (i := 20) rfl)
theorem q_4_21 : Cond.instanceMethod yX6_canal ∈ wsL_law := iL_4 _ (List.mem_of_getElem? (i := 21) rfl)
theorem q_4_22 : Cond.selects RX6 yX6_canal yX6_canal ∈ wsL_law := iL_4 _ (List.mem_of_getElem? (i := 22) rfl)
theorem q_4_23 : Cond.code yX6_canal cX6_canal 5 (some .int) ∈ wsL_law := iL_4 _ (List.mem_of_getElem? (i := 23) rfl)
theorem q_5_0 : Cond.fieldLink RX6 33 "SluiceTurns$Terrace" "canals" "LSluiceTurns$Canals;" ∈ wsL_law := iL_5 _ (List.mem_of_getElem? (i := 0) rfl)
theorem q_5_1 : Cond.constant RX6 47 (-1000001) ∈ wsL_law := iL_5 _ (List.mem_of_getElem? (i := 1) rfl)
theorem q_5_2 : Cond.fieldLink RX6 48 "SluiceTurns$Canals" "size" "I" ∈ wsL_law := iL_5 _ (List.mem_of_getElem? (i := 2) rfl)
theorem q_5_3 : Cond.constant RX6 52 (-1000003) ∈ wsL_law := iL_5 _ (List.mem_of_getElem? (i := 3) rfl)
theorem q_5_4 : Cond.methodLink RX6 37 yX0_has ∈ wsL_law := iL_5 _ (List.mem_of_getElem? (i := 4) rfl)
theorem q_5_5 : Cond.instanceMethod yX0_has ∈ wsL_law := iL_5 _ (List.mem_of_getElem? (i := 5) rfl)
theorem q_5_6 : Cond.selects RX0 yX0_has yX0_has ∈ wsL_law := iL_5 _ (List.mem_of_getElem? (i := 6) rfl)
theorem q_5_7 : Cond.code yX0_has cX0_has 2 (some .boolean) ∈ wsL_law := iL_5 _ (List.mem_of_getElem? (i := 7) rfl)
theorem q_5_8 : Cond.methodLink RX6 43 yX6_isOutside ∈ wsL_law := iL_5 _ (List.mem_of_getElem? (i := 8) rfl)
theorem q_5_9 : Cond.static yX6_isOutside ∈ wsL_law := iL_5 _ (List.mem_of_getElem? (i := 9) rfl)
theorem q_5_10 : Cond.code yX6_isOutside cX6_isOutside 3 (some .boolean) ∈ wsL_law := iL_5 _ (List.mem_of_getElem? (i := 10) rfl)
theorem q_5_11 : Cond.methodLink RX6 53 yX2_record ∈ wsL_law := iL_5 _ (List.mem_of_getElem? (i := 11) rfl)
theorem q_5_12 : Cond.instanceMethod yX2_record ∈ wsL_law := iL_5 _ (List.mem_of_getElem? (i := 12) rfl)
theorem q_5_13 : Cond.selects RX2 yX2_record yX2_record ∈ wsL_law := iL_5 _ (List.mem_of_getElem? (i := 13) rfl)
theorem q_5_14 : Cond.code yX2_record cX2_record 2 none ∈ wsL_law := iL_5 _ (List.mem_of_getElem? (i := 14) rfl)
theorem q_5_15 : Cond.fieldLink RX2 18 "SluiceTurns$History" "size" "I" ∈ wsL_law := iL_5 _ (List.mem_of_getElem? (i := 15) rfl)
theorem q_5_16 : Cond.methodLink RX2 22 yX2_dropOldest ∈ wsL_law := iL_5 _ (List.mem_of_getElem? (i := 16) rfl)
theorem q_5_17 : Cond.instanceMethod yX2_dropOldest ∈ wsL_law := iL_5 _ (List.mem_of_getElem? (i := 17) rfl)
theorem q_5_18 : Cond.selects RX2 yX2_dropOldest yX2_dropOldest ∈ wsL_law := iL_5 _ (List.mem_of_getElem? (i := 18) rfl)
theorem q_5_19 : Cond.code yX2_dropOldest cX2_dropOldest 3 none ∈ wsL_law := iL_5 _ (List.mem_of_getElem? (i := 19) rfl)
theorem q_5_20 : Cond.methodLink RX2 25 yX4_become ∈ wsL_law := iL_5 _ (List.mem_of_getElem? (i := 20) rfl)
theorem q_5_21 : Cond.instanceMethod yX4_become ∈ wsL_law := iL_5 _ (List.mem_of_getElem? (i := 21) rfl)
theorem q_5_22 : Cond.selects RX4 yX4_become yX4_become ∈ wsL_law := iL_5 _ (List.mem_of_getElem? (i := 22) rfl)
theorem q_5_23 : Cond.code yX4_become cX4_become 2 none ∈ wsL_law := iL_5 _ (List.mem_of_getElem? (i := 23) rfl)
theorem q_6_0 : Cond.fieldLink RX4 49 "SluiceTurns$Terrace" "hours" "I" ∈ wsL_law := iL_6 _ (List.mem_of_getElem? (i := 0) rfl)
theorem q_6_1 : Cond.fieldLink RX4 53 "SluiceTurns$Terrace" "letIn" "I" ∈ wsL_law := iL_6 _ (List.mem_of_getElem? (i := 1) rfl)
theorem q_6_2 : Cond.fieldLink RX4 56 "SluiceTurns$Terrace" "got" "I" ∈ wsL_law := iL_6 _ (List.mem_of_getElem? (i := 2) rfl)
theorem q_6_3 : Cond.fieldLink RX4 59 "SluiceTurns$Terrace" "seeped" "I" ∈ wsL_law := iL_6 _ (List.mem_of_getElem? (i := 3) rfl)
theorem q_6_4 : Cond.fieldLink RX4 62 "SluiceTurns$Terrace" "ranOff" "I" ∈ wsL_law := iL_6 _ (List.mem_of_getElem? (i := 4) rfl)
theorem q_6_5 : Cond.methodLink RX4 39 yX0_become ∈ wsL_law := iL_6 _ (List.mem_of_getElem? (i := 5) rfl)
theorem q_6_6 : Cond.instanceMethod yX0_become ∈ wsL_law := iL_6 _ (List.mem_of_getElem? (i := 6) rfl)
theorem q_6_7 : Cond.selects RX0 yX0_become yX0_become ∈ wsL_law := iL_6 _ (List.mem_of_getElem? (i := 7) rfl)
theorem q_6_8 : Cond.code yX0_become cX0_become 2 none ∈ wsL_law := iL_6 _ (List.mem_of_getElem? (i := 8) rfl)
theorem q_6_9 : Cond.fieldLink RX0 40 "SluiceTurns$Canals" "open" "I" ∈ wsL_law := iL_6 _ (List.mem_of_getElem? (i := 9) rfl)
theorem q_6_10 : Cond.methodLink RX0 43 arraycopyName ∈ wsL_law := iL_6 _ (List.mem_of_getElem? (i := 10) rfl)
theorem q_6_11 : Cond.native arraycopyName ∈ wsL_law := iL_6 _ (List.mem_of_getElem? (i := 11) rfl)
theorem q_6_12 : Cond.static arraycopyName ∈ wsL_law := iL_6 _ (List.mem_of_getElem? (i := 12) rfl)
theorem q_6_13 : Cond.initialized "java/lang/System" ∈ wsL_law := iL_6 _ (List.mem_of_getElem? (i := 13) rfl)
theorem q_6_14 : Cond.methodLink RX4 43 yX1_become ∈ wsL_law := iL_6 _ (List.mem_of_getElem? (i := 14) rfl)
theorem q_6_15 : Cond.instanceMethod yX1_become ∈ wsL_law := iL_6 _ (List.mem_of_getElem? (i := 15) rfl)
theorem q_6_16 : Cond.selects RX1 yX1_become yX1_become ∈ wsL_law := iL_6 _ (List.mem_of_getElem? (i := 16) rfl)
theorem q_6_17 : Cond.code yX1_become cX1_become 2 none ∈ wsL_law := iL_6 _ (List.mem_of_getElem? (i := 17) rfl)
theorem q_6_18 : Cond.fieldLink RX1 33 "SluiceTurns$Fields" "size" "I" ∈ wsL_law := iL_6 _ (List.mem_of_getElem? (i := 18) rfl)
theorem q_6_19 : Cond.fieldLink RX1 37 "SluiceTurns$Fields" "calling" "I" ∈ wsL_law := iL_6 _ (List.mem_of_getElem? (i := 19) rfl)
theorem q_6_20 : Cond.methodLink RX1 40 arraycopyName ∈ wsL_law := iL_6 _ (List.mem_of_getElem? (i := 20) rfl)
theorem q_6_21 : Cond.methodLink RX4 46 yX5_become ∈ wsL_law := iL_6 _ (List.mem_of_getElem? (i := 21) rfl)
theorem q_6_22 : Cond.instanceMethod yX5_become ∈ wsL_law := iL_6 _ (List.mem_of_getElem? (i := 22) rfl)
theorem q_6_23 : Cond.selects RX5 yX5_become yX5_become ∈ wsL_law := iL_6 _ (List.mem_of_getElem? (i := 23) rfl)
theorem q_7_0 : Cond.code yX5_become cX5_become 2 none ∈ wsL_law := iL_7 _ (List.mem_of_getElem? (i := 0) rfl)
theorem q_7_1 : Cond.fieldLink RX5 18 "SluiceTurns$Turns" "size" "I" ∈ wsL_law := iL_7 _ (List.mem_of_getElem? (i := 1) rfl)
theorem q_7_2 : Cond.fieldLink RX5 22 "SluiceTurns$Turns" "on" "I" ∈ wsL_law := iL_7 _ (List.mem_of_getElem? (i := 2) rfl)
theorem q_7_3 : Cond.fieldLink RX5 25 "SluiceTurns$Turns" "gone" "I" ∈ wsL_law := iL_7 _ (List.mem_of_getElem? (i := 3) rfl)
theorem q_7_4 : Cond.methodLink RX5 28 arraycopyName ∈ wsL_law := iL_7 _ (List.mem_of_getElem? (i := 4) rfl)
theorem q_7_5 : Cond.methodLink RX6 57 yX0_add ∈ wsL_law := iL_7 _ (List.mem_of_getElem? (i := 5) rfl)
theorem q_7_6 : Cond.instanceMethod yX0_add ∈ wsL_law := iL_7 _ (List.mem_of_getElem? (i := 6) rfl)
theorem q_7_7 : Cond.selects RX0 yX0_add yX0_add ∈ wsL_law := iL_7 _ (List.mem_of_getElem? (i := 7) rfl)
theorem q_7_8 : Cond.code yX0_add cX0_add 6 (some .int) ∈ wsL_law := iL_7 _ (List.mem_of_getElem? (i := 8) rfl)
theorem q_7_9 : Cond.methodLink RL 17 yX7_canal ∈ wsL_law := iL_7 _ (List.mem_of_getElem? (i := 9) rfl)
theorem q_7_10 : Cond.instanceMethod yX7_canal ∈ wsL_law := iL_7 _ (List.mem_of_getElem? (i := 10) rfl)
theorem q_7_11 : Cond.selects RX7 yX7_canal yX7_canal ∈ wsL_law := iL_7 _ (List.mem_of_getElem? (i := 11) rfl)
theorem q_7_12 : Cond.code yX7_canal cX7_canal 7 (some .int) ∈ wsL_law := iL_7 _ (List.mem_of_getElem? (i := 12) rfl)
theorem q_7_13 : Cond.constant RX7 37 (-1000001) ∈ wsL_law := iL_7 _ (List.mem_of_getElem? (i := 13) rfl)
theorem q_7_14 : Cond.constant RX7 46 (-1000003) ∈ wsL_law := iL_7 _ (List.mem_of_getElem? (i := 14) rfl)
theorem q_7_15 : Cond.methodLink RX7 42 yX7_isCanal ∈ wsL_law := iL_7 _ (List.mem_of_getElem? (i := 15) rfl)
theorem q_7_16 : Cond.instanceMethod yX7_isCanal ∈ wsL_law := iL_7 _ (List.mem_of_getElem? (i := 16) rfl)
theorem q_7_17 : Cond.selects RX7 yX7_isCanal yX7_isCanal ∈ wsL_law := iL_7 _ (List.mem_of_getElem? (i := 17) rfl)
theorem q_7_18 : Cond.code yX7_isCanal cX7_isCanal 2 (some .boolean) ∈ wsL_law := iL_7 _ (List.mem_of_getElem? (i := 18) rfl)
theorem q_7_19 : Cond.methodLink RX7 29 yX7_in ∈ wsL_law := iL_7 _ (List.mem_of_getElem? (i := 19) rfl)
theorem q_7_20 : Cond.static yX7_in ∈ wsL_law := iL_7 _ (List.mem_of_getElem? (i := 20) rfl)
theorem q_7_21 : Cond.code yX7_in cX7_in 3 (some .boolean) ∈ wsL_law := iL_7 _ (List.mem_of_getElem? (i := 21) rfl)
theorem q_7_22 : Cond.methodLink RX7 47 yX7_keeps ∈ wsL_law := iL_7 _ (List.mem_of_getElem? (i := 22) rfl)
theorem q_7_23 : Cond.instanceMethod yX7_keeps ∈ wsL_law := iL_7 _ (List.mem_of_getElem? (i := 23) rfl)
theorem q_8_0 : Cond.selects RX7 yX7_keeps yX7_keeps ∈ wsL_law := iL_8 _ (List.mem_of_getElem? (i := 0) rfl)
theorem q_8_1 : Cond.code yX7_keeps cX7_keeps 2 none ∈ wsL_law := iL_8 _ (List.mem_of_getElem? (i := 1) rfl)
theorem q_8_2 : Cond.methodLink RX7 50 yX7_acted ∈ wsL_law := iL_8 _ (List.mem_of_getElem? (i := 2) rfl)
theorem q_8_3 : Cond.instanceMethod yX7_acted ∈ wsL_law := iL_8 _ (List.mem_of_getElem? (i := 3) rfl)
theorem q_8_4 : Cond.selects RX7 yX7_acted yX7_acted ∈ wsL_law := iL_8 _ (List.mem_of_getElem? (i := 4) rfl)
theorem q_8_5 : Cond.code yX7_acted cX7_acted 3 (some .int) ∈ wsL_law := iL_8 _ (List.mem_of_getElem? (i := 5) rfl)
theorem q_8_6 : Cond.fieldLink RX7 38 "SluiceTurnsModel" "states" "I" ∈ wsL_law := iL_8 _ (List.mem_of_getElem? (i := 6) rfl)
theorem q_8_7 : Cond.methodLink RL 18 yX6_field ∈ wsL_law := iL_8 _ (List.mem_of_getElem? (i := 7) rfl)
theorem q_8_8 : Cond.instanceMethod yX6_field ∈ wsL_law := iL_8 _ (List.mem_of_getElem? (i := 8) rfl)
theorem q_8_9 : Cond.selects RX6 yX6_field yX6_field ∈ wsL_law := iL_8 _ (List.mem_of_getElem? (i := 9) rfl)
theorem q_8_10 : Cond.code yX6_field cX6_field 5 (some .int) ∈ wsL_law := iL_8 _ (List.mem_of_getElem? (i := 10) rfl)
theorem q_8_11 : Cond.fieldLink RX6 61 "SluiceTurns$Terrace" "fields" "LSluiceTurns$Fields;" ∈ wsL_law := iL_8 _ (List.mem_of_getElem? (i := 11) rfl)
theorem q_8_12 : Cond.fieldLink RX6 65 "SluiceTurns$Fields" "size" "I" ∈ wsL_law := iL_8 _ (List.mem_of_getElem? (i := 12) rfl)
theorem q_8_13 : Cond.methodLink RX6 68 yX1_add ∈ wsL_law := iL_8 _ (List.mem_of_getElem? (i := 13) rfl)
theorem q_8_14 : Cond.instanceMethod yX1_add ∈ wsL_law := iL_8 _ (List.mem_of_getElem? (i := 14) rfl)
theorem q_8_15 : Cond.selects RX1 yX1_add yX1_add ∈ wsL_law := iL_8 _ (List.mem_of_getElem? (i := 15) rfl)
theorem q_8_16 : Cond.code yX1_add cX1_add 7 (some .int) ∈ wsL_law := iL_8 _ (List.mem_of_getElem? (i := 16) rfl)
theorem q_8_17 : Cond.methodLink RL 21 yX7_field ∈ wsL_law := iL_8 _ (List.mem_of_getElem? (i := 17) rfl)
theorem q_8_18 : Cond.instanceMethod yX7_field ∈ wsL_law := iL_8 _ (List.mem_of_getElem? (i := 18) rfl)
theorem q_8_19 : Cond.selects RX7 yX7_field yX7_field ∈ wsL_law := iL_8 _ (List.mem_of_getElem? (i := 19) rfl)
theorem q_8_20 : Cond.code yX7_field cX7_field 7 (some .int) ∈ wsL_law := iL_8 _ (List.mem_of_getElem? (i := 20) rfl)
theorem q_8_21 : Cond.methodLink RL 22 yX6_tend ∈ wsL_law := iL_8 _ (List.mem_of_getElem? (i := 21) rfl)
theorem q_8_22 : Cond.instanceMethod yX6_tend ∈ wsL_law := iL_8 _ (List.mem_of_getElem? (i := 22) rfl)
theorem q_8_23 : Cond.selects RX6 yX6_tend yX6_tend ∈ wsL_law := iL_8 _ (List.mem_of_getElem? (i := 23) rfl)
theorem q_9_0 : Cond.code yX6_tend cX6_tend 3 (some .int) ∈ wsL_law := iL_9 _ (List.mem_of_getElem? (i := 0) rfl)
theorem q_9_1 : Cond.fieldLink RX6 75 "SluiceTurns$Canals" "kind" "[I" ∈ wsL_law := iL_9 _ (List.mem_of_getElem? (i := 1) rfl)
theorem q_9_2 : Cond.constant RX6 83 (-1000002) ∈ wsL_law := iL_9 _ (List.mem_of_getElem? (i := 2) rfl)
theorem q_9_3 : Cond.fieldLink RX6 88 "SluiceTurns$Canals" "crew" "[I" ∈ wsL_law := iL_9 _ (List.mem_of_getElem? (i := 3) rfl)
theorem q_9_4 : Cond.methodLink RX6 69 yX0_hasGate ∈ wsL_law := iL_9 _ (List.mem_of_getElem? (i := 4) rfl)
theorem q_9_5 : Cond.instanceMethod yX0_hasGate ∈ wsL_law := iL_9 _ (List.mem_of_getElem? (i := 5) rfl)
theorem q_9_6 : Cond.selects RX0 yX0_hasGate yX0_hasGate ∈ wsL_law := iL_9 _ (List.mem_of_getElem? (i := 6) rfl)
theorem q_9_7 : Cond.code yX0_hasGate cX0_hasGate 2 (some .boolean) ∈ wsL_law := iL_9 _ (List.mem_of_getElem? (i := 7) rfl)
theorem q_9_8 : Cond.methodLink RX6 72 yX0_isTended ∈ wsL_law := iL_9 _ (List.mem_of_getElem? (i := 8) rfl)
theorem q_9_9 : Cond.instanceMethod yX0_isTended ∈ wsL_law := iL_9 _ (List.mem_of_getElem? (i := 9) rfl)
theorem q_9_10 : Cond.selects RX0 yX0_isTended yX0_isTended ∈ wsL_law := iL_9 _ (List.mem_of_getElem? (i := 10) rfl)
theorem q_9_11 : Cond.code yX0_isTended cX0_isTended 2 (some .boolean) ∈ wsL_law := iL_9 _ (List.mem_of_getElem? (i := 11) rfl)
theorem q_9_12 : Cond.methodLink RX6 79 yX6_tendsKind ∈ wsL_law := iL_9 _ (List.mem_of_getElem? (i := 12) rfl)
theorem q_9_13 : Cond.static yX6_tendsKind ∈ wsL_law := iL_9 _ (List.mem_of_getElem? (i := 13) rfl)
theorem q_9_14 : Cond.code yX6_tendsKind cX6_tendsKind 2 (some .boolean) ∈ wsL_law := iL_9 _ (List.mem_of_getElem? (i := 14) rfl)
theorem q_9_15 : Cond.methodLink RX6 84 yX0_gatesOf ∈ wsL_law := iL_9 _ (List.mem_of_getElem? (i := 15) rfl)
theorem q_9_16 : Cond.instanceMethod yX0_gatesOf ∈ wsL_law := iL_9 _ (List.mem_of_getElem? (i := 16) rfl)
theorem q_9_17 : Cond.selects RX0 yX0_gatesOf yX0_gatesOf ∈ wsL_law := iL_9 _ (List.mem_of_getElem? (i := 17) rfl)
theorem q_9_18 : Cond.code yX0_gatesOf cX0_gatesOf 4 (some .int) ∈ wsL_law := iL_9 _ (List.mem_of_getElem? (i := 18) rfl)
theorem q_9_19 : Cond.methodLink RL 26 yX7_tend ∈ wsL_law := iL_9 _ (List.mem_of_getElem? (i := 19) rfl)
theorem q_9_20 : Cond.instanceMethod yX7_tend ∈ wsL_law := iL_9 _ (List.mem_of_getElem? (i := 20) rfl)
theorem q_9_21 : Cond.selects RX7 yX7_tend yX7_tend ∈ wsL_law := iL_9 _ (List.mem_of_getElem? (i := 21) rfl)
theorem q_9_22 : Cond.code yX7_tend cX7_tend 3 (some .int) ∈ wsL_law := iL_9 _ (List.mem_of_getElem? (i := 22) rfl)
theorem q_9_23 : Cond.constant RX7 60 (-1000002) ∈ wsL_law := iL_9 _ (List.mem_of_getElem? (i := 23) rfl)
theorem q_10_0 : Cond.methodLink RX7 57 yX7_isGate ∈ wsL_law := iL_10 _ (List.mem_of_getElem? (i := 0) rfl)
theorem q_10_1 : Cond.instanceMethod yX7_isGate ∈ wsL_law := iL_10 _ (List.mem_of_getElem? (i := 1) rfl)
theorem q_10_2 : Cond.selects RX7 yX7_isGate yX7_isGate ∈ wsL_law := iL_10 _ (List.mem_of_getElem? (i := 2) rfl)
theorem q_10_3 : Cond.code yX7_isGate cX7_isGate 2 (some .boolean) ∈ wsL_law := iL_10 _ (List.mem_of_getElem? (i := 3) rfl)
theorem q_10_4 : Cond.methodLink RX7 54 yX7_ca ∈ wsL_law := iL_10 _ (List.mem_of_getElem? (i := 4) rfl)
theorem q_10_5 : Cond.instanceMethod yX7_ca ∈ wsL_law := iL_10 _ (List.mem_of_getElem? (i := 5) rfl)
theorem q_10_6 : Cond.selects RX7 yX7_ca yX7_ca ∈ wsL_law := iL_10 _ (List.mem_of_getElem? (i := 6) rfl)
theorem q_10_7 : Cond.code yX7_ca cX7_ca 3 (some .int) ∈ wsL_law := iL_10 _ (List.mem_of_getElem? (i := 7) rfl)
theorem q_10_8 : Cond.methodLink RX7 61 yX7_tended ∈ wsL_law := iL_10 _ (List.mem_of_getElem? (i := 8) rfl)
theorem q_10_9 : Cond.instanceMethod yX7_tended ∈ wsL_law := iL_10 _ (List.mem_of_getElem? (i := 9) rfl)
theorem q_10_10 : Cond.selects RX7 yX7_tended yX7_tended ∈ wsL_law := iL_10 _ (List.mem_of_getElem? (i := 10) rfl)
theorem q_10_11 : Cond.code yX7_tended cX7_tended 4 (some .int) ∈ wsL_law := iL_10 _ (List.mem_of_getElem? (i := 11) rfl)
theorem q_10_12 : Cond.methodLink RL 27 yX6_leave ∈ wsL_law := iL_10 _ (List.mem_of_getElem? (i := 12) rfl)
theorem q_10_13 : Cond.instanceMethod yX6_leave ∈ wsL_law := iL_10 _ (List.mem_of_getElem? (i := 13) rfl)
theorem q_10_14 : Cond.selects RX6 yX6_leave yX6_leave ∈ wsL_law := iL_10 _ (List.mem_of_getElem? (i := 14) rfl)
theorem q_10_15 : Cond.code yX6_leave cX6_leave 3 (some .int) ∈ wsL_law := iL_10 _ (List.mem_of_getElem? (i := 15) rfl)
theorem q_10_16 : Cond.methodLink RL 31 yX7_leave ∈ wsL_law := iL_10 _ (List.mem_of_getElem? (i := 16) rfl)
theorem q_10_17 : Cond.instanceMethod yX7_leave ∈ wsL_law := iL_10 _ (List.mem_of_getElem? (i := 17) rfl)
theorem q_10_18 : Cond.selects RX7 yX7_leave yX7_leave ∈ wsL_law := iL_10 _ (List.mem_of_getElem? (i := 18) rfl)
theorem q_10_19 : Cond.code yX7_leave cX7_leave 3 (some .int) ∈ wsL_law := iL_10 _ (List.mem_of_getElem? (i := 19) rfl)
theorem q_10_20 : Cond.methodLink RL 32 yX6_open ∈ wsL_law := iL_10 _ (List.mem_of_getElem? (i := 20) rfl)
theorem q_10_21 : Cond.instanceMethod yX6_open ∈ wsL_law := iL_10 _ (List.mem_of_getElem? (i := 21) rfl)
theorem q_10_22 : Cond.selects RX6 yX6_open yX6_open ∈ wsL_law := iL_10 _ (List.mem_of_getElem? (i := 22) rfl)
theorem q_10_23 : Cond.code yX6_open cX6_open 2 (some .int) ∈ wsL_law := iL_10 _ (List.mem_of_getElem? (i := 23) rfl)
theorem q_11_0 : Cond.methodLink RX6 91 yX0_canBeOpened ∈ wsL_law := iL_11 _ (List.mem_of_getElem? (i := 0) rfl)
theorem q_11_1 : Cond.instanceMethod yX0_canBeOpened ∈ wsL_law := iL_11 _ (List.mem_of_getElem? (i := 1) rfl)
theorem q_11_2 : Cond.selects RX0 yX0_canBeOpened yX0_canBeOpened ∈ wsL_law := iL_11 _ (List.mem_of_getElem? (i := 2) rfl)
theorem q_11_3 : Cond.code yX0_canBeOpened cX0_canBeOpened 2 (some .boolean) ∈ wsL_law := iL_11 _ (List.mem_of_getElem? (i := 3) rfl)
theorem q_11_4 : Cond.methodLink RX0 53 yX0_isTended ∈ wsL_law := iL_11 _ (List.mem_of_getElem? (i := 4) rfl)
theorem q_11_5 : Cond.methodLink RX0 57 yX0_isOpen ∈ wsL_law := iL_11 _ (List.mem_of_getElem? (i := 5) rfl)
theorem q_11_6 : Cond.instanceMethod yX0_isOpen ∈ wsL_law := iL_11 _ (List.mem_of_getElem? (i := 6) rfl)
theorem q_11_7 : Cond.selects RX0 yX0_isOpen yX0_isOpen ∈ wsL_law := iL_11 _ (List.mem_of_getElem? (i := 7) rfl)
theorem q_11_8 : Cond.code yX0_isOpen cX0_isOpen 2 (some .boolean) ∈ wsL_law := iL_11 _ (List.mem_of_getElem? (i := 8) rfl)
theorem q_11_9 : Cond.methodLink RX6 94 yX0_moveGate ∈ wsL_law := iL_11 _ (List.mem_of_getElem? (i := 9) rfl)
theorem q_11_10 : Cond.instanceMethod yX0_moveGate ∈ wsL_law := iL_11 _ (List.mem_of_getElem? (i := 10) rfl)
theorem q_11_11 : Cond.selects RX0 yX0_moveGate yX0_moveGate ∈ wsL_law := iL_11 _ (List.mem_of_getElem? (i := 11) rfl)
theorem q_11_12 : Cond.code yX0_moveGate cX0_moveGate 2 (some .int) ∈ wsL_law := iL_11 _ (List.mem_of_getElem? (i := 12) rfl)
theorem q_11_13 : Cond.methodLink RL 35 yX7_open ∈ wsL_law := iL_11 _ (List.mem_of_getElem? (i := 13) rfl)
theorem q_11_14 : Cond.instanceMethod yX7_open ∈ wsL_law := iL_11 _ (List.mem_of_getElem? (i := 14) rfl)
theorem q_11_15 : Cond.selects RX7 yX7_open yX7_open ∈ wsL_law := iL_11 _ (List.mem_of_getElem? (i := 15) rfl)
theorem q_11_16 : Cond.code yX7_open cX7_open 2 (some .int) ∈ wsL_law := iL_11 _ (List.mem_of_getElem? (i := 16) rfl)
theorem q_11_17 : Cond.methodLink RX7 68 yX7_moves ∈ wsL_law := iL_11 _ (List.mem_of_getElem? (i := 17) rfl)
theorem q_11_18 : Cond.instanceMethod yX7_moves ∈ wsL_law := iL_11 _ (List.mem_of_getElem? (i := 18) rfl)
theorem q_11_19 : Cond.selects RX7 yX7_moves yX7_moves ∈ wsL_law := iL_11 _ (List.mem_of_getElem? (i := 19) rfl)
theorem q_11_20 : Cond.code yX7_moves cX7_moves 3 (some .int) ∈ wsL_law := iL_11 _ (List.mem_of_getElem? (i := 20) rfl)
theorem q_11_21 : Cond.methodLink RX7 64 yX7_openOnes ∈ wsL_law := iL_11 _ (List.mem_of_getElem? (i := 21) rfl)
theorem q_11_22 : Cond.instanceMethod yX7_openOnes ∈ wsL_law := iL_11 _ (List.mem_of_getElem? (i := 22) rfl)
theorem q_11_23 : Cond.selects RX7 yX7_openOnes yX7_openOnes ∈ wsL_law := iL_11 _ (List.mem_of_getElem? (i := 23) rfl)
theorem q_12_0 : Cond.code yX7_openOnes cX7_openOnes 3 (some .int) ∈ wsL_law := iL_12 _ (List.mem_of_getElem? (i := 0) rfl)
theorem q_12_1 : Cond.methodLink RL 36 yX6_close ∈ wsL_law := iL_12 _ (List.mem_of_getElem? (i := 1) rfl)
theorem q_12_2 : Cond.instanceMethod yX6_close ∈ wsL_law := iL_12 _ (List.mem_of_getElem? (i := 2) rfl)
theorem q_12_3 : Cond.selects RX6 yX6_close yX6_close ∈ wsL_law := iL_12 _ (List.mem_of_getElem? (i := 3) rfl)
theorem q_12_4 : Cond.code yX6_close cX6_close 2 (some .int) ∈ wsL_law := iL_12 _ (List.mem_of_getElem? (i := 4) rfl)
theorem q_12_5 : Cond.methodLink RX6 97 yX0_canBeClosed ∈ wsL_law := iL_12 _ (List.mem_of_getElem? (i := 5) rfl)
theorem q_12_6 : Cond.instanceMethod yX0_canBeClosed ∈ wsL_law := iL_12 _ (List.mem_of_getElem? (i := 6) rfl)
theorem q_12_7 : Cond.selects RX0 yX0_canBeClosed yX0_canBeClosed ∈ wsL_law := iL_12 _ (List.mem_of_getElem? (i := 7) rfl)
theorem q_12_8 : Cond.code yX0_canBeClosed cX0_canBeClosed 2 (some .boolean) ∈ wsL_law := iL_12 _ (List.mem_of_getElem? (i := 8) rfl)
theorem q_12_9 : Cond.methodLink RL 39 yX7_close ∈ wsL_law := iL_12 _ (List.mem_of_getElem? (i := 9) rfl)
theorem q_12_10 : Cond.instanceMethod yX7_close ∈ wsL_law := iL_12 _ (List.mem_of_getElem? (i := 10) rfl)
theorem q_12_11 : Cond.selects RX7 yX7_close yX7_close ∈ wsL_law := iL_12 _ (List.mem_of_getElem? (i := 11) rfl)
theorem q_12_12 : Cond.code yX7_close cX7_close 2 (some .int) ∈ wsL_law := iL_12 _ (List.mem_of_getElem? (i := 12) rfl)
theorem q_12_13 : Cond.methodLink RL 40 yX6_call ∈ wsL_law := iL_12 _ (List.mem_of_getElem? (i := 13) rfl)
theorem q_12_14 : Cond.instanceMethod yX6_call ∈ wsL_law := iL_12 _ (List.mem_of_getElem? (i := 14) rfl)
theorem q_12_15 : Cond.selects RX6 yX6_call yX6_call ∈ wsL_law := iL_12 _ (List.mem_of_getElem? (i := 15) rfl)
theorem q_12_16 : Cond.code yX6_call cX6_call 2 (some .int) ∈ wsL_law := iL_12 _ (List.mem_of_getElem? (i := 16) rfl)
theorem q_12_17 : Cond.methodLink RX6 100 yX1_has ∈ wsL_law := iL_12 _ (List.mem_of_getElem? (i := 17) rfl)
theorem q_12_18 : Cond.instanceMethod yX1_has ∈ wsL_law := iL_12 _ (List.mem_of_getElem? (i := 18) rfl)
theorem q_12_19 : Cond.selects RX1 yX1_has yX1_has ∈ wsL_law := iL_12 _ (List.mem_of_getElem? (i := 19) rfl)
theorem q_12_20 : Cond.code yX1_has cX1_has 2 (some .boolean) ∈ wsL_law := iL_12 _ (List.mem_of_getElem? (i := 20) rfl)
theorem q_12_21 : Cond.methodLink RX6 101 yX1_canCall ∈ wsL_law := iL_12 _ (List.mem_of_getElem? (i := 21) rfl)
theorem q_12_22 : Cond.instanceMethod yX1_canCall ∈ wsL_law := iL_12 _ (List.mem_of_getElem? (i := 22) rfl)
theorem q_12_23 : Cond.selects RX1 yX1_canCall yX1_canCall ∈ wsL_law := iL_12 _ (List.mem_of_getElem? (i := 23) rfl)
theorem q_13_0 : Cond.code yX1_canCall cX1_canCall 2 (some .boolean) ∈ wsL_law := iL_13 _ (List.mem_of_getElem? (i := 0) rfl)
theorem q_13_1 : Cond.methodLink RX1 46 yX1_wants ∈ wsL_law := iL_13 _ (List.mem_of_getElem? (i := 1) rfl)
theorem q_13_2 : Cond.instanceMethod yX1_wants ∈ wsL_law := iL_13 _ (List.mem_of_getElem? (i := 2) rfl)
theorem q_13_3 : Cond.selects RX1 yX1_wants yX1_wants ∈ wsL_law := iL_13 _ (List.mem_of_getElem? (i := 3) rfl)
theorem q_13_4 : Cond.code yX1_wants cX1_wants 2 (some .boolean) ∈ wsL_law := iL_13 _ (List.mem_of_getElem? (i := 4) rfl)
theorem q_13_5 : Cond.methodLink RX1 50 yX1_calls ∈ wsL_law := iL_13 _ (List.mem_of_getElem? (i := 5) rfl)
theorem q_13_6 : Cond.instanceMethod yX1_calls ∈ wsL_law := iL_13 _ (List.mem_of_getElem? (i := 6) rfl)
theorem q_13_7 : Cond.selects RX1 yX1_calls yX1_calls ∈ wsL_law := iL_13 _ (List.mem_of_getElem? (i := 7) rfl)
theorem q_13_8 : Cond.code yX1_calls cX1_calls 2 (some .boolean) ∈ wsL_law := iL_13 _ (List.mem_of_getElem? (i := 8) rfl)
theorem q_13_9 : Cond.methodLink RX6 104 yX1_beginCall ∈ wsL_law := iL_13 _ (List.mem_of_getElem? (i := 9) rfl)
theorem q_13_10 : Cond.instanceMethod yX1_beginCall ∈ wsL_law := iL_13 _ (List.mem_of_getElem? (i := 10) rfl)
theorem q_13_11 : Cond.selects RX1 yX1_beginCall yX1_beginCall ∈ wsL_law := iL_13 _ (List.mem_of_getElem? (i := 11) rfl)
theorem q_13_12 : Cond.code yX1_beginCall cX1_beginCall 2 (some .int) ∈ wsL_law := iL_13 _ (List.mem_of_getElem? (i := 12) rfl)
theorem q_13_13 : Cond.methodLink RX1 53 yJ6_bitCount_0f7a4 ∈ wsL_law := iL_13 _ (List.mem_of_getElem? (i := 13) rfl)
theorem q_13_14 : Cond.static yJ6_bitCount_0f7a4 ∈ wsL_law := iL_13 _ (List.mem_of_getElem? (i := 14) rfl)
theorem q_13_15 : Cond.initialized RJ6 ∈ wsL_law := iL_13 _ (List.mem_of_getElem? (i := 15) rfl)
theorem q_13_16 : Cond.code yJ6_bitCount_0f7a4 cJ6_bitCount_0f7a4 1 (some .int) ∈ wsL_law := iL_13 _ (List.mem_of_getElem? (i := 16) rfl)
theorem q_13_17 : Cond.constant RJ6 265 (1431655765) ∈ wsL_law := iL_13 _ (List.mem_of_getElem? (i := 17) rfl)
theorem q_13_18 : Cond.constant RJ6 266 (858993459) ∈ wsL_law := iL_13 _ (List.mem_of_getElem? (i := 18) rfl)
theorem q_13_19 : Cond.constant RJ6 267 (252645135) ∈ wsL_law := iL_13 _ (List.mem_of_getElem? (i := 19) rfl)
theorem q_13_20 : Cond.methodLink RL 43 yX7_call ∈ wsL_law := iL_13 _ (List.mem_of_getElem? (i := 20) rfl)
theorem q_13_21 : Cond.instanceMethod yX7_call ∈ wsL_law := iL_13 _ (List.mem_of_getElem? (i := 21) rfl)
theorem q_13_22 : Cond.selects RX7 yX7_call yX7_call ∈ wsL_law := iL_13 _ (List.mem_of_getElem? (i := 22) rfl)
theorem q_13_23 : Cond.code yX7_call cX7_call 2 (some .int) ∈ wsL_law := iL_13 _ (List.mem_of_getElem? (i := 23) rfl)
theorem q_14_0 : Cond.methodLink RX7 83 yX7_calls ∈ wsL_law := iL_14 _ (List.mem_of_getElem? (i := 0) rfl)
theorem q_14_1 : Cond.instanceMethod yX7_calls ∈ wsL_law := iL_14 _ (List.mem_of_getElem? (i := 1) rfl)
theorem q_14_2 : Cond.selects RX7 yX7_calls yX7_calls ∈ wsL_law := iL_14 _ (List.mem_of_getElem? (i := 2) rfl)
theorem q_14_3 : Cond.code yX7_calls cX7_calls 2 (some .int) ∈ wsL_law := iL_14 _ (List.mem_of_getElem? (i := 3) rfl)
theorem q_14_4 : Cond.methodLink RX7 71 yX7_isField ∈ wsL_law := iL_14 _ (List.mem_of_getElem? (i := 4) rfl)
theorem q_14_5 : Cond.instanceMethod yX7_isField ∈ wsL_law := iL_14 _ (List.mem_of_getElem? (i := 5) rfl)
theorem q_14_6 : Cond.selects RX7 yX7_isField yX7_isField ∈ wsL_law := iL_14 _ (List.mem_of_getElem? (i := 6) rfl)
theorem q_14_7 : Cond.code yX7_isField cX7_isField 2 (some .boolean) ∈ wsL_law := iL_14 _ (List.mem_of_getElem? (i := 7) rfl)
theorem q_14_8 : Cond.methodLink RX7 33 yX7_fi ∈ wsL_law := iL_14 _ (List.mem_of_getElem? (i := 8) rfl)
theorem q_14_9 : Cond.instanceMethod yX7_fi ∈ wsL_law := iL_14 _ (List.mem_of_getElem? (i := 9) rfl)
theorem q_14_10 : Cond.selects RX7 yX7_fi yX7_fi ∈ wsL_law := iL_14 _ (List.mem_of_getElem? (i := 10) rfl)
theorem q_14_11 : Cond.code yX7_fi cX7_fi 3 (some .int) ∈ wsL_law := iL_14 _ (List.mem_of_getElem? (i := 11) rfl)
theorem q_14_12 : Cond.methodLink RX7 74 yX7_wants ∈ wsL_law := iL_14 _ (List.mem_of_getElem? (i := 12) rfl)
theorem q_14_13 : Cond.instanceMethod yX7_wants ∈ wsL_law := iL_14 _ (List.mem_of_getElem? (i := 13) rfl)
theorem q_14_14 : Cond.selects RX7 yX7_wants yX7_wants ∈ wsL_law := iL_14 _ (List.mem_of_getElem? (i := 14) rfl)
theorem q_14_15 : Cond.code yX7_wants cX7_wants 2 (some .boolean) ∈ wsL_law := iL_14 _ (List.mem_of_getElem? (i := 15) rfl)
theorem q_14_16 : Cond.methodLink RX7 77 yX7_calling ∈ wsL_law := iL_14 _ (List.mem_of_getElem? (i := 16) rfl)
theorem q_14_17 : Cond.instanceMethod yX7_calling ∈ wsL_law := iL_14 _ (List.mem_of_getElem? (i := 17) rfl)
theorem q_14_18 : Cond.selects RX7 yX7_calling yX7_calling ∈ wsL_law := iL_14 _ (List.mem_of_getElem? (i := 18) rfl)
theorem q_14_19 : Cond.code yX7_calling cX7_calling 3 (some .int) ∈ wsL_law := iL_14 _ (List.mem_of_getElem? (i := 19) rfl)
theorem q_14_20 : Cond.methodLink RX7 80 yX7_ones ∈ wsL_law := iL_14 _ (List.mem_of_getElem? (i := 20) rfl)
theorem q_14_21 : Cond.static yX7_ones ∈ wsL_law := iL_14 _ (List.mem_of_getElem? (i := 21) rfl)
theorem q_14_22 : Cond.code yX7_ones cX7_ones 3 (some .int) ∈ wsL_law := iL_14 _ (List.mem_of_getElem? (i := 22) rfl)
theorem q_14_23 : Cond.methodLink RL 44 yX6_turn ∈ wsL_law := iL_14 _ (List.mem_of_getElem? (i := 23) rfl)
theorem q_15_0 : Cond.instanceMethod yX6_turn ∈ wsL_law := iL_15 _ (List.mem_of_getElem? (i := 0) rfl)
theorem q_15_1 : Cond.selects RX6 yX6_turn yX6_turn ∈ wsL_law := iL_15 _ (List.mem_of_getElem? (i := 1) rfl)
theorem q_15_2 : Cond.code yX6_turn cX6_turn 3 (some .int) ∈ wsL_law := iL_15 _ (List.mem_of_getElem? (i := 2) rfl)
theorem q_15_3 : Cond.fieldLink RX6 110 "SluiceTurns$Terrace" "turns" "LSluiceTurns$Turns;" ∈ wsL_law := iL_15 _ (List.mem_of_getElem? (i := 3) rfl)
theorem q_15_4 : Cond.fieldLink RX6 114 "SluiceTurns$Turns" "size" "I" ∈ wsL_law := iL_15 _ (List.mem_of_getElem? (i := 4) rfl)
theorem q_15_5 : Cond.methodLink RX6 107 yX0_areGates ∈ wsL_law := iL_15 _ (List.mem_of_getElem? (i := 5) rfl)
theorem q_15_6 : Cond.instanceMethod yX0_areGates ∈ wsL_law := iL_15 _ (List.mem_of_getElem? (i := 6) rfl)
theorem q_15_7 : Cond.selects RX0 yX0_areGates yX0_areGates ∈ wsL_law := iL_15 _ (List.mem_of_getElem? (i := 7) rfl)
theorem q_15_8 : Cond.code yX0_areGates cX0_areGates 2 (some .boolean) ∈ wsL_law := iL_15 _ (List.mem_of_getElem? (i := 8) rfl)
theorem q_15_9 : Cond.methodLink RX0 49 yX0_allGates ∈ wsL_law := iL_15 _ (List.mem_of_getElem? (i := 9) rfl)
theorem q_15_10 : Cond.instanceMethod yX0_allGates ∈ wsL_law := iL_15 _ (List.mem_of_getElem? (i := 10) rfl)
theorem q_15_11 : Cond.selects RX0 yX0_allGates yX0_allGates ∈ wsL_law := iL_15 _ (List.mem_of_getElem? (i := 11) rfl)
theorem q_15_12 : Cond.code yX0_allGates cX0_allGates 1 (some .int) ∈ wsL_law := iL_15 _ (List.mem_of_getElem? (i := 12) rfl)
theorem q_15_13 : Cond.methodLink RX6 117 yX5_add ∈ wsL_law := iL_15 _ (List.mem_of_getElem? (i := 13) rfl)
theorem q_15_14 : Cond.instanceMethod yX5_add ∈ wsL_law := iL_15 _ (List.mem_of_getElem? (i := 14) rfl)
theorem q_15_15 : Cond.selects RX5 yX5_add yX5_add ∈ wsL_law := iL_15 _ (List.mem_of_getElem? (i := 15) rfl)
theorem q_15_16 : Cond.code yX5_add cX5_add 3 (some .int) ∈ wsL_law := iL_15 _ (List.mem_of_getElem? (i := 16) rfl)
theorem q_15_17 : Cond.methodLink RX5 34 yX5_beginAgain ∈ wsL_law := iL_15 _ (List.mem_of_getElem? (i := 17) rfl)
theorem q_15_18 : Cond.instanceMethod yX5_beginAgain ∈ wsL_law := iL_15 _ (List.mem_of_getElem? (i := 18) rfl)
theorem q_15_19 : Cond.selects RX5 yX5_beginAgain yX5_beginAgain ∈ wsL_law := iL_15 _ (List.mem_of_getElem? (i := 19) rfl)
theorem q_15_20 : Cond.code yX5_beginAgain cX5_beginAgain 1 none ∈ wsL_law := iL_15 _ (List.mem_of_getElem? (i := 20) rfl)
theorem q_15_21 : Cond.methodLink RL 47 yX7_turn ∈ wsL_law := iL_15 _ (List.mem_of_getElem? (i := 21) rfl)
theorem q_15_22 : Cond.instanceMethod yX7_turn ∈ wsL_law := iL_15 _ (List.mem_of_getElem? (i := 22) rfl)
theorem q_15_23 : Cond.selects RX7 yX7_turn yX7_turn ∈ wsL_law := iL_15 _ (List.mem_of_getElem? (i := 23) rfl)
theorem q_16_0 : Cond.code yX7_turn cX7_turn 3 (some .int) ∈ wsL_law := iL_16 _ (List.mem_of_getElem? (i := 0) rfl)
theorem q_16_1 : Cond.methodLink RX7 86 yX7_areGates ∈ wsL_law := iL_16 _ (List.mem_of_getElem? (i := 1) rfl)
theorem q_16_2 : Cond.instanceMethod yX7_areGates ∈ wsL_law := iL_16 _ (List.mem_of_getElem? (i := 2) rfl)
theorem q_16_3 : Cond.selects RX7 yX7_areGates yX7_areGates ∈ wsL_law := iL_16 _ (List.mem_of_getElem? (i := 3) rfl)
theorem q_16_4 : Cond.code yX7_areGates cX7_areGates 2 (some .boolean) ∈ wsL_law := iL_16 _ (List.mem_of_getElem? (i := 4) rfl)
theorem q_16_5 : Cond.methodLink RL 48 yX6_noTurns ∈ wsL_law := iL_16 _ (List.mem_of_getElem? (i := 5) rfl)
theorem q_16_6 : Cond.instanceMethod yX6_noTurns ∈ wsL_law := iL_16 _ (List.mem_of_getElem? (i := 6) rfl)
theorem q_16_7 : Cond.selects RX6 yX6_noTurns yX6_noTurns ∈ wsL_law := iL_16 _ (List.mem_of_getElem? (i := 7) rfl)
theorem q_16_8 : Cond.code yX6_noTurns cX6_noTurns 1 (some .int) ∈ wsL_law := iL_16 _ (List.mem_of_getElem? (i := 8) rfl)
theorem q_16_9 : Cond.methodLink RX6 120 yX5_removeAll ∈ wsL_law := iL_16 _ (List.mem_of_getElem? (i := 9) rfl)
theorem q_16_10 : Cond.instanceMethod yX5_removeAll ∈ wsL_law := iL_16 _ (List.mem_of_getElem? (i := 10) rfl)
theorem q_16_11 : Cond.selects RX5 yX5_removeAll yX5_removeAll ∈ wsL_law := iL_16 _ (List.mem_of_getElem? (i := 11) rfl)
theorem q_16_12 : Cond.code yX5_removeAll cX5_removeAll 2 (some .int) ∈ wsL_law := iL_16 _ (List.mem_of_getElem? (i := 12) rfl)
theorem q_16_13 : Cond.methodLink RL 52 yX7_noTurns ∈ wsL_law := iL_16 _ (List.mem_of_getElem? (i := 13) rfl)
theorem q_16_14 : Cond.instanceMethod yX7_noTurns ∈ wsL_law := iL_16 _ (List.mem_of_getElem? (i := 14) rfl)
theorem q_16_15 : Cond.selects RX7 yX7_noTurns yX7_noTurns ∈ wsL_law := iL_16 _ (List.mem_of_getElem? (i := 15) rfl)
theorem q_16_16 : Cond.code yX7_noTurns cX7_noTurns 2 (some .int) ∈ wsL_law := iL_16 _ (List.mem_of_getElem? (i := 16) rfl)
theorem q_16_17 : Cond.methodLink RL 53 yX6_hour ∈ wsL_law := iL_16 _ (List.mem_of_getElem? (i := 17) rfl)
theorem q_16_18 : Cond.instanceMethod yX6_hour ∈ wsL_law := iL_16 _ (List.mem_of_getElem? (i := 18) rfl)
theorem q_16_19 : Cond.selects RX6 yX6_hour yX6_hour ∈ wsL_law := iL_16 _ (List.mem_of_getElem? (i := 19) rfl)
theorem q_16_20 : Cond.code yX6_hour cX6_hour 2 (some .int) ∈ wsL_law := iL_16 _ (List.mem_of_getElem? (i := 20) rfl)
theorem q_16_21 : Cond.methodLink RX6 124 yX4_hasHoursLeft ∈ wsL_law := iL_16 _ (List.mem_of_getElem? (i := 21) rfl)
theorem q_16_22 : Cond.instanceMethod yX4_hasHoursLeft ∈ wsL_law := iL_16 _ (List.mem_of_getElem? (i := 22) rfl)
theorem q_16_23 : Cond.selects RX4 yX4_hasHoursLeft yX4_hasHoursLeft ∈ wsL_law := iL_16 _ (List.mem_of_getElem? (i := 23) rfl)
theorem q_17_0 : Cond.code yX4_hasHoursLeft cX4_hasHoursLeft 2 (some .boolean) ∈ wsL_law := iL_17 _ (List.mem_of_getElem? (i := 0) rfl)
theorem q_17_1 : Cond.methodLink RX6 127 yX4_passHour ∈ wsL_law := iL_17 _ (List.mem_of_getElem? (i := 1) rfl)
theorem q_17_2 : Cond.instanceMethod yX4_passHour ∈ wsL_law := iL_17 _ (List.mem_of_getElem? (i := 2) rfl)
theorem q_17_3 : Cond.selects RX4 yX4_passHour yX4_passHour ∈ wsL_law := iL_17 _ (List.mem_of_getElem? (i := 3) rfl)
theorem q_17_4 : Cond.code yX4_passHour cX4_passHour 5 (some .int) ∈ wsL_law := iL_17 _ (List.mem_of_getElem? (i := 4) rfl)
theorem q_17_5 : Cond.fieldLink RX4 84 "SluiceTurns$Canals" "came" "[I" ∈ wsL_law := iL_17 _ (List.mem_of_getElem? (i := 5) rfl)
theorem q_17_6 : Cond.fieldLink RX4 93 "SluiceTurns$Canals" "width" "[I" ∈ wsL_law := iL_17 _ (List.mem_of_getElem? (i := 6) rfl)
theorem q_17_7 : Cond.methodLink RX4 96 Lib.Math.min.name ∈ wsL_law := iL_17 _ (List.mem_of_getElem? (i := 7) rfl)
theorem q_17_8 : Cond.static Lib.Math.min.name ∈ wsL_law := iL_17 _ (List.mem_of_getElem? (i := 8) rfl)
theorem q_17_9 : Cond.initialized "java/lang/Math" ∈ wsL_law := iL_17 _ (List.mem_of_getElem? (i := 9) rfl)
theorem q_17_10 : Cond.code Lib.Math.min.name Lib.Math.min.code 2 (some .int) ∈ wsL_law := iL_17 _ (List.mem_of_getElem? (i := 10) rfl)
theorem q_17_11 : Cond.fieldLink RX4 102 "SluiceTurns$Canals" "size" "I" ∈ wsL_law := iL_17 _ (List.mem_of_getElem? (i := 11) rfl)
theorem q_17_12 : Cond.fieldLink RX4 114 "SluiceTurns$Canals" "ranOff" "[I" ∈ wsL_law := iL_17 _ (List.mem_of_getElem? (i := 12) rfl)
theorem q_17_13 : Cond.methodLink RX4 78 yX4_findCallsBelow ∈ wsL_law := iL_17 _ (List.mem_of_getElem? (i := 13) rfl)
theorem q_17_14 : Cond.instanceMethod yX4_findCallsBelow ∈ wsL_law := iL_17 _ (List.mem_of_getElem? (i := 14) rfl)
theorem q_17_15 : Cond.selects RX4 yX4_findCallsBelow yX4_findCallsBelow ∈ wsL_law := iL_17 _ (List.mem_of_getElem? (i := 15) rfl)
theorem q_17_16 : Cond.code yX4_findCallsBelow cX4_findCallsBelow 3 none ∈ wsL_law := iL_17 _ (List.mem_of_getElem? (i := 16) rfl)
theorem q_17_17 : Cond.fieldLink RX4 119 "SluiceTurns$Fields" "size" "I" ∈ wsL_law := iL_17 _ (List.mem_of_getElem? (i := 17) rfl)
theorem q_17_18 : Cond.fieldLink RX4 124 "SluiceTurns$Fields" "canal" "[I" ∈ wsL_law := iL_17 _ (List.mem_of_getElem? (i := 18) rfl)
theorem q_17_19 : Cond.fieldLink RX4 127 "SluiceTurns$Fields" "right" "[I" ∈ wsL_law := iL_17 _ (List.mem_of_getElem? (i := 19) rfl)
theorem q_17_20 : Cond.fieldLink RX4 133 "SluiceTurns$Canals" "parent" "[I" ∈ wsL_law := iL_17 _ (List.mem_of_getElem? (i := 20) rfl)
theorem q_17_21 : Cond.methodLink RX4 87 yJ7_fill_53178 ∈ wsL_law := iL_17 _ (List.mem_of_getElem? (i := 21) rfl)
theorem q_17_22 : Cond.static yJ7_fill_53178 ∈ wsL_law := iL_17 _ (List.mem_of_getElem? (i := 22) rfl)
theorem q_17_23 : Cond.initialized RJ7 ∈ wsL_law := iL_17 _ (List.mem_of_getElem? (i := 23) rfl)
theorem q_18_0 : Cond.code yJ7_fill_53178 cJ7_fill_53178 4 none ∈ wsL_law := iL_18 _ (List.mem_of_getElem? (i := 0) rfl)
theorem q_18_1 : Cond.methodLink RX4 120 yX1_calls ∈ wsL_law := iL_18 _ (List.mem_of_getElem? (i := 1) rfl)
theorem q_18_2 : Cond.methodLink RX4 130 yX0_isOpen ∈ wsL_law := iL_18 _ (List.mem_of_getElem? (i := 2) rfl)
theorem q_18_3 : Cond.methodLink RX4 81 yX4_findPassingGates ∈ wsL_law := iL_18 _ (List.mem_of_getElem? (i := 3) rfl)
theorem q_18_4 : Cond.instanceMethod yX4_findPassingGates ∈ wsL_law := iL_18 _ (List.mem_of_getElem? (i := 4) rfl)
theorem q_18_5 : Cond.selects RX4 yX4_findPassingGates yX4_findPassingGates ∈ wsL_law := iL_18 _ (List.mem_of_getElem? (i := 5) rfl)
theorem q_18_6 : Cond.code yX4_findPassingGates cX4_findPassingGates 4 none ∈ wsL_law := iL_18 _ (List.mem_of_getElem? (i := 6) rfl)
theorem q_18_7 : Cond.fieldLink RX4 139 "SluiceTurns$Terrace" "passing" "I" ∈ wsL_law := iL_18 _ (List.mem_of_getElem? (i := 7) rfl)
theorem q_18_8 : Cond.fieldLink RX4 142 "SluiceTurns$Canals" "kind" "[I" ∈ wsL_law := iL_18 _ (List.mem_of_getElem? (i := 8) rfl)
theorem q_18_9 : Cond.methodLink RX4 136 yX1_wants ∈ wsL_law := iL_18 _ (List.mem_of_getElem? (i := 9) rfl)
theorem q_18_10 : Cond.methodLink RX4 105 yX4_seepAway ∈ wsL_law := iL_18 _ (List.mem_of_getElem? (i := 10) rfl)
theorem q_18_11 : Cond.instanceMethod yX4_seepAway ∈ wsL_law := iL_18 _ (List.mem_of_getElem? (i := 11) rfl)
theorem q_18_12 : Cond.selects RX4 yX4_seepAway yX4_seepAway ∈ wsL_law := iL_18 _ (List.mem_of_getElem? (i := 12) rfl)
theorem q_18_13 : Cond.code yX4_seepAway cX4_seepAway 4 (some .int) ∈ wsL_law := iL_18 _ (List.mem_of_getElem? (i := 13) rfl)
theorem q_18_14 : Cond.fieldLink RX4 145 "SluiceTurns$Canals" "seepage" "[I" ∈ wsL_law := iL_18 _ (List.mem_of_getElem? (i := 14) rfl)
theorem q_18_15 : Cond.fieldLink RX4 148 "SluiceTurns$Canals" "seeped" "[I" ∈ wsL_law := iL_18 _ (List.mem_of_getElem? (i := 15) rfl)
theorem q_18_16 : Cond.methodLink RX4 108 yX4_giveToFields ∈ wsL_law := iL_18 _ (List.mem_of_getElem? (i := 16) rfl)
theorem q_18_17 : Cond.instanceMethod yX4_giveToFields ∈ wsL_law := iL_18 _ (List.mem_of_getElem? (i := 17) rfl)
theorem q_18_18 : Cond.selects RX4 yX4_giveToFields yX4_giveToFields ∈ wsL_law := iL_18 _ (List.mem_of_getElem? (i := 18) rfl)
theorem q_18_19 : Cond.code yX4_giveToFields cX4_giveToFields 6 (some .int) ∈ wsL_law := iL_18 _ (List.mem_of_getElem? (i := 19) rfl)
theorem q_18_20 : Cond.fieldLink RX4 150 "SluiceTurns$Fields" "byRight" "[I" ∈ wsL_law := iL_18 _ (List.mem_of_getElem? (i := 20) rfl)
theorem q_18_21 : Cond.methodLink RX4 153 yX4_mayTake ∈ wsL_law := iL_18 _ (List.mem_of_getElem? (i := 21) rfl)
theorem q_18_22 : Cond.instanceMethod yX4_mayTake ∈ wsL_law := iL_18 _ (List.mem_of_getElem? (i := 22) rfl)
theorem q_18_23 : Cond.selects RX4 yX4_mayTake yX4_mayTake ∈ wsL_law := iL_18 _ (List.mem_of_getElem? (i := 23) rfl)
theorem q_19_0 : Cond.code yX4_mayTake cX4_mayTake 2 (some .boolean) ∈ wsL_law := iL_19 _ (List.mem_of_getElem? (i := 0) rfl)
theorem q_19_1 : Cond.methodLink RX4 156 yX1_give ∈ wsL_law := iL_19 _ (List.mem_of_getElem? (i := 1) rfl)
theorem q_19_2 : Cond.instanceMethod yX1_give ∈ wsL_law := iL_19 _ (List.mem_of_getElem? (i := 2) rfl)
theorem q_19_3 : Cond.selects RX1 yX1_give yX1_give ∈ wsL_law := iL_19 _ (List.mem_of_getElem? (i := 3) rfl)
theorem q_19_4 : Cond.code yX1_give cX1_give 5 (some .int) ∈ wsL_law := iL_19 _ (List.mem_of_getElem? (i := 4) rfl)
theorem q_19_5 : Cond.methodLink RX1 59 Lib.Math.min.name ∈ wsL_law := iL_19 _ (List.mem_of_getElem? (i := 5) rfl)
theorem q_19_6 : Cond.methodLink RX4 111 yX4_partAmongGates ∈ wsL_law := iL_19 _ (List.mem_of_getElem? (i := 6) rfl)
theorem q_19_7 : Cond.instanceMethod yX4_partAmongGates ∈ wsL_law := iL_19 _ (List.mem_of_getElem? (i := 7) rfl)
theorem q_19_8 : Cond.selects RX4 yX4_partAmongGates yX4_partAmongGates ∈ wsL_law := iL_19 _ (List.mem_of_getElem? (i := 8) rfl)
theorem q_19_9 : Cond.code yX4_partAmongGates cX4_partAmongGates 8 (some .int) ∈ wsL_law := iL_19 _ (List.mem_of_getElem? (i := 9) rfl)
theorem q_19_10 : Cond.methodLink RX4 160 yX4_isPassingFrom ∈ wsL_law := iL_19 _ (List.mem_of_getElem? (i := 10) rfl)
theorem q_19_11 : Cond.instanceMethod yX4_isPassingFrom ∈ wsL_law := iL_19 _ (List.mem_of_getElem? (i := 11) rfl)
theorem q_19_12 : Cond.selects RX4 yX4_isPassingFrom yX4_isPassingFrom ∈ wsL_law := iL_19 _ (List.mem_of_getElem? (i := 12) rfl)
theorem q_19_13 : Cond.code yX4_isPassingFrom cX4_isPassingFrom 3 (some .boolean) ∈ wsL_law := iL_19 _ (List.mem_of_getElem? (i := 13) rfl)
theorem q_19_14 : Cond.methodLink RX4 164 yX4_throughGate ∈ wsL_law := iL_19 _ (List.mem_of_getElem? (i := 14) rfl)
theorem q_19_15 : Cond.instanceMethod yX4_throughGate ∈ wsL_law := iL_19 _ (List.mem_of_getElem? (i := 15) rfl)
theorem q_19_16 : Cond.selects RX4 yX4_throughGate yX4_throughGate ∈ wsL_law := iL_19 _ (List.mem_of_getElem? (i := 16) rfl)
theorem q_19_17 : Cond.code yX4_throughGate cX4_throughGate 4 (some .int) ∈ wsL_law := iL_19 _ (List.mem_of_getElem? (i := 17) rfl)
theorem q_19_18 : Cond.methodLink RX4 116 yX4_endCalls ∈ wsL_law := iL_19 _ (List.mem_of_getElem? (i := 18) rfl)
theorem q_19_19 : Cond.instanceMethod yX4_endCalls ∈ wsL_law := iL_19 _ (List.mem_of_getElem? (i := 19) rfl)
theorem q_19_20 : Cond.selects RX4 yX4_endCalls yX4_endCalls ∈ wsL_law := iL_19 _ (List.mem_of_getElem? (i := 20) rfl)
theorem q_19_21 : Cond.code yX4_endCalls cX4_endCalls 1 none ∈ wsL_law := iL_19 _ (List.mem_of_getElem? (i := 21) rfl)
theorem q_19_22 : Cond.fieldLink RX4 167 "SluiceTurns$Fields" "calling" "I" ∈ wsL_law := iL_19 _ (List.mem_of_getElem? (i := 22) rfl)
theorem q_19_23 : Cond.methodLink RX4 170 yX1_wanting ∈ wsL_law := iL_19 _ (List.mem_of_getElem? (i := 23) rfl)
theorem q_20_0 : Cond.instanceMethod yX1_wanting ∈ wsL_law := iL_20 _ (List.mem_of_getElem? (i := 0) rfl)
theorem q_20_1 : Cond.selects RX1 yX1_wanting yX1_wanting ∈ wsL_law := iL_20 _ (List.mem_of_getElem? (i := 1) rfl)
theorem q_20_2 : Cond.code yX1_wanting cX1_wanting 3 (some .int) ∈ wsL_law := iL_20 _ (List.mem_of_getElem? (i := 2) rfl)
theorem q_20_3 : Cond.methodLink RL 56 yX7_hour ∈ wsL_law := iL_20 _ (List.mem_of_getElem? (i := 3) rfl)
theorem q_20_4 : Cond.instanceMethod yX7_hour ∈ wsL_law := iL_20 _ (List.mem_of_getElem? (i := 4) rfl)
theorem q_20_5 : Cond.selects RX7 yX7_hour yX7_hour ∈ wsL_law := iL_20 _ (List.mem_of_getElem? (i := 5) rfl)
theorem q_20_6 : Cond.code yX7_hour cX7_hour 2 (some .int) ∈ wsL_law := iL_20 _ (List.mem_of_getElem? (i := 6) rfl)
theorem q_20_7 : Cond.methodLink RX7 115 yX7_goes ∈ wsL_law := iL_20 _ (List.mem_of_getElem? (i := 7) rfl)
theorem q_20_8 : Cond.instanceMethod yX7_goes ∈ wsL_law := iL_20 _ (List.mem_of_getElem? (i := 8) rfl)
theorem q_20_9 : Cond.selects RX7 yX7_goes yX7_goes ∈ wsL_law := iL_20 _ (List.mem_of_getElem? (i := 9) rfl)
theorem q_20_10 : Cond.code yX7_goes cX7_goes 2 (some .int) ∈ wsL_law := iL_20 _ (List.mem_of_getElem? (i := 10) rfl)
theorem q_20_11 : Cond.methodLink RX7 112 yX7_flows ∈ wsL_law := iL_20 _ (List.mem_of_getElem? (i := 11) rfl)
theorem q_20_12 : Cond.instanceMethod yX7_flows ∈ wsL_law := iL_20 _ (List.mem_of_getElem? (i := 12) rfl)
theorem q_20_13 : Cond.selects RX7 yX7_flows yX7_flows ∈ wsL_law := iL_20 _ (List.mem_of_getElem? (i := 13) rfl)
theorem q_20_14 : Cond.code yX7_flows cX7_flows 8 (some .int) ∈ wsL_law := iL_20 _ (List.mem_of_getElem? (i := 14) rfl)
theorem q_20_15 : Cond.methodLink RX7 106 yX7_serves ∈ wsL_law := iL_20 _ (List.mem_of_getElem? (i := 15) rfl)
theorem q_20_16 : Cond.instanceMethod yX7_serves ∈ wsL_law := iL_20 _ (List.mem_of_getElem? (i := 16) rfl)
theorem q_20_17 : Cond.selects RX7 yX7_serves yX7_serves ∈ wsL_law := iL_20 _ (List.mem_of_getElem? (i := 17) rfl)
theorem q_20_18 : Cond.code yX7_serves cX7_serves 7 (some .int) ∈ wsL_law := iL_20 _ (List.mem_of_getElem? (i := 18) rfl)
theorem q_20_19 : Cond.methodLink RX7 93 yX7_mayTake ∈ wsL_law := iL_20 _ (List.mem_of_getElem? (i := 19) rfl)
theorem q_20_20 : Cond.instanceMethod yX7_mayTake ∈ wsL_law := iL_20 _ (List.mem_of_getElem? (i := 20) rfl)
theorem q_20_21 : Cond.selects RX7 yX7_mayTake yX7_mayTake ∈ wsL_law := iL_20 _ (List.mem_of_getElem? (i := 21) rfl)
theorem q_20_22 : Cond.code yX7_mayTake cX7_mayTake 4 (some .boolean) ∈ wsL_law := iL_20 _ (List.mem_of_getElem? (i := 22) rfl)
theorem q_20_23 : Cond.methodLink RX7 89 yX7_isBelow ∈ wsL_law := iL_20 _ (List.mem_of_getElem? (i := 23) rfl)
theorem q_21_0 : Cond.instanceMethod yX7_isBelow ∈ wsL_law := iL_21 _ (List.mem_of_getElem? (i := 0) rfl)
theorem q_21_1 : Cond.selects RX7 yX7_isBelow yX7_isBelow ∈ wsL_law := iL_21 _ (List.mem_of_getElem? (i := 1) rfl)
theorem q_21_2 : Cond.code yX7_isBelow cX7_isBelow 5 (some .boolean) ∈ wsL_law := iL_21 _ (List.mem_of_getElem? (i := 2) rfl)
theorem q_21_3 : Cond.methodLink RX7 96 yX7_next ∈ wsL_law := iL_21 _ (List.mem_of_getElem? (i := 3) rfl)
theorem q_21_4 : Cond.instanceMethod yX7_next ∈ wsL_law := iL_21 _ (List.mem_of_getElem? (i := 4) rfl)
theorem q_21_5 : Cond.selects RX7 yX7_next yX7_next ∈ wsL_law := iL_21 _ (List.mem_of_getElem? (i := 5) rfl)
theorem q_21_6 : Cond.code yX7_next cX7_next 5 (some .int) ∈ wsL_law := iL_21 _ (List.mem_of_getElem? (i := 6) rfl)
theorem q_21_7 : Cond.methodLink RX7 109 yX7_parts ∈ wsL_law := iL_21 _ (List.mem_of_getElem? (i := 7) rfl)
theorem q_21_8 : Cond.instanceMethod yX7_parts ∈ wsL_law := iL_21 _ (List.mem_of_getElem? (i := 8) rfl)
theorem q_21_9 : Cond.selects RX7 yX7_parts yX7_parts ∈ wsL_law := iL_21 _ (List.mem_of_getElem? (i := 9) rfl)
theorem q_21_10 : Cond.code yX7_parts cX7_parts 8 (some .int) ∈ wsL_law := iL_21 _ (List.mem_of_getElem? (i := 10) rfl)
theorem q_21_11 : Cond.methodLink RX7 102 yX7_lets ∈ wsL_law := iL_21 _ (List.mem_of_getElem? (i := 11) rfl)
theorem q_21_12 : Cond.instanceMethod yX7_lets ∈ wsL_law := iL_21 _ (List.mem_of_getElem? (i := 12) rfl)
theorem q_21_13 : Cond.selects RX7 yX7_lets yX7_lets ∈ wsL_law := iL_21 _ (List.mem_of_getElem? (i := 13) rfl)
theorem q_21_14 : Cond.code yX7_lets cX7_lets 3 (some .boolean) ∈ wsL_law := iL_21 _ (List.mem_of_getElem? (i := 14) rfl)
theorem q_21_15 : Cond.methodLink RX7 99 yX7_isWanted ∈ wsL_law := iL_21 _ (List.mem_of_getElem? (i := 15) rfl)
theorem q_21_16 : Cond.instanceMethod yX7_isWanted ∈ wsL_law := iL_21 _ (List.mem_of_getElem? (i := 16) rfl)
theorem q_21_17 : Cond.selects RX7 yX7_isWanted yX7_isWanted ∈ wsL_law := iL_21 _ (List.mem_of_getElem? (i := 17) rfl)
theorem q_21_18 : Cond.code yX7_isWanted cX7_isWanted 4 (some .boolean) ∈ wsL_law := iL_21 _ (List.mem_of_getElem? (i := 18) rfl)
theorem q_21_19 : Cond.methodLink RL 57 yX6_run ∈ wsL_law := iL_21 _ (List.mem_of_getElem? (i := 19) rfl)
theorem q_21_20 : Cond.instanceMethod yX6_run ∈ wsL_law := iL_21 _ (List.mem_of_getElem? (i := 20) rfl)
theorem q_21_21 : Cond.selects RX6 yX6_run yX6_run ∈ wsL_law := iL_21 _ (List.mem_of_getElem? (i := 21) rfl)
theorem q_21_22 : Cond.code yX6_run cX6_run 3 (some .int) ∈ wsL_law := iL_21 _ (List.mem_of_getElem? (i := 22) rfl)
theorem q_21_23 : Cond.methodLink RX6 130 yX4_runHours ∈ wsL_law := iL_21 _ (List.mem_of_getElem? (i := 23) rfl)
theorem q_22_0 : Cond.instanceMethod yX4_runHours ∈ wsL_law := iL_22 _ (List.mem_of_getElem? (i := 0) rfl)
theorem q_22_1 : Cond.selects RX4 yX4_runHours yX4_runHours ∈ wsL_law := iL_22 _ (List.mem_of_getElem? (i := 1) rfl)
theorem q_22_2 : Cond.code yX4_runHours cX4_runHours 5 (some .int) ∈ wsL_law := iL_22 _ (List.mem_of_getElem? (i := 2) rfl)
theorem q_22_3 : Cond.fieldLink RX4 65 "SluiceTurns$Canals" "open" "I" ∈ wsL_law := iL_22 _ (List.mem_of_getElem? (i := 3) rfl)
theorem q_22_4 : Cond.methodLink RX4 68 yX5_gatesFor ∈ wsL_law := iL_22 _ (List.mem_of_getElem? (i := 4) rfl)
theorem q_22_5 : Cond.instanceMethod yX5_gatesFor ∈ wsL_law := iL_22 _ (List.mem_of_getElem? (i := 5) rfl)
theorem q_22_6 : Cond.selects RX5 yX5_gatesFor yX5_gatesFor ∈ wsL_law := iL_22 _ (List.mem_of_getElem? (i := 6) rfl)
theorem q_22_7 : Cond.code yX5_gatesFor cX5_gatesFor 2 (some .int) ∈ wsL_law := iL_22 _ (List.mem_of_getElem? (i := 7) rfl)
theorem q_22_8 : Cond.methodLink RX4 72 yX4_passHour ∈ wsL_law := iL_22 _ (List.mem_of_getElem? (i := 8) rfl)
theorem q_22_9 : Cond.methodLink RX4 75 yX5_goOn ∈ wsL_law := iL_22 _ (List.mem_of_getElem? (i := 9) rfl)
theorem q_22_10 : Cond.instanceMethod yX5_goOn ∈ wsL_law := iL_22 _ (List.mem_of_getElem? (i := 10) rfl)
theorem q_22_11 : Cond.selects RX5 yX5_goOn yX5_goOn ∈ wsL_law := iL_22 _ (List.mem_of_getElem? (i := 11) rfl)
theorem q_22_12 : Cond.code yX5_goOn cX5_goOn 1 none ∈ wsL_law := iL_22 _ (List.mem_of_getElem? (i := 12) rfl)
theorem q_22_13 : Cond.methodLink RL 60 yX7_run ∈ wsL_law := iL_22 _ (List.mem_of_getElem? (i := 13) rfl)
theorem q_22_14 : Cond.instanceMethod yX7_run ∈ wsL_law := iL_22 _ (List.mem_of_getElem? (i := 14) rfl)
theorem q_22_15 : Cond.selects RX7 yX7_run yX7_run ∈ wsL_law := iL_22 _ (List.mem_of_getElem? (i := 15) rfl)
theorem q_22_16 : Cond.code yX7_run cX7_run 3 (some .int) ∈ wsL_law := iL_22 _ (List.mem_of_getElem? (i := 16) rfl)
theorem q_22_17 : Cond.methodLink RX7 125 yX7_runs ∈ wsL_law := iL_22 _ (List.mem_of_getElem? (i := 17) rfl)
theorem q_22_18 : Cond.instanceMethod yX7_runs ∈ wsL_law := iL_22 _ (List.mem_of_getElem? (i := 18) rfl)
theorem q_22_19 : Cond.selects RX7 yX7_runs yX7_runs ∈ wsL_law := iL_22 _ (List.mem_of_getElem? (i := 19) rfl)
theorem q_22_20 : Cond.code yX7_runs cX7_runs 6 (some .int) ∈ wsL_law := iL_22 _ (List.mem_of_getElem? (i := 20) rfl)
theorem q_22_21 : Cond.methodLink RX7 122 yX7_runsOne ∈ wsL_law := iL_22 _ (List.mem_of_getElem? (i := 21) rfl)
theorem q_22_22 : Cond.instanceMethod yX7_runsOne ∈ wsL_law := iL_22 _ (List.mem_of_getElem? (i := 22) rfl)
theorem q_22_23 : Cond.selects RX7 yX7_runsOne yX7_runsOne ∈ wsL_law := iL_22 _ (List.mem_of_getElem? (i := 23) rfl)
theorem q_23_0 : Cond.code yX7_runsOne cX7_runsOne 3 (some .int) ∈ wsL_law := iL_23 _ (List.mem_of_getElem? (i := 0) rfl)
theorem q_23_1 : Cond.methodLink RX7 118 yX7_sets ∈ wsL_law := iL_23 _ (List.mem_of_getElem? (i := 1) rfl)
theorem q_23_2 : Cond.instanceMethod yX7_sets ∈ wsL_law := iL_23 _ (List.mem_of_getElem? (i := 2) rfl)
theorem q_23_3 : Cond.selects RX7 yX7_sets yX7_sets ∈ wsL_law := iL_23 _ (List.mem_of_getElem? (i := 3) rfl)
theorem q_23_4 : Cond.code yX7_sets cX7_sets 3 none ∈ wsL_law := iL_23 _ (List.mem_of_getElem? (i := 4) rfl)
theorem q_23_5 : Cond.methodLink RL 61 yX6_canalOf ∈ wsL_law := iL_23 _ (List.mem_of_getElem? (i := 5) rfl)
theorem q_23_6 : Cond.instanceMethod yX6_canalOf ∈ wsL_law := iL_23 _ (List.mem_of_getElem? (i := 6) rfl)
theorem q_23_7 : Cond.selects RX6 yX6_canalOf yX6_canalOf ∈ wsL_law := iL_23 _ (List.mem_of_getElem? (i := 7) rfl)
theorem q_23_8 : Cond.code yX6_canalOf cX6_canalOf 4 (some .int) ∈ wsL_law := iL_23 _ (List.mem_of_getElem? (i := 8) rfl)
theorem q_23_9 : Cond.constant RX6 133 (-1000004) ∈ wsL_law := iL_23 _ (List.mem_of_getElem? (i := 9) rfl)
theorem q_23_10 : Cond.fieldLink RX6 134 "SluiceTurns$Canals" "parent" "[I" ∈ wsL_law := iL_23 _ (List.mem_of_getElem? (i := 10) rfl)
theorem q_23_11 : Cond.fieldLink RX6 137 "SluiceTurns$Canals" "width" "[I" ∈ wsL_law := iL_23 _ (List.mem_of_getElem? (i := 11) rfl)
theorem q_23_12 : Cond.fieldLink RX6 140 "SluiceTurns$Canals" "seepage" "[I" ∈ wsL_law := iL_23 _ (List.mem_of_getElem? (i := 12) rfl)
theorem q_23_13 : Cond.fieldLink RX6 153 "SluiceTurns$Canals" "came" "[I" ∈ wsL_law := iL_23 _ (List.mem_of_getElem? (i := 13) rfl)
theorem q_23_14 : Cond.fieldLink RX6 156 "SluiceTurns$Canals" "seeped" "[I" ∈ wsL_law := iL_23 _ (List.mem_of_getElem? (i := 14) rfl)
theorem q_23_15 : Cond.fieldLink RX6 159 "SluiceTurns$Canals" "ranOff" "[I" ∈ wsL_law := iL_23 _ (List.mem_of_getElem? (i := 15) rfl)
theorem q_23_16 : Cond.methodLink RX6 143 yX0_isOpen ∈ wsL_law := iL_23 _ (List.mem_of_getElem? (i := 16) rfl)
theorem q_23_17 : Cond.methodLink RX6 146 yX6_asNumber ∈ wsL_law := iL_23 _ (List.mem_of_getElem? (i := 17) rfl)
theorem q_23_18 : Cond.static yX6_asNumber ∈ wsL_law := iL_23 _ (List.mem_of_getElem? (i := 18) rfl)
theorem q_23_19 : Cond.code yX6_asNumber cX6_asNumber 1 (some .int) ∈ wsL_law := iL_23 _ (List.mem_of_getElem? (i := 19) rfl)
theorem q_23_20 : Cond.methodLink RX6 150 yX0_below ∈ wsL_law := iL_23 _ (List.mem_of_getElem? (i := 20) rfl)
theorem q_23_21 : Cond.instanceMethod yX0_below ∈ wsL_law := iL_23 _ (List.mem_of_getElem? (i := 21) rfl)
theorem q_23_22 : Cond.selects RX0 yX0_below yX0_below ∈ wsL_law := iL_23 _ (List.mem_of_getElem? (i := 22) rfl)
theorem q_23_23 : Cond.code yX0_below cX0_below 4 (some .int) ∈ wsL_law := iL_23 _ (List.mem_of_getElem? (i := 23) rfl)
theorem q_24_0 : Cond.methodLink RL 64 yX7_canalOf ∈ wsL_law := iL_24 _ (List.mem_of_getElem? (i := 0) rfl)
theorem q_24_1 : Cond.instanceMethod yX7_canalOf ∈ wsL_law := iL_24 _ (List.mem_of_getElem? (i := 1) rfl)
theorem q_24_2 : Cond.selects RX7 yX7_canalOf yX7_canalOf ∈ wsL_law := iL_24 _ (List.mem_of_getElem? (i := 2) rfl)
theorem q_24_3 : Cond.code yX7_canalOf cX7_canalOf 4 (some .int) ∈ wsL_law := iL_24 _ (List.mem_of_getElem? (i := 3) rfl)
theorem q_24_4 : Cond.constant RX7 129 (-1000004) ∈ wsL_law := iL_24 _ (List.mem_of_getElem? (i := 4) rfl)
theorem q_24_5 : Cond.methodLink RX7 130 yX7_below ∈ wsL_law := iL_24 _ (List.mem_of_getElem? (i := 5) rfl)
theorem q_24_6 : Cond.instanceMethod yX7_below ∈ wsL_law := iL_24 _ (List.mem_of_getElem? (i := 6) rfl)
theorem q_24_7 : Cond.selects RX7 yX7_below yX7_below ∈ wsL_law := iL_24 _ (List.mem_of_getElem? (i := 7) rfl)
theorem q_24_8 : Cond.code yX7_below cX7_below 4 (some .int) ∈ wsL_law := iL_24 _ (List.mem_of_getElem? (i := 8) rfl)
theorem q_24_9 : Cond.methodLink RL 65 yX6_fieldOf ∈ wsL_law := iL_24 _ (List.mem_of_getElem? (i := 9) rfl)
theorem q_24_10 : Cond.instanceMethod yX6_fieldOf ∈ wsL_law := iL_24 _ (List.mem_of_getElem? (i := 10) rfl)
theorem q_24_11 : Cond.selects RX6 yX6_fieldOf yX6_fieldOf ∈ wsL_law := iL_24 _ (List.mem_of_getElem? (i := 11) rfl)
theorem q_24_12 : Cond.code yX6_fieldOf cX6_fieldOf 4 (some .int) ∈ wsL_law := iL_24 _ (List.mem_of_getElem? (i := 12) rfl)
theorem q_24_13 : Cond.fieldLink RX6 162 "SluiceTurns$Fields" "canal" "[I" ∈ wsL_law := iL_24 _ (List.mem_of_getElem? (i := 13) rfl)
theorem q_24_14 : Cond.fieldLink RX6 165 "SluiceTurns$Fields" "need" "[I" ∈ wsL_law := iL_24 _ (List.mem_of_getElem? (i := 14) rfl)
theorem q_24_15 : Cond.fieldLink RX6 168 "SluiceTurns$Fields" "mouth" "[I" ∈ wsL_law := iL_24 _ (List.mem_of_getElem? (i := 15) rfl)
theorem q_24_16 : Cond.fieldLink RX6 171 "SluiceTurns$Fields" "right" "[I" ∈ wsL_law := iL_24 _ (List.mem_of_getElem? (i := 16) rfl)
theorem q_24_17 : Cond.fieldLink RX6 174 "SluiceTurns$Fields" "got" "[I" ∈ wsL_law := iL_24 _ (List.mem_of_getElem? (i := 17) rfl)
theorem q_24_18 : Cond.fieldLink RX6 189 "SluiceTurns$Fields" "hourOfNeed" "[I" ∈ wsL_law := iL_24 _ (List.mem_of_getElem? (i := 18) rfl)
theorem q_24_19 : Cond.methodLink RX6 177 yX1_calls ∈ wsL_law := iL_24 _ (List.mem_of_getElem? (i := 19) rfl)
theorem q_24_20 : Cond.methodLink RX6 180 yX4_findCallsBelow ∈ wsL_law := iL_24 _ (List.mem_of_getElem? (i := 20) rfl)
theorem q_24_21 : Cond.methodLink RX6 183 yX4_mayTake ∈ wsL_law := iL_24 _ (List.mem_of_getElem? (i := 21) rfl)
theorem q_24_22 : Cond.methodLink RX6 186 yX1_wants ∈ wsL_law := iL_24 _ (List.mem_of_getElem? (i := 22) rfl)
theorem q_24_23 : Cond.methodLink RL 68 yX7_fieldOf ∈ wsL_law := iL_24 _ (List.mem_of_getElem? (i := 23) rfl)
theorem q_25_0 : Cond.instanceMethod yX7_fieldOf ∈ wsL_law := iL_25 _ (List.mem_of_getElem? (i := 0) rfl)
theorem q_25_1 : Cond.selects RX7 yX7_fieldOf yX7_fieldOf ∈ wsL_law := iL_25 _ (List.mem_of_getElem? (i := 1) rfl)
theorem q_25_2 : Cond.code yX7_fieldOf cX7_fieldOf 3 (some .int) ∈ wsL_law := iL_25 _ (List.mem_of_getElem? (i := 2) rfl)
theorem q_25_3 : Cond.methodLink RL 69 yX6_turnOf ∈ wsL_law := iL_25 _ (List.mem_of_getElem? (i := 3) rfl)
theorem q_25_4 : Cond.instanceMethod yX6_turnOf ∈ wsL_law := iL_25 _ (List.mem_of_getElem? (i := 4) rfl)
theorem q_25_5 : Cond.selects RX6 yX6_turnOf yX6_turnOf ∈ wsL_law := iL_25 _ (List.mem_of_getElem? (i := 5) rfl)
theorem q_25_6 : Cond.code yX6_turnOf cX6_turnOf 3 (some .int) ∈ wsL_law := iL_25 _ (List.mem_of_getElem? (i := 6) rfl)
theorem q_25_7 : Cond.fieldLink RX6 193 "SluiceTurns$Turns" "gates" "[I" ∈ wsL_law := iL_25 _ (List.mem_of_getElem? (i := 7) rfl)
theorem q_25_8 : Cond.fieldLink RX6 196 "SluiceTurns$Turns" "hours" "[I" ∈ wsL_law := iL_25 _ (List.mem_of_getElem? (i := 8) rfl)
theorem q_25_9 : Cond.methodLink RX6 192 yX5_has ∈ wsL_law := iL_25 _ (List.mem_of_getElem? (i := 9) rfl)
theorem q_25_10 : Cond.instanceMethod yX5_has ∈ wsL_law := iL_25 _ (List.mem_of_getElem? (i := 10) rfl)
theorem q_25_11 : Cond.selects RX5 yX5_has yX5_has ∈ wsL_law := iL_25 _ (List.mem_of_getElem? (i := 11) rfl)
theorem q_25_12 : Cond.code yX5_has cX5_has 2 (some .boolean) ∈ wsL_law := iL_25 _ (List.mem_of_getElem? (i := 12) rfl)
theorem q_25_13 : Cond.methodLink RL 72 yX7_turnOf ∈ wsL_law := iL_25 _ (List.mem_of_getElem? (i := 13) rfl)
theorem q_25_14 : Cond.instanceMethod yX7_turnOf ∈ wsL_law := iL_25 _ (List.mem_of_getElem? (i := 14) rfl)
theorem q_25_15 : Cond.selects RX7 yX7_turnOf yX7_turnOf ∈ wsL_law := iL_25 _ (List.mem_of_getElem? (i := 15) rfl)
theorem q_25_16 : Cond.code yX7_turnOf cX7_turnOf 3 (some .int) ∈ wsL_law := iL_25 _ (List.mem_of_getElem? (i := 16) rfl)
theorem q_25_17 : Cond.methodLink RL 73 yX6_share ∈ wsL_law := iL_25 _ (List.mem_of_getElem? (i := 17) rfl)
theorem q_25_18 : Cond.instanceMethod yX6_share ∈ wsL_law := iL_25 _ (List.mem_of_getElem? (i := 18) rfl)
theorem q_25_19 : Cond.selects RX6 yX6_share yX6_share ∈ wsL_law := iL_25 _ (List.mem_of_getElem? (i := 19) rfl)
theorem q_25_20 : Cond.code yX6_share cX6_share 2 (some .int) ∈ wsL_law := iL_25 _ (List.mem_of_getElem? (i := 20) rfl)
theorem q_25_21 : Cond.fieldLink RX6 199 "SluiceTurns$Terrace" "letIn" "I" ∈ wsL_law := iL_25 _ (List.mem_of_getElem? (i := 21) rfl)
theorem q_25_22 : Cond.fieldLink RX6 202 "SluiceTurns$Terrace" "got" "I" ∈ wsL_law := iL_25 _ (List.mem_of_getElem? (i := 22) rfl)
theorem q_25_23 : Cond.fieldLink RX6 208 "SluiceTurns$Terrace" "seeped" "I" ∈ wsL_law := iL_25 _ (List.mem_of_getElem? (i := 23) rfl)
theorem q_26_0 : Cond.fieldLink RX6 210 "SluiceTurns$Terrace" "ranOff" "I" ∈ wsL_law := iL_26 _ (List.mem_of_getElem? (i := 0) rfl)
theorem q_26_1 : Cond.methodLink RX6 204 yX6_floatBits ∈ wsL_law := iL_26 _ (List.mem_of_getElem? (i := 1) rfl)
theorem q_26_2 : Cond.static yX6_floatBits ∈ wsL_law := iL_26 _ (List.mem_of_getElem? (i := 2) rfl)
theorem q_26_3 : Cond.code yX6_floatBits cX6_floatBits 10 (some .int) ∈ wsL_law := iL_26 _ (List.mem_of_getElem? (i := 3) rfl)
theorem q_26_4 : Cond.constantLong RX6 279 (2) ∈ wsL_law := iL_26 _ (List.mem_of_getElem? (i := 4) rfl)
theorem q_26_5 : Cond.constantLong RX6 281 (8388608) ∈ wsL_law := iL_26 _ (List.mem_of_getElem? (i := 5) rfl)
theorem q_26_6 : Cond.methodLink RL 76 yX7_share ∈ wsL_law := iL_26 _ (List.mem_of_getElem? (i := 6) rfl)
theorem q_26_7 : Cond.instanceMethod yX7_share ∈ wsL_law := iL_26 _ (List.mem_of_getElem? (i := 7) rfl)
theorem q_26_8 : Cond.selects RX7 yX7_share yX7_share ∈ wsL_law := iL_26 _ (List.mem_of_getElem? (i := 8) rfl)
theorem q_26_9 : Cond.code yX7_share cX7_share 2 (some .int) ∈ wsL_law := iL_26 _ (List.mem_of_getElem? (i := 9) rfl)
theorem q_26_10 : Cond.methodLink RX7 133 yJxf58ca_floatToIntBits_5c35a ∈ wsL_law := iL_26 _ (List.mem_of_getElem? (i := 10) rfl)
theorem q_26_11 : Cond.static yJxf58ca_floatToIntBits_5c35a ∈ wsL_law := iL_26 _ (List.mem_of_getElem? (i := 11) rfl)
theorem q_26_12 : Cond.initialized RJxf58ca ∈ wsL_law := iL_26 _ (List.mem_of_getElem? (i := 12) rfl)
theorem q_26_13 : Cond.code yJxf58ca_floatToIntBits_5c35a cJxf58ca_floatToIntBits_5c35a 1 (some .int) ∈ wsL_law := iL_26 _ (List.mem_of_getElem? (i := 13) rfl)
theorem q_26_14 : Cond.methodLink RJxf58ca 74 ⟨"java/lang/Float", "floatToRawIntBits", "(F)I"⟩ ∈ wsL_law := iL_26 _ (List.mem_of_getElem? (i := 14) rfl)
theorem q_26_15 : Cond.native ⟨"java/lang/Float", "floatToRawIntBits", "(F)I"⟩ ∈ wsL_law := iL_26 _ (List.mem_of_getElem? (i := 15) rfl)
theorem q_26_16 : Cond.static ⟨"java/lang/Float", "floatToRawIntBits", "(F)I"⟩ ∈ wsL_law := iL_26 _ (List.mem_of_getElem? (i := 16) rfl)
theorem q_26_17 : Cond.initialized "java/lang/Float" ∈ wsL_law := iL_26 _ (List.mem_of_getElem? (i := 17) rfl)
theorem q_26_18 : Cond.constant RJxf58ca 77 (2143289344) ∈ wsL_law := iL_26 _ (List.mem_of_getElem? (i := 18) rfl)
theorem q_26_19 : Cond.methodLink RJxf58ca 59 yJxf58ca_isNaN_12338 ∈ wsL_law := iL_26 _ (List.mem_of_getElem? (i := 19) rfl)
theorem q_26_20 : Cond.static yJxf58ca_isNaN_12338 ∈ wsL_law := iL_26 _ (List.mem_of_getElem? (i := 20) rfl)
theorem q_26_21 : Cond.code yJxf58ca_isNaN_12338 cJxf58ca_isNaN_12338 1 (some .boolean) ∈ wsL_law := iL_26 _ (List.mem_of_getElem? (i := 21) rfl)
theorem q_26_22 : Cond.methodLink RL 77 yX6_would ∈ wsL_law := iL_26 _ (List.mem_of_getElem? (i := 22) rfl)
theorem q_26_23 : Cond.instanceMethod yX6_would ∈ wsL_law := iL_26 _ (List.mem_of_getElem? (i := 23) rfl)
theorem q_27_0 : Cond.selects RX6 yX6_would yX6_would ∈ wsL_law := iL_27 _ (List.mem_of_getElem? (i := 0) rfl)
theorem q_27_1 : Cond.code yX6_would cX6_would 5 (some .int) ∈ wsL_law := iL_27 _ (List.mem_of_getElem? (i := 1) rfl)
theorem q_27_2 : Cond.fieldLink RX6 215 "SluiceTurns$Canals" "open" "I" ∈ wsL_law := iL_27 _ (List.mem_of_getElem? (i := 2) rfl)
theorem q_27_3 : Cond.methodLink RX6 212 yX4_become ∈ wsL_law := iL_27 _ (List.mem_of_getElem? (i := 3) rfl)
theorem q_27_4 : Cond.methodLink RX6 218 yX6_gain ∈ wsL_law := iL_27 _ (List.mem_of_getElem? (i := 4) rfl)
theorem q_27_5 : Cond.instanceMethod yX6_gain ∈ wsL_law := iL_27 _ (List.mem_of_getElem? (i := 5) rfl)
theorem q_27_6 : Cond.selects RX6 yX6_gain yX6_gain ∈ wsL_law := iL_27 _ (List.mem_of_getElem? (i := 6) rfl)
theorem q_27_7 : Cond.code yX6_gain cX6_gain 2 (some .int) ∈ wsL_law := iL_27 _ (List.mem_of_getElem? (i := 7) rfl)
theorem q_27_8 : Cond.methodLink RL 81 yX7_would ∈ wsL_law := iL_27 _ (List.mem_of_getElem? (i := 8) rfl)
theorem q_27_9 : Cond.instanceMethod yX7_would ∈ wsL_law := iL_27 _ (List.mem_of_getElem? (i := 9) rfl)
theorem q_27_10 : Cond.selects RX7 yX7_would yX7_would ∈ wsL_law := iL_27 _ (List.mem_of_getElem? (i := 10) rfl)
theorem q_27_11 : Cond.code yX7_would cX7_would 6 (some .int) ∈ wsL_law := iL_27 _ (List.mem_of_getElem? (i := 11) rfl)
theorem q_27_12 : Cond.methodLink RX7 139 yX7_puts ∈ wsL_law := iL_27 _ (List.mem_of_getElem? (i := 12) rfl)
theorem q_27_13 : Cond.instanceMethod yX7_puts ∈ wsL_law := iL_27 _ (List.mem_of_getElem? (i := 13) rfl)
theorem q_27_14 : Cond.selects RX7 yX7_puts yX7_puts ∈ wsL_law := iL_27 _ (List.mem_of_getElem? (i := 14) rfl)
theorem q_27_15 : Cond.code yX7_puts cX7_puts 2 none ∈ wsL_law := iL_27 _ (List.mem_of_getElem? (i := 15) rfl)
theorem q_27_16 : Cond.methodLink RX7 142 yX7_restores ∈ wsL_law := iL_27 _ (List.mem_of_getElem? (i := 16) rfl)
theorem q_27_17 : Cond.instanceMethod yX7_restores ∈ wsL_law := iL_27 _ (List.mem_of_getElem? (i := 17) rfl)
theorem q_27_18 : Cond.selects RX7 yX7_restores yX7_restores ∈ wsL_law := iL_27 _ (List.mem_of_getElem? (i := 18) rfl)
theorem q_27_19 : Cond.code yX7_restores cX7_restores 2 none ∈ wsL_law := iL_27 _ (List.mem_of_getElem? (i := 19) rfl)
theorem q_27_20 : Cond.methodLink RL 82 yX6_leastGates ∈ wsL_law := iL_27 _ (List.mem_of_getElem? (i := 20) rfl)
theorem q_27_21 : Cond.instanceMethod yX6_leastGates ∈ wsL_law := iL_27 _ (List.mem_of_getElem? (i := 21) rfl)
theorem q_27_22 : Cond.selects RX6 yX6_leastGates yX6_leastGates ∈ wsL_law := iL_27 _ (List.mem_of_getElem? (i := 22) rfl)
theorem q_27_23 : Cond.code yX6_leastGates cX6_leastGates 8 (some .int) ∈ wsL_law := iL_27 _ (List.mem_of_getElem? (i := 23) rfl)
theorem q_28_0 : Cond.methodLink RX6 221 yX1_areFields ∈ wsL_law := iL_28 _ (List.mem_of_getElem? (i := 0) rfl)
theorem q_28_1 : Cond.instanceMethod yX1_areFields ∈ wsL_law := iL_28 _ (List.mem_of_getElem? (i := 1) rfl)
theorem q_28_2 : Cond.selects RX1 yX1_areFields yX1_areFields ∈ wsL_law := iL_28 _ (List.mem_of_getElem? (i := 2) rfl)
theorem q_28_3 : Cond.code yX1_areFields cX1_areFields 2 (some .boolean) ∈ wsL_law := iL_28 _ (List.mem_of_getElem? (i := 3) rfl)
theorem q_28_4 : Cond.methodLink RX6 224 yX0_allGates ∈ wsL_law := iL_28 _ (List.mem_of_getElem? (i := 4) rfl)
theorem q_28_5 : Cond.methodLink RX6 227 yJ6_bitCount_0f7a4 ∈ wsL_law := iL_28 _ (List.mem_of_getElem? (i := 5) rfl)
theorem q_28_6 : Cond.methodLink RX6 232 yX6_wouldServe ∈ wsL_law := iL_28 _ (List.mem_of_getElem? (i := 6) rfl)
theorem q_28_7 : Cond.instanceMethod yX6_wouldServe ∈ wsL_law := iL_28 _ (List.mem_of_getElem? (i := 7) rfl)
theorem q_28_8 : Cond.selects RX6 yX6_wouldServe yX6_wouldServe ∈ wsL_law := iL_28 _ (List.mem_of_getElem? (i := 8) rfl)
theorem q_28_9 : Cond.code yX6_wouldServe cX6_wouldServe 6 (some .boolean) ∈ wsL_law := iL_28 _ (List.mem_of_getElem? (i := 9) rfl)
theorem q_28_10 : Cond.methodLink RX6 236 yX1_wanting ∈ wsL_law := iL_28 _ (List.mem_of_getElem? (i := 10) rfl)
theorem q_28_11 : Cond.methodLink RL 85 yX7_leastGates ∈ wsL_law := iL_28 _ (List.mem_of_getElem? (i := 11) rfl)
theorem q_28_12 : Cond.instanceMethod yX7_leastGates ∈ wsL_law := iL_28 _ (List.mem_of_getElem? (i := 12) rfl)
theorem q_28_13 : Cond.selects RX7 yX7_leastGates yX7_leastGates ∈ wsL_law := iL_28 _ (List.mem_of_getElem? (i := 13) rfl)
theorem q_28_14 : Cond.code yX7_leastGates cX7_leastGates 7 (some .int) ∈ wsL_law := iL_28 _ (List.mem_of_getElem? (i := 14) rfl)
theorem q_28_15 : Cond.methodLink RX7 145 yX7_haveGot ∈ wsL_law := iL_28 _ (List.mem_of_getElem? (i := 15) rfl)
theorem q_28_16 : Cond.instanceMethod yX7_haveGot ∈ wsL_law := iL_28 _ (List.mem_of_getElem? (i := 16) rfl)
theorem q_28_17 : Cond.selects RX7 yX7_haveGot yX7_haveGot ∈ wsL_law := iL_28 _ (List.mem_of_getElem? (i := 17) rfl)
theorem q_28_18 : Cond.code yX7_haveGot cX7_haveGot 4 (some .boolean) ∈ wsL_law := iL_28 _ (List.mem_of_getElem? (i := 18) rfl)
theorem q_28_19 : Cond.methodLink RL 86 yX6_fewestBuckets ∈ wsL_law := iL_28 _ (List.mem_of_getElem? (i := 19) rfl)
theorem q_28_20 : Cond.instanceMethod yX6_fewestBuckets ∈ wsL_law := iL_28 _ (List.mem_of_getElem? (i := 20) rfl)
theorem q_28_21 : Cond.selects RX6 yX6_fewestBuckets yX6_fewestBuckets ∈ wsL_law := iL_28 _ (List.mem_of_getElem? (i := 21) rfl)
theorem q_28_22 : Cond.code yX6_fewestBuckets cX6_fewestBuckets 3 (some .int) ∈ wsL_law := iL_28 _ (List.mem_of_getElem? (i := 22) rfl)
theorem q_28_23 : Cond.methodLink RL 89 yX7_fewestBuckets ∈ wsL_law := iL_28 _ (List.mem_of_getElem? (i := 23) rfl)
theorem q_29_0 : Cond.instanceMethod yX7_fewestBuckets ∈ wsL_law := iL_29 _ (List.mem_of_getElem? (i := 0) rfl)
theorem q_29_1 : Cond.selects RX7 yX7_fewestBuckets yX7_fewestBuckets ∈ wsL_law := iL_29 _ (List.mem_of_getElem? (i := 1) rfl)
theorem q_29_2 : Cond.code yX7_fewestBuckets cX7_fewestBuckets 5 (some .int) ∈ wsL_law := iL_29 _ (List.mem_of_getElem? (i := 2) rfl)
theorem q_29_3 : Cond.methodLink RL 90 yX6_hoursFor ∈ wsL_law := iL_29 _ (List.mem_of_getElem? (i := 3) rfl)
theorem q_29_4 : Cond.instanceMethod yX6_hoursFor ∈ wsL_law := iL_29 _ (List.mem_of_getElem? (i := 4) rfl)
theorem q_29_5 : Cond.selects RX6 yX6_hoursFor yX6_hoursFor ∈ wsL_law := iL_29 _ (List.mem_of_getElem? (i := 5) rfl)
theorem q_29_6 : Cond.code yX6_hoursFor cX6_hoursFor 3 (some .int) ∈ wsL_law := iL_29 _ (List.mem_of_getElem? (i := 6) rfl)
theorem q_29_7 : Cond.methodLink RL 93 yX7_hoursFor ∈ wsL_law := iL_29 _ (List.mem_of_getElem? (i := 7) rfl)
theorem q_29_8 : Cond.instanceMethod yX7_hoursFor ∈ wsL_law := iL_29 _ (List.mem_of_getElem? (i := 8) rfl)
theorem q_29_9 : Cond.selects RX7 yX7_hoursFor yX7_hoursFor ∈ wsL_law := iL_29 _ (List.mem_of_getElem? (i := 9) rfl)
theorem q_29_10 : Cond.code yX7_hoursFor cX7_hoursFor 5 (some .int) ∈ wsL_law := iL_29 _ (List.mem_of_getElem? (i := 10) rfl)
theorem q_29_11 : Cond.methodLink RL 94 yX6_rightAt ∈ wsL_law := iL_29 _ (List.mem_of_getElem? (i := 11) rfl)
theorem q_29_12 : Cond.instanceMethod yX6_rightAt ∈ wsL_law := iL_29 _ (List.mem_of_getElem? (i := 12) rfl)
theorem q_29_13 : Cond.selects RX6 yX6_rightAt yX6_rightAt ∈ wsL_law := iL_29 _ (List.mem_of_getElem? (i := 13) rfl)
theorem q_29_14 : Cond.code yX6_rightAt cX6_rightAt 5 (some .int) ∈ wsL_law := iL_29 _ (List.mem_of_getElem? (i := 14) rfl)
theorem q_29_15 : Cond.fieldLink RX6 239 "SluiceTurns$Fields" "byRight" "[I" ∈ wsL_law := iL_29 _ (List.mem_of_getElem? (i := 15) rfl)
theorem q_29_16 : Cond.methodLink RL 97 yX7_rightAt ∈ wsL_law := iL_29 _ (List.mem_of_getElem? (i := 16) rfl)
theorem q_29_17 : Cond.instanceMethod yX7_rightAt ∈ wsL_law := iL_29 _ (List.mem_of_getElem? (i := 17) rfl)
theorem q_29_18 : Cond.selects RX7 yX7_rightAt yX7_rightAt ∈ wsL_law := iL_29 _ (List.mem_of_getElem? (i := 18) rfl)
theorem q_29_19 : Cond.code yX7_rightAt cX7_rightAt 5 (some .int) ∈ wsL_law := iL_29 _ (List.mem_of_getElem? (i := 19) rfl)
theorem q_29_20 : Cond.methodLink RL 98 yX6_count ∈ wsL_law := iL_29 _ (List.mem_of_getElem? (i := 20) rfl)
theorem q_29_21 : Cond.instanceMethod yX6_count ∈ wsL_law := iL_29 _ (List.mem_of_getElem? (i := 21) rfl)
theorem q_29_22 : Cond.selects RX6 yX6_count yX6_count ∈ wsL_law := iL_29 _ (List.mem_of_getElem? (i := 22) rfl)
theorem q_29_23 : Cond.code yX6_count cX6_count 2 (some .int) ∈ wsL_law := iL_29 _ (List.mem_of_getElem? (i := 23) rfl)
theorem q_30_0 : Cond.fieldLink RX6 242 "SluiceTurns$Fields" "calling" "I" ∈ wsL_law := iL_30 _ (List.mem_of_getElem? (i := 0) rfl)
theorem q_30_1 : Cond.fieldLink RX6 248 "SluiceTurns$Terrace" "hours" "I" ∈ wsL_law := iL_30 _ (List.mem_of_getElem? (i := 1) rfl)
theorem q_30_2 : Cond.fieldLink RX6 250 "SluiceTurns$Turns" "on" "I" ∈ wsL_law := iL_30 _ (List.mem_of_getElem? (i := 2) rfl)
theorem q_30_3 : Cond.fieldLink RX6 253 "SluiceTurns$Turns" "gone" "I" ∈ wsL_law := iL_30 _ (List.mem_of_getElem? (i := 3) rfl)
theorem q_30_4 : Cond.fieldLink RX6 256 "SluiceTurns$History" "size" "I" ∈ wsL_law := iL_30 _ (List.mem_of_getElem? (i := 4) rfl)
theorem q_30_5 : Cond.fieldLink RX6 257 "SluiceTurns$Orders" "length" "I" ∈ wsL_law := iL_30 _ (List.mem_of_getElem? (i := 5) rfl)
theorem q_30_6 : Cond.methodLink RX6 245 yX0_tended ∈ wsL_law := iL_30 _ (List.mem_of_getElem? (i := 6) rfl)
theorem q_30_7 : Cond.instanceMethod yX0_tended ∈ wsL_law := iL_30 _ (List.mem_of_getElem? (i := 7) rfl)
theorem q_30_8 : Cond.selects RX0 yX0_tended yX0_tended ∈ wsL_law := iL_30 _ (List.mem_of_getElem? (i := 8) rfl)
theorem q_30_9 : Cond.code yX0_tended cX0_tended 3 (some .int) ∈ wsL_law := iL_30 _ (List.mem_of_getElem? (i := 9) rfl)
theorem q_30_10 : Cond.methodLink RL 101 yX7_count ∈ wsL_law := iL_30 _ (List.mem_of_getElem? (i := 10) rfl)
theorem q_30_11 : Cond.instanceMethod yX7_count ∈ wsL_law := iL_30 _ (List.mem_of_getElem? (i := 11) rfl)
theorem q_30_12 : Cond.selects RX7 yX7_count yX7_count ∈ wsL_law := iL_30 _ (List.mem_of_getElem? (i := 12) rfl)
theorem q_30_13 : Cond.code yX7_count cX7_count 2 (some .int) ∈ wsL_law := iL_30 _ (List.mem_of_getElem? (i := 13) rfl)
theorem q_30_14 : Cond.fieldLink RX7 154 "SluiceTurnsModel" "typed" "I" ∈ wsL_law := iL_30 _ (List.mem_of_getElem? (i := 14) rfl)
theorem q_30_15 : Cond.methodLink RX7 148 yX7_wanting ∈ wsL_law := iL_30 _ (List.mem_of_getElem? (i := 15) rfl)
theorem q_30_16 : Cond.instanceMethod yX7_wanting ∈ wsL_law := iL_30 _ (List.mem_of_getElem? (i := 16) rfl)
theorem q_30_17 : Cond.selects RX7 yX7_wanting yX7_wanting ∈ wsL_law := iL_30 _ (List.mem_of_getElem? (i := 17) rfl)
theorem q_30_18 : Cond.code yX7_wanting cX7_wanting 3 (some .int) ∈ wsL_law := iL_30 _ (List.mem_of_getElem? (i := 18) rfl)
theorem q_30_19 : Cond.methodLink RX7 151 yX7_tendedOnes ∈ wsL_law := iL_30 _ (List.mem_of_getElem? (i := 19) rfl)
theorem q_30_20 : Cond.instanceMethod yX7_tendedOnes ∈ wsL_law := iL_30 _ (List.mem_of_getElem? (i := 20) rfl)
theorem q_30_21 : Cond.selects RX7 yX7_tendedOnes yX7_tendedOnes ∈ wsL_law := iL_30 _ (List.mem_of_getElem? (i := 21) rfl)
theorem q_30_22 : Cond.code yX7_tendedOnes cX7_tendedOnes 3 (some .int) ∈ wsL_law := iL_30 _ (List.mem_of_getElem? (i := 22) rfl)
theorem q_30_23 : Cond.methodLink RL 102 yX6_undo ∈ wsL_law := iL_30 _ (List.mem_of_getElem? (i := 23) rfl)
theorem q_31_0 : Cond.instanceMethod yX6_undo ∈ wsL_law := iL_31 _ (List.mem_of_getElem? (i := 0) rfl)
theorem q_31_1 : Cond.selects RX6 yX6_undo yX6_undo ∈ wsL_law := iL_31 _ (List.mem_of_getElem? (i := 1) rfl)
theorem q_31_2 : Cond.code yX6_undo cX6_undo 1 (some .int) ∈ wsL_law := iL_31 _ (List.mem_of_getElem? (i := 2) rfl)
theorem q_31_3 : Cond.methodLink RX6 260 yX2_restoreLatest ∈ wsL_law := iL_31 _ (List.mem_of_getElem? (i := 3) rfl)
theorem q_31_4 : Cond.instanceMethod yX2_restoreLatest ∈ wsL_law := iL_31 _ (List.mem_of_getElem? (i := 4) rfl)
theorem q_31_5 : Cond.selects RX2 yX2_restoreLatest yX2_restoreLatest ∈ wsL_law := iL_31 _ (List.mem_of_getElem? (i := 5) rfl)
theorem q_31_6 : Cond.code yX2_restoreLatest cX2_restoreLatest 2 (some .int) ∈ wsL_law := iL_31 _ (List.mem_of_getElem? (i := 6) rfl)
theorem q_31_7 : Cond.methodLink RL 105 yX7_undo ∈ wsL_law := iL_31 _ (List.mem_of_getElem? (i := 7) rfl)
theorem q_31_8 : Cond.instanceMethod yX7_undo ∈ wsL_law := iL_31 _ (List.mem_of_getElem? (i := 8) rfl)
theorem q_31_9 : Cond.selects RX7 yX7_undo yX7_undo ∈ wsL_law := iL_31 _ (List.mem_of_getElem? (i := 9) rfl)
theorem q_31_10 : Cond.code yX7_undo cX7_undo 2 (some .int) ∈ wsL_law := iL_31 _ (List.mem_of_getElem? (i := 10) rfl)
theorem q_31_11 : Cond.methodLink RL 106 yX6_type ∈ wsL_law := iL_31 _ (List.mem_of_getElem? (i := 11) rfl)
theorem q_31_12 : Cond.instanceMethod yX6_type ∈ wsL_law := iL_31 _ (List.mem_of_getElem? (i := 12) rfl)
theorem q_31_13 : Cond.selects RX6 yX6_type yX6_type ∈ wsL_law := iL_31 _ (List.mem_of_getElem? (i := 13) rfl)
theorem q_31_14 : Cond.code yX6_type cX6_type 2 (some .int) ∈ wsL_law := iL_31 _ (List.mem_of_getElem? (i := 14) rfl)
theorem q_31_15 : Cond.methodLink RX6 264 yX3_append ∈ wsL_law := iL_31 _ (List.mem_of_getElem? (i := 15) rfl)
theorem q_31_16 : Cond.instanceMethod yX3_append ∈ wsL_law := iL_31 _ (List.mem_of_getElem? (i := 16) rfl)
theorem q_31_17 : Cond.selects RX3 yX3_append yX3_append ∈ wsL_law := iL_31 _ (List.mem_of_getElem? (i := 17) rfl)
theorem q_31_18 : Cond.code yX3_append cX3_append 2 (some .int) ∈ wsL_law := iL_31 _ (List.mem_of_getElem? (i := 18) rfl)
theorem q_31_19 : Cond.fieldLink RX3 15 "SluiceTurns$Orders" "length" "I" ∈ wsL_law := iL_31 _ (List.mem_of_getElem? (i := 19) rfl)
theorem q_31_20 : Cond.methodLink RL 109 yX7_type ∈ wsL_law := iL_31 _ (List.mem_of_getElem? (i := 20) rfl)
theorem q_31_21 : Cond.instanceMethod yX7_type ∈ wsL_law := iL_31 _ (List.mem_of_getElem? (i := 21) rfl)
theorem q_31_22 : Cond.selects RX7 yX7_type yX7_type ∈ wsL_law := iL_31 _ (List.mem_of_getElem? (i := 22) rfl)
theorem q_31_23 : Cond.code yX7_type cX7_type 2 (some .int) ∈ wsL_law := iL_31 _ (List.mem_of_getElem? (i := 23) rfl)
theorem q_32_0 : Cond.methodLink RL 110 yX6_clearText ∈ wsL_law := iL_32 _ (List.mem_of_getElem? (i := 0) rfl)
theorem q_32_1 : Cond.instanceMethod yX6_clearText ∈ wsL_law := iL_32 _ (List.mem_of_getElem? (i := 1) rfl)
theorem q_32_2 : Cond.selects RX6 yX6_clearText yX6_clearText ∈ wsL_law := iL_32 _ (List.mem_of_getElem? (i := 2) rfl)
theorem q_32_3 : Cond.code yX6_clearText cX6_clearText 2 (some .int) ∈ wsL_law := iL_32 _ (List.mem_of_getElem? (i := 3) rfl)
theorem q_32_4 : Cond.methodLink RL 113 yX7_clearText ∈ wsL_law := iL_32 _ (List.mem_of_getElem? (i := 4) rfl)
theorem q_32_5 : Cond.instanceMethod yX7_clearText ∈ wsL_law := iL_32 _ (List.mem_of_getElem? (i := 5) rfl)
theorem q_32_6 : Cond.selects RX7 yX7_clearText yX7_clearText ∈ wsL_law := iL_32 _ (List.mem_of_getElem? (i := 6) rfl)
theorem q_32_7 : Cond.code yX7_clearText cX7_clearText 2 (some .int) ∈ wsL_law := iL_32 _ (List.mem_of_getElem? (i := 7) rfl)
theorem q_32_8 : Cond.methodLink RL 114 yX6_fault ∈ wsL_law := iL_32 _ (List.mem_of_getElem? (i := 8) rfl)
theorem q_32_9 : Cond.instanceMethod yX6_fault ∈ wsL_law := iL_32 _ (List.mem_of_getElem? (i := 9) rfl)
theorem q_32_10 : Cond.selects RX6 yX6_fault yX6_fault ∈ wsL_law := iL_32 _ (List.mem_of_getElem? (i := 10) rfl)
theorem q_32_11 : Cond.code yX6_fault cX6_fault 2 (some .int) ∈ wsL_law := iL_32 _ (List.mem_of_getElem? (i := 11) rfl)
theorem q_32_12 : Cond.fieldLink RX6 270 "SluiceTurns$Orders" "reason" "I" ∈ wsL_law := iL_32 _ (List.mem_of_getElem? (i := 12) rfl)
theorem q_32_13 : Cond.fieldLink RX6 273 "SluiceTurns$Orders" "start" "I" ∈ wsL_law := iL_32 _ (List.mem_of_getElem? (i := 13) rfl)
theorem q_32_14 : Cond.fieldLink RX6 276 "SluiceTurns$Orders" "cause" "I" ∈ wsL_law := iL_32 _ (List.mem_of_getElem? (i := 14) rfl)
theorem q_32_15 : Cond.methodLink RX6 267 yX3_carryOutAll ∈ wsL_law := iL_32 _ (List.mem_of_getElem? (i := 15) rfl)
theorem q_32_16 : Cond.instanceMethod yX3_carryOutAll ∈ wsL_law := iL_32 _ (List.mem_of_getElem? (i := 16) rfl)
theorem q_32_17 : Cond.selects RX3 yX3_carryOutAll yX3_carryOutAll ∈ wsL_law := iL_32 _ (List.mem_of_getElem? (i := 17) rfl)
theorem q_32_18 : Cond.code yX3_carryOutAll cX3_carryOutAll 4 (some .int) ∈ wsL_law := iL_32 _ (List.mem_of_getElem? (i := 18) rfl)
theorem q_32_19 : Cond.fieldLink RX3 19 "SluiceTurns$Orders" "place" "I" ∈ wsL_law := iL_32 _ (List.mem_of_getElem? (i := 19) rfl)
theorem q_32_20 : Cond.fieldLink RX3 22 "SluiceTurns$Orders" "reason" "I" ∈ wsL_law := iL_32 _ (List.mem_of_getElem? (i := 20) rfl)
theorem q_32_21 : Cond.fieldLink RX3 25 "SluiceTurns$Orders" "start" "I" ∈ wsL_law := iL_32 _ (List.mem_of_getElem? (i := 21) rfl)
theorem q_32_22 : Cond.methodLink RX3 28 yX3_reasonAgainst ∈ wsL_law := iL_32 _ (List.mem_of_getElem? (i := 22) rfl)
theorem q_32_23 : Cond.instanceMethod yX3_reasonAgainst ∈ wsL_law := iL_32 _ (List.mem_of_getElem? (i := 23) rfl)
theorem q_33_0 : Cond.selects RX3 yX3_reasonAgainst yX3_reasonAgainst ∈ wsL_law := iL_33 _ (List.mem_of_getElem? (i := 0) rfl)
theorem q_33_1 : Cond.code yX3_reasonAgainst cX3_reasonAgainst 2 (some .int) ∈ wsL_law := iL_33 _ (List.mem_of_getElem? (i := 1) rfl)
theorem q_33_2 : Cond.fieldLink RX3 39 "SluiceTurns$Orders" "cause" "I" ∈ wsL_law := iL_33 _ (List.mem_of_getElem? (i := 2) rfl)
theorem q_33_3 : Cond.methodLink RX3 35 yX3_readOrder ∈ wsL_law := iL_33 _ (List.mem_of_getElem? (i := 3) rfl)
theorem q_33_4 : Cond.instanceMethod yX3_readOrder ∈ wsL_law := iL_33 _ (List.mem_of_getElem? (i := 4) rfl)
theorem q_33_5 : Cond.selects RX3 yX3_readOrder yX3_readOrder ∈ wsL_law := iL_33 _ (List.mem_of_getElem? (i := 5) rfl)
theorem q_33_6 : Cond.code yX3_readOrder cX3_readOrder 1 (some .boolean) ∈ wsL_law := iL_33 _ (List.mem_of_getElem? (i := 6) rfl)
theorem q_33_7 : Cond.fieldLink RX3 53 "SluiceTurns$Orders" "letter" "I" ∈ wsL_law := iL_33 _ (List.mem_of_getElem? (i := 7) rfl)
theorem q_33_8 : Cond.fieldLink RX3 60 "SluiceTurns$Orders" "first" "I" ∈ wsL_law := iL_33 _ (List.mem_of_getElem? (i := 8) rfl)
theorem q_33_9 : Cond.fieldLink RX3 67 "SluiceTurns$Orders" "second" "I" ∈ wsL_law := iL_33 _ (List.mem_of_getElem? (i := 9) rfl)
theorem q_33_10 : Cond.methodLink RX3 49 yX3_characterAt ∈ wsL_law := iL_33 _ (List.mem_of_getElem? (i := 10) rfl)
theorem q_33_11 : Cond.instanceMethod yX3_characterAt ∈ wsL_law := iL_33 _ (List.mem_of_getElem? (i := 11) rfl)
theorem q_33_12 : Cond.selects RX3 yX3_characterAt yX3_characterAt ∈ wsL_law := iL_33 _ (List.mem_of_getElem? (i := 12) rfl)
theorem q_33_13 : Cond.code yX3_characterAt cX3_characterAt 2 (some .int) ∈ wsL_law := iL_33 _ (List.mem_of_getElem? (i := 13) rfl)
theorem q_33_14 : Cond.methodLink RX3 56 yX3_readNumber ∈ wsL_law := iL_33 _ (List.mem_of_getElem? (i := 14) rfl)
theorem q_33_15 : Cond.instanceMethod yX3_readNumber ∈ wsL_law := iL_33 _ (List.mem_of_getElem? (i := 15) rfl)
theorem q_33_16 : Cond.selects RX3 yX3_readNumber yX3_readNumber ∈ wsL_law := iL_33 _ (List.mem_of_getElem? (i := 16) rfl)
theorem q_33_17 : Cond.code yX3_readNumber cX3_readNumber 4 (some .int) ∈ wsL_law := iL_33 _ (List.mem_of_getElem? (i := 17) rfl)
theorem q_33_18 : Cond.methodLink RX3 70 Lib.Math.max.name ∈ wsL_law := iL_33 _ (List.mem_of_getElem? (i := 18) rfl)
theorem q_33_19 : Cond.static Lib.Math.max.name ∈ wsL_law := iL_33 _ (List.mem_of_getElem? (i := 19) rfl)
theorem q_33_20 : Cond.code Lib.Math.max.name Lib.Math.max.code 2 (some .int) ∈ wsL_law := iL_33 _ (List.mem_of_getElem? (i := 20) rfl)
theorem q_33_21 : Cond.methodLink RX3 63 yX3_skip ∈ wsL_law := iL_33 _ (List.mem_of_getElem? (i := 21) rfl)
theorem q_33_22 : Cond.instanceMethod yX3_skip ∈ wsL_law := iL_33 _ (List.mem_of_getElem? (i := 22) rfl)
theorem q_33_23 : Cond.selects RX3 yX3_skip yX3_skip ∈ wsL_law := iL_33 _ (List.mem_of_getElem? (i := 23) rfl)
theorem q_34_0 : Cond.code yX3_skip cX3_skip 2 (some .boolean) ∈ wsL_law := iL_34 _ (List.mem_of_getElem? (i := 0) rfl)
theorem q_34_1 : Cond.methodLink RX3 42 yX3_isInRange ∈ wsL_law := iL_34 _ (List.mem_of_getElem? (i := 1) rfl)
theorem q_34_2 : Cond.instanceMethod yX3_isInRange ∈ wsL_law := iL_34 _ (List.mem_of_getElem? (i := 2) rfl)
theorem q_34_3 : Cond.selects RX3 yX3_isInRange yX3_isInRange ∈ wsL_law := iL_34 _ (List.mem_of_getElem? (i := 3) rfl)
theorem q_34_4 : Cond.code yX3_isInRange cX3_isInRange 2 (some .boolean) ∈ wsL_law := iL_34 _ (List.mem_of_getElem? (i := 4) rfl)
theorem q_34_5 : Cond.fieldLink RX3 76 "SluiceTurns$Terrace" "canals" "LSluiceTurns$Canals;" ∈ wsL_law := iL_34 _ (List.mem_of_getElem? (i := 5) rfl)
theorem q_34_6 : Cond.fieldLink RX3 87 "SluiceTurns$Terrace" "fields" "LSluiceTurns$Fields;" ∈ wsL_law := iL_34 _ (List.mem_of_getElem? (i := 6) rfl)
theorem q_34_7 : Cond.methodLink RX3 82 yX0_hasGate ∈ wsL_law := iL_34 _ (List.mem_of_getElem? (i := 7) rfl)
theorem q_34_8 : Cond.methodLink RX3 91 yX1_has ∈ wsL_law := iL_34 _ (List.mem_of_getElem? (i := 8) rfl)
theorem q_34_9 : Cond.methodLink RX3 46 yX3_isPossible ∈ wsL_law := iL_34 _ (List.mem_of_getElem? (i := 9) rfl)
theorem q_34_10 : Cond.instanceMethod yX3_isPossible ∈ wsL_law := iL_34 _ (List.mem_of_getElem? (i := 10) rfl)
theorem q_34_11 : Cond.selects RX3 yX3_isPossible yX3_isPossible ∈ wsL_law := iL_34 _ (List.mem_of_getElem? (i := 11) rfl)
theorem q_34_12 : Cond.code yX3_isPossible cX3_isPossible 2 (some .boolean) ∈ wsL_law := iL_34 _ (List.mem_of_getElem? (i := 12) rfl)
theorem q_34_13 : Cond.methodLink RX3 100 yX0_canBeOpened ∈ wsL_law := iL_34 _ (List.mem_of_getElem? (i := 13) rfl)
theorem q_34_14 : Cond.methodLink RX3 103 yX0_canBeClosed ∈ wsL_law := iL_34 _ (List.mem_of_getElem? (i := 14) rfl)
theorem q_34_15 : Cond.methodLink RX3 106 yX1_canCall ∈ wsL_law := iL_34 _ (List.mem_of_getElem? (i := 15) rfl)
theorem q_34_16 : Cond.methodLink RX3 109 yX4_hasHoursLeft ∈ wsL_law := iL_34 _ (List.mem_of_getElem? (i := 16) rfl)
theorem q_34_17 : Cond.methodLink RX3 32 yX3_carryOut ∈ wsL_law := iL_34 _ (List.mem_of_getElem? (i := 17) rfl)
theorem q_34_18 : Cond.instanceMethod yX3_carryOut ∈ wsL_law := iL_34 _ (List.mem_of_getElem? (i := 18) rfl)
theorem q_34_19 : Cond.selects RX3 yX3_carryOut yX3_carryOut ∈ wsL_law := iL_34 _ (List.mem_of_getElem? (i := 19) rfl)
theorem q_34_20 : Cond.code yX3_carryOut cX3_carryOut 2 (some .int) ∈ wsL_law := iL_34 _ (List.mem_of_getElem? (i := 20) rfl)
theorem q_34_21 : Cond.methodLink RX3 112 yX0_moveGate ∈ wsL_law := iL_34 _ (List.mem_of_getElem? (i := 21) rfl)
theorem q_34_22 : Cond.methodLink RX3 115 yX1_beginCall ∈ wsL_law := iL_34 _ (List.mem_of_getElem? (i := 22) rfl)
theorem q_34_23 : Cond.methodLink RX3 118 yX4_passHour ∈ wsL_law := iL_34 _ (List.mem_of_getElem? (i := 23) rfl)
theorem q_35_0 : Cond.methodLink RX3 121 yX4_runHours ∈ wsL_law := iL_35 _ (List.mem_of_getElem? (i := 0) rfl)
theorem q_35_1 : Cond.methodLink RL 117 yX7_fault ∈ wsL_law := iL_35 _ (List.mem_of_getElem? (i := 1) rfl)
theorem q_35_2 : Cond.instanceMethod yX7_fault ∈ wsL_law := iL_35 _ (List.mem_of_getElem? (i := 2) rfl)
theorem q_35_3 : Cond.selects RX7 yX7_fault yX7_fault ∈ wsL_law := iL_35 _ (List.mem_of_getElem? (i := 3) rfl)
theorem q_35_4 : Cond.code yX7_fault cX7_fault 3 (some .int) ∈ wsL_law := iL_35 _ (List.mem_of_getElem? (i := 4) rfl)
theorem q_35_5 : Cond.fieldLink RX7 188 "SluiceTurnsModel" "reason" "I" ∈ wsL_law := iL_35 _ (List.mem_of_getElem? (i := 5) rfl)
theorem q_35_6 : Cond.fieldLink RX7 173 "SluiceTurnsModel" "cause" "I" ∈ wsL_law := iL_35 _ (List.mem_of_getElem? (i := 6) rfl)
theorem q_35_7 : Cond.methodLink RX7 191 yX7_faulty ∈ wsL_law := iL_35 _ (List.mem_of_getElem? (i := 7) rfl)
theorem q_35_8 : Cond.instanceMethod yX7_faulty ∈ wsL_law := iL_35 _ (List.mem_of_getElem? (i := 8) rfl)
theorem q_35_9 : Cond.selects RX7 yX7_faulty yX7_faulty ∈ wsL_law := iL_35 _ (List.mem_of_getElem? (i := 9) rfl)
theorem q_35_10 : Cond.code yX7_faulty cX7_faulty 3 (some .int) ∈ wsL_law := iL_35 _ (List.mem_of_getElem? (i := 10) rfl)
theorem q_35_11 : Cond.fieldLink RX7 157 "SluiceTurnsModel" "at" "I" ∈ wsL_law := iL_35 _ (List.mem_of_getElem? (i := 11) rfl)
theorem q_35_12 : Cond.methodLink RX7 185 yX7_doesNext ∈ wsL_law := iL_35 _ (List.mem_of_getElem? (i := 12) rfl)
theorem q_35_13 : Cond.instanceMethod yX7_doesNext ∈ wsL_law := iL_35 _ (List.mem_of_getElem? (i := 13) rfl)
theorem q_35_14 : Cond.selects RX7 yX7_doesNext yX7_doesNext ∈ wsL_law := iL_35 _ (List.mem_of_getElem? (i := 14) rfl)
theorem q_35_15 : Cond.code yX7_doesNext cX7_doesNext 4 (some .int) ∈ wsL_law := iL_35 _ (List.mem_of_getElem? (i := 15) rfl)
theorem q_35_16 : Cond.fieldLink RX7 182 "SluiceTurnsModel" "sum" "I" ∈ wsL_law := iL_35 _ (List.mem_of_getElem? (i := 16) rfl)
theorem q_35_17 : Cond.methodLink RX7 160 yX7_sign ∈ wsL_law := iL_35 _ (List.mem_of_getElem? (i := 17) rfl)
theorem q_35_18 : Cond.instanceMethod yX7_sign ∈ wsL_law := iL_35 _ (List.mem_of_getElem? (i := 18) rfl)
theorem q_35_19 : Cond.selects RX7 yX7_sign yX7_sign ∈ wsL_law := iL_35 _ (List.mem_of_getElem? (i := 19) rfl)
theorem q_35_20 : Cond.code yX7_sign cX7_sign 1 (some .int) ∈ wsL_law := iL_35 _ (List.mem_of_getElem? (i := 20) rfl)
theorem q_35_21 : Cond.methodLink RX7 170 yX7_readsForm ∈ wsL_law := iL_35 _ (List.mem_of_getElem? (i := 21) rfl)
theorem q_35_22 : Cond.instanceMethod yX7_readsForm ∈ wsL_law := iL_35 _ (List.mem_of_getElem? (i := 22) rfl)
theorem q_35_23 : Cond.selects RX7 yX7_readsForm yX7_readsForm ∈ wsL_law := iL_35 _ (List.mem_of_getElem? (i := 23) rfl)
theorem q_36_0 : Cond.code yX7_readsForm cX7_readsForm 3 (some .boolean) ∈ wsL_law := iL_36 _ (List.mem_of_getElem? (i := 0) rfl)
theorem q_36_1 : Cond.fieldLink RX7 163 "SluiceTurnsModel" "numbers" "I" ∈ wsL_law := iL_36 _ (List.mem_of_getElem? (i := 1) rfl)
theorem q_36_2 : Cond.methodLink RX7 166 yX7_readsNumber ∈ wsL_law := iL_36 _ (List.mem_of_getElem? (i := 2) rfl)
theorem q_36_3 : Cond.instanceMethod yX7_readsNumber ∈ wsL_law := iL_36 _ (List.mem_of_getElem? (i := 3) rfl)
theorem q_36_4 : Cond.selects RX7 yX7_readsNumber yX7_readsNumber ∈ wsL_law := iL_36 _ (List.mem_of_getElem? (i := 4) rfl)
theorem q_36_5 : Cond.code yX7_readsNumber cX7_readsNumber 3 (some .boolean) ∈ wsL_law := iL_36 _ (List.mem_of_getElem? (i := 5) rfl)
theorem q_36_6 : Cond.methodLink RX7 176 yX7_isInRange ∈ wsL_law := iL_36 _ (List.mem_of_getElem? (i := 6) rfl)
theorem q_36_7 : Cond.instanceMethod yX7_isInRange ∈ wsL_law := iL_36 _ (List.mem_of_getElem? (i := 7) rfl)
theorem q_36_8 : Cond.selects RX7 yX7_isInRange yX7_isInRange ∈ wsL_law := iL_36 _ (List.mem_of_getElem? (i := 8) rfl)
theorem q_36_9 : Cond.code yX7_isInRange cX7_isInRange 2 (some .boolean) ∈ wsL_law := iL_36 _ (List.mem_of_getElem? (i := 9) rfl)
theorem q_36_10 : Cond.methodLink RX7 179 yX7_does ∈ wsL_law := iL_36 _ (List.mem_of_getElem? (i := 10) rfl)
theorem q_36_11 : Cond.instanceMethod yX7_does ∈ wsL_law := iL_36 _ (List.mem_of_getElem? (i := 11) rfl)
theorem q_36_12 : Cond.selects RX7 yX7_does yX7_does ∈ wsL_law := iL_36 _ (List.mem_of_getElem? (i := 12) rfl)
theorem q_36_13 : Cond.code yX7_does cX7_does 2 (some .int) ∈ wsL_law := iL_36 _ (List.mem_of_getElem? (i := 13) rfl)
theorem q_36_14 : Cond.methodLink RL 118 yX6_play ∈ wsL_law := iL_36 _ (List.mem_of_getElem? (i := 14) rfl)
theorem q_36_15 : Cond.instanceMethod yX6_play ∈ wsL_law := iL_36 _ (List.mem_of_getElem? (i := 15) rfl)
theorem q_36_16 : Cond.selects RX6 yX6_play yX6_play ∈ wsL_law := iL_36 _ (List.mem_of_getElem? (i := 16) rfl)
theorem q_36_17 : Cond.code yX6_play cX6_play 2 (some .int) ∈ wsL_law := iL_36 _ (List.mem_of_getElem? (i := 17) rfl)
theorem q_36_18 : Cond.methodLink RL 121 yX7_play ∈ wsL_law := iL_36 _ (List.mem_of_getElem? (i := 18) rfl)
theorem q_36_19 : Cond.instanceMethod yX7_play ∈ wsL_law := iL_36 _ (List.mem_of_getElem? (i := 19) rfl)
theorem q_36_20 : Cond.selects RX7 yX7_play yX7_play ∈ wsL_law := iL_36 _ (List.mem_of_getElem? (i := 20) rfl)
theorem q_36_21 : Cond.code yX7_play cX7_play 1 (some .int) ∈ wsL_law := iL_36 _ (List.mem_of_getElem? (i := 21) rfl)
theorem goodI {ws : List Cond} (h : ∀ w ∈ ws, w ∈ wsL_law) : GoodIn wsL_law ws := fun w hw => ⟨h w hw, good_of_word (goodL w (h w hw))⟩
theorem gV_of {own : String} {idx : Nat} {C : String} {y : MethodName} {cd : ByteArray} {n : Nat} {rt : Option FieldType} {ws : List Cond} (hw : ws = .code y cd n rt :: wsL_law) (h1 : Cond.methodLink own idx y ∈ wsL_law) (h2 : Cond.instanceMethod y ∈ wsL_law) (h3 : Cond.selects C y y ∈ wsL_law) (h4 : Cond.initialized C ∈ wsL_law) (h5 : Cond.code y cd n rt ∈ wsL_law) : GoodIn wsL_law (wsV own idx C y ws) := by
  subst hw
  refine goodI (fun w h => ?_)
  simp only [wsV, List.mem_append, List.mem_cons, List.not_mem_nil, or_false] at h
  rcases h with (rfl | rfl | rfl | rfl) | rfl | h
  · exact h1
  · exact h2
  · exact h3
  · exact h4
  · exact h5
  · exact h
theorem gS_of {own : String} {idx : Nat} {y : MethodName} {cd : ByteArray} {n : Nat} {rt : Option FieldType} {ws : List Cond} (hw : ws = .code y cd n rt :: wsL_law) (h1 : Cond.methodLink own idx y ∈ wsL_law) (h2 : Cond.static y ∈ wsL_law) (h3 : Cond.initialized y.cls ∈ wsL_law) (h5 : Cond.code y cd n rt ∈ wsL_law) : GoodIn wsL_law (va_wsS own idx y ws) := by
  subst hw
  refine goodI (fun w h => ?_)
  simp only [va_wsS, List.mem_append, List.mem_cons, List.not_mem_nil, or_false] at h
  rcases h with (rfl | rfl | rfl) | rfl | h
  · exact h1
  · exact h2
  · exact h3
  · exact h5
  · exact h
theorem gN_of {y : MethodName} {cd : ByteArray} {n : Nat} {rt : Option FieldType} {ws : List Cond} (hw : ws = .code y cd n rt :: wsL_law) (h5 : Cond.code y cd n rt ∈ wsL_law) : GoodIn wsL_law ws := by
  subst hw
  refine goodI (fun w h => ?_)
  rcases List.mem_cons.mp h with rfl | h
  · exact h5
  · exact h
theorem gV_X0_become {own : String} {idx : Nat} (h1 : Cond.methodLink own idx yX0_become ∈ wsL_law) : GoodIn wsL_law (wsV own idx RX0 yX0_become wsX0_become) := gV_of rfl h1 q_6_6 q_6_7 q_2_6 q_6_8
theorem gV_X0_has {own : String} {idx : Nat} (h1 : Cond.methodLink own idx yX0_has ∈ wsL_law) : GoodIn wsL_law (wsV own idx RX0 yX0_has wsX0_has) := gV_of rfl h1 q_5_5 q_5_6 q_2_6 q_5_7
theorem gV_X0_hasGate {own : String} {idx : Nat} (h1 : Cond.methodLink own idx yX0_hasGate ∈ wsL_law) : GoodIn wsL_law (wsV own idx RX0 yX0_hasGate wsX0_hasGate) := gV_of rfl h1 q_9_5 q_9_6 q_2_6 q_9_7
theorem gV_X0_allGates {own : String} {idx : Nat} (h1 : Cond.methodLink own idx yX0_allGates ∈ wsL_law) : GoodIn wsL_law (wsV own idx RX0 yX0_allGates wsX0_allGates) := gV_of rfl h1 q_15_10 q_15_11 q_2_6 q_15_12
theorem gV_X0_areGates {own : String} {idx : Nat} (h1 : Cond.methodLink own idx yX0_areGates ∈ wsL_law) : GoodIn wsL_law (wsV own idx RX0 yX0_areGates wsX0_areGates) := gV_of rfl h1 q_15_6 q_15_7 q_2_6 q_15_8
theorem gV_X0_add {own : String} {idx : Nat} (h1 : Cond.methodLink own idx yX0_add ∈ wsL_law) : GoodIn wsL_law (wsV own idx RX0 yX0_add wsX0_add) := gV_of rfl h1 q_7_6 q_7_7 q_2_6 q_7_8
theorem gV_X0_isOpen {own : String} {idx : Nat} (h1 : Cond.methodLink own idx yX0_isOpen ∈ wsL_law) : GoodIn wsL_law (wsV own idx RX0 yX0_isOpen wsX0_isOpen) := gV_of rfl h1 q_11_6 q_11_7 q_2_6 q_11_8
theorem gV_X0_isTended {own : String} {idx : Nat} (h1 : Cond.methodLink own idx yX0_isTended ∈ wsL_law) : GoodIn wsL_law (wsV own idx RX0 yX0_isTended wsX0_isTended) := gV_of rfl h1 q_9_9 q_9_10 q_2_6 q_9_11
theorem gV_X0_canBeOpened {own : String} {idx : Nat} (h1 : Cond.methodLink own idx yX0_canBeOpened ∈ wsL_law) : GoodIn wsL_law (wsV own idx RX0 yX0_canBeOpened wsX0_canBeOpened) := gV_of rfl h1 q_11_1 q_11_2 q_2_6 q_11_3
theorem gV_X0_canBeClosed {own : String} {idx : Nat} (h1 : Cond.methodLink own idx yX0_canBeClosed ∈ wsL_law) : GoodIn wsL_law (wsV own idx RX0 yX0_canBeClosed wsX0_canBeClosed) := gV_of rfl h1 q_12_6 q_12_7 q_2_6 q_12_8
theorem gV_X0_moveGate {own : String} {idx : Nat} (h1 : Cond.methodLink own idx yX0_moveGate ∈ wsL_law) : GoodIn wsL_law (wsV own idx RX0 yX0_moveGate wsX0_moveGate) := gV_of rfl h1 q_11_10 q_11_11 q_2_6 q_11_12
theorem gV_X0_tended {own : String} {idx : Nat} (h1 : Cond.methodLink own idx yX0_tended ∈ wsL_law) : GoodIn wsL_law (wsV own idx RX0 yX0_tended wsX0_tended) := gV_of rfl h1 q_30_7 q_30_8 q_2_6 q_30_9
theorem gV_X0_gatesOf {own : String} {idx : Nat} (h1 : Cond.methodLink own idx yX0_gatesOf ∈ wsL_law) : GoodIn wsL_law (wsV own idx RX0 yX0_gatesOf wsX0_gatesOf) := gV_of rfl h1 q_9_16 q_9_17 q_2_6 q_9_18
theorem gV_X0_below {own : String} {idx : Nat} (h1 : Cond.methodLink own idx yX0_below ∈ wsL_law) : GoodIn wsL_law (wsV own idx RX0 yX0_below wsX0_below) := gV_of rfl h1 q_23_21 q_23_22 q_2_6 q_23_23
theorem gV_X1_become {own : String} {idx : Nat} (h1 : Cond.methodLink own idx yX1_become ∈ wsL_law) : GoodIn wsL_law (wsV own idx RX1 yX1_become wsX1_become) := gV_of rfl h1 q_6_15 q_6_16 q_2_10 q_6_17
theorem gV_X1_has {own : String} {idx : Nat} (h1 : Cond.methodLink own idx yX1_has ∈ wsL_law) : GoodIn wsL_law (wsV own idx RX1 yX1_has wsX1_has) := gV_of rfl h1 q_12_18 q_12_19 q_2_10 q_12_20
theorem gV_X1_areFields {own : String} {idx : Nat} (h1 : Cond.methodLink own idx yX1_areFields ∈ wsL_law) : GoodIn wsL_law (wsV own idx RX1 yX1_areFields wsX1_areFields) := gV_of rfl h1 q_28_1 q_28_2 q_2_10 q_28_3
theorem gV_X1_add {own : String} {idx : Nat} (h1 : Cond.methodLink own idx yX1_add ∈ wsL_law) : GoodIn wsL_law (wsV own idx RX1 yX1_add wsX1_add) := gV_of rfl h1 q_8_14 q_8_15 q_2_10 q_8_16
theorem gV_X1_wants {own : String} {idx : Nat} (h1 : Cond.methodLink own idx yX1_wants ∈ wsL_law) : GoodIn wsL_law (wsV own idx RX1 yX1_wants wsX1_wants) := gV_of rfl h1 q_13_2 q_13_3 q_2_10 q_13_4
theorem gV_X1_wanting {own : String} {idx : Nat} (h1 : Cond.methodLink own idx yX1_wanting ∈ wsL_law) : GoodIn wsL_law (wsV own idx RX1 yX1_wanting wsX1_wanting) := gV_of rfl h1 q_20_0 q_20_1 q_2_10 q_20_2
theorem gV_X1_calls {own : String} {idx : Nat} (h1 : Cond.methodLink own idx yX1_calls ∈ wsL_law) : GoodIn wsL_law (wsV own idx RX1 yX1_calls wsX1_calls) := gV_of rfl h1 q_13_6 q_13_7 q_2_10 q_13_8
theorem gV_X1_canCall {own : String} {idx : Nat} (h1 : Cond.methodLink own idx yX1_canCall ∈ wsL_law) : GoodIn wsL_law (wsV own idx RX1 yX1_canCall wsX1_canCall) := gV_of rfl h1 q_12_22 q_12_23 q_2_10 q_13_0
theorem gS_J6_bitCount_0f7a4 {own : String} {idx : Nat} (h1 : Cond.methodLink own idx yJ6_bitCount_0f7a4 ∈ wsL_law) : GoodIn wsL_law (va_wsS own idx yJ6_bitCount_0f7a4 wsJ6_bitCount_0f7a4) := gS_of rfl h1 q_13_14 q_13_15 q_13_16
theorem gN_J6_bitCount_0f7a4 : GoodIn wsL_law wsJ6_bitCount_0f7a4 := gN_of rfl q_13_16
theorem gV_X1_beginCall {own : String} {idx : Nat} (h1 : Cond.methodLink own idx yX1_beginCall ∈ wsL_law) : GoodIn wsL_law (wsV own idx RX1 yX1_beginCall wsX1_beginCall) := gV_of rfl h1 q_13_10 q_13_11 q_2_10 q_13_12
theorem gV_X1_give {own : String} {idx : Nat} (h1 : Cond.methodLink own idx yX1_give ∈ wsL_law) : GoodIn wsL_law (wsV own idx RX1 yX1_give wsX1_give) := gV_of rfl h1 q_19_2 q_19_3 q_2_10 q_19_4
theorem gV_X2_dropOldest {own : String} {idx : Nat} (h1 : Cond.methodLink own idx yX2_dropOldest ∈ wsL_law) : GoodIn wsL_law (wsV own idx RX2 yX2_dropOldest wsX2_dropOldest) := gV_of rfl h1 q_5_17 q_5_18 q_1_19 q_5_19
theorem gV_X5_become {own : String} {idx : Nat} (h1 : Cond.methodLink own idx yX5_become ∈ wsL_law) : GoodIn wsL_law (wsV own idx RX5 yX5_become wsX5_become) := gV_of rfl h1 q_6_22 q_6_23 q_2_14 q_7_0
theorem gV_X4_become {own : String} {idx : Nat} (h1 : Cond.methodLink own idx yX4_become ∈ wsL_law) : GoodIn wsL_law (wsV own idx RX4 yX4_become wsX4_become) := gV_of rfl h1 q_5_21 q_5_22 q_1_14 q_5_23
theorem gV_X2_record {own : String} {idx : Nat} (h1 : Cond.methodLink own idx yX2_record ∈ wsL_law) : GoodIn wsL_law (wsV own idx RX2 yX2_record wsX2_record) := gV_of rfl h1 q_5_12 q_5_13 q_1_19 q_5_14
theorem gV_X2_restoreLatest {own : String} {idx : Nat} (h1 : Cond.methodLink own idx yX2_restoreLatest ∈ wsL_law) : GoodIn wsL_law (wsV own idx RX2 yX2_restoreLatest wsX2_restoreLatest) := gV_of rfl h1 q_31_4 q_31_5 q_1_19 q_31_6
theorem gV_X3_append {own : String} {idx : Nat} (h1 : Cond.methodLink own idx yX3_append ∈ wsL_law) : GoodIn wsL_law (wsV own idx RX3 yX3_append wsX3_append) := gV_of rfl h1 q_31_16 q_31_17 q_1_23 q_31_18
theorem gV_X3_characterAt {own : String} {idx : Nat} (h1 : Cond.methodLink own idx yX3_characterAt ∈ wsL_law) : GoodIn wsL_law (wsV own idx RX3 yX3_characterAt wsX3_characterAt) := gV_of rfl h1 q_33_11 q_33_12 q_1_23 q_33_13
theorem gV_X3_readNumber {own : String} {idx : Nat} (h1 : Cond.methodLink own idx yX3_readNumber ∈ wsL_law) : GoodIn wsL_law (wsV own idx RX3 yX3_readNumber wsX3_readNumber) := gV_of rfl h1 q_33_15 q_33_16 q_1_23 q_33_17
theorem gV_X3_skip {own : String} {idx : Nat} (h1 : Cond.methodLink own idx yX3_skip ∈ wsL_law) : GoodIn wsL_law (wsV own idx RX3 yX3_skip wsX3_skip) := gV_of rfl h1 q_33_22 q_33_23 q_1_23 q_34_0
theorem gV_X3_readOrder {own : String} {idx : Nat} (h1 : Cond.methodLink own idx yX3_readOrder ∈ wsL_law) : GoodIn wsL_law (wsV own idx RX3 yX3_readOrder wsX3_readOrder) := gV_of rfl h1 q_33_4 q_33_5 q_1_23 q_33_6
theorem gS_X6_isOutside {own : String} {idx : Nat} (h1 : Cond.methodLink own idx yX6_isOutside ∈ wsL_law) : GoodIn wsL_law (va_wsS own idx yX6_isOutside wsX6_isOutside) := gS_of rfl h1 q_5_9 q_1_2 q_5_10
theorem gN_X6_isOutside : GoodIn wsL_law wsX6_isOutside := gN_of rfl q_5_10
theorem gV_X3_isInRange {own : String} {idx : Nat} (h1 : Cond.methodLink own idx yX3_isInRange ∈ wsL_law) : GoodIn wsL_law (wsV own idx RX3 yX3_isInRange wsX3_isInRange) := gV_of rfl h1 q_34_2 q_34_3 q_1_23 q_34_4
theorem gV_X4_hasHoursLeft {own : String} {idx : Nat} (h1 : Cond.methodLink own idx yX4_hasHoursLeft ∈ wsL_law) : GoodIn wsL_law (wsV own idx RX4 yX4_hasHoursLeft wsX4_hasHoursLeft) := gV_of rfl h1 q_16_22 q_16_23 q_1_14 q_17_0
theorem gV_X3_isPossible {own : String} {idx : Nat} (h1 : Cond.methodLink own idx yX3_isPossible ∈ wsL_law) : GoodIn wsL_law (wsV own idx RX3 yX3_isPossible wsX3_isPossible) := gV_of rfl h1 q_34_10 q_34_11 q_1_23 q_34_12
theorem gV_X3_reasonAgainst {own : String} {idx : Nat} (h1 : Cond.methodLink own idx yX3_reasonAgainst ∈ wsL_law) : GoodIn wsL_law (wsV own idx RX3 yX3_reasonAgainst wsX3_reasonAgainst) := gV_of rfl h1 q_32_23 q_33_0 q_1_23 q_33_1
theorem gS_J7_fill_53178 {own : String} {idx : Nat} (h1 : Cond.methodLink own idx yJ7_fill_53178 ∈ wsL_law) : GoodIn wsL_law (va_wsS own idx yJ7_fill_53178 wsJ7_fill_53178) := gS_of rfl h1 q_17_22 q_17_23 q_18_0
theorem gN_J7_fill_53178 : GoodIn wsL_law wsJ7_fill_53178 := gN_of rfl q_18_0
theorem gV_X4_findCallsBelow {own : String} {idx : Nat} (h1 : Cond.methodLink own idx yX4_findCallsBelow ∈ wsL_law) : GoodIn wsL_law (wsV own idx RX4 yX4_findCallsBelow wsX4_findCallsBelow) := gV_of rfl h1 q_17_14 q_17_15 q_1_14 q_17_16
theorem gV_X4_findPassingGates {own : String} {idx : Nat} (h1 : Cond.methodLink own idx yX4_findPassingGates ∈ wsL_law) : GoodIn wsL_law (wsV own idx RX4 yX4_findPassingGates wsX4_findPassingGates) := gV_of rfl h1 q_18_4 q_18_5 q_1_14 q_18_6
theorem gV_X4_seepAway {own : String} {idx : Nat} (h1 : Cond.methodLink own idx yX4_seepAway ∈ wsL_law) : GoodIn wsL_law (wsV own idx RX4 yX4_seepAway wsX4_seepAway) := gV_of rfl h1 q_18_11 q_18_12 q_1_14 q_18_13
theorem gV_X4_mayTake {own : String} {idx : Nat} (h1 : Cond.methodLink own idx yX4_mayTake ∈ wsL_law) : GoodIn wsL_law (wsV own idx RX4 yX4_mayTake wsX4_mayTake) := gV_of rfl h1 q_18_22 q_18_23 q_1_14 q_19_0
theorem gV_X4_giveToFields {own : String} {idx : Nat} (h1 : Cond.methodLink own idx yX4_giveToFields ∈ wsL_law) : GoodIn wsL_law (wsV own idx RX4 yX4_giveToFields wsX4_giveToFields) := gV_of rfl h1 q_18_17 q_18_18 q_1_14 q_18_19
theorem gV_X4_isPassingFrom {own : String} {idx : Nat} (h1 : Cond.methodLink own idx yX4_isPassingFrom ∈ wsL_law) : GoodIn wsL_law (wsV own idx RX4 yX4_isPassingFrom wsX4_isPassingFrom) := gV_of rfl h1 q_19_11 q_19_12 q_1_14 q_19_13
theorem gV_X4_throughGate {own : String} {idx : Nat} (h1 : Cond.methodLink own idx yX4_throughGate ∈ wsL_law) : GoodIn wsL_law (wsV own idx RX4 yX4_throughGate wsX4_throughGate) := gV_of rfl h1 q_19_15 q_19_16 q_1_14 q_19_17
theorem gV_X4_partAmongGates {own : String} {idx : Nat} (h1 : Cond.methodLink own idx yX4_partAmongGates ∈ wsL_law) : GoodIn wsL_law (wsV own idx RX4 yX4_partAmongGates wsX4_partAmongGates) := gV_of rfl h1 q_19_7 q_19_8 q_1_14 q_19_9
theorem gV_X4_endCalls {own : String} {idx : Nat} (h1 : Cond.methodLink own idx yX4_endCalls ∈ wsL_law) : GoodIn wsL_law (wsV own idx RX4 yX4_endCalls wsX4_endCalls) := gV_of rfl h1 q_19_19 q_19_20 q_1_14 q_19_21
theorem gV_X4_passHour {own : String} {idx : Nat} (h1 : Cond.methodLink own idx yX4_passHour ∈ wsL_law) : GoodIn wsL_law (wsV own idx RX4 yX4_passHour wsX4_passHour) := gV_of rfl h1 q_17_2 q_17_3 q_1_14 q_17_4
theorem gV_X5_gatesFor {own : String} {idx : Nat} (h1 : Cond.methodLink own idx yX5_gatesFor ∈ wsL_law) : GoodIn wsL_law (wsV own idx RX5 yX5_gatesFor wsX5_gatesFor) := gV_of rfl h1 q_22_5 q_22_6 q_2_14 q_22_7
theorem gV_X5_goOn {own : String} {idx : Nat} (h1 : Cond.methodLink own idx yX5_goOn ∈ wsL_law) : GoodIn wsL_law (wsV own idx RX5 yX5_goOn wsX5_goOn) := gV_of rfl h1 q_22_10 q_22_11 q_2_14 q_22_12
theorem gV_X4_runHours {own : String} {idx : Nat} (h1 : Cond.methodLink own idx yX4_runHours ∈ wsL_law) : GoodIn wsL_law (wsV own idx RX4 yX4_runHours wsX4_runHours) := gV_of rfl h1 q_22_0 q_22_1 q_1_14 q_22_2
theorem gV_X3_carryOut {own : String} {idx : Nat} (h1 : Cond.methodLink own idx yX3_carryOut ∈ wsL_law) : GoodIn wsL_law (wsV own idx RX3 yX3_carryOut wsX3_carryOut) := gV_of rfl h1 q_34_18 q_34_19 q_1_23 q_34_20
theorem gV_X3_carryOutAll {own : String} {idx : Nat} (h1 : Cond.methodLink own idx yX3_carryOutAll ∈ wsL_law) : GoodIn wsL_law (wsV own idx RX3 yX3_carryOutAll wsX3_carryOutAll) := gV_of rfl h1 q_32_16 q_32_17 q_1_23 q_32_18
theorem gV_X5_has {own : String} {idx : Nat} (h1 : Cond.methodLink own idx yX5_has ∈ wsL_law) : GoodIn wsL_law (wsV own idx RX5 yX5_has wsX5_has) := gV_of rfl h1 q_25_10 q_25_11 q_2_14 q_25_12
theorem gV_X5_beginAgain {own : String} {idx : Nat} (h1 : Cond.methodLink own idx yX5_beginAgain ∈ wsL_law) : GoodIn wsL_law (wsV own idx RX5 yX5_beginAgain wsX5_beginAgain) := gV_of rfl h1 q_15_18 q_15_19 q_2_14 q_15_20
theorem gV_X5_add {own : String} {idx : Nat} (h1 : Cond.methodLink own idx yX5_add ∈ wsL_law) : GoodIn wsL_law (wsV own idx RX5 yX5_add wsX5_add) := gV_of rfl h1 q_15_14 q_15_15 q_2_14 q_15_16
theorem gV_X5_removeAll {own : String} {idx : Nat} (h1 : Cond.methodLink own idx yX5_removeAll ∈ wsL_law) : GoodIn wsL_law (wsV own idx RX5 yX5_removeAll wsX5_removeAll) := gV_of rfl h1 q_16_10 q_16_11 q_2_14 q_16_12
theorem gV_X6_canal {own : String} {idx : Nat} (h1 : Cond.methodLink own idx yX6_canal ∈ wsL_law) : GoodIn wsL_law (wsV own idx RX6 yX6_canal wsX6_canal) := gV_of rfl h1 q_4_21 q_4_22 q_1_2 q_4_23
theorem gV_X6_field {own : String} {idx : Nat} (h1 : Cond.methodLink own idx yX6_field ∈ wsL_law) : GoodIn wsL_law (wsV own idx RX6 yX6_field wsX6_field) := gV_of rfl h1 q_8_8 q_8_9 q_1_2 q_8_10
theorem gS_X6_tendsKind {own : String} {idx : Nat} (h1 : Cond.methodLink own idx yX6_tendsKind ∈ wsL_law) : GoodIn wsL_law (va_wsS own idx yX6_tendsKind wsX6_tendsKind) := gS_of rfl h1 q_9_13 q_1_2 q_9_14
theorem gN_X6_tendsKind : GoodIn wsL_law wsX6_tendsKind := gN_of rfl q_9_14
theorem gV_X6_tend {own : String} {idx : Nat} (h1 : Cond.methodLink own idx yX6_tend ∈ wsL_law) : GoodIn wsL_law (wsV own idx RX6 yX6_tend wsX6_tend) := gV_of rfl h1 q_8_22 q_8_23 q_1_2 q_9_0
theorem gV_X6_leave {own : String} {idx : Nat} (h1 : Cond.methodLink own idx yX6_leave ∈ wsL_law) : GoodIn wsL_law (wsV own idx RX6 yX6_leave wsX6_leave) := gV_of rfl h1 q_10_13 q_10_14 q_1_2 q_10_15
theorem gV_X6_open {own : String} {idx : Nat} (h1 : Cond.methodLink own idx yX6_open ∈ wsL_law) : GoodIn wsL_law (wsV own idx RX6 yX6_open wsX6_open) := gV_of rfl h1 q_10_21 q_10_22 q_1_2 q_10_23
theorem gV_X6_close {own : String} {idx : Nat} (h1 : Cond.methodLink own idx yX6_close ∈ wsL_law) : GoodIn wsL_law (wsV own idx RX6 yX6_close wsX6_close) := gV_of rfl h1 q_12_2 q_12_3 q_1_2 q_12_4
theorem gV_X6_call {own : String} {idx : Nat} (h1 : Cond.methodLink own idx yX6_call ∈ wsL_law) : GoodIn wsL_law (wsV own idx RX6 yX6_call wsX6_call) := gV_of rfl h1 q_12_14 q_12_15 q_1_2 q_12_16
theorem gV_X6_turn {own : String} {idx : Nat} (h1 : Cond.methodLink own idx yX6_turn ∈ wsL_law) : GoodIn wsL_law (wsV own idx RX6 yX6_turn wsX6_turn) := gV_of rfl h1 q_15_0 q_15_1 q_1_2 q_15_2
theorem gV_X6_noTurns {own : String} {idx : Nat} (h1 : Cond.methodLink own idx yX6_noTurns ∈ wsL_law) : GoodIn wsL_law (wsV own idx RX6 yX6_noTurns wsX6_noTurns) := gV_of rfl h1 q_16_6 q_16_7 q_1_2 q_16_8
theorem gV_X6_hour {own : String} {idx : Nat} (h1 : Cond.methodLink own idx yX6_hour ∈ wsL_law) : GoodIn wsL_law (wsV own idx RX6 yX6_hour wsX6_hour) := gV_of rfl h1 q_16_18 q_16_19 q_1_2 q_16_20
theorem gV_X6_run {own : String} {idx : Nat} (h1 : Cond.methodLink own idx yX6_run ∈ wsL_law) : GoodIn wsL_law (wsV own idx RX6 yX6_run wsX6_run) := gV_of rfl h1 q_21_20 q_21_21 q_1_2 q_21_22
theorem gS_X6_asNumber {own : String} {idx : Nat} (h1 : Cond.methodLink own idx yX6_asNumber ∈ wsL_law) : GoodIn wsL_law (va_wsS own idx yX6_asNumber wsX6_asNumber) := gS_of rfl h1 q_23_18 q_1_2 q_23_19
theorem gN_X6_asNumber : GoodIn wsL_law wsX6_asNumber := gN_of rfl q_23_19
theorem gV_X6_canalOf {own : String} {idx : Nat} (h1 : Cond.methodLink own idx yX6_canalOf ∈ wsL_law) : GoodIn wsL_law (wsV own idx RX6 yX6_canalOf wsX6_canalOf) := gV_of rfl h1 q_23_6 q_23_7 q_1_2 q_23_8
theorem gV_X6_fieldOf {own : String} {idx : Nat} (h1 : Cond.methodLink own idx yX6_fieldOf ∈ wsL_law) : GoodIn wsL_law (wsV own idx RX6 yX6_fieldOf wsX6_fieldOf) := gV_of rfl h1 q_24_10 q_24_11 q_1_2 q_24_12
theorem gV_X6_turnOf {own : String} {idx : Nat} (h1 : Cond.methodLink own idx yX6_turnOf ∈ wsL_law) : GoodIn wsL_law (wsV own idx RX6 yX6_turnOf wsX6_turnOf) := gV_of rfl h1 q_25_4 q_25_5 q_1_2 q_25_6
theorem gS_X6_floatBits {own : String} {idx : Nat} (h1 : Cond.methodLink own idx yX6_floatBits ∈ wsL_law) : GoodIn wsL_law (va_wsS own idx yX6_floatBits wsX6_floatBits) := gS_of rfl h1 q_26_2 q_1_2 q_26_3
theorem gN_X6_floatBits : GoodIn wsL_law wsX6_floatBits := gN_of rfl q_26_3
theorem gV_X6_share {own : String} {idx : Nat} (h1 : Cond.methodLink own idx yX6_share ∈ wsL_law) : GoodIn wsL_law (wsV own idx RX6 yX6_share wsX6_share) := gV_of rfl h1 q_25_18 q_25_19 q_1_2 q_25_20
theorem gV_X6_gain {own : String} {idx : Nat} (h1 : Cond.methodLink own idx yX6_gain ∈ wsL_law) : GoodIn wsL_law (wsV own idx RX6 yX6_gain wsX6_gain) := gV_of rfl h1 q_27_5 q_27_6 q_1_2 q_27_7
theorem gV_X6_would {own : String} {idx : Nat} (h1 : Cond.methodLink own idx yX6_would ∈ wsL_law) : GoodIn wsL_law (wsV own idx RX6 yX6_would wsX6_would) := gV_of rfl h1 q_26_23 q_27_0 q_1_2 q_27_1
theorem gV_X6_wouldServe {own : String} {idx : Nat} (h1 : Cond.methodLink own idx yX6_wouldServe ∈ wsL_law) : GoodIn wsL_law (wsV own idx RX6 yX6_wouldServe wsX6_wouldServe) := gV_of rfl h1 q_28_7 q_28_8 q_1_2 q_28_9
theorem gV_X6_leastGates {own : String} {idx : Nat} (h1 : Cond.methodLink own idx yX6_leastGates ∈ wsL_law) : GoodIn wsL_law (wsV own idx RX6 yX6_leastGates wsX6_leastGates) := gV_of rfl h1 q_27_21 q_27_22 q_1_2 q_27_23
theorem gV_X6_fewestBuckets {own : String} {idx : Nat} (h1 : Cond.methodLink own idx yX6_fewestBuckets ∈ wsL_law) : GoodIn wsL_law (wsV own idx RX6 yX6_fewestBuckets wsX6_fewestBuckets) := gV_of rfl h1 q_28_20 q_28_21 q_1_2 q_28_22
theorem gV_X6_hoursFor {own : String} {idx : Nat} (h1 : Cond.methodLink own idx yX6_hoursFor ∈ wsL_law) : GoodIn wsL_law (wsV own idx RX6 yX6_hoursFor wsX6_hoursFor) := gV_of rfl h1 q_29_4 q_29_5 q_1_2 q_29_6
theorem gV_X6_rightAt {own : String} {idx : Nat} (h1 : Cond.methodLink own idx yX6_rightAt ∈ wsL_law) : GoodIn wsL_law (wsV own idx RX6 yX6_rightAt wsX6_rightAt) := gV_of rfl h1 q_29_12 q_29_13 q_1_2 q_29_14
theorem gV_X6_count {own : String} {idx : Nat} (h1 : Cond.methodLink own idx yX6_count ∈ wsL_law) : GoodIn wsL_law (wsV own idx RX6 yX6_count wsX6_count) := gV_of rfl h1 q_29_21 q_29_22 q_1_2 q_29_23
theorem gV_X6_undo {own : String} {idx : Nat} (h1 : Cond.methodLink own idx yX6_undo ∈ wsL_law) : GoodIn wsL_law (wsV own idx RX6 yX6_undo wsX6_undo) := gV_of rfl h1 q_31_0 q_31_1 q_1_2 q_31_2
theorem gV_X6_type {own : String} {idx : Nat} (h1 : Cond.methodLink own idx yX6_type ∈ wsL_law) : GoodIn wsL_law (wsV own idx RX6 yX6_type wsX6_type) := gV_of rfl h1 q_31_12 q_31_13 q_1_2 q_31_14
theorem gV_X6_clearText {own : String} {idx : Nat} (h1 : Cond.methodLink own idx yX6_clearText ∈ wsL_law) : GoodIn wsL_law (wsV own idx RX6 yX6_clearText wsX6_clearText) := gV_of rfl h1 q_32_1 q_32_2 q_1_2 q_32_3
theorem gV_X6_fault {own : String} {idx : Nat} (h1 : Cond.methodLink own idx yX6_fault ∈ wsL_law) : GoodIn wsL_law (wsV own idx RX6 yX6_fault wsX6_fault) := gV_of rfl h1 q_32_9 q_32_10 q_1_2 q_32_11
theorem gV_X6_play {own : String} {idx : Nat} (h1 : Cond.methodLink own idx yX6_play ∈ wsL_law) : GoodIn wsL_law (wsV own idx RX6 yX6_play wsX6_play) := gV_of rfl h1 q_36_15 q_36_16 q_1_2 q_36_17
theorem gS_X7_in {own : String} {idx : Nat} (h1 : Cond.methodLink own idx yX7_in ∈ wsL_law) : GoodIn wsL_law (va_wsS own idx yX7_in wsX7_in) := gS_of rfl h1 q_7_20 q_1_5 q_7_21
theorem gN_X7_in : GoodIn wsL_law wsX7_in := gN_of rfl q_7_21
theorem gV_X7_ca {own : String} {idx : Nat} (h1 : Cond.methodLink own idx yX7_ca ∈ wsL_law) : GoodIn wsL_law (wsV own idx RX7 yX7_ca wsX7_ca) := gV_of rfl h1 q_10_5 q_10_6 q_1_5 q_10_7
theorem gV_X7_fi {own : String} {idx : Nat} (h1 : Cond.methodLink own idx yX7_fi ∈ wsL_law) : GoodIn wsL_law (wsV own idx RX7 yX7_fi wsX7_fi) := gV_of rfl h1 q_14_9 q_14_10 q_1_5 q_14_11
theorem gV_X7_isCanal {own : String} {idx : Nat} (h1 : Cond.methodLink own idx yX7_isCanal ∈ wsL_law) : GoodIn wsL_law (wsV own idx RX7 yX7_isCanal wsX7_isCanal) := gV_of rfl h1 q_7_16 q_7_17 q_1_5 q_7_18
theorem gV_X7_isGate {own : String} {idx : Nat} (h1 : Cond.methodLink own idx yX7_isGate ∈ wsL_law) : GoodIn wsL_law (wsV own idx RX7 yX7_isGate wsX7_isGate) := gV_of rfl h1 q_10_1 q_10_2 q_1_5 q_10_3
theorem gV_X7_isField {own : String} {idx : Nat} (h1 : Cond.methodLink own idx yX7_isField ∈ wsL_law) : GoodIn wsL_law (wsV own idx RX7 yX7_isField wsX7_isField) := gV_of rfl h1 q_14_5 q_14_6 q_1_5 q_14_7
theorem gV_X7_areGates {own : String} {idx : Nat} (h1 : Cond.methodLink own idx yX7_areGates ∈ wsL_law) : GoodIn wsL_law (wsV own idx RX7 yX7_areGates wsX7_areGates) := gV_of rfl h1 q_16_2 q_16_3 q_1_5 q_16_4
theorem gV_X7_wants {own : String} {idx : Nat} (h1 : Cond.methodLink own idx yX7_wants ∈ wsL_law) : GoodIn wsL_law (wsV own idx RX7 yX7_wants wsX7_wants) := gV_of rfl h1 q_14_13 q_14_14 q_1_5 q_14_15
theorem gV_X7_keeps {own : String} {idx : Nat} (h1 : Cond.methodLink own idx yX7_keeps ∈ wsL_law) : GoodIn wsL_law (wsV own idx RX7 yX7_keeps wsX7_keeps) := gV_of rfl h1 q_7_23 q_8_0 q_1_5 q_8_1
theorem gV_X7_acted {own : String} {idx : Nat} (h1 : Cond.methodLink own idx yX7_acted ∈ wsL_law) : GoodIn wsL_law (wsV own idx RX7 yX7_acted wsX7_acted) := gV_of rfl h1 q_8_3 q_8_4 q_1_5 q_8_5
theorem gV_X7_puts {own : String} {idx : Nat} (h1 : Cond.methodLink own idx yX7_puts ∈ wsL_law) : GoodIn wsL_law (wsV own idx RX7 yX7_puts wsX7_puts) := gV_of rfl h1 q_27_13 q_27_14 q_1_5 q_27_15
theorem gV_X7_restores {own : String} {idx : Nat} (h1 : Cond.methodLink own idx yX7_restores ∈ wsL_law) : GoodIn wsL_law (wsV own idx RX7 yX7_restores wsX7_restores) := gV_of rfl h1 q_27_17 q_27_18 q_1_5 q_27_19
theorem gV_X7_canal {own : String} {idx : Nat} (h1 : Cond.methodLink own idx yX7_canal ∈ wsL_law) : GoodIn wsL_law (wsV own idx RX7 yX7_canal wsX7_canal) := gV_of rfl h1 q_7_10 q_7_11 q_1_5 q_7_12
theorem gV_X7_field {own : String} {idx : Nat} (h1 : Cond.methodLink own idx yX7_field ∈ wsL_law) : GoodIn wsL_law (wsV own idx RX7 yX7_field wsX7_field) := gV_of rfl h1 q_8_18 q_8_19 q_1_5 q_8_20
theorem gV_X7_tended {own : String} {idx : Nat} (h1 : Cond.methodLink own idx yX7_tended ∈ wsL_law) : GoodIn wsL_law (wsV own idx RX7 yX7_tended wsX7_tended) := gV_of rfl h1 q_10_9 q_10_10 q_1_5 q_10_11
theorem gV_X7_tend {own : String} {idx : Nat} (h1 : Cond.methodLink own idx yX7_tend ∈ wsL_law) : GoodIn wsL_law (wsV own idx RX7 yX7_tend wsX7_tend) := gV_of rfl h1 q_9_20 q_9_21 q_1_5 q_9_22
theorem gV_X7_leave {own : String} {idx : Nat} (h1 : Cond.methodLink own idx yX7_leave ∈ wsL_law) : GoodIn wsL_law (wsV own idx RX7 yX7_leave wsX7_leave) := gV_of rfl h1 q_10_17 q_10_18 q_1_5 q_10_19
theorem gV_X7_openOnes {own : String} {idx : Nat} (h1 : Cond.methodLink own idx yX7_openOnes ∈ wsL_law) : GoodIn wsL_law (wsV own idx RX7 yX7_openOnes wsX7_openOnes) := gV_of rfl h1 q_11_22 q_11_23 q_1_5 q_12_0
theorem gV_X7_sets {own : String} {idx : Nat} (h1 : Cond.methodLink own idx yX7_sets ∈ wsL_law) : GoodIn wsL_law (wsV own idx RX7 yX7_sets wsX7_sets) := gV_of rfl h1 q_23_2 q_23_3 q_1_5 q_23_4
theorem gV_X7_moves {own : String} {idx : Nat} (h1 : Cond.methodLink own idx yX7_moves ∈ wsL_law) : GoodIn wsL_law (wsV own idx RX7 yX7_moves wsX7_moves) := gV_of rfl h1 q_11_18 q_11_19 q_1_5 q_11_20
theorem gV_X7_open {own : String} {idx : Nat} (h1 : Cond.methodLink own idx yX7_open ∈ wsL_law) : GoodIn wsL_law (wsV own idx RX7 yX7_open wsX7_open) := gV_of rfl h1 q_11_14 q_11_15 q_1_5 q_11_16
theorem gV_X7_close {own : String} {idx : Nat} (h1 : Cond.methodLink own idx yX7_close ∈ wsL_law) : GoodIn wsL_law (wsV own idx RX7 yX7_close wsX7_close) := gV_of rfl h1 q_12_10 q_12_11 q_1_5 q_12_12
theorem gV_X7_calling {own : String} {idx : Nat} (h1 : Cond.methodLink own idx yX7_calling ∈ wsL_law) : GoodIn wsL_law (wsV own idx RX7 yX7_calling wsX7_calling) := gV_of rfl h1 q_14_17 q_14_18 q_1_5 q_14_19
theorem gS_X7_ones {own : String} {idx : Nat} (h1 : Cond.methodLink own idx yX7_ones ∈ wsL_law) : GoodIn wsL_law (va_wsS own idx yX7_ones wsX7_ones) := gS_of rfl h1 q_14_21 q_1_5 q_14_22
theorem gN_X7_ones : GoodIn wsL_law wsX7_ones := gN_of rfl q_14_22
theorem gV_X7_calls {own : String} {idx : Nat} (h1 : Cond.methodLink own idx yX7_calls ∈ wsL_law) : GoodIn wsL_law (wsV own idx RX7 yX7_calls wsX7_calls) := gV_of rfl h1 q_14_1 q_14_2 q_1_5 q_14_3
theorem gV_X7_call {own : String} {idx : Nat} (h1 : Cond.methodLink own idx yX7_call ∈ wsL_law) : GoodIn wsL_law (wsV own idx RX7 yX7_call wsX7_call) := gV_of rfl h1 q_13_21 q_13_22 q_1_5 q_13_23
theorem gV_X7_turn {own : String} {idx : Nat} (h1 : Cond.methodLink own idx yX7_turn ∈ wsL_law) : GoodIn wsL_law (wsV own idx RX7 yX7_turn wsX7_turn) := gV_of rfl h1 q_15_22 q_15_23 q_1_5 q_16_0
theorem gV_X7_noTurns {own : String} {idx : Nat} (h1 : Cond.methodLink own idx yX7_noTurns ∈ wsL_law) : GoodIn wsL_law (wsV own idx RX7 yX7_noTurns wsX7_noTurns) := gV_of rfl h1 q_16_14 q_16_15 q_1_5 q_16_16
theorem gV_X7_isBelow {own : String} {idx : Nat} (h1 : Cond.methodLink own idx yX7_isBelow ∈ wsL_law) : GoodIn wsL_law (wsV own idx RX7 yX7_isBelow wsX7_isBelow) := gV_of rfl h1 q_21_0 q_21_1 q_1_5 q_21_2
theorem gV_X7_mayTake {own : String} {idx : Nat} (h1 : Cond.methodLink own idx yX7_mayTake ∈ wsL_law) : GoodIn wsL_law (wsV own idx RX7 yX7_mayTake wsX7_mayTake) := gV_of rfl h1 q_20_20 q_20_21 q_1_5 q_20_22
theorem gV_X7_isWanted {own : String} {idx : Nat} (h1 : Cond.methodLink own idx yX7_isWanted ∈ wsL_law) : GoodIn wsL_law (wsV own idx RX7 yX7_isWanted wsX7_isWanted) := gV_of rfl h1 q_21_16 q_21_17 q_1_5 q_21_18
theorem gV_X7_next {own : String} {idx : Nat} (h1 : Cond.methodLink own idx yX7_next ∈ wsL_law) : GoodIn wsL_law (wsV own idx RX7 yX7_next wsX7_next) := gV_of rfl h1 q_21_4 q_21_5 q_1_5 q_21_6
theorem gV_X7_serves {own : String} {idx : Nat} (h1 : Cond.methodLink own idx yX7_serves ∈ wsL_law) : GoodIn wsL_law (wsV own idx RX7 yX7_serves wsX7_serves) := gV_of rfl h1 q_20_16 q_20_17 q_1_5 q_20_18
theorem gV_X7_lets {own : String} {idx : Nat} (h1 : Cond.methodLink own idx yX7_lets ∈ wsL_law) : GoodIn wsL_law (wsV own idx RX7 yX7_lets wsX7_lets) := gV_of rfl h1 q_21_12 q_21_13 q_1_5 q_21_14
theorem gV_X7_parts {own : String} {idx : Nat} (h1 : Cond.methodLink own idx yX7_parts ∈ wsL_law) : GoodIn wsL_law (wsV own idx RX7 yX7_parts wsX7_parts) := gV_of rfl h1 q_21_8 q_21_9 q_1_5 q_21_10
theorem gV_X7_flows {own : String} {idx : Nat} (h1 : Cond.methodLink own idx yX7_flows ∈ wsL_law) : GoodIn wsL_law (wsV own idx RX7 yX7_flows wsX7_flows) := gV_of rfl h1 q_20_12 q_20_13 q_1_5 q_20_14
theorem gV_X7_goes {own : String} {idx : Nat} (h1 : Cond.methodLink own idx yX7_goes ∈ wsL_law) : GoodIn wsL_law (wsV own idx RX7 yX7_goes wsX7_goes) := gV_of rfl h1 q_20_8 q_20_9 q_1_5 q_20_10
theorem gV_X7_hour {own : String} {idx : Nat} (h1 : Cond.methodLink own idx yX7_hour ∈ wsL_law) : GoodIn wsL_law (wsV own idx RX7 yX7_hour wsX7_hour) := gV_of rfl h1 q_20_4 q_20_5 q_1_5 q_20_6
theorem gV_X7_runsOne {own : String} {idx : Nat} (h1 : Cond.methodLink own idx yX7_runsOne ∈ wsL_law) : GoodIn wsL_law (wsV own idx RX7 yX7_runsOne wsX7_runsOne) := gV_of rfl h1 q_22_22 q_22_23 q_1_5 q_23_0
theorem gV_X7_runs {own : String} {idx : Nat} (h1 : Cond.methodLink own idx yX7_runs ∈ wsL_law) : GoodIn wsL_law (wsV own idx RX7 yX7_runs wsX7_runs) := gV_of rfl h1 q_22_18 q_22_19 q_1_5 q_22_20
theorem gV_X7_run {own : String} {idx : Nat} (h1 : Cond.methodLink own idx yX7_run ∈ wsL_law) : GoodIn wsL_law (wsV own idx RX7 yX7_run wsX7_run) := gV_of rfl h1 q_22_14 q_22_15 q_1_5 q_22_16
theorem gV_X7_below {own : String} {idx : Nat} (h1 : Cond.methodLink own idx yX7_below ∈ wsL_law) : GoodIn wsL_law (wsV own idx RX7 yX7_below wsX7_below) := gV_of rfl h1 q_24_6 q_24_7 q_1_5 q_24_8
theorem gV_X7_canalOf {own : String} {idx : Nat} (h1 : Cond.methodLink own idx yX7_canalOf ∈ wsL_law) : GoodIn wsL_law (wsV own idx RX7 yX7_canalOf wsX7_canalOf) := gV_of rfl h1 q_24_1 q_24_2 q_1_5 q_24_3
theorem gV_X7_fieldOf {own : String} {idx : Nat} (h1 : Cond.methodLink own idx yX7_fieldOf ∈ wsL_law) : GoodIn wsL_law (wsV own idx RX7 yX7_fieldOf wsX7_fieldOf) := gV_of rfl h1 q_25_0 q_25_1 q_1_5 q_25_2
theorem gV_X7_turnOf {own : String} {idx : Nat} (h1 : Cond.methodLink own idx yX7_turnOf ∈ wsL_law) : GoodIn wsL_law (wsV own idx RX7 yX7_turnOf wsX7_turnOf) := gV_of rfl h1 q_25_14 q_25_15 q_1_5 q_25_16
theorem gS_Jxf58ca_isNaN_12338 {own : String} {idx : Nat} (h1 : Cond.methodLink own idx yJxf58ca_isNaN_12338 ∈ wsL_law) : GoodIn wsL_law (va_wsS own idx yJxf58ca_isNaN_12338 wsJxf58ca_isNaN_12338) := gS_of rfl h1 q_26_20 q_26_12 q_26_21
theorem gN_Jxf58ca_isNaN_12338 : GoodIn wsL_law wsJxf58ca_isNaN_12338 := gN_of rfl q_26_21
theorem gS_Jxf58ca_floatToIntBits_5c35a {own : String} {idx : Nat} (h1 : Cond.methodLink own idx yJxf58ca_floatToIntBits_5c35a ∈ wsL_law) : GoodIn wsL_law (va_wsS own idx yJxf58ca_floatToIntBits_5c35a wsJxf58ca_floatToIntBits_5c35a) := gS_of rfl h1 q_26_11 q_26_12 q_26_13
theorem gN_Jxf58ca_floatToIntBits_5c35a : GoodIn wsL_law wsJxf58ca_floatToIntBits_5c35a := gN_of rfl q_26_13
theorem gV_X7_share {own : String} {idx : Nat} (h1 : Cond.methodLink own idx yX7_share ∈ wsL_law) : GoodIn wsL_law (wsV own idx RX7 yX7_share wsX7_share) := gV_of rfl h1 q_26_7 q_26_8 q_1_5 q_26_9
theorem gV_X7_would {own : String} {idx : Nat} (h1 : Cond.methodLink own idx yX7_would ∈ wsL_law) : GoodIn wsL_law (wsV own idx RX7 yX7_would wsX7_would) := gV_of rfl h1 q_27_9 q_27_10 q_1_5 q_27_11
theorem gV_X7_haveGot {own : String} {idx : Nat} (h1 : Cond.methodLink own idx yX7_haveGot ∈ wsL_law) : GoodIn wsL_law (wsV own idx RX7 yX7_haveGot wsX7_haveGot) := gV_of rfl h1 q_28_16 q_28_17 q_1_5 q_28_18
theorem gV_X7_leastGates {own : String} {idx : Nat} (h1 : Cond.methodLink own idx yX7_leastGates ∈ wsL_law) : GoodIn wsL_law (wsV own idx RX7 yX7_leastGates wsX7_leastGates) := gV_of rfl h1 q_28_12 q_28_13 q_1_5 q_28_14
theorem gV_X7_fewestBuckets {own : String} {idx : Nat} (h1 : Cond.methodLink own idx yX7_fewestBuckets ∈ wsL_law) : GoodIn wsL_law (wsV own idx RX7 yX7_fewestBuckets wsX7_fewestBuckets) := gV_of rfl h1 q_29_0 q_29_1 q_1_5 q_29_2
theorem gV_X7_hoursFor {own : String} {idx : Nat} (h1 : Cond.methodLink own idx yX7_hoursFor ∈ wsL_law) : GoodIn wsL_law (wsV own idx RX7 yX7_hoursFor wsX7_hoursFor) := gV_of rfl h1 q_29_8 q_29_9 q_1_5 q_29_10
theorem gV_X7_rightAt {own : String} {idx : Nat} (h1 : Cond.methodLink own idx yX7_rightAt ∈ wsL_law) : GoodIn wsL_law (wsV own idx RX7 yX7_rightAt wsX7_rightAt) := gV_of rfl h1 q_29_17 q_29_18 q_1_5 q_29_19
theorem gV_X7_tendedOnes {own : String} {idx : Nat} (h1 : Cond.methodLink own idx yX7_tendedOnes ∈ wsL_law) : GoodIn wsL_law (wsV own idx RX7 yX7_tendedOnes wsX7_tendedOnes) := gV_of rfl h1 q_30_20 q_30_21 q_1_5 q_30_22
theorem gV_X7_wanting {own : String} {idx : Nat} (h1 : Cond.methodLink own idx yX7_wanting ∈ wsL_law) : GoodIn wsL_law (wsV own idx RX7 yX7_wanting wsX7_wanting) := gV_of rfl h1 q_30_16 q_30_17 q_1_5 q_30_18
theorem gV_X7_count {own : String} {idx : Nat} (h1 : Cond.methodLink own idx yX7_count ∈ wsL_law) : GoodIn wsL_law (wsV own idx RX7 yX7_count wsX7_count) := gV_of rfl h1 q_30_11 q_30_12 q_1_5 q_30_13
theorem gV_X7_undo {own : String} {idx : Nat} (h1 : Cond.methodLink own idx yX7_undo ∈ wsL_law) : GoodIn wsL_law (wsV own idx RX7 yX7_undo wsX7_undo) := gV_of rfl h1 q_31_8 q_31_9 q_1_5 q_31_10
theorem gV_X7_type {own : String} {idx : Nat} (h1 : Cond.methodLink own idx yX7_type ∈ wsL_law) : GoodIn wsL_law (wsV own idx RX7 yX7_type wsX7_type) := gV_of rfl h1 q_31_21 q_31_22 q_1_5 q_31_23
theorem gV_X7_clearText {own : String} {idx : Nat} (h1 : Cond.methodLink own idx yX7_clearText ∈ wsL_law) : GoodIn wsL_law (wsV own idx RX7 yX7_clearText wsX7_clearText) := gV_of rfl h1 q_32_5 q_32_6 q_1_5 q_32_7
theorem gV_X7_sign {own : String} {idx : Nat} (h1 : Cond.methodLink own idx yX7_sign ∈ wsL_law) : GoodIn wsL_law (wsV own idx RX7 yX7_sign wsX7_sign) := gV_of rfl h1 q_35_18 q_35_19 q_1_5 q_35_20
theorem gV_X7_readsNumber {own : String} {idx : Nat} (h1 : Cond.methodLink own idx yX7_readsNumber ∈ wsL_law) : GoodIn wsL_law (wsV own idx RX7 yX7_readsNumber wsX7_readsNumber) := gV_of rfl h1 q_36_3 q_36_4 q_1_5 q_36_5
theorem gV_X7_readsForm {own : String} {idx : Nat} (h1 : Cond.methodLink own idx yX7_readsForm ∈ wsL_law) : GoodIn wsL_law (wsV own idx RX7 yX7_readsForm wsX7_readsForm) := gV_of rfl h1 q_35_22 q_35_23 q_1_5 q_36_0
theorem gV_X7_isInRange {own : String} {idx : Nat} (h1 : Cond.methodLink own idx yX7_isInRange ∈ wsL_law) : GoodIn wsL_law (wsV own idx RX7 yX7_isInRange wsX7_isInRange) := gV_of rfl h1 q_36_7 q_36_8 q_1_5 q_36_9
theorem gV_X7_does {own : String} {idx : Nat} (h1 : Cond.methodLink own idx yX7_does ∈ wsL_law) : GoodIn wsL_law (wsV own idx RX7 yX7_does wsX7_does) := gV_of rfl h1 q_36_11 q_36_12 q_1_5 q_36_13
theorem gV_X7_doesNext {own : String} {idx : Nat} (h1 : Cond.methodLink own idx yX7_doesNext ∈ wsL_law) : GoodIn wsL_law (wsV own idx RX7 yX7_doesNext wsX7_doesNext) := gV_of rfl h1 q_35_13 q_35_14 q_1_5 q_35_15
theorem gV_X7_faulty {own : String} {idx : Nat} (h1 : Cond.methodLink own idx yX7_faulty ∈ wsL_law) : GoodIn wsL_law (wsV own idx RX7 yX7_faulty wsX7_faulty) := gV_of rfl h1 q_35_8 q_35_9 q_1_5 q_35_10
theorem gV_X7_fault {own : String} {idx : Nat} (h1 : Cond.methodLink own idx yX7_fault ∈ wsL_law) : GoodIn wsL_law (wsV own idx RX7 yX7_fault wsX7_fault) := gV_of rfl h1 q_35_2 q_35_3 q_1_5 q_35_4
theorem gV_X7_play {own : String} {idx : Nat} (h1 : Cond.methodLink own idx yX7_play ∈ wsL_law) : GoodIn wsL_law (wsV own idx RX7 yX7_play wsX7_play) := gV_of rfl h1 q_36_19 q_36_20 q_1_5 q_36_21
