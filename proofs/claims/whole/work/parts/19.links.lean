abbrev mJ6_bitCount_0f7a4 : ab_M := (yJ6_bitCount_0f7a4, cJ6_bitCount_0f7a4, 1, (some .int), 0, fun _ => 0)
abbrev mJ9_max_7cf53 : ab_M := (yJ9_max_7cf53, cJ9_max_7cf53, 2, (some .int), 0, fun _ => 0)
abbrev mJ9_min_7cf53 : ab_M := (yJ9_min_7cf53, cJ9_min_7cf53, 2, (some .int), 0, fun _ => 0)
abbrev mL_element : ab_M := (yL_element, cL_element, 5, (some .int), 0, fun _ => 0)
abbrev mX0_init : ab_M := (yX0_init, cX0_init, 6, none, 0, fun _ => 0)
abbrev mX10_add : ab_M := (yX10_add, cX10_add, 2, none, 0, fun _ => 0)
abbrev mX10_begin : ab_M := (yX10_begin, cX10_begin, 3, none, 0, fun _ => 0)
abbrev mX10_deedAt : ab_M := (yX10_deedAt, cX10_deedAt, 2, (some (.object "BackwardYears$Deed")), 0, fun _ => 0)
abbrev mX10_evenPlace : ab_M := (yX10_evenPlace, cX10_evenPlace, 5, none, 0, fun _ => 0)
abbrev mX10_evenYear : ab_M := (yX10_evenYear, cX10_evenYear, 3, none, 0, fun _ => 0)
abbrev mX10_fate : ab_M := (yX10_fate, cX10_fate, 2, (some .int), 0, fun _ => 0)
abbrev mX10_has : ab_M := (yX10_has, cX10_has, 2, (some .boolean), 0, fun _ => 0)
abbrev mX10_init : ab_M := (yX10_init, cX10_init, 1, none, 0, fun _ => 0)
abbrev mX10_leastNails : ab_M := (yX10_leastNails, cX10_leastNails, 6, (some .int), 0, fun _ => 0)
abbrev mX10_letFall : ab_M := (yX10_letFall, cX10_letFall, 5, none, 0, fun _ => 0)
abbrev mX10_nailAt : ab_M := (yX10_nailAt, cX10_nailAt, 3, none, 0, fun _ => 0)
abbrev mX10_oddYear : ab_M := (yX10_oddYear, cX10_oddYear, 2, none, 0, fun _ => 0)
abbrev mX10_open : ab_M := (yX10_open, cX10_open, 2, none, 0, fun _ => 0)
abbrev mX10_play : ab_M := (yX10_play, cX10_play, 2, none, 0, fun _ => 0)
abbrev mX10_standing : ab_M := (yX10_standing, cX10_standing, 1, (some .int), 0, fun _ => 0)
abbrev mX10_stays : ab_M := (yX10_stays, cX10_stays, 5, (some .boolean), 0, fun _ => 0)
abbrev mX10_undo : ab_M := (yX10_undo, cX10_undo, 3, none, 0, fun _ => 0)
abbrev mX11_addMoves : ab_M := (yX11_addMoves, cX11_addMoves, 5, none, 0, fun _ => 0)
abbrev mX11_areMarks : ab_M := (yX11_areMarks, cX11_areMarks, 1, (some .boolean), 0, fun _ => 0)
abbrev mX11_areNails : ab_M := (yX11_areNails, cX11_areNails, 1, (some .boolean), 0, fun _ => 0)
abbrev mX11_areWorths : ab_M := (yX11_areWorths, cX11_areWorths, 3, (some .boolean), 0, fun _ => 0)
abbrev mX11_at : ab_M := (yX11_at, cX11_at, 2, (some .int), 0, fun _ => 0)
abbrev mX11_behind : ab_M := (yX11_behind, cX11_behind, 5, (some .int), 0, fun _ => 0)
abbrev mX11_bestMove : ab_M := (yX11_bestMove, cX11_bestMove, 8, (some .int), 0, fun _ => 0)
abbrev mX11_byLaw : ab_M := (yX11_byLaw, cX11_byLaw, 5, (some .int), 0, fun _ => 0)
abbrev mX11_care : ab_M := (yX11_care, cX11_care, 4, (some .int), 0, fun _ => 0)
abbrev mX11_copy : ab_M := (yX11_copy, cX11_copy, 8, (some .int), 0, fun _ => 0)
abbrev mX11_count : ab_M := (yX11_count, cX11_count, 4, (some .int), 0, fun _ => 0)
abbrev mX11_counted : ab_M := (yX11_counted, cX11_counted, 3, (some .int), 0, fun _ => 0)
abbrev mX11_deed : ab_M := (yX11_deed, cX11_deed, 4, (some .int), 0, fun _ => 0)
abbrev mX11_drawn : ab_M := (yX11_drawn, cX11_drawn, 2, (some .int), 0, fun _ => 0)
abbrev mX11_element : ab_M := (yX11_element, cX11_element, 4, (some .long), 0, fun _ => 0)
abbrev mX11_endYears : ab_M := (yX11_endYears, cX11_endYears, 2, none, 0, fun _ => 0)
abbrev mX11_endedSoBefore : ab_M := (yX11_endedSoBefore, cX11_endedSoBefore, 3, (some .boolean), 0, fun _ => 0)
abbrev mX11_even : ab_M := (yX11_even, cX11_even, 3, (some .int), 0, fun _ => 0)
abbrev mX11_ever : ab_M := (yX11_ever, cX11_ever, 5, (some .int), 0, fun _ => 0)
abbrev mX11_firstWrong : ab_M := (yX11_firstWrong, cX11_firstWrong, 5, (some .int), 0, fun _ => 0)
abbrev mX11_free : ab_M := (yX11_free, cX11_free, 6, (some .int), 0, fun _ => 0)
abbrev mX11_freest : ab_M := (yX11_freest, cX11_freest, 9, (some .int), 0, fun _ => 0)
abbrev mX11_help : ab_M := (yX11_help, cX11_help, 4, (some .int), 0, fun _ => 0)
abbrev mX11_image : ab_M := (yX11_image, cX11_image, 1, (some .int), 0, fun _ => 0)
abbrev mX11_init : ab_M := (yX11_init, cX11_init, 2, none, 0, fun _ => 0)
abbrev mX11_judge : ab_M := (yX11_judge, cX11_judge, 6, (some .int), 0, fun _ => 0)
abbrev mX11_keep : ab_M := (yX11_keep, cX11_keep, 6, (some .int), 0, fun _ => 0)
abbrev mX11_lasts : ab_M := (yX11_lasts, cX11_lasts, 5, (some .int), 0, fun _ => 0)
abbrev mX11_least : ab_M := (yX11_least, cX11_least, 6, (some .int), 0, fun _ => 0)
abbrev mX11_listMoves : ab_M := (yX11_listMoves, cX11_listMoves, 3, none, 0, fun _ => 0)
abbrev mX11_listRefusal : ab_M := (yX11_listRefusal, cX11_listRefusal, 5, (some .int), 0, fun _ => 0)
abbrev mX11_marks : ab_M := (yX11_marks, cX11_marks, 1, (some .int), 0, fun _ => 0)
abbrev mX11_may : ab_M := (yX11_may, cX11_may, 3, (some .int), 0, fun _ => 0)
abbrev mX11_month : ab_M := (yX11_month, cX11_month, 3, (some .int), 0, fun _ => 0)
abbrev mX11_nail : ab_M := (yX11_nail, cX11_nail, 2, (some .int), 0, fun _ => 0)
abbrev mX11_nextOrder : ab_M := (yX11_nextOrder, cX11_nextOrder, 6, (some .boolean), 0, fun _ => 0)
abbrev mX11_nextSeed : ab_M := (yX11_nextSeed, cX11_nextSeed, 1, (some .int), 0, fun _ => 0)
abbrev mX11_orderDigits : ab_M := (yX11_orderDigits, cX11_orderDigits, 4, (some .int), 0, fun _ => 0)
abbrev mX11_pair : ab_M := (yX11_pair, cX11_pair, 4, (some .int), 0, fun _ => 0)
abbrev mX11_plan : ab_M := (yX11_plan, cX11_plan, 7, (some .int), 0, fun _ => 0)
abbrev mX11_playList : ab_M := (yX11_playList, cX11_playList, 4, (some .int), 0, fun _ => 0)
abbrev mX11_playMove : ab_M := (yX11_playMove, cX11_playMove, 4, none, 0, fun _ => 0)
abbrev mX11_playSeeds : ab_M := (yX11_playSeeds, cX11_playSeeds, 8, (some .int), 0, fun _ => 0)
abbrev mX11_playTwo : ab_M := (yX11_playTwo, cX11_playTwo, 8, (some .int), 0, fun _ => 0)
abbrev mX11_put : ab_M := (yX11_put, cX11_put, 6, (some .int), 0, fun _ => 0)
abbrev mX11_restore : ab_M := (yX11_restore, cX11_restore, 1, (some .int), 0, fun _ => 0)
abbrev mX11_rise : ab_M := (yX11_rise, cX11_rise, 1, (some .int), 0, fun _ => 0)
abbrev mX11_row : ab_M := (yX11_row, cX11_row, 5, (some .int), 0, fun _ => 0)
abbrev mX11_seeded : ab_M := (yX11_seeded, cX11_seeded, 5, (some .int), 0, fun _ => 0)
abbrev mX11_set : ab_M := (yX11_set, cX11_set, 3, (some .int), 0, fun _ => 0)
abbrev mX11_shelfAt : ab_M := (yX11_shelfAt, cX11_shelfAt, 2, (some (.object "BackwardYears$Shelf")), 0, fun _ => 0)
abbrev mX11_state : ab_M := (yX11_state, cX11_state, 2, (some .int), 0, fun _ => 0)
abbrev mX11_store : ab_M := (yX11_store, cX11_store, 3, none, 0, fun _ => 0)
abbrev mX11_swapPlaces : ab_M := (yX11_swapPlaces, cX11_swapPlaces, 4, none, 0, fun _ => 0)
abbrev mX11_takeList : ab_M := (yX11_takeList, cX11_takeList, 5, (some .int), 0, fun _ => 0)
abbrev mX11_takeOrder : ab_M := (yX11_takeOrder, cX11_takeOrder, 3, none, 0, fun _ => 0)
abbrev mX11_toss : ab_M := (yX11_toss, cX11_toss, 5, (some .int), 0, fun _ => 0)
abbrev mX11_town : ab_M := (yX11_town, cX11_town, 5, (some .int), 0, fun _ => 0)
abbrev mX11_two : ab_M := (yX11_two, cX11_two, 10, (some .int), 0, fun _ => 0)
abbrev mX11_why : ab_M := (yX11_why, cX11_why, 5, (some .int), 0, fun _ => 0)
abbrev mX11_worthOfMarks : ab_M := (yX11_worthOfMarks, cX11_worthOfMarks, 4, (some .int), 0, fun _ => 0)
abbrev mX11_worthOfMove : ab_M := (yX11_worthOfMove, cX11_worthOfMove, 8, (some .int), 0, fun _ => 0)
abbrev mX12_areNails : ab_M := (yX12_areNails, cX12_areNails, 1, (some .boolean), 0, fun _ => 0)
abbrev mX12_backOf : ab_M := (yX12_backOf, cX12_backOf, 2, (some .int), 0, fun _ => 0)
abbrev mX12_begins : ab_M := (yX12_begins, cX12_begins, 1, none, 0, fun _ => 0)
abbrev mX12_behind : ab_M := (yX12_behind, cX12_behind, 5, (some .int), 0, fun _ => 0)
abbrev mX12_bits : ab_M := (yX12_bits, cX12_bits, 3, (some .int), 0, fun _ => 0)
abbrev mX12_byLaw : ab_M := (yX12_byLaw, cX12_byLaw, 6, (some .int), 0, fun _ => 0)
abbrev mX12_care : ab_M := (yX12_care, cX12_care, 3, (some .int), 0, fun _ => 0)
abbrev mX12_careOf : ab_M := (yX12_careOf, cX12_careOf, 3, (some .int), 0, fun _ => 0)
abbrev mX12_comes : ab_M := (yX12_comes, cX12_comes, 4, (some .boolean), 0, fun _ => 0)
abbrev mX12_copy : ab_M := (yX12_copy, cX12_copy, 8, (some .int), 0, fun _ => 0)
abbrev mX12_costOf : ab_M := (yX12_costOf, cX12_costOf, 3, (some .int), 0, fun _ => 0)
abbrev mX12_count : ab_M := (yX12_count, cX12_count, 4, (some .int), 0, fun _ => 0)
abbrev mX12_deed : ab_M := (yX12_deed, cX12_deed, 3, (some .int), 0, fun _ => 0)
abbrev mX12_drawn : ab_M := (yX12_drawn, cX12_drawn, 2, (some .int), 0, fun _ => 0)
abbrev mX12_element : ab_M := (yX12_element, cX12_element, 3, (some .long), 0, fun _ => 0)
abbrev mX12_even : ab_M := (yX12_even, cX12_even, 5, (some .int), 0, fun _ => 0)
abbrev mX12_evenYear : ab_M := (yX12_evenYear, cX12_evenYear, 4, none, 0, fun _ => 0)
abbrev mX12_ever : ab_M := (yX12_ever, cX12_ever, 5, (some .int), 0, fun _ => 0)
abbrev mX12_falls : ab_M := (yX12_falls, cX12_falls, 3, none, 0, fun _ => 0)
abbrev mX12_finds : ab_M := (yX12_finds, cX12_finds, 3, (some .boolean), 0, fun _ => 0)
abbrev mX12_free : ab_M := (yX12_free, cX12_free, 5, (some .int), 0, fun _ => 0)
abbrev mX12_get : ab_M := (yX12_get, cX12_get, 3, (some .int), 0, fun _ => 0)
abbrev mX12_help : ab_M := (yX12_help, cX12_help, 3, (some .int), 0, fun _ => 0)
abbrev mX12_here : ab_M := (yX12_here, cX12_here, 1, (some .int), 0, fun _ => 0)
abbrev mX12_holds : ab_M := (yX12_holds, cX12_holds, 2, (some .boolean), 0, fun _ => 0)
abbrev mX12_image : ab_M := (yX12_image, cX12_image, 2, (some .int), 0, fun _ => 0)
abbrev mX12_init : ab_M := (yX12_init, cX12_init, 1, none, 0, fun _ => 0)
abbrev mX12_isDeed : ab_M := (yX12_isDeed, cX12_isDeed, 2, (some .boolean), 0, fun _ => 0)
abbrev mX12_isDigit : ab_M := (yX12_isDigit, cX12_isDigit, 1, (some .boolean), 0, fun _ => 0)
abbrev mX12_isHeld : ab_M := (yX12_isHeld, cX12_isHeld, 3, (some .boolean), 0, fun _ => 0)
abbrev mX12_isIn : ab_M := (yX12_isIn, cX12_isIn, 6, (some .boolean), 0, fun _ => 0)
abbrev mX12_isKept : ab_M := (yX12_isKept, cX12_isKept, 3, (some .boolean), 0, fun _ => 0)
abbrev mX12_isMark : ab_M := (yX12_isMark, cX12_isMark, 1, (some .boolean), 0, fun _ => 0)
abbrev mX12_isShelf : ab_M := (yX12_isShelf, cX12_isShelf, 1, (some .boolean), 0, fun _ => 0)
abbrev mX12_judge : ab_M := (yX12_judge, cX12_judge, 7, (some .int), 0, fun _ => 0)
abbrev mX12_keep : ab_M := (yX12_keep, cX12_keep, 5, (some .int), 0, fun _ => 0)
abbrev mX12_lasts : ab_M := (yX12_lasts, cX12_lasts, 5, (some .int), 0, fun _ => 0)
abbrev mX12_lays : ab_M := (yX12_lays, cX12_lays, 4, none, 0, fun _ => 0)
abbrev mX12_least : ab_M := (yX12_least, cX12_least, 5, (some .int), 0, fun _ => 0)
abbrev mX12_leastOf : ab_M := (yX12_leastOf, cX12_leastOf, 2, (some .int), 0, fun _ => 0)
abbrev mX12_lines : ab_M := (yX12_lines, cX12_lines, 7, none, 0, fun _ => 0)
abbrev mX12_marks : ab_M := (yX12_marks, cX12_marks, 1, (some .int), 0, fun _ => 0)
abbrev mX12_marksBy : ab_M := (yX12_marksBy, cX12_marksBy, 4, (some .int), 0, fun _ => 0)
abbrev mX12_may : ab_M := (yX12_may, cX12_may, 2, (some .int), 0, fun _ => 0)
abbrev mX12_mayBy : ab_M := (yX12_mayBy, cX12_mayBy, 4, (some .boolean), 0, fun _ => 0)
abbrev mX12_month : ab_M := (yX12_month, cX12_month, 3, (some .int), 0, fun _ => 0)
abbrev mX12_nail : ab_M := (yX12_nail, cX12_nail, 2, (some .int), 0, fun _ => 0)
abbrev mX12_oddYear : ab_M := (yX12_oddYear, cX12_oddYear, 2, none, 0, fun _ => 0)
abbrev mX12_pair : ab_M := (yX12_pair, cX12_pair, 4, (some .int), 0, fun _ => 0)
abbrev mX12_pairOf : ab_M := (yX12_pairOf, cX12_pairOf, 1, none, 0, fun _ => 0)
abbrev mX12_plan : ab_M := (yX12_plan, cX12_plan, 6, (some .int), 0, fun _ => 0)
abbrev mX12_plans : ab_M := (yX12_plans, cX12_plans, 7, none, 0, fun _ => 0)
abbrev mX12_priceOf : ab_M := (yX12_priceOf, cX12_priceOf, 3, (some .int), 0, fun _ => 0)
abbrev mX12_put : ab_M := (yX12_put, cX12_put, 5, (some .int), 0, fun _ => 0)
abbrev mX12_readsDeed : ab_M := (yX12_readsDeed, cX12_readsDeed, 2, (some .boolean), 0, fun _ => 0)
abbrev mX12_readsMark : ab_M := (yX12_readsMark, cX12_readsMark, 1, (some .boolean), 0, fun _ => 0)
abbrev mX12_readsNumber : ab_M := (yX12_readsNumber, cX12_readsNumber, 4, (some .boolean), 0, fun _ => 0)
abbrev mX12_readsStatement : ab_M := (yX12_readsStatement, cX12_readsStatement, 4, (some .boolean), 0, fun _ => 0)
abbrev mX12_restore : ab_M := (yX12_restore, cX12_restore, 2, (some .int), 0, fun _ => 0)
abbrev mX12_rise : ab_M := (yX12_rise, cX12_rise, 1, (some .int), 0, fun _ => 0)
abbrev mX12_row : ab_M := (yX12_row, cX12_row, 5, (some .int), 0, fun _ => 0)
abbrev mX12_seeded : ab_M := (yX12_seeded, cX12_seeded, 6, (some .int), 0, fun _ => 0)
abbrev mX12_set : ab_M := (yX12_set, cX12_set, 5, (some .int), 0, fun _ => 0)
abbrev mX12_standing : ab_M := (yX12_standing, cX12_standing, 3, (some .int), 0, fun _ => 0)
abbrev mX12_state : ab_M := (yX12_state, cX12_state, 2, (some .int), 0, fun _ => 0)
abbrev mX12_takes : ab_M := (yX12_takes, cX12_takes, 2, (some .boolean), 0, fun _ => 0)
abbrev mX12_thrown : ab_M := (yX12_thrown, cX12_thrown, 1, (some .int), 0, fun _ => 0)
abbrev mX12_toss : ab_M := (yX12_toss, cX12_toss, 3, (some .int), 0, fun _ => 0)
abbrev mX12_town : ab_M := (yX12_town, cX12_town, 7, (some .int), 0, fun _ => 0)
abbrev mX12_tries : ab_M := (yX12_tries, cX12_tries, 12, none, 0, fun _ => 0)
abbrev mX12_two : ab_M := (yX12_two, cX12_two, 10, (some .int), 0, fun _ => 0)
abbrev mX12_undoes : ab_M := (yX12_undoes, cX12_undoes, 3, none, 0, fun _ => 0)
abbrev mX12_why : ab_M := (yX12_why, cX12_why, 5, (some .int), 0, fun _ => 0)
abbrev mX12_worthOf : ab_M := (yX12_worthOf, cX12_worthOf, 5, (some .long), 0, fun _ => 0)
abbrev mX12_wrongKept : ab_M := (yX12_wrongKept, cX12_wrongKept, 2, (some .int), 0, fun _ => 0)
abbrev mX12_wrongList : ab_M := (yX12_wrongList, cX12_wrongList, 4, (some .int), 0, fun _ => 0)
abbrev mX12_wrongRow : ab_M := (yX12_wrongRow, cX12_wrongRow, 3, (some .int), 0, fun _ => 0)
abbrev mX1_fail : ab_M := (yX1_fail, cX1_fail, 1, none, 0, fun _ => 0)
abbrev mX1_hasGround : ab_M := (yX1_hasGround, cX1_hasGround, 2, (some .boolean), 0, fun _ => 0)
abbrev mX1_init : ab_M := (yX1_init, cX1_init, 6, none, 0, fun _ => 0)
abbrev mX1_marksBehind : ab_M := (yX1_marksBehind, cX1_marksBehind, 2, (some .int), 0, fun _ => 0)
abbrev mX1_mayBeDone : ab_M := (yX1_mayBeDone, cX1_mayBeDone, 3, (some .boolean), 0, fun _ => 0)
abbrev mX2_init : ab_M := (yX2_init, cX2_init, 6, none, 0, fun _ => 0)
abbrev mX3_init : ab_M := (yX3_init, cX3_init, 6, none, 0, fun _ => 0)
abbrev mX4_init : ab_M := (yX4_init, cX4_init, 6, none, 0, fun _ => 0)
abbrev mX5_init : ab_M := (yX5_init, cX5_init, 6, none, 0, fun _ => 0)
abbrev mX6_bytesRefusal : ab_M := (yX6_bytesRefusal, cX6_bytesRefusal, 1, (some .int), 0, fun _ => 0)
abbrev mX6_deedRefusal : ab_M := (yX6_deedRefusal, cX6_deedRefusal, 1, (some .int), 0, fun _ => 0)
abbrev mX6_hasPlace : ab_M := (yX6_hasPlace, cX6_hasPlace, 2, (some .boolean), 0, fun _ => 0)
abbrev mX6_hasPlaces : ab_M := (yX6_hasPlaces, cX6_hasPlaces, 3, (some .boolean), 0, fun _ => 0)
abbrev mX6_hold : ab_M := (yX6_hold, cX6_hold, 2, none, 0, fun _ => 0)
abbrev mX6_holdRow : ab_M := (yX6_holdRow, cX6_holdRow, 4, none, 0, fun _ => 0)
abbrev mX6_init : ab_M := (yX6_init, cX6_init, 1, none, 0, fun _ => 0)
abbrev mX6_isEmpty : ab_M := (yX6_isEmpty, cX6_isEmpty, 1, (some .boolean), 0, fun _ => 0)
abbrev mX6_leastNumber : ab_M := (yX6_leastNumber, cX6_leastNumber, 1, (some .int), 0, fun _ => 0)
abbrev mX6_read : ab_M := (yX6_read, cX6_read, 2, (some .int), 0, fun _ => 0)
abbrev mX6_rowRefusal : ab_M := (yX6_rowRefusal, cX6_rowRefusal, 1, (some .int), 0, fun _ => 0)
abbrev mX6_write : ab_M := (yX6_write, cX6_write, 3, (some .boolean), 0, fun _ => 0)
abbrev mX7_init : ab_M := (yX7_init, cX7_init, 6, none, 0, fun _ => 0)
abbrev mX8_init : ab_M := (yX8_init, cX8_init, 6, none, 0, fun _ => 0)
abbrev mX9_become : ab_M := (yX9_become, cX9_become, 3, none, 0, fun _ => 0)
abbrev mX9_behindDeed : ab_M := (yX9_behindDeed, cX9_behindDeed, 3, (some .int), 0, fun _ => 0)
abbrev mX9_behindDigit : ab_M := (yX9_behindDigit, cX9_behindDigit, 2, (some .int), 0, fun _ => 0)
abbrev mX9_behindLetter : ab_M := (yX9_behindLetter, cX9_behindLetter, 2, (some .int), 0, fun _ => 0)
abbrev mX9_behindNail : ab_M := (yX9_behindNail, cX9_behindNail, 3, (some .int), 0, fun _ => 0)
abbrev mX9_behindNeeds : ab_M := (yX9_behindNeeds, cX9_behindNeeds, 5, (some .int), 0, fun _ => 0)
abbrev mX9_behindNumber : ab_M := (yX9_behindNumber, cX9_behindNumber, 5, (some .int), 0, fun _ => 0)
abbrev mX9_behindSign : ab_M := (yX9_behindSign, cX9_behindSign, 3, (some .int), 0, fun _ => 0)
abbrev mX9_behindStatement : ab_M := (yX9_behindStatement, cX9_behindStatement, 3, (some .int), 0, fun _ => 0)
abbrev mX9_changeCoins : ab_M := (yX9_changeCoins, cX9_changeCoins, 3, (some .int), 0, fun _ => 0)
abbrev mX9_changeLaw : ab_M := (yX9_changeLaw, cX9_changeLaw, 3, (some .int), 0, fun _ => 0)
abbrev mX9_changeNail : ab_M := (yX9_changeNail, cX9_changeNail, 3, (some .int), 0, fun _ => 0)
abbrev mX9_deedAt : ab_M := (yX9_deedAt, cX9_deedAt, 2, (some (.object "BackwardYears$Deed")), 0, fun _ => 0)
abbrev mX9_faultAt : ab_M := (yX9_faultAt, cX9_faultAt, 1, (some .int), 0, fun _ => 0)
abbrev mX9_init : ab_M := (yX9_init, cX9_init, 1, none, 0, fun _ => 0)
abbrev mX9_isDigit : ab_M := (yX9_isDigit, cX9_isDigit, 1, (some .boolean), 0, fun _ => 0)
abbrev mX9_isLetter : ab_M := (yX9_isLetter, cX9_isLetter, 1, (some .boolean), 0, fun _ => 0)
abbrev mX9_nailCost : ab_M := (yX9_nailCost, cX9_nailCost, 3, (some .int), 0, fun _ => 0)
abbrev mX9_newDeed : ab_M := (yX9_newDeed, cX9_newDeed, 9, (some (.object "BackwardYears$Deed")), 0, fun _ => 0)
abbrev mX9_number : ab_M := (yX9_number, cX9_number, 4, (some .int), 0, fun _ => 0)
abbrev mX9_read : ab_M := (yX9_read, cX9_read, 5, (some .int), 0, fun _ => 0)
abbrev mX9_take : ab_M := (yX9_take, cX9_take, 3, (some .boolean), 0, fun _ => 0)
abbrev mX9_takeDeed : ab_M := (yX9_takeDeed, cX9_takeDeed, 2, (some .boolean), 0, fun _ => 0)
abbrev mX9_takeMark : ab_M := (yX9_takeMark, cX9_takeMark, 2, (some .boolean), 0, fun _ => 0)
abbrev mX9_takeNail : ab_M := (yX9_takeNail, cX9_takeNail, 5, (some .boolean), 0, fun _ => 0)
abbrev mX9_wrongAt : ab_M := (yX9_wrongAt, cX9_wrongAt, 1, (some .int), 0, fun _ => 0)
abbrev mL_law (L : Nat) (xs : Nat → Int32) : ab_M := (yL_law, code, 8, some .boolean, L, xs)
theorem ab_ty1 {t T : Nat} (h : (ab_shp t).1 = T) : ∀ z, some t = some z → (ab_shp z).1 = T := fun z e => by cases e; exact h
theorem ab_k_bipush_m128 : (Int8.ofInt (-128)).toInt32 = (-128) := by decide
theorem ab_k_bipush_m15 : (Int8.ofInt (-15)).toInt32 = (-15) := by decide
theorem ab_k_bipush_m14 : (Int8.ofInt (-14)).toInt32 = (-14) := by decide
theorem ab_k_bipush_m13 : (Int8.ofInt (-13)).toInt32 = (-13) := by decide
theorem ab_k_bipush_m12 : (Int8.ofInt (-12)).toInt32 = (-12) := by decide
theorem ab_k_bipush_m11 : (Int8.ofInt (-11)).toInt32 = (-11) := by decide
theorem ab_k_bipush_m4 : (Int8.ofInt (-4)).toInt32 = (-4) := by decide
theorem ab_k_bipush_m3 : (Int8.ofInt (-3)).toInt32 = (-3) := by decide
theorem ab_k_bipush_6 : (Int8.ofInt 6).toInt32 = 6 := by decide
theorem ab_k_bipush_7 : (Int8.ofInt 7).toInt32 = 7 := by decide
theorem ab_k_bipush_8 : (Int8.ofInt 8).toInt32 = 8 := by decide
theorem ab_k_bipush_9 : (Int8.ofInt 9).toInt32 = 9 := by decide
theorem ab_k_bipush_10 : (Int8.ofInt 10).toInt32 = 10 := by decide
theorem ab_k_bipush_12 : (Int8.ofInt 12).toInt32 = 12 := by decide
theorem ab_k_bipush_13 : (Int8.ofInt 13).toInt32 = 13 := by decide
theorem ab_k_bipush_16 : (Int8.ofInt 16).toInt32 = 16 := by decide
theorem ab_k_bipush_30 : (Int8.ofInt 30).toInt32 = 30 := by decide
theorem ab_k_bipush_32 : (Int8.ofInt 32).toInt32 = 32 := by decide
theorem ab_k_bipush_43 : (Int8.ofInt 43).toInt32 = 43 := by decide
theorem ab_k_bipush_45 : (Int8.ofInt 45).toInt32 = 45 := by decide
theorem ab_k_bipush_47 : (Int8.ofInt 47).toInt32 = 47 := by decide
theorem ab_k_bipush_48 : (Int8.ofInt 48).toInt32 = 48 := by decide
theorem ab_k_bipush_57 : (Int8.ofInt 57).toInt32 = 57 := by decide
theorem ab_k_bipush_59 : (Int8.ofInt 59).toInt32 = 59 := by decide
theorem ab_k_bipush_63 : (Int8.ofInt 63).toInt32 = 63 := by decide
theorem ab_k_bipush_97 : (Int8.ofInt 97).toInt32 = 97 := by decide
theorem ab_k_bipush_99 : (Int8.ofInt 99).toInt32 = 99 := by decide
theorem ab_k_bipush_100 : (Int8.ofInt 100).toInt32 = 100 := by decide
theorem ab_k_bipush_106 : (Int8.ofInt 106).toInt32 = 106 := by decide
theorem ab_k_bipush_108 : (Int8.ofInt 108).toInt32 = 108 := by decide
theorem ab_k_bipush_109 : (Int8.ofInt 109).toInt32 = 109 := by decide
theorem ab_k_bipush_110 : (Int8.ofInt 110).toInt32 = 110 := by decide
theorem ab_k_bipush_120 : (Int8.ofInt 120).toInt32 = 120 := by decide
theorem ab_k_iconst_m1 : Int32.ofInt (-1) = (-1) := by decide
theorem ab_k_iconst_0 : Int32.ofInt 0 = 0 := by decide
theorem ab_k_iconst_1 : Int32.ofInt 1 = 1 := by decide
theorem ab_k_iconst_2 : Int32.ofInt 2 = 2 := by decide
theorem ab_k_iconst_3 : Int32.ofInt 3 = 3 := by decide
theorem ab_k_iconst_4 : Int32.ofInt 4 = 4 := by decide
theorem ab_k_iconst_5 : Int32.ofInt 5 = 5 := by decide
theorem ab_k_sipush_m32768 : (Int16.ofInt (-32768)).toInt32 = (-32768) := by decide
theorem ab_k_sipush_m2000 : (Int16.ofInt (-2000)).toInt32 = (-2000) := by decide
theorem ab_k_sipush_m1000 : (Int16.ofInt (-1000)).toInt32 = (-1000) := by decide
theorem ab_k_sipush_m999 : (Int16.ofInt (-999)).toInt32 = (-999) := by decide
theorem ab_k_sipush_200 : (Int16.ofInt 200).toInt32 = 200 := by decide
theorem ab_k_sipush_241 : (Int16.ofInt 241).toInt32 = 241 := by decide
theorem ab_k_sipush_255 : (Int16.ofInt 255).toInt32 = 255 := by decide
theorem ab_k_sipush_800 : (Int16.ofInt 800).toInt32 = 800 := by decide
theorem ab_k_sipush_999 : (Int16.ofInt 999).toInt32 = 999 := by decide
theorem ab_k_sipush_1023 : (Int16.ofInt 1023).toInt32 = 1023 := by decide
theorem ab_k_sipush_9999 : (Int16.ofInt 9999).toInt32 = 9999 := by decide
theorem ab_k_sipush_10000 : (Int16.ofInt 10000).toInt32 = 10000 := by decide
theorem ab_k_sipush_12345 : (Int16.ofInt 12345).toInt32 = 12345 := by decide
theorem mf_J6_bitCount_0f7a4 : ab_MF mJ6_bitCount_0f7a4 1 := ⟨tw_486, tw_487, ⟨by decide +kernel, by decide +kernel⟩, by decide +kernel, by decide⟩
theorem mf_X0_init : ab_MF mX0_init 5 := ⟨tw_488, tw_489, ⟨by decide +kernel, by decide +kernel⟩, by decide +kernel, by decide⟩
theorem mf_X10_add : ab_MF mX10_add 1 := ⟨tw_490, tw_491, ⟨by decide +kernel, by decide +kernel⟩, by decide +kernel, by decide⟩
theorem mf_X10_begin : ab_MF mX10_begin 2 := ⟨tw_492, tw_491, ⟨by decide +kernel, by decide +kernel⟩, by decide +kernel, by decide⟩
theorem mf_X10_deedAt : ab_MF mX10_deedAt 1 := ⟨tw_493, tw_491, ⟨by decide +kernel, by decide +kernel⟩, by decide +kernel, by decide⟩
theorem mf_X10_evenPlace : ab_MF mX10_evenPlace 2 := ⟨tw_494, tw_491, ⟨by decide +kernel, by decide +kernel⟩, by decide +kernel, by decide⟩
theorem mf_X10_evenYear : ab_MF mX10_evenYear 1 := ⟨tw_495, tw_491, ⟨by decide +kernel, by decide +kernel⟩, by decide +kernel, by decide⟩
theorem mf_X10_fate : ab_MF mX10_fate 1 := ⟨tw_496, tw_491, ⟨by decide +kernel, by decide +kernel⟩, by decide +kernel, by decide⟩
theorem mf_X10_has : ab_MF mX10_has 2 := ⟨tw_497, tw_491, ⟨by decide +kernel, by decide +kernel⟩, by decide +kernel, by decide⟩
theorem mf_X10_init : ab_MF mX10_init 0 := ⟨tw_498, tw_491, ⟨by decide +kernel, by decide +kernel⟩, by decide +kernel, by decide⟩
theorem mf_X10_leastNails : ab_MF mX10_leastNails 1 := ⟨tw_499, tw_491, ⟨by decide +kernel, by decide +kernel⟩, by decide +kernel, by decide⟩
theorem mf_X10_letFall : ab_MF mX10_letFall 0 := ⟨tw_500, tw_491, ⟨by decide +kernel, by decide +kernel⟩, by decide +kernel, by decide⟩
theorem mf_X10_nailAt : ab_MF mX10_nailAt 1 := ⟨tw_501, tw_491, ⟨by decide +kernel, by decide +kernel⟩, by decide +kernel, by decide⟩
theorem mf_X10_oddYear : ab_MF mX10_oddYear 0 := ⟨tw_502, tw_491, ⟨by decide +kernel, by decide +kernel⟩, by decide +kernel, by decide⟩
theorem mf_X10_open : ab_MF mX10_open 1 := ⟨tw_503, tw_491, ⟨by decide +kernel, by decide +kernel⟩, by decide +kernel, by decide⟩
theorem mf_X10_play : ab_MF mX10_play 1 := ⟨tw_504, tw_491, ⟨by decide +kernel, by decide +kernel⟩, by decide +kernel, by decide⟩
theorem mf_X10_standing : ab_MF mX10_standing 0 := ⟨tw_505, tw_491, ⟨by decide +kernel, by decide +kernel⟩, by decide +kernel, by decide⟩
theorem mf_X10_stays : ab_MF mX10_stays 1 := ⟨tw_506, tw_491, ⟨by decide +kernel, by decide +kernel⟩, by decide +kernel, by decide⟩
theorem mf_X10_undo : ab_MF mX10_undo 1 := ⟨tw_507, tw_491, ⟨by decide +kernel, by decide +kernel⟩, by decide +kernel, by decide⟩
theorem mf_X11_addMoves : ab_MF mX11_addMoves 3 := ⟨tw_508, tw_509, ⟨by decide +kernel, by decide +kernel⟩, by decide +kernel, by decide⟩
theorem mf_X11_areMarks : ab_MF mX11_areMarks 1 := ⟨tw_510, tw_509, ⟨by decide +kernel, by decide +kernel⟩, by decide +kernel, by decide⟩
theorem mf_X11_areNails : ab_MF mX11_areNails 1 := ⟨tw_511, tw_509, ⟨by decide +kernel, by decide +kernel⟩, by decide +kernel, by decide⟩
theorem mf_X11_areWorths : ab_MF mX11_areWorths 1 := ⟨tw_512, tw_509, ⟨by decide +kernel, by decide +kernel⟩, by decide +kernel, by decide⟩
theorem mf_X11_at : ab_MF mX11_at 2 := ⟨tw_513, tw_509, ⟨by decide +kernel, by decide +kernel⟩, by decide +kernel, by decide⟩
theorem mf_X11_behind : ab_MF mX11_behind 3 := ⟨tw_514, tw_509, ⟨by decide +kernel, by decide +kernel⟩, by decide +kernel, by decide⟩
theorem mf_X11_bestMove : ab_MF mX11_bestMove 2 := ⟨tw_515, tw_509, ⟨by decide +kernel, by decide +kernel⟩, by decide +kernel, by decide⟩
theorem mf_X11_byLaw : ab_MF mX11_byLaw 3 := ⟨tw_516, tw_509, ⟨by decide +kernel, by decide +kernel⟩, by decide +kernel, by decide⟩
theorem mf_X11_care : ab_MF mX11_care 1 := ⟨tw_517, tw_509, ⟨by decide +kernel, by decide +kernel⟩, by decide +kernel, by decide⟩
theorem mf_X11_copy : ab_MF mX11_copy 5 := ⟨tw_518, tw_509, ⟨by decide +kernel, by decide +kernel⟩, by decide +kernel, by decide⟩
theorem mf_X11_count : ab_MF mX11_count 1 := ⟨tw_519, tw_509, ⟨by decide +kernel, by decide +kernel⟩, by decide +kernel, by decide⟩
theorem mf_X11_counted : ab_MF mX11_counted 2 := ⟨tw_520, tw_509, ⟨by decide +kernel, by decide +kernel⟩, by decide +kernel, by decide⟩
theorem mf_X11_deed : ab_MF mX11_deed 2 := ⟨tw_521, tw_509, ⟨by decide +kernel, by decide +kernel⟩, by decide +kernel, by decide⟩
theorem mf_X11_drawn : ab_MF mX11_drawn 2 := ⟨tw_522, tw_509, ⟨by decide +kernel, by decide +kernel⟩, by decide +kernel, by decide⟩
theorem mf_X11_element : ab_MF mX11_element 2 := ⟨tw_523, tw_509, ⟨by decide +kernel, by decide +kernel⟩, by decide +kernel, by decide⟩
theorem mf_X11_endYears : ab_MF mX11_endYears 1 := ⟨tw_524, tw_509, ⟨by decide +kernel, by decide +kernel⟩, by decide +kernel, by decide⟩
theorem mf_X11_endedSoBefore : ab_MF mX11_endedSoBefore 1 := ⟨tw_525, tw_509, ⟨by decide +kernel, by decide +kernel⟩, by decide +kernel, by decide⟩
theorem mf_X11_even : ab_MF mX11_even 1 := ⟨tw_526, tw_509, ⟨by decide +kernel, by decide +kernel⟩, by decide +kernel, by decide⟩
theorem mf_X11_ever : ab_MF mX11_ever 0 := ⟨tw_527, tw_509, ⟨by decide +kernel, by decide +kernel⟩, by decide +kernel, by decide⟩
theorem mf_X11_firstWrong : ab_MF mX11_firstWrong 2 := ⟨tw_528, tw_509, ⟨by decide +kernel, by decide +kernel⟩, by decide +kernel, by decide⟩
theorem mf_X11_free : ab_MF mX11_free 3 := ⟨tw_529, tw_509, ⟨by decide +kernel, by decide +kernel⟩, by decide +kernel, by decide⟩
theorem mf_X11_freest : ab_MF mX11_freest 3 := ⟨tw_530, tw_509, ⟨by decide +kernel, by decide +kernel⟩, by decide +kernel, by decide⟩
theorem mf_X11_help : ab_MF mX11_help 0 := ⟨tw_531, tw_509, ⟨by decide +kernel, by decide +kernel⟩, by decide +kernel, by decide⟩
theorem mf_X11_image : ab_MF mX11_image 0 := ⟨tw_532, tw_509, ⟨by decide +kernel, by decide +kernel⟩, by decide +kernel, by decide⟩
theorem mf_X11_init : ab_MF mX11_init 0 := ⟨tw_533, tw_509, ⟨by decide +kernel, by decide +kernel⟩, by decide +kernel, by decide⟩
theorem mf_X11_judge : ab_MF mX11_judge 3 := ⟨tw_534, tw_509, ⟨by decide +kernel, by decide +kernel⟩, by decide +kernel, by decide⟩
theorem mf_X11_keep : ab_MF mX11_keep 3 := ⟨tw_535, tw_509, ⟨by decide +kernel, by decide +kernel⟩, by decide +kernel, by decide⟩
theorem mf_X11_lasts : ab_MF mX11_lasts 3 := ⟨tw_536, tw_509, ⟨by decide +kernel, by decide +kernel⟩, by decide +kernel, by decide⟩
theorem mf_X11_least : ab_MF mX11_least 3 := ⟨tw_537, tw_509, ⟨by decide +kernel, by decide +kernel⟩, by decide +kernel, by decide⟩
theorem mf_X11_listMoves : ab_MF mX11_listMoves 0 := ⟨tw_538, tw_509, ⟨by decide +kernel, by decide +kernel⟩, by decide +kernel, by decide⟩
theorem mf_X11_listRefusal : ab_MF mX11_listRefusal 1 := ⟨tw_539, tw_509, ⟨by decide +kernel, by decide +kernel⟩, by decide +kernel, by decide⟩
theorem mf_X11_marks : ab_MF mX11_marks 0 := ⟨tw_540, tw_509, ⟨by decide +kernel, by decide +kernel⟩, by decide +kernel, by decide⟩
theorem mf_X11_may : ab_MF mX11_may 1 := ⟨tw_541, tw_509, ⟨by decide +kernel, by decide +kernel⟩, by decide +kernel, by decide⟩
theorem mf_X11_month : ab_MF mX11_month 0 := ⟨tw_542, tw_509, ⟨by decide +kernel, by decide +kernel⟩, by decide +kernel, by decide⟩
theorem mf_X11_nail : ab_MF mX11_nail 1 := ⟨tw_543, tw_509, ⟨by decide +kernel, by decide +kernel⟩, by decide +kernel, by decide⟩
theorem mf_X11_nextOrder : ab_MF mX11_nextOrder 1 := ⟨tw_544, tw_509, ⟨by decide +kernel, by decide +kernel⟩, by decide +kernel, by decide⟩
theorem mf_X11_nextSeed : ab_MF mX11_nextSeed 1 := ⟨tw_545, tw_509, ⟨by decide +kernel, by decide +kernel⟩, by decide +kernel, by decide⟩
theorem mf_X11_orderDigits : ab_MF mX11_orderDigits 1 := ⟨tw_546, tw_509, ⟨by decide +kernel, by decide +kernel⟩, by decide +kernel, by decide⟩
theorem mf_X11_pair : ab_MF mX11_pair 2 := ⟨tw_547, tw_509, ⟨by decide +kernel, by decide +kernel⟩, by decide +kernel, by decide⟩
theorem mf_X11_plan : ab_MF mX11_plan 3 := ⟨tw_548, tw_509, ⟨by decide +kernel, by decide +kernel⟩, by decide +kernel, by decide⟩
theorem mf_X11_playList : ab_MF mX11_playList 2 := ⟨tw_549, tw_509, ⟨by decide +kernel, by decide +kernel⟩, by decide +kernel, by decide⟩
theorem mf_X11_playMove : ab_MF mX11_playMove 3 := ⟨tw_550, tw_509, ⟨by decide +kernel, by decide +kernel⟩, by decide +kernel, by decide⟩
theorem mf_X11_playSeeds : ab_MF mX11_playSeeds 2 := ⟨tw_551, tw_509, ⟨by decide +kernel, by decide +kernel⟩, by decide +kernel, by decide⟩
theorem mf_X11_playTwo : ab_MF mX11_playTwo 4 := ⟨tw_552, tw_509, ⟨by decide +kernel, by decide +kernel⟩, by decide +kernel, by decide⟩
theorem mf_X11_put : ab_MF mX11_put 3 := ⟨tw_553, tw_509, ⟨by decide +kernel, by decide +kernel⟩, by decide +kernel, by decide⟩
theorem mf_X11_restore : ab_MF mX11_restore 0 := ⟨tw_554, tw_509, ⟨by decide +kernel, by decide +kernel⟩, by decide +kernel, by decide⟩
theorem mf_X11_rise : ab_MF mX11_rise 0 := ⟨tw_555, tw_509, ⟨by decide +kernel, by decide +kernel⟩, by decide +kernel, by decide⟩
theorem mf_X11_row : ab_MF mX11_row 3 := ⟨tw_556, tw_509, ⟨by decide +kernel, by decide +kernel⟩, by decide +kernel, by decide⟩
theorem mf_X11_seeded : ab_MF mX11_seeded 3 := ⟨tw_557, tw_509, ⟨by decide +kernel, by decide +kernel⟩, by decide +kernel, by decide⟩
theorem mf_X11_set : ab_MF mX11_set 2 := ⟨tw_558, tw_509, ⟨by decide +kernel, by decide +kernel⟩, by decide +kernel, by decide⟩
theorem mf_X11_shelfAt : ab_MF mX11_shelfAt 1 := ⟨tw_559, tw_509, ⟨by decide +kernel, by decide +kernel⟩, by decide +kernel, by decide⟩
theorem mf_X11_state : ab_MF mX11_state 1 := ⟨tw_560, tw_509, ⟨by decide +kernel, by decide +kernel⟩, by decide +kernel, by decide⟩
theorem mf_X11_store : ab_MF mX11_store 3 := ⟨tw_561, tw_509, ⟨by decide +kernel, by decide +kernel⟩, by decide +kernel, by decide⟩
theorem mf_X11_swapPlaces : ab_MF mX11_swapPlaces 2 := ⟨tw_562, tw_509, ⟨by decide +kernel, by decide +kernel⟩, by decide +kernel, by decide⟩
theorem mf_X11_takeList : ab_MF mX11_takeList 1 := ⟨tw_563, tw_509, ⟨by decide +kernel, by decide +kernel⟩, by decide +kernel, by decide⟩
theorem mf_X11_takeOrder : ab_MF mX11_takeOrder 1 := ⟨tw_564, tw_509, ⟨by decide +kernel, by decide +kernel⟩, by decide +kernel, by decide⟩
theorem mf_X11_town : ab_MF mX11_town 1 := ⟨tw_565, tw_509, ⟨by decide +kernel, by decide +kernel⟩, by decide +kernel, by decide⟩
theorem mf_X11_two : ab_MF mX11_two 5 := ⟨tw_566, tw_509, ⟨by decide +kernel, by decide +kernel⟩, by decide +kernel, by decide⟩
theorem mf_X11_why : ab_MF mX11_why 3 := ⟨tw_567, tw_509, ⟨by decide +kernel, by decide +kernel⟩, by decide +kernel, by decide⟩
theorem mf_X11_worthOfMarks : ab_MF mX11_worthOfMarks 2 := ⟨tw_568, tw_509, ⟨by decide +kernel, by decide +kernel⟩, by decide +kernel, by decide⟩
theorem mf_X11_worthOfMove : ab_MF mX11_worthOfMove 3 := ⟨tw_569, tw_509, ⟨by decide +kernel, by decide +kernel⟩, by decide +kernel, by decide⟩
theorem mf_X12_areNails : ab_MF mX12_areNails 1 := ⟨tw_570, tw_571, ⟨by decide +kernel, by decide +kernel⟩, by decide +kernel, by decide⟩
theorem mf_X12_backOf : ab_MF mX12_backOf 1 := ⟨tw_572, tw_571, ⟨by decide +kernel, by decide +kernel⟩, by decide +kernel, by decide⟩
theorem mf_X12_begins : ab_MF mX12_begins 0 := ⟨tw_573, tw_571, ⟨by decide +kernel, by decide +kernel⟩, by decide +kernel, by decide⟩
theorem mf_X12_behind : ab_MF mX12_behind 3 := ⟨tw_574, tw_571, ⟨by decide +kernel, by decide +kernel⟩, by decide +kernel, by decide⟩
theorem mf_X12_bits : ab_MF mX12_bits 1 := ⟨tw_575, tw_571, ⟨by decide +kernel, by decide +kernel⟩, by decide +kernel, by decide⟩
theorem mf_X12_byLaw : ab_MF mX12_byLaw 3 := ⟨tw_576, tw_571, ⟨by decide +kernel, by decide +kernel⟩, by decide +kernel, by decide⟩
theorem mf_X12_care : ab_MF mX12_care 1 := ⟨tw_577, tw_571, ⟨by decide +kernel, by decide +kernel⟩, by decide +kernel, by decide⟩
theorem mf_X12_careOf : ab_MF mX12_careOf 1 := ⟨tw_578, tw_571, ⟨by decide +kernel, by decide +kernel⟩, by decide +kernel, by decide⟩
theorem mf_X12_comes : ab_MF mX12_comes 1 := ⟨tw_579, tw_571, ⟨by decide +kernel, by decide +kernel⟩, by decide +kernel, by decide⟩
theorem mf_X12_copy : ab_MF mX12_copy 5 := ⟨tw_580, tw_571, ⟨by decide +kernel, by decide +kernel⟩, by decide +kernel, by decide⟩
theorem mf_X12_costOf : ab_MF mX12_costOf 1 := ⟨tw_581, tw_571, ⟨by decide +kernel, by decide +kernel⟩, by decide +kernel, by decide⟩
theorem mf_X12_count : ab_MF mX12_count 1 := ⟨tw_582, tw_571, ⟨by decide +kernel, by decide +kernel⟩, by decide +kernel, by decide⟩
theorem mf_X12_deed : ab_MF mX12_deed 2 := ⟨tw_583, tw_571, ⟨by decide +kernel, by decide +kernel⟩, by decide +kernel, by decide⟩
theorem mf_X12_drawn : ab_MF mX12_drawn 1 := ⟨tw_584, tw_571, ⟨by decide +kernel, by decide +kernel⟩, by decide +kernel, by decide⟩
theorem mf_X12_element : ab_MF mX12_element 2 := ⟨tw_585, tw_571, ⟨by decide +kernel, by decide +kernel⟩, by decide +kernel, by decide⟩
theorem mf_X12_even : ab_MF mX12_even 1 := ⟨tw_586, tw_571, ⟨by decide +kernel, by decide +kernel⟩, by decide +kernel, by decide⟩
theorem mf_X12_evenYear : ab_MF mX12_evenYear 0 := ⟨tw_587, tw_571, ⟨by decide +kernel, by decide +kernel⟩, by decide +kernel, by decide⟩
theorem mf_X12_ever : ab_MF mX12_ever 0 := ⟨tw_588, tw_571, ⟨by decide +kernel, by decide +kernel⟩, by decide +kernel, by decide⟩
theorem mf_X12_falls : ab_MF mX12_falls 0 := ⟨tw_589, tw_571, ⟨by decide +kernel, by decide +kernel⟩, by decide +kernel, by decide⟩
theorem mf_X12_finds : ab_MF mX12_finds 1 := ⟨tw_590, tw_571, ⟨by decide +kernel, by decide +kernel⟩, by decide +kernel, by decide⟩
theorem mf_X12_free : ab_MF mX12_free 3 := ⟨tw_591, tw_571, ⟨by decide +kernel, by decide +kernel⟩, by decide +kernel, by decide⟩
theorem mf_X12_get : ab_MF mX12_get 2 := ⟨tw_592, tw_571, ⟨by decide +kernel, by decide +kernel⟩, by decide +kernel, by decide⟩
theorem mf_X12_help : ab_MF mX12_help 0 := ⟨tw_593, tw_571, ⟨by decide +kernel, by decide +kernel⟩, by decide +kernel, by decide⟩
theorem mf_X12_here : ab_MF mX12_here 0 := ⟨tw_594, tw_571, ⟨by decide +kernel, by decide +kernel⟩, by decide +kernel, by decide⟩
theorem mf_X12_holds : ab_MF mX12_holds 1 := ⟨tw_595, tw_571, ⟨by decide +kernel, by decide +kernel⟩, by decide +kernel, by decide⟩
theorem mf_X12_image : ab_MF mX12_image 0 := ⟨tw_596, tw_571, ⟨by decide +kernel, by decide +kernel⟩, by decide +kernel, by decide⟩
theorem mf_X12_init : ab_MF mX12_init 0 := ⟨tw_597, tw_571, ⟨by decide +kernel, by decide +kernel⟩, by decide +kernel, by decide⟩
theorem mf_X12_isDeed : ab_MF mX12_isDeed 1 := ⟨tw_598, tw_571, ⟨by decide +kernel, by decide +kernel⟩, by decide +kernel, by decide⟩
theorem mf_X12_isDigit : ab_MF mX12_isDigit 0 := ⟨tw_599, tw_571, ⟨by decide +kernel, by decide +kernel⟩, by decide +kernel, by decide⟩
theorem mf_X12_isHeld : ab_MF mX12_isHeld 1 := ⟨tw_600, tw_571, ⟨by decide +kernel, by decide +kernel⟩, by decide +kernel, by decide⟩
theorem mf_X12_isIn : ab_MF mX12_isIn 3 := ⟨tw_601, tw_571, ⟨by decide +kernel, by decide +kernel⟩, by decide +kernel, by decide⟩
theorem mf_X12_isKept : ab_MF mX12_isKept 1 := ⟨tw_602, tw_571, ⟨by decide +kernel, by decide +kernel⟩, by decide +kernel, by decide⟩
theorem mf_X12_isMark : ab_MF mX12_isMark 1 := ⟨tw_603, tw_571, ⟨by decide +kernel, by decide +kernel⟩, by decide +kernel, by decide⟩
theorem mf_X12_isShelf : ab_MF mX12_isShelf 1 := ⟨tw_604, tw_571, ⟨by decide +kernel, by decide +kernel⟩, by decide +kernel, by decide⟩
theorem mf_X12_judge : ab_MF mX12_judge 3 := ⟨tw_605, tw_571, ⟨by decide +kernel, by decide +kernel⟩, by decide +kernel, by decide⟩
theorem mf_X12_keep : ab_MF mX12_keep 3 := ⟨tw_606, tw_571, ⟨by decide +kernel, by decide +kernel⟩, by decide +kernel, by decide⟩
theorem mf_X12_lasts : ab_MF mX12_lasts 3 := ⟨tw_607, tw_571, ⟨by decide +kernel, by decide +kernel⟩, by decide +kernel, by decide⟩
theorem mf_X12_lays : ab_MF mX12_lays 2 := ⟨tw_608, tw_571, ⟨by decide +kernel, by decide +kernel⟩, by decide +kernel, by decide⟩
theorem mf_X12_least : ab_MF mX12_least 3 := ⟨tw_609, tw_571, ⟨by decide +kernel, by decide +kernel⟩, by decide +kernel, by decide⟩
theorem mf_X12_leastOf : ab_MF mX12_leastOf 1 := ⟨tw_610, tw_571, ⟨by decide +kernel, by decide +kernel⟩, by decide +kernel, by decide⟩
theorem mf_X12_lines : ab_MF mX12_lines 4 := ⟨tw_611, tw_571, ⟨by decide +kernel, by decide +kernel⟩, by decide +kernel, by decide⟩
theorem mf_X12_marks : ab_MF mX12_marks 0 := ⟨tw_612, tw_571, ⟨by decide +kernel, by decide +kernel⟩, by decide +kernel, by decide⟩
theorem mf_X12_marksBy : ab_MF mX12_marksBy 2 := ⟨tw_613, tw_571, ⟨by decide +kernel, by decide +kernel⟩, by decide +kernel, by decide⟩
theorem mf_X12_may : ab_MF mX12_may 1 := ⟨tw_614, tw_571, ⟨by decide +kernel, by decide +kernel⟩, by decide +kernel, by decide⟩
theorem mf_X12_mayBy : ab_MF mX12_mayBy 3 := ⟨tw_615, tw_571, ⟨by decide +kernel, by decide +kernel⟩, by decide +kernel, by decide⟩
theorem mf_X12_month : ab_MF mX12_month 0 := ⟨tw_616, tw_571, ⟨by decide +kernel, by decide +kernel⟩, by decide +kernel, by decide⟩
theorem mf_X12_nail : ab_MF mX12_nail 1 := ⟨tw_617, tw_571, ⟨by decide +kernel, by decide +kernel⟩, by decide +kernel, by decide⟩
theorem mf_X12_oddYear : ab_MF mX12_oddYear 0 := ⟨tw_618, tw_571, ⟨by decide +kernel, by decide +kernel⟩, by decide +kernel, by decide⟩
theorem mf_X12_pair : ab_MF mX12_pair 2 := ⟨tw_619, tw_571, ⟨by decide +kernel, by decide +kernel⟩, by decide +kernel, by decide⟩
theorem mf_X12_pairOf : ab_MF mX12_pairOf 0 := ⟨tw_620, tw_571, ⟨by decide +kernel, by decide +kernel⟩, by decide +kernel, by decide⟩
theorem mf_X12_plan : ab_MF mX12_plan 3 := ⟨tw_621, tw_571, ⟨by decide +kernel, by decide +kernel⟩, by decide +kernel, by decide⟩
theorem mf_X12_plans : ab_MF mX12_plans 4 := ⟨tw_622, tw_571, ⟨by decide +kernel, by decide +kernel⟩, by decide +kernel, by decide⟩
theorem mf_X12_priceOf : ab_MF mX12_priceOf 1 := ⟨tw_623, tw_571, ⟨by decide +kernel, by decide +kernel⟩, by decide +kernel, by decide⟩
theorem mf_X12_put : ab_MF mX12_put 3 := ⟨tw_624, tw_571, ⟨by decide +kernel, by decide +kernel⟩, by decide +kernel, by decide⟩
theorem mf_X12_readsDeed : ab_MF mX12_readsDeed 0 := ⟨tw_625, tw_571, ⟨by decide +kernel, by decide +kernel⟩, by decide +kernel, by decide⟩
theorem mf_X12_readsMark : ab_MF mX12_readsMark 0 := ⟨tw_626, tw_571, ⟨by decide +kernel, by decide +kernel⟩, by decide +kernel, by decide⟩
theorem mf_X12_readsNumber : ab_MF mX12_readsNumber 1 := ⟨tw_627, tw_571, ⟨by decide +kernel, by decide +kernel⟩, by decide +kernel, by decide⟩
theorem mf_X12_readsStatement : ab_MF mX12_readsStatement 0 := ⟨tw_628, tw_571, ⟨by decide +kernel, by decide +kernel⟩, by decide +kernel, by decide⟩
theorem mf_X12_restore : ab_MF mX12_restore 0 := ⟨tw_629, tw_571, ⟨by decide +kernel, by decide +kernel⟩, by decide +kernel, by decide⟩
theorem mf_X12_rise : ab_MF mX12_rise 0 := ⟨tw_630, tw_571, ⟨by decide +kernel, by decide +kernel⟩, by decide +kernel, by decide⟩
theorem mf_X12_row : ab_MF mX12_row 3 := ⟨tw_631, tw_571, ⟨by decide +kernel, by decide +kernel⟩, by decide +kernel, by decide⟩
theorem mf_X12_seeded : ab_MF mX12_seeded 3 := ⟨tw_632, tw_571, ⟨by decide +kernel, by decide +kernel⟩, by decide +kernel, by decide⟩
theorem mf_X12_set : ab_MF mX12_set 2 := ⟨tw_633, tw_571, ⟨by decide +kernel, by decide +kernel⟩, by decide +kernel, by decide⟩
theorem mf_X12_standing : ab_MF mX12_standing 0 := ⟨tw_634, tw_571, ⟨by decide +kernel, by decide +kernel⟩, by decide +kernel, by decide⟩
theorem mf_X12_state : ab_MF mX12_state 1 := ⟨tw_635, tw_571, ⟨by decide +kernel, by decide +kernel⟩, by decide +kernel, by decide⟩
theorem mf_X12_takes : ab_MF mX12_takes 1 := ⟨tw_636, tw_571, ⟨by decide +kernel, by decide +kernel⟩, by decide +kernel, by decide⟩
theorem mf_X12_thrown : ab_MF mX12_thrown 0 := ⟨tw_637, tw_571, ⟨by decide +kernel, by decide +kernel⟩, by decide +kernel, by decide⟩
theorem mf_X12_toss : ab_MF mX12_toss 1 := ⟨tw_638, tw_571, ⟨by decide +kernel, by decide +kernel⟩, by decide +kernel, by decide⟩
theorem mf_X12_town : ab_MF mX12_town 1 := ⟨tw_639, tw_571, ⟨by decide +kernel, by decide +kernel⟩, by decide +kernel, by decide⟩
theorem mf_X12_tries : ab_MF mX12_tries 7 := ⟨tw_640, tw_571, ⟨by decide +kernel, by decide +kernel⟩, by decide +kernel, by decide⟩
theorem mf_X12_two : ab_MF mX12_two 5 := ⟨tw_641, tw_571, ⟨by decide +kernel, by decide +kernel⟩, by decide +kernel, by decide⟩
theorem mf_X12_undoes : ab_MF mX12_undoes 2 := ⟨tw_642, tw_571, ⟨by decide +kernel, by decide +kernel⟩, by decide +kernel, by decide⟩
theorem mf_X12_why : ab_MF mX12_why 3 := ⟨tw_643, tw_571, ⟨by decide +kernel, by decide +kernel⟩, by decide +kernel, by decide⟩
theorem mf_X12_worthOf : ab_MF mX12_worthOf 1 := ⟨tw_644, tw_571, ⟨by decide +kernel, by decide +kernel⟩, by decide +kernel, by decide⟩
theorem mf_X12_wrongKept : ab_MF mX12_wrongKept 1 := ⟨tw_645, tw_571, ⟨by decide +kernel, by decide +kernel⟩, by decide +kernel, by decide⟩
theorem mf_X12_wrongList : ab_MF mX12_wrongList 1 := ⟨tw_646, tw_571, ⟨by decide +kernel, by decide +kernel⟩, by decide +kernel, by decide⟩
theorem mf_X12_wrongRow : ab_MF mX12_wrongRow 2 := ⟨tw_647, tw_571, ⟨by decide +kernel, by decide +kernel⟩, by decide +kernel, by decide⟩
theorem mf_X1_fail : ab_MF mX1_fail 0 := ⟨tw_648, tw_649, ⟨by decide +kernel, by decide +kernel⟩, by decide +kernel, by decide⟩
theorem mf_X1_hasGround : ab_MF mX1_hasGround 1 := ⟨tw_650, tw_649, ⟨by decide +kernel, by decide +kernel⟩, by decide +kernel, by decide⟩
theorem mf_X1_init : ab_MF mX1_init 5 := ⟨tw_651, tw_649, ⟨by decide +kernel, by decide +kernel⟩, by decide +kernel, by decide⟩
theorem mf_X1_marksBehind : ab_MF mX1_marksBehind 1 := ⟨tw_652, tw_649, ⟨by decide +kernel, by decide +kernel⟩, by decide +kernel, by decide⟩
theorem mf_X1_mayBeDone : ab_MF mX1_mayBeDone 2 := ⟨tw_653, tw_649, ⟨by decide +kernel, by decide +kernel⟩, by decide +kernel, by decide⟩
theorem mf_X2_init : ab_MF mX2_init 5 := ⟨tw_654, tw_655, ⟨by decide +kernel, by decide +kernel⟩, by decide +kernel, by decide⟩
theorem mf_X3_init : ab_MF mX3_init 5 := ⟨tw_656, tw_657, ⟨by decide +kernel, by decide +kernel⟩, by decide +kernel, by decide⟩
theorem mf_X4_init : ab_MF mX4_init 5 := ⟨tw_658, tw_659, ⟨by decide +kernel, by decide +kernel⟩, by decide +kernel, by decide⟩
theorem mf_X5_init : ab_MF mX5_init 5 := ⟨tw_660, tw_661, ⟨by decide +kernel, by decide +kernel⟩, by decide +kernel, by decide⟩
theorem mf_X6_bytesRefusal : ab_MF mX6_bytesRefusal 0 := ⟨tw_662, tw_663, ⟨by decide +kernel, by decide +kernel⟩, by decide +kernel, by decide⟩
theorem mf_X6_deedRefusal : ab_MF mX6_deedRefusal 0 := ⟨tw_664, tw_663, ⟨by decide +kernel, by decide +kernel⟩, by decide +kernel, by decide⟩
theorem mf_X6_hasPlace : ab_MF mX6_hasPlace 1 := ⟨tw_665, tw_663, ⟨by decide +kernel, by decide +kernel⟩, by decide +kernel, by decide⟩
theorem mf_X6_hasPlaces : ab_MF mX6_hasPlaces 2 := ⟨tw_666, tw_663, ⟨by decide +kernel, by decide +kernel⟩, by decide +kernel, by decide⟩
theorem mf_X6_hold : ab_MF mX6_hold 1 := ⟨tw_667, tw_663, ⟨by decide +kernel, by decide +kernel⟩, by decide +kernel, by decide⟩
theorem mf_X6_holdRow : ab_MF mX6_holdRow 2 := ⟨tw_668, tw_663, ⟨by decide +kernel, by decide +kernel⟩, by decide +kernel, by decide⟩
theorem mf_X6_init : ab_MF mX6_init 0 := ⟨tw_669, tw_663, ⟨by decide +kernel, by decide +kernel⟩, by decide +kernel, by decide⟩
theorem mf_X6_isEmpty : ab_MF mX6_isEmpty 0 := ⟨tw_670, tw_663, ⟨by decide +kernel, by decide +kernel⟩, by decide +kernel, by decide⟩
theorem mf_X6_leastNumber : ab_MF mX6_leastNumber 0 := ⟨tw_671, tw_663, ⟨by decide +kernel, by decide +kernel⟩, by decide +kernel, by decide⟩
theorem mf_X6_read : ab_MF mX6_read 1 := ⟨tw_672, tw_663, ⟨by decide +kernel, by decide +kernel⟩, by decide +kernel, by decide⟩
theorem mf_X6_rowRefusal : ab_MF mX6_rowRefusal 0 := ⟨tw_673, tw_663, ⟨by decide +kernel, by decide +kernel⟩, by decide +kernel, by decide⟩
theorem mf_X6_write : ab_MF mX6_write 2 := ⟨tw_674, tw_663, ⟨by decide +kernel, by decide +kernel⟩, by decide +kernel, by decide⟩
theorem mf_X7_init : ab_MF mX7_init 5 := ⟨tw_675, tw_676, ⟨by decide +kernel, by decide +kernel⟩, by decide +kernel, by decide⟩
theorem mf_X8_init : ab_MF mX8_init 5 := ⟨tw_677, tw_678, ⟨by decide +kernel, by decide +kernel⟩, by decide +kernel, by decide⟩
theorem mf_X9_become : ab_MF mX9_become 1 := ⟨tw_679, tw_680, ⟨by decide +kernel, by decide +kernel⟩, by decide +kernel, by decide⟩
theorem mf_X9_behindDeed : ab_MF mX9_behindDeed 2 := ⟨tw_681, tw_680, ⟨by decide +kernel, by decide +kernel⟩, by decide +kernel, by decide⟩
theorem mf_X9_behindDigit : ab_MF mX9_behindDigit 2 := ⟨tw_682, tw_680, ⟨by decide +kernel, by decide +kernel⟩, by decide +kernel, by decide⟩
theorem mf_X9_behindLetter : ab_MF mX9_behindLetter 2 := ⟨tw_683, tw_680, ⟨by decide +kernel, by decide +kernel⟩, by decide +kernel, by decide⟩
theorem mf_X9_behindNail : ab_MF mX9_behindNail 2 := ⟨tw_684, tw_680, ⟨by decide +kernel, by decide +kernel⟩, by decide +kernel, by decide⟩
theorem mf_X9_behindNeeds : ab_MF mX9_behindNeeds 2 := ⟨tw_685, tw_680, ⟨by decide +kernel, by decide +kernel⟩, by decide +kernel, by decide⟩
theorem mf_X9_behindNumber : ab_MF mX9_behindNumber 3 := ⟨tw_686, tw_680, ⟨by decide +kernel, by decide +kernel⟩, by decide +kernel, by decide⟩
theorem mf_X9_behindSign : ab_MF mX9_behindSign 3 := ⟨tw_687, tw_680, ⟨by decide +kernel, by decide +kernel⟩, by decide +kernel, by decide⟩
theorem mf_X9_behindStatement : ab_MF mX9_behindStatement 2 := ⟨tw_688, tw_680, ⟨by decide +kernel, by decide +kernel⟩, by decide +kernel, by decide⟩
theorem mf_X9_changeCoins : ab_MF mX9_changeCoins 1 := ⟨tw_689, tw_680, ⟨by decide +kernel, by decide +kernel⟩, by decide +kernel, by decide⟩
theorem mf_X9_changeLaw : ab_MF mX9_changeLaw 1 := ⟨tw_690, tw_680, ⟨by decide +kernel, by decide +kernel⟩, by decide +kernel, by decide⟩
theorem mf_X9_changeNail : ab_MF mX9_changeNail 1 := ⟨tw_691, tw_680, ⟨by decide +kernel, by decide +kernel⟩, by decide +kernel, by decide⟩
theorem mf_X9_deedAt : ab_MF mX9_deedAt 1 := ⟨tw_692, tw_680, ⟨by decide +kernel, by decide +kernel⟩, by decide +kernel, by decide⟩
theorem mf_X9_faultAt : ab_MF mX9_faultAt 1 := ⟨tw_693, tw_680, ⟨by decide +kernel, by decide +kernel⟩, by decide +kernel, by decide⟩
theorem mf_X9_init : ab_MF mX9_init 0 := ⟨tw_694, tw_680, ⟨by decide +kernel, by decide +kernel⟩, by decide +kernel, by decide⟩
theorem mf_X9_isDigit : ab_MF mX9_isDigit 1 := ⟨tw_695, tw_680, ⟨by decide +kernel, by decide +kernel⟩, by decide +kernel, by decide⟩
theorem mf_X9_isLetter : ab_MF mX9_isLetter 1 := ⟨tw_696, tw_680, ⟨by decide +kernel, by decide +kernel⟩, by decide +kernel, by decide⟩
theorem mf_X9_nailCost : ab_MF mX9_nailCost 1 := ⟨tw_697, tw_680, ⟨by decide +kernel, by decide +kernel⟩, by decide +kernel, by decide⟩
theorem mf_X9_newDeed : ab_MF mX9_newDeed 2 := ⟨tw_698, tw_680, ⟨by decide +kernel, by decide +kernel⟩, by decide +kernel, by decide⟩
theorem mf_X9_number : ab_MF mX9_number 2 := ⟨tw_699, tw_680, ⟨by decide +kernel, by decide +kernel⟩, by decide +kernel, by decide⟩
theorem mf_X9_read : ab_MF mX9_read 1 := ⟨tw_700, tw_680, ⟨by decide +kernel, by decide +kernel⟩, by decide +kernel, by decide⟩
theorem mf_X9_take : ab_MF mX9_take 2 := ⟨tw_701, tw_680, ⟨by decide +kernel, by decide +kernel⟩, by decide +kernel, by decide⟩
theorem mf_X9_takeDeed : ab_MF mX9_takeDeed 1 := ⟨tw_702, tw_680, ⟨by decide +kernel, by decide +kernel⟩, by decide +kernel, by decide⟩
theorem mf_X9_takeMark : ab_MF mX9_takeMark 1 := ⟨tw_703, tw_680, ⟨by decide +kernel, by decide +kernel⟩, by decide +kernel, by decide⟩
theorem mf_X9_takeNail : ab_MF mX9_takeNail 2 := ⟨tw_704, tw_680, ⟨by decide +kernel, by decide +kernel⟩, by decide +kernel, by decide⟩
theorem mf_X9_wrongAt : ab_MF mX9_wrongAt 1 := ⟨tw_705, tw_680, ⟨by decide +kernel, by decide +kernel⟩, by decide +kernel, by decide⟩
theorem fa_X0_15 : ab_FA RX0 15 4 6 0 false false := ⟨by decide, rfl, RX0, RX1, "cost", "I", tw_707, Or.inr tw_706, by decide +kernel, by decide +kernel, fun z => by cases z⟩
theorem fa_X0_18 : ab_FA RX0 18 4 7 0 false false := ⟨by decide, rfl, RX0, RX1, "back", "I", tw_709, Or.inr tw_708, by decide +kernel, by decide +kernel, fun z => by cases z⟩
theorem fa_X0_21 : ab_FA RX0 21 4 10 1 false false := ⟨by decide, rfl, RX0, RX1, "keeps", "Z", tw_711, Or.inr tw_710, by decide +kernel, by decide +kernel, fun z => by cases z⟩
theorem fa_X0_25 : ab_FA RX0 25 4 11 0 false false := ⟨by decide, rfl, RX0, RX1, "care", "I", tw_713, Or.inr tw_712, by decide +kernel, by decide +kernel, fun z => by cases z⟩
theorem fa_X0_28 : ab_FA RX0 28 4 12 0 false false := ⟨by decide, rfl, RX0, RX1, "failure", "I", tw_715, Or.inr tw_714, by decide +kernel, by decide +kernel, fun z => by cases z⟩
theorem fa_X0_9 : ab_FA RX0 9 4 5 0 false false := ⟨by decide, rfl, RX0, RX1, "kind", "I", tw_717, Or.inr tw_716, by decide +kernel, by decide +kernel, fun z => by cases z⟩
theorem fa_X10_11 : ab_FA RX10 11 2 0 11 true true := ⟨by decide, rfl, RX10, RX10, "deeds", "[LBackwardYears$Deed;", tw_718, Or.inl rfl, by decide +kernel, by decide +kernel, fun _ => rfl⟩
theorem fa_X10_124 : ab_FA RX10 124 4 1 0 true false := ⟨by decide, rfl, RX1, RX1, "needs", "I", tw_719, Or.inl rfl, by decide +kernel, by decide +kernel, fun z => by cases z⟩
theorem fa_X10_130 : ab_FA RX10 130 4 7 0 false false := ⟨by decide, rfl, RX1, RX1, "back", "I", tw_720, Or.inl rfl, by decide +kernel, by decide +kernel, fun z => by cases z⟩
theorem fa_X10_17 : ab_FA RX10 17 2 1 9 true true := ⟨by decide, rfl, RX10, RX10, "made", "[I", tw_721, Or.inl rfl, by decide +kernel, by decide +kernel, fun _ => rfl⟩
theorem fa_X10_21 : ab_FA RX10 21 2 2 9 true true := ⟨by decide, rfl, RX10, RX10, "lost", "[I", tw_722, Or.inl rfl, by decide +kernel, by decide +kernel, fun _ => rfl⟩
theorem fa_X10_24 : ab_FA RX10 24 2 3 4 false false := ⟨by decide, rfl, RX10, RX10, "town", "LBackwardYears$Town;", tw_723, Or.inl rfl, by decide +kernel, by decide +kernel, fun z => by cases z⟩
theorem fa_X10_28 : ab_FA RX10 28 1 4 0 false false := ⟨by decide, rfl, RX9, RX9, "law", "I", tw_724, Or.inl rfl, by decide +kernel, by decide +kernel, fun z => by cases z⟩
theorem fa_X10_34 : ab_FA RX10 34 2 4 0 false false := ⟨by decide, rfl, RX10, RX10, "law", "I", tw_725, Or.inl rfl, by decide +kernel, by decide +kernel, fun z => by cases z⟩
theorem fa_X10_35 : ab_FA RX10 35 2 5 0 false false := ⟨by decide, rfl, RX10, RX10, "size", "I", tw_726, Or.inl rfl, by decide +kernel, by decide +kernel, fun z => by cases z⟩
theorem fa_X10_38 : ab_FA RX10 38 2 6 0 false false := ⟨by decide, rfl, RX10, RX10, "marks", "I", tw_727, Or.inl rfl, by decide +kernel, by decide +kernel, fun z => by cases z⟩
theorem fa_X10_41 : ab_FA RX10 41 2 7 0 false false := ⟨by decide, rfl, RX10, RX10, "coins", "I", tw_728, Or.inl rfl, by decide +kernel, by decide +kernel, fun z => by cases z⟩
theorem fa_X10_44 : ab_FA RX10 44 2 8 0 false false := ⟨by decide, rfl, RX10, RX10, "paid", "I", tw_729, Or.inl rfl, by decide +kernel, by decide +kernel, fun z => by cases z⟩
theorem fa_X10_47 : ab_FA RX10 47 2 9 0 false false := ⟨by decide, rfl, RX10, RX10, "done", "I", tw_730, Or.inl rfl, by decide +kernel, by decide +kernel, fun z => by cases z⟩
theorem fa_X10_50 : ab_FA RX10 50 2 10 0 false false := ⟨by decide, rfl, RX10, RX10, "undone", "I", tw_731, Or.inl rfl, by decide +kernel, by decide +kernel, fun z => by cases z⟩
theorem fa_X10_53 : ab_FA RX10 53 2 11 0 false false := ⟨by decide, rfl, RX10, RX10, "nailed", "I", tw_732, Or.inl rfl, by decide +kernel, by decide +kernel, fun z => by cases z⟩
theorem fa_X10_56 : ab_FA RX10 56 2 12 0 false false := ⟨by decide, rfl, RX10, RX10, "firm", "I", tw_733, Or.inl rfl, by decide +kernel, by decide +kernel, fun z => by cases z⟩
theorem fa_X10_59 : ab_FA RX10 59 2 13 0 false false := ⟨by decide, rfl, RX10, RX10, "fallen", "I", tw_734, Or.inl rfl, by decide +kernel, by decide +kernel, fun z => by cases z⟩
theorem fa_X10_62 : ab_FA RX10 62 1 2 0 false false := ⟨by decide, rfl, RX9, RX9, "marks", "I", tw_735, Or.inl rfl, by decide +kernel, by decide +kernel, fun z => by cases z⟩
theorem fa_X10_63 : ab_FA RX10 63 1 3 0 false false := ⟨by decide, rfl, RX9, RX9, "coins", "I", tw_736, Or.inl rfl, by decide +kernel, by decide +kernel, fun z => by cases z⟩
theorem fa_X10_94 : ab_FA RX10 94 4 6 0 false false := ⟨by decide, rfl, RX1, RX1, "cost", "I", tw_737, Or.inl rfl, by decide +kernel, by decide +kernel, fun z => by cases z⟩
theorem fa_X10_97 : ab_FA RX10 97 4 10 1 false false := ⟨by decide, rfl, RX1, RX1, "keeps", "Z", tw_738, Or.inl rfl, by decide +kernel, by decide +kernel, fun z => by cases z⟩
theorem fa_X11_10 : ab_FA RX11 10 0 0 4 true true := ⟨by decide, rfl, RX11, RX11, "now", "LBackwardYears$Town;", tw_739, Or.inl rfl, by decide +kernel, by decide +kernel, fun _ => rfl⟩
theorem fa_X11_100 : ab_FA RX11 100 1 7 0 false false := ⟨by decide, rfl, RX9, RX9, "year", "I", tw_740, Or.inl rfl, by decide +kernel, by decide +kernel, fun z => by cases z⟩
theorem fa_X11_103 : ab_FA RX11 103 1 4 0 false false := ⟨by decide, rfl, RX9, RX9, "law", "I", tw_741, Or.inl rfl, by decide +kernel, by decide +kernel, fun z => by cases z⟩
theorem fa_X11_106 : ab_FA RX11 106 1 5 0 false false := ⟨by decide, rfl, RX9, RX9, "nail", "I", tw_742, Or.inl rfl, by decide +kernel, by decide +kernel, fun z => by cases z⟩
theorem fa_X11_109 : ab_FA RX11 109 1 6 0 false false := ⟨by decide, rfl, RX9, RX9, "rise", "I", tw_743, Or.inl rfl, by decide +kernel, by decide +kernel, fun z => by cases z⟩
theorem fa_X11_152 : ab_FA RX11 152 2 9 0 false false := ⟨by decide, rfl, RX10, RX10, "done", "I", tw_744, Or.inl rfl, by decide +kernel, by decide +kernel, fun z => by cases z⟩
theorem fa_X11_155 : ab_FA RX11 155 2 6 0 false false := ⟨by decide, rfl, RX10, RX10, "marks", "I", tw_745, Or.inl rfl, by decide +kernel, by decide +kernel, fun z => by cases z⟩
theorem fa_X11_156 : ab_FA RX11 156 2 5 0 false false := ⟨by decide, rfl, RX10, RX10, "size", "I", tw_746, Or.inl rfl, by decide +kernel, by decide +kernel, fun z => by cases z⟩
theorem fa_X11_16 : ab_FA RX11 16 0 1 4 true true := ⟨by decide, rfl, RX11, RX11, "then", "LBackwardYears$Town;", tw_747, Or.inl rfl, by decide +kernel, by decide +kernel, fun _ => rfl⟩
theorem fa_X11_162 : ab_FA RX11 162 2 7 0 false false := ⟨by decide, rfl, RX10, RX10, "coins", "I", tw_748, Or.inl rfl, by decide +kernel, by decide +kernel, fun z => by cases z⟩
theorem fa_X11_163 : ab_FA RX11 163 2 10 0 false false := ⟨by decide, rfl, RX10, RX10, "undone", "I", tw_749, Or.inl rfl, by decide +kernel, by decide +kernel, fun z => by cases z⟩
theorem fa_X11_166 : ab_FA RX11 166 2 8 0 false false := ⟨by decide, rfl, RX10, RX10, "paid", "I", tw_750, Or.inl rfl, by decide +kernel, by decide +kernel, fun z => by cases z⟩
theorem fa_X11_182 : ab_FA RX11 182 3 3 0 false false := ⟨by decide, rfl, RX6, RX6, "size", "I", tw_751, Or.inl rfl, by decide +kernel, by decide +kernel, fun z => by cases z⟩
theorem fa_X11_19 : ab_FA RX11 19 0 2 4 true true := ⟨by decide, rfl, RX11, RX11, "draft", "LBackwardYears$Town;", tw_752, Or.inl rfl, by decide +kernel, by decide +kernel, fun _ => rfl⟩
theorem fa_X11_207 : ab_FA RX11 207 1 1 0 false false := ⟨by decide, rfl, RX9, RX9, "deedCount", "I", tw_753, Or.inl rfl, by decide +kernel, by decide +kernel, fun z => by cases z⟩
theorem fa_X11_213 : ab_FA RX11 213 4 8 0 false false := ⟨by decide, rfl, RX1, RX1, "sets", "I", tw_754, Or.inl rfl, by decide +kernel, by decide +kernel, fun z => by cases z⟩
theorem fa_X11_216 : ab_FA RX11 216 4 9 0 false false := ⟨by decide, rfl, RX1, RX1, "clears", "I", tw_755, Or.inl rfl, by decide +kernel, by decide +kernel, fun z => by cases z⟩
theorem fa_X11_229 : ab_FA RX11 229 2 4 0 false false := ⟨by decide, rfl, RX10, RX10, "law", "I", tw_756, Or.inl rfl, by decide +kernel, by decide +kernel, fun z => by cases z⟩
theorem fa_X11_237 : ab_FA RX11 237 0 9 1 false false := ⟨by decide, rfl, RX11, RX11, "imageTaken", "Z", tw_757, Or.inl rfl, by decide +kernel, by decide +kernel, fun z => by cases z⟩
theorem fa_X11_25 : ab_FA RX11 25 0 3 5 true true := ⟨by decide, rfl, RX11, RX11, "years", "LBackwardYears$Years;", tw_758, Or.inl rfl, by decide +kernel, by decide +kernel, fun _ => rfl⟩
theorem fa_X11_275 : ab_FA RX11 275 3 2 0 false false := ⟨by decide, rfl, RX6, RX6, "sort", "I", tw_759, Or.inl rfl, by decide +kernel, by decide +kernel, fun z => by cases z⟩
theorem fa_X11_281 : ab_FA RX11 281 3 0 9 true false := ⟨by decide, rfl, RX6, RX6, "elements", "[I", tw_760, Or.inl rfl, by decide +kernel, by decide +kernel, fun z => by cases z⟩
theorem fa_X11_290 : ab_FA RX11 290 3 1 7 false false := ⟨by decide, rfl, RX6, RX6, "deed", "LBackwardYears$Deed;", tw_761, Or.inl rfl, by decide +kernel, by decide +kernel, fun z => by cases z⟩
theorem fa_X11_297 : ab_FA RX11 297 4 11 0 false false := ⟨by decide, rfl, RX1, RX1, "care", "I", tw_762, Or.inl rfl, by decide +kernel, by decide +kernel, fun z => by cases z⟩
theorem fa_X11_31 : ab_FA RX11 31 0 4 12 true true := ⟨by decide, rfl, RX11, RX11, "shelves", "[LBackwardYears$Shelf;", tw_763, Or.inl rfl, by decide +kernel, by decide +kernel, fun _ => rfl⟩
theorem fa_X11_333 : ab_FA RX11 333 0 8 0 false false := ⟨by decide, rfl, RX11, RX11, "moveCount", "I", tw_764, Or.inl rfl, by decide +kernel, by decide +kernel, fun z => by cases z⟩
theorem fa_X11_35 : ab_FA RX11 35 0 5 9 true true := ⟨by decide, rfl, RX11, RX11, "order", "[I", tw_765, Or.inl rfl, by decide +kernel, by decide +kernel, fun _ => rfl⟩
theorem fa_X11_39 : ab_FA RX11 39 0 6 9 true true := ⟨by decide, rfl, RX11, RX11, "moves", "[I", tw_766, Or.inl rfl, by decide +kernel, by decide +kernel, fun _ => rfl⟩
theorem fa_X11_42 : ab_FA RX11 42 0 7 9 true true := ⟨by decide, rfl, RX11, RX11, "ends", "[I", tw_767, Or.inl rfl, by decide +kernel, by decide +kernel, fun _ => rfl⟩
theorem fa_X11_66 : ab_FA RX11 66 4 5 0 false false := ⟨by decide, rfl, RX1, RX1, "kind", "I", tw_768, Or.inl rfl, by decide +kernel, by decide +kernel, fun z => by cases z⟩
theorem fa_X11_72 : ab_FA RX11 72 4 1 0 true false := ⟨by decide, rfl, RX1, RX1, "needs", "I", tw_769, Or.inl rfl, by decide +kernel, by decide +kernel, fun z => by cases z⟩
theorem fa_X11_75 : ab_FA RX11 75 4 2 0 true false := ⟨by decide, rfl, RX1, RX1, "makes", "I", tw_770, Or.inl rfl, by decide +kernel, by decide +kernel, fun z => by cases z⟩
theorem fa_X11_78 : ab_FA RX11 78 4 3 0 true false := ⟨by decide, rfl, RX1, RX1, "pays", "I", tw_771, Or.inl rfl, by decide +kernel, by decide +kernel, fun z => by cases z⟩
theorem fa_X11_81 : ab_FA RX11 81 4 4 0 true false := ⟨by decide, rfl, RX1, RX1, "figure", "I", tw_772, Or.inl rfl, by decide +kernel, by decide +kernel, fun z => by cases z⟩
theorem fa_X11_84 : ab_FA RX11 84 4 6 0 false false := ⟨by decide, rfl, RX1, RX1, "cost", "I", tw_773, Or.inl rfl, by decide +kernel, by decide +kernel, fun z => by cases z⟩
theorem fa_X11_87 : ab_FA RX11 87 4 7 0 false false := ⟨by decide, rfl, RX1, RX1, "back", "I", tw_774, Or.inl rfl, by decide +kernel, by decide +kernel, fun z => by cases z⟩
theorem fa_X11_90 : ab_FA RX11 90 4 10 1 false false := ⟨by decide, rfl, RX1, RX1, "keeps", "Z", tw_775, Or.inl rfl, by decide +kernel, by decide +kernel, fun z => by cases z⟩
theorem fa_X11_94 : ab_FA RX11 94 1 2 0 false false := ⟨by decide, rfl, RX9, RX9, "marks", "I", tw_776, Or.inl rfl, by decide +kernel, by decide +kernel, fun z => by cases z⟩
theorem fa_X11_97 : ab_FA RX11 97 1 3 0 false false := ⟨by decide, rfl, RX9, RX9, "coins", "I", tw_777, Or.inl rfl, by decide +kernel, by decide +kernel, fun z => by cases z⟩
theorem fa_X12_105 : ab_FA RX12 105 5 17 0 false false := ⟨by decide, rfl, RX12, RX12, "kindRead", "I", tw_778, Or.inl rfl, by decide +kernel, by decide +kernel, fun z => by cases z⟩
theorem fa_X12_108 : ab_FA RX12 108 5 15 0 false false := ⟨by decide, rfl, RX12, RX12, "letters", "I", tw_779, Or.inl rfl, by decide +kernel, by decide +kernel, fun z => by cases z⟩
theorem fa_X12_117 : ab_FA RX12 117 5 18 0 false false := ⟨by decide, rfl, RX12, RX12, "figureRead", "I", tw_780, Or.inl rfl, by decide +kernel, by decide +kernel, fun z => by cases z⟩
theorem fa_X12_13 : ab_FA RX12 13 5 1 9 true true := ⟨by decide, rfl, RX12, RX12, "image", "[I", tw_781, Or.inl rfl, by decide +kernel, by decide +kernel, fun _ => rfl⟩
theorem fa_X12_16 : ab_FA RX12 16 5 2 9 true true := ⟨by decide, rfl, RX12, RX12, "read", "[I", tw_782, Or.inl rfl, by decide +kernel, by decide +kernel, fun _ => rfl⟩
theorem fa_X12_166 : ab_FA RX12 166 5 24 0 false false := ⟨by decide, rfl, RX12, RX12, "listed", "I", tw_783, Or.inl rfl, by decide +kernel, by decide +kernel, fun z => by cases z⟩
theorem fa_X12_169 : ab_FA RX12 169 5 25 0 false false := ⟨by decide, rfl, RX12, RX12, "nails", "I", tw_784, Or.inl rfl, by decide +kernel, by decide +kernel, fun z => by cases z⟩
theorem fa_X12_175 : ab_FA RX12 175 5 26 0 false false := ⟨by decide, rfl, RX12, RX12, "so", "I", tw_785, Or.inl rfl, by decide +kernel, by decide +kernel, fun z => by cases z⟩
theorem fa_X12_178 : ab_FA RX12 178 5 27 0 false false := ⟨by decide, rfl, RX12, RX12, "coins", "I", tw_786, Or.inl rfl, by decide +kernel, by decide +kernel, fun z => by cases z⟩
theorem fa_X12_181 : ab_FA RX12 181 5 28 0 false false := ⟨by decide, rfl, RX12, RX12, "paid", "I", tw_787, Or.inl rfl, by decide +kernel, by decide +kernel, fun z => by cases z⟩
theorem fa_X12_184 : ab_FA RX12 184 5 29 0 false false := ⟨by decide, rfl, RX12, RX12, "undone", "I", tw_788, Or.inl rfl, by decide +kernel, by decide +kernel, fun z => by cases z⟩
theorem fa_X12_19 : ab_FA RX12 19 5 3 9 true true := ⟨by decide, rfl, RX12, RX12, "kept", "[I", tw_789, Or.inl rfl, by decide +kernel, by decide +kernel, fun _ => rfl⟩
theorem fa_X12_22 : ab_FA RX12 22 5 4 9 true true := ⟨by decide, rfl, RX12, RX12, "sort", "[I", tw_790, Or.inl rfl, by decide +kernel, by decide +kernel, fun _ => rfl⟩
theorem fa_X12_232 : ab_FA RX12 232 5 30 0 false false := ⟨by decide, rfl, RX12, RX12, "bestNails", "I", tw_791, Or.inl rfl, by decide +kernel, by decide +kernel, fun z => by cases z⟩
theorem fa_X12_238 : ab_FA RX12 238 5 31 0 false false := ⟨by decide, rfl, RX12, RX12, "bestPaid", "I", tw_792, Or.inl rfl, by decide +kernel, by decide +kernel, fun z => by cases z⟩
theorem fa_X12_246 : ab_FA RX12 246 5 34 0 false false := ⟨by decide, rfl, RX12, RX12, "bestMany", "I", tw_793, Or.inl rfl, by decide +kernel, by decide +kernel, fun z => by cases z⟩
theorem fa_X12_249 : ab_FA RX12 249 5 33 0 false false := ⟨by decide, rfl, RX12, RX12, "bestDigits", "I", tw_794, Or.inl rfl, by decide +kernel, by decide +kernel, fun z => by cases z⟩
theorem fa_X12_25 : ab_FA RX12 25 5 5 9 true true := ⟨by decide, rfl, RX12, RX12, "size", "[I", tw_795, Or.inl rfl, by decide +kernel, by decide +kernel, fun _ => rfl⟩
theorem fa_X12_256 : ab_FA RX12 256 5 38 0 false false := ⟨by decide, rfl, RX12, RX12, "worths", "I", tw_796, Or.inl rfl, by decide +kernel, by decide +kernel, fun z => by cases z⟩
theorem fa_X12_266 : ab_FA RX12 266 5 35 1 false false := ⟨by decide, rfl, RX12, RX12, "isPlanned", "Z", tw_797, Or.inl rfl, by decide +kernel, by decide +kernel, fun z => by cases z⟩
theorem fa_X12_270 : ab_FA RX12 270 5 36 2 false false := ⟨by decide, rfl, RX12, RX12, "bestWorth", "J", tw_798, Or.inl rfl, by decide +kernel, by decide +kernel, fun z => by cases z⟩
theorem fa_X12_274 : ab_FA RX12 274 5 37 0 false false := ⟨by decide, rfl, RX12, RX12, "bestFirst", "I", tw_799, Or.inl rfl, by decide +kernel, by decide +kernel, fun z => by cases z⟩
theorem fa_X12_28 : ab_FA RX12 28 5 6 9 true true := ⟨by decide, rfl, RX12, RX12, "element", "[I", tw_800, Or.inl rfl, by decide +kernel, by decide +kernel, fun _ => rfl⟩
theorem fa_X12_288 : ab_FA RX12 288 5 40 0 false false := ⟨by decide, rfl, RX12, RX12, "seed", "I", tw_801, Or.inl rfl, by decide +kernel, by decide +kernel, fun z => by cases z⟩
theorem fa_X12_303 : ab_FA RX12 303 5 9 1 false false := ⟨by decide, rfl, RX12, RX12, "hasImage", "Z", tw_802, Or.inl rfl, by decide +kernel, by decide +kernel, fun z => by cases z⟩
theorem fa_X12_31 : ab_FA RX12 31 5 7 9 true true := ⟨by decide, rfl, RX12, RX12, "keptCare", "[I", tw_803, Or.inl rfl, by decide +kernel, by decide +kernel, fun _ => rfl⟩
theorem fa_X12_34 : ab_FA RX12 34 5 8 9 true true := ⟨by decide, rfl, RX12, RX12, "keptToss", "[I", tw_804, Or.inl rfl, by decide +kernel, by decide +kernel, fun _ => rfl⟩
theorem fa_X12_37 : ab_FA RX12 37 5 16 9 true true := ⟨by decide, rfl, RX12, RX12, "numbers", "[I", tw_805, Or.inl rfl, by decide +kernel, by decide +kernel, fun _ => rfl⟩
theorem fa_X12_40 : ab_FA RX12 40 5 19 9 true true := ⟨by decide, rfl, RX12, RX12, "list", "[I", tw_806, Or.inl rfl, by decide +kernel, by decide +kernel, fun _ => rfl⟩
theorem fa_X12_43 : ab_FA RX12 43 5 20 9 true true := ⟨by decide, rfl, RX12, RX12, "changed", "[I", tw_807, Or.inl rfl, by decide +kernel, by decide +kernel, fun _ => rfl⟩
theorem fa_X12_46 : ab_FA RX12 46 5 21 9 true true := ⟨by decide, rfl, RX12, RX12, "ahead", "[I", tw_808, Or.inl rfl, by decide +kernel, by decide +kernel, fun _ => rfl⟩
theorem fa_X12_49 : ab_FA RX12 49 5 22 9 true true := ⟨by decide, rfl, RX12, RX12, "fate", "[I", tw_809, Or.inl rfl, by decide +kernel, by decide +kernel, fun _ => rfl⟩
theorem fa_X12_52 : ab_FA RX12 52 5 23 9 true true := ⟨by decide, rfl, RX12, RX12, "behindPlace", "[I", tw_810, Or.inl rfl, by decide +kernel, by decide +kernel, fun _ => rfl⟩
theorem fa_X12_55 : ab_FA RX12 55 5 32 9 true true := ⟨by decide, rfl, RX12, RX12, "line", "[I", tw_811, Or.inl rfl, by decide +kernel, by decide +kernel, fun _ => rfl⟩
theorem fa_X12_58 : ab_FA RX12 58 5 39 9 true true := ⟨by decide, rfl, RX12, RX12, "whose", "[I", tw_812, Or.inl rfl, by decide +kernel, by decide +kernel, fun _ => rfl⟩
theorem fa_X12_61 : ab_FA RX12 61 5 10 0 false false := ⟨by decide, rfl, RX12, RX12, "thrown", "I", tw_813, Or.inl rfl, by decide +kernel, by decide +kernel, fun z => by cases z⟩
theorem fa_X12_73 : ab_FA RX12 73 5 11 0 false false := ⟨by decide, rfl, RX12, RX12, "pos", "I", tw_814, Or.inl rfl, by decide +kernel, by decide +kernel, fun z => by cases z⟩
theorem fa_X12_76 : ab_FA RX12 76 5 13 0 false false := ⟨by decide, rfl, RX12, RX12, "end", "I", tw_815, Or.inl rfl, by decide +kernel, by decide +kernel, fun z => by cases z⟩
theorem fa_X12_79 : ab_FA RX12 79 5 12 0 false false := ⟨by decide, rfl, RX12, RX12, "base", "I", tw_816, Or.inl rfl, by decide +kernel, by decide +kernel, fun z => by cases z⟩
theorem fa_X12_9 : ab_FA RX12 9 5 0 9 true true := ⟨by decide, rfl, RX12, RX12, "s", "[I", tw_817, Or.inl rfl, by decide +kernel, by decide +kernel, fun _ => rfl⟩
theorem fa_X12_94 : ab_FA RX12 94 5 14 0 false false := ⟨by decide, rfl, RX12, RX12, "told", "I", tw_818, Or.inl rfl, by decide +kernel, by decide +kernel, fun z => by cases z⟩
theorem fa_X1_15 : ab_FA RX1 15 4 11 0 false false := ⟨by decide, rfl, RX1, RX1, "care", "I", tw_819, Or.inl rfl, by decide +kernel, by decide +kernel, fun z => by cases z⟩
theorem fa_X1_18 : ab_FA RX1 18 4 0 0 true true := ⟨by decide, rfl, RX1, RX1, "number", "I", tw_820, Or.inl rfl, by decide +kernel, by decide +kernel, fun _ => rfl⟩
theorem fa_X1_21 : ab_FA RX1 21 4 1 0 true true := ⟨by decide, rfl, RX1, RX1, "needs", "I", tw_821, Or.inl rfl, by decide +kernel, by decide +kernel, fun _ => rfl⟩
theorem fa_X1_24 : ab_FA RX1 24 4 2 0 true true := ⟨by decide, rfl, RX1, RX1, "makes", "I", tw_822, Or.inl rfl, by decide +kernel, by decide +kernel, fun _ => rfl⟩
theorem fa_X1_27 : ab_FA RX1 27 4 3 0 true true := ⟨by decide, rfl, RX1, RX1, "pays", "I", tw_823, Or.inl rfl, by decide +kernel, by decide +kernel, fun _ => rfl⟩
theorem fa_X1_30 : ab_FA RX1 30 4 4 0 true true := ⟨by decide, rfl, RX1, RX1, "figure", "I", tw_824, Or.inl rfl, by decide +kernel, by decide +kernel, fun _ => rfl⟩
theorem fa_X1_33 : ab_FA RX1 33 4 6 0 false false := ⟨by decide, rfl, RX1, RX1, "cost", "I", tw_825, Or.inl rfl, by decide +kernel, by decide +kernel, fun z => by cases z⟩
theorem fa_X1_36 : ab_FA RX1 36 4 7 0 false false := ⟨by decide, rfl, RX1, RX1, "back", "I", tw_826, Or.inl rfl, by decide +kernel, by decide +kernel, fun z => by cases z⟩
theorem fa_X1_39 : ab_FA RX1 39 4 8 0 false false := ⟨by decide, rfl, RX1, RX1, "sets", "I", tw_827, Or.inl rfl, by decide +kernel, by decide +kernel, fun z => by cases z⟩
theorem fa_X1_42 : ab_FA RX1 42 4 12 0 false false := ⟨by decide, rfl, RX1, RX1, "failure", "I", tw_828, Or.inl rfl, by decide +kernel, by decide +kernel, fun z => by cases z⟩
theorem fa_X1_45 : ab_FA RX1 45 4 13 1 false false := ⟨by decide, rfl, RX1, RX1, "canFail", "Z", tw_829, Or.inl rfl, by decide +kernel, by decide +kernel, fun z => by cases z⟩
theorem fa_X1_53 : ab_FA RX1 53 4 9 0 false false := ⟨by decide, rfl, RX1, RX1, "clears", "I", tw_830, Or.inl rfl, by decide +kernel, by decide +kernel, fun z => by cases z⟩
theorem fa_X1_9 : ab_FA RX1 9 4 5 0 false false := ⟨by decide, rfl, RX1, RX1, "kind", "I", tw_831, Or.inl rfl, by decide +kernel, by decide +kernel, fun z => by cases z⟩
theorem fa_X2_15 : ab_FA RX2 15 4 6 0 false false := ⟨by decide, rfl, RX2, RX1, "cost", "I", tw_833, Or.inr tw_832, by decide +kernel, by decide +kernel, fun z => by cases z⟩
theorem fa_X2_18 : ab_FA RX2 18 4 7 0 false false := ⟨by decide, rfl, RX2, RX1, "back", "I", tw_835, Or.inr tw_834, by decide +kernel, by decide +kernel, fun z => by cases z⟩
theorem fa_X2_21 : ab_FA RX2 21 4 11 0 false false := ⟨by decide, rfl, RX2, RX1, "care", "I", tw_837, Or.inr tw_836, by decide +kernel, by decide +kernel, fun z => by cases z⟩
theorem fa_X2_24 : ab_FA RX2 24 4 13 1 false false := ⟨by decide, rfl, RX2, RX1, "canFail", "Z", tw_839, Or.inr tw_838, by decide +kernel, by decide +kernel, fun z => by cases z⟩
theorem fa_X2_9 : ab_FA RX2 9 4 5 0 false false := ⟨by decide, rfl, RX2, RX1, "kind", "I", tw_841, Or.inr tw_840, by decide +kernel, by decide +kernel, fun z => by cases z⟩
theorem fa_X3_15 : ab_FA RX3 15 4 8 0 false false := ⟨by decide, rfl, RX3, RX1, "sets", "I", tw_843, Or.inr tw_842, by decide +kernel, by decide +kernel, fun z => by cases z⟩
theorem fa_X3_18 : ab_FA RX3 18 4 9 0 false false := ⟨by decide, rfl, RX3, RX1, "clears", "I", tw_845, Or.inr tw_844, by decide +kernel, by decide +kernel, fun z => by cases z⟩
theorem fa_X3_21 : ab_FA RX3 21 4 11 0 false false := ⟨by decide, rfl, RX3, RX1, "care", "I", tw_847, Or.inr tw_846, by decide +kernel, by decide +kernel, fun z => by cases z⟩
theorem fa_X3_9 : ab_FA RX3 9 4 5 0 false false := ⟨by decide, rfl, RX3, RX1, "kind", "I", tw_849, Or.inr tw_848, by decide +kernel, by decide +kernel, fun z => by cases z⟩
theorem fa_X4_15 : ab_FA RX4 15 4 6 0 false false := ⟨by decide, rfl, RX4, RX1, "cost", "I", tw_851, Or.inr tw_850, by decide +kernel, by decide +kernel, fun z => by cases z⟩
theorem fa_X4_18 : ab_FA RX4 18 4 7 0 false false := ⟨by decide, rfl, RX4, RX1, "back", "I", tw_853, Or.inr tw_852, by decide +kernel, by decide +kernel, fun z => by cases z⟩
theorem fa_X4_21 : ab_FA RX4 21 4 11 0 false false := ⟨by decide, rfl, RX4, RX1, "care", "I", tw_855, Or.inr tw_854, by decide +kernel, by decide +kernel, fun z => by cases z⟩
theorem fa_X4_9 : ab_FA RX4 9 4 5 0 false false := ⟨by decide, rfl, RX4, RX1, "kind", "I", tw_857, Or.inr tw_856, by decide +kernel, by decide +kernel, fun z => by cases z⟩
theorem fa_X5_15 : ab_FA RX5 15 4 6 0 false false := ⟨by decide, rfl, RX5, RX1, "cost", "I", tw_859, Or.inr tw_858, by decide +kernel, by decide +kernel, fun z => by cases z⟩
theorem fa_X5_18 : ab_FA RX5 18 4 7 0 false false := ⟨by decide, rfl, RX5, RX1, "back", "I", tw_861, Or.inr tw_860, by decide +kernel, by decide +kernel, fun z => by cases z⟩
theorem fa_X5_21 : ab_FA RX5 21 4 10 1 false false := ⟨by decide, rfl, RX5, RX1, "keeps", "Z", tw_863, Or.inr tw_862, by decide +kernel, by decide +kernel, fun z => by cases z⟩
theorem fa_X5_25 : ab_FA RX5 25 4 11 0 false false := ⟨by decide, rfl, RX5, RX1, "care", "I", tw_865, Or.inr tw_864, by decide +kernel, by decide +kernel, fun z => by cases z⟩
theorem fa_X5_9 : ab_FA RX5 9 4 5 0 false false := ⟨by decide, rfl, RX5, RX1, "kind", "I", tw_867, Or.inr tw_866, by decide +kernel, by decide +kernel, fun z => by cases z⟩
theorem fa_X6_11 : ab_FA RX6 11 3 0 9 true true := ⟨by decide, rfl, RX6, RX6, "elements", "[I", tw_868, Or.inl rfl, by decide +kernel, by decide +kernel, fun _ => rfl⟩
theorem fa_X6_15 : ab_FA RX6 15 3 2 0 false false := ⟨by decide, rfl, RX6, RX6, "sort", "I", tw_869, Or.inl rfl, by decide +kernel, by decide +kernel, fun z => by cases z⟩
theorem fa_X6_19 : ab_FA RX6 19 3 1 7 false false := ⟨by decide, rfl, RX6, RX6, "deed", "LBackwardYears$Deed;", tw_870, Or.inl rfl, by decide +kernel, by decide +kernel, fun z => by cases z⟩
theorem fa_X6_23 : ab_FA RX6 23 3 3 0 false false := ⟨by decide, rfl, RX6, RX6, "size", "I", tw_871, Or.inl rfl, by decide +kernel, by decide +kernel, fun z => by cases z⟩
theorem fa_X7_15 : ab_FA RX7 15 4 7 0 false false := ⟨by decide, rfl, RX7, RX1, "back", "I", tw_873, Or.inr tw_872, by decide +kernel, by decide +kernel, fun z => by cases z⟩
theorem fa_X7_18 : ab_FA RX7 18 4 11 0 false false := ⟨by decide, rfl, RX7, RX1, "care", "I", tw_875, Or.inr tw_874, by decide +kernel, by decide +kernel, fun z => by cases z⟩
theorem fa_X7_9 : ab_FA RX7 9 4 5 0 false false := ⟨by decide, rfl, RX7, RX1, "kind", "I", tw_877, Or.inr tw_876, by decide +kernel, by decide +kernel, fun z => by cases z⟩
theorem fa_X8_15 : ab_FA RX8 15 4 8 0 false false := ⟨by decide, rfl, RX8, RX1, "sets", "I", tw_879, Or.inr tw_878, by decide +kernel, by decide +kernel, fun z => by cases z⟩
theorem fa_X8_18 : ab_FA RX8 18 4 11 0 false false := ⟨by decide, rfl, RX8, RX1, "care", "I", tw_881, Or.inr tw_880, by decide +kernel, by decide +kernel, fun z => by cases z⟩
theorem fa_X8_21 : ab_FA RX8 21 4 12 0 false false := ⟨by decide, rfl, RX8, RX1, "failure", "I", tw_883, Or.inr tw_882, by decide +kernel, by decide +kernel, fun z => by cases z⟩
theorem fa_X8_9 : ab_FA RX8 9 4 5 0 false false := ⟨by decide, rfl, RX8, RX1, "kind", "I", tw_885, Or.inr tw_884, by decide +kernel, by decide +kernel, fun z => by cases z⟩
theorem fa_X9_11 : ab_FA RX9 11 1 0 11 true true := ⟨by decide, rfl, RX9, RX9, "deeds", "[LBackwardYears$Deed;", tw_886, Or.inl rfl, by decide +kernel, by decide +kernel, fun _ => rfl⟩
theorem fa_X9_17 : ab_FA RX9 17 1 3 0 false false := ⟨by decide, rfl, RX9, RX9, "coins", "I", tw_887, Or.inl rfl, by decide +kernel, by decide +kernel, fun z => by cases z⟩
theorem fa_X9_21 : ab_FA RX9 21 1 5 0 false false := ⟨by decide, rfl, RX9, RX9, "nail", "I", tw_888, Or.inl rfl, by decide +kernel, by decide +kernel, fun z => by cases z⟩
theorem fa_X9_28 : ab_FA RX9 28 1 1 0 false false := ⟨by decide, rfl, RX9, RX9, "deedCount", "I", tw_889, Or.inl rfl, by decide +kernel, by decide +kernel, fun z => by cases z⟩
theorem fa_X9_31 : ab_FA RX9 31 1 2 0 false false := ⟨by decide, rfl, RX9, RX9, "marks", "I", tw_890, Or.inl rfl, by decide +kernel, by decide +kernel, fun z => by cases z⟩
theorem fa_X9_34 : ab_FA RX9 34 1 4 0 false false := ⟨by decide, rfl, RX9, RX9, "law", "I", tw_891, Or.inl rfl, by decide +kernel, by decide +kernel, fun z => by cases z⟩
theorem fa_X9_37 : ab_FA RX9 37 1 6 0 false false := ⟨by decide, rfl, RX9, RX9, "rise", "I", tw_892, Or.inl rfl, by decide +kernel, by decide +kernel, fun z => by cases z⟩
theorem fa_X9_40 : ab_FA RX9 40 1 7 0 false false := ⟨by decide, rfl, RX9, RX9, "year", "I", tw_893, Or.inl rfl, by decide +kernel, by decide +kernel, fun z => by cases z⟩
theorem fa_X9_43 : ab_FA RX9 43 3 3 0 false false := ⟨by decide, rfl, RX6, RX6, "size", "I", tw_894, Or.inl rfl, by decide +kernel, by decide +kernel, fun z => by cases z⟩
theorem nf_L_18 : ab_NF RL 18 5 12 RX12 TX12 41 := ⟨tw_895, tw_896, tw_571, rfl, by decide, by decide, by decide, by decide +kernel⟩
theorem nf_L_8 : ab_NF RL 8 0 11 RX11 TX11 10 := ⟨tw_897, tw_898, tw_509, rfl, by decide, by decide, by decide, by decide +kernel⟩
theorem nf_X11_22 : ab_NF RX11 22 2 10 RX10 TX10 14 := ⟨tw_899, tw_900, tw_491, rfl, by decide, by decide, by decide, by decide +kernel⟩
theorem nf_X11_29 : ab_NF RX11 29 3 6 RX6 TX6 4 := ⟨tw_13, tw_901, tw_663, rfl, by decide, by decide, by decide, by decide +kernel⟩
theorem nf_X11_7 : ab_NF RX11 7 1 9 RX9 TX9 8 := ⟨tw_902, tw_903, tw_680, rfl, by decide, by decide, by decide, by decide +kernel⟩
theorem nf_X9_124 : ab_NF RX9 124 4 4 RX4 TX4 14 := ⟨tw_904, tw_905, tw_659, rfl, by decide, by decide, by decide, by decide +kernel⟩
theorem nf_X9_127 : ab_NF RX9 127 4 7 RX7 TX7 14 := ⟨tw_906, tw_907, tw_676, rfl, by decide, by decide, by decide, by decide +kernel⟩
theorem nf_X9_130 : ab_NF RX9 130 4 2 RX2 TX2 14 := ⟨tw_908, tw_909, tw_655, rfl, by decide, by decide, by decide, by decide +kernel⟩
theorem nf_X9_133 : ab_NF RX9 133 4 5 RX5 TX5 14 := ⟨tw_910, tw_911, tw_661, rfl, by decide, by decide, by decide, by decide +kernel⟩
theorem nf_X9_136 : ab_NF RX9 136 4 0 RX0 TX0 14 := ⟨tw_912, tw_913, tw_489, rfl, by decide, by decide, by decide, by decide +kernel⟩
theorem nf_X9_139 : ab_NF RX9 139 4 3 RX3 TX3 14 := ⟨tw_914, tw_915, tw_657, rfl, by decide, by decide, by decide, by decide +kernel⟩
theorem nf_X9_142 : ab_NF RX9 142 4 8 RX8 TX8 14 := ⟨tw_916, tw_917, tw_678, rfl, by decide, by decide, by decide, by decide +kernel⟩
theorem nf_X9_9 : ab_NF RX9 9 4 1 RX1 TX1 14 := ⟨tw_5, tw_918, tw_649, rfl, by decide, by decide, by decide, by decide +kernel⟩
theorem ts_X10_add : ∀ ci ∈ ab_cls 2, ∃ r : vw_C, vwCl[ci]? = some r ∧ Cond.selects r.1 yX10_add yX10_add ∈ ab_TS := fun ci h => by
  have h : ci = 10 := List.mem_singleton.mp h
  subst h
  exact ⟨_, rfl, tw_919⟩
theorem ts_X10_begin : ∀ ci ∈ ab_cls 2, ∃ r : vw_C, vwCl[ci]? = some r ∧ Cond.selects r.1 yX10_begin yX10_begin ∈ ab_TS := fun ci h => by
  have h : ci = 10 := List.mem_singleton.mp h
  subst h
  exact ⟨_, rfl, tw_920⟩
theorem ts_X10_deedAt : ∀ ci ∈ ab_cls 2, ∃ r : vw_C, vwCl[ci]? = some r ∧ Cond.selects r.1 yX10_deedAt yX10_deedAt ∈ ab_TS := fun ci h => by
  have h : ci = 10 := List.mem_singleton.mp h
  subst h
  exact ⟨_, rfl, tw_921⟩
theorem ts_X10_evenPlace : ∀ ci ∈ ab_cls 2, ∃ r : vw_C, vwCl[ci]? = some r ∧ Cond.selects r.1 yX10_evenPlace yX10_evenPlace ∈ ab_TS := fun ci h => by
  have h : ci = 10 := List.mem_singleton.mp h
  subst h
  exact ⟨_, rfl, tw_922⟩
theorem ts_X10_evenYear : ∀ ci ∈ ab_cls 2, ∃ r : vw_C, vwCl[ci]? = some r ∧ Cond.selects r.1 yX10_evenYear yX10_evenYear ∈ ab_TS := fun ci h => by
  have h : ci = 10 := List.mem_singleton.mp h
  subst h
  exact ⟨_, rfl, tw_923⟩
theorem ts_X10_fate : ∀ ci ∈ ab_cls 2, ∃ r : vw_C, vwCl[ci]? = some r ∧ Cond.selects r.1 yX10_fate yX10_fate ∈ ab_TS := fun ci h => by
  have h : ci = 10 := List.mem_singleton.mp h
  subst h
  exact ⟨_, rfl, tw_924⟩
theorem ts_X10_leastNails : ∀ ci ∈ ab_cls 2, ∃ r : vw_C, vwCl[ci]? = some r ∧ Cond.selects r.1 yX10_leastNails yX10_leastNails ∈ ab_TS := fun ci h => by
  have h : ci = 10 := List.mem_singleton.mp h
  subst h
  exact ⟨_, rfl, tw_925⟩
theorem ts_X10_letFall : ∀ ci ∈ ab_cls 2, ∃ r : vw_C, vwCl[ci]? = some r ∧ Cond.selects r.1 yX10_letFall yX10_letFall ∈ ab_TS := fun ci h => by
  have h : ci = 10 := List.mem_singleton.mp h
  subst h
  exact ⟨_, rfl, tw_926⟩
theorem ts_X10_nailAt : ∀ ci ∈ ab_cls 2, ∃ r : vw_C, vwCl[ci]? = some r ∧ Cond.selects r.1 yX10_nailAt yX10_nailAt ∈ ab_TS := fun ci h => by
  have h : ci = 10 := List.mem_singleton.mp h
  subst h
  exact ⟨_, rfl, tw_927⟩
theorem ts_X10_oddYear : ∀ ci ∈ ab_cls 2, ∃ r : vw_C, vwCl[ci]? = some r ∧ Cond.selects r.1 yX10_oddYear yX10_oddYear ∈ ab_TS := fun ci h => by
  have h : ci = 10 := List.mem_singleton.mp h
  subst h
  exact ⟨_, rfl, tw_928⟩
theorem ts_X10_open : ∀ ci ∈ ab_cls 2, ∃ r : vw_C, vwCl[ci]? = some r ∧ Cond.selects r.1 yX10_open yX10_open ∈ ab_TS := fun ci h => by
  have h : ci = 10 := List.mem_singleton.mp h
  subst h
  exact ⟨_, rfl, tw_929⟩
theorem ts_X10_play : ∀ ci ∈ ab_cls 2, ∃ r : vw_C, vwCl[ci]? = some r ∧ Cond.selects r.1 yX10_play yX10_play ∈ ab_TS := fun ci h => by
  have h : ci = 10 := List.mem_singleton.mp h
  subst h
  exact ⟨_, rfl, tw_930⟩
theorem ts_X10_standing : ∀ ci ∈ ab_cls 2, ∃ r : vw_C, vwCl[ci]? = some r ∧ Cond.selects r.1 yX10_standing yX10_standing ∈ ab_TS := fun ci h => by
  have h : ci = 10 := List.mem_singleton.mp h
  subst h
  exact ⟨_, rfl, tw_931⟩
theorem ts_X10_stays : ∀ ci ∈ ab_cls 2, ∃ r : vw_C, vwCl[ci]? = some r ∧ Cond.selects r.1 yX10_stays yX10_stays ∈ ab_TS := fun ci h => by
  have h : ci = 10 := List.mem_singleton.mp h
  subst h
  exact ⟨_, rfl, tw_932⟩
theorem ts_X10_undo : ∀ ci ∈ ab_cls 2, ∃ r : vw_C, vwCl[ci]? = some r ∧ Cond.selects r.1 yX10_undo yX10_undo ∈ ab_TS := fun ci h => by
  have h : ci = 10 := List.mem_singleton.mp h
  subst h
  exact ⟨_, rfl, tw_933⟩
theorem ts_X11_addMoves : ∀ ci ∈ ab_cls 0, ∃ r : vw_C, vwCl[ci]? = some r ∧ Cond.selects r.1 yX11_addMoves yX11_addMoves ∈ ab_TS := fun ci h => by
  have h : ci = 11 := List.mem_singleton.mp h
  subst h
  exact ⟨_, rfl, tw_934⟩
theorem ts_X11_behind : ∀ ci ∈ ab_cls 0, ∃ r : vw_C, vwCl[ci]? = some r ∧ Cond.selects r.1 yX11_behind yX11_behind ∈ ab_TS := fun ci h => by
  have h : ci = 11 := List.mem_singleton.mp h
  subst h
  exact ⟨_, rfl, tw_935⟩
theorem ts_X11_bestMove : ∀ ci ∈ ab_cls 0, ∃ r : vw_C, vwCl[ci]? = some r ∧ Cond.selects r.1 yX11_bestMove yX11_bestMove ∈ ab_TS := fun ci h => by
  have h : ci = 11 := List.mem_singleton.mp h
  subst h
  exact ⟨_, rfl, tw_936⟩
theorem ts_X11_byLaw : ∀ ci ∈ ab_cls 0, ∃ r : vw_C, vwCl[ci]? = some r ∧ Cond.selects r.1 yX11_byLaw yX11_byLaw ∈ ab_TS := fun ci h => by
  have h : ci = 11 := List.mem_singleton.mp h
  subst h
  exact ⟨_, rfl, tw_937⟩
theorem ts_X11_care : ∀ ci ∈ ab_cls 0, ∃ r : vw_C, vwCl[ci]? = some r ∧ Cond.selects r.1 yX11_care yX11_care ∈ ab_TS := fun ci h => by
  have h : ci = 11 := List.mem_singleton.mp h
  subst h
  exact ⟨_, rfl, tw_938⟩
theorem ts_X11_copy : ∀ ci ∈ ab_cls 0, ∃ r : vw_C, vwCl[ci]? = some r ∧ Cond.selects r.1 yX11_copy yX11_copy ∈ ab_TS := fun ci h => by
  have h : ci = 11 := List.mem_singleton.mp h
  subst h
  exact ⟨_, rfl, tw_939⟩
theorem ts_X11_count : ∀ ci ∈ ab_cls 0, ∃ r : vw_C, vwCl[ci]? = some r ∧ Cond.selects r.1 yX11_count yX11_count ∈ ab_TS := fun ci h => by
  have h : ci = 11 := List.mem_singleton.mp h
  subst h
  exact ⟨_, rfl, tw_940⟩
theorem ts_X11_counted : ∀ ci ∈ ab_cls 0, ∃ r : vw_C, vwCl[ci]? = some r ∧ Cond.selects r.1 yX11_counted yX11_counted ∈ ab_TS := fun ci h => by
  have h : ci = 11 := List.mem_singleton.mp h
  subst h
  exact ⟨_, rfl, tw_941⟩
theorem ts_X11_deed : ∀ ci ∈ ab_cls 0, ∃ r : vw_C, vwCl[ci]? = some r ∧ Cond.selects r.1 yX11_deed yX11_deed ∈ ab_TS := fun ci h => by
  have h : ci = 11 := List.mem_singleton.mp h
  subst h
  exact ⟨_, rfl, tw_942⟩
theorem ts_X11_element : ∀ ci ∈ ab_cls 0, ∃ r : vw_C, vwCl[ci]? = some r ∧ Cond.selects r.1 yX11_element yX11_element ∈ ab_TS := fun ci h => by
  have h : ci = 11 := List.mem_singleton.mp h
  subst h
  exact ⟨_, rfl, tw_943⟩
theorem ts_X11_endYears : ∀ ci ∈ ab_cls 0, ∃ r : vw_C, vwCl[ci]? = some r ∧ Cond.selects r.1 yX11_endYears yX11_endYears ∈ ab_TS := fun ci h => by
  have h : ci = 11 := List.mem_singleton.mp h
  subst h
  exact ⟨_, rfl, tw_944⟩
theorem ts_X11_endedSoBefore : ∀ ci ∈ ab_cls 0, ∃ r : vw_C, vwCl[ci]? = some r ∧ Cond.selects r.1 yX11_endedSoBefore yX11_endedSoBefore ∈ ab_TS := fun ci h => by
  have h : ci = 11 := List.mem_singleton.mp h
  subst h
  exact ⟨_, rfl, tw_945⟩
theorem ts_X11_even : ∀ ci ∈ ab_cls 0, ∃ r : vw_C, vwCl[ci]? = some r ∧ Cond.selects r.1 yX11_even yX11_even ∈ ab_TS := fun ci h => by
  have h : ci = 11 := List.mem_singleton.mp h
  subst h
  exact ⟨_, rfl, tw_946⟩
theorem ts_X11_ever : ∀ ci ∈ ab_cls 0, ∃ r : vw_C, vwCl[ci]? = some r ∧ Cond.selects r.1 yX11_ever yX11_ever ∈ ab_TS := fun ci h => by
  have h : ci = 11 := List.mem_singleton.mp h
  subst h
  exact ⟨_, rfl, tw_947⟩
theorem ts_X11_firstWrong : ∀ ci ∈ ab_cls 0, ∃ r : vw_C, vwCl[ci]? = some r ∧ Cond.selects r.1 yX11_firstWrong yX11_firstWrong ∈ ab_TS := fun ci h => by
  have h : ci = 11 := List.mem_singleton.mp h
  subst h
  exact ⟨_, rfl, tw_948⟩
theorem ts_X11_free : ∀ ci ∈ ab_cls 0, ∃ r : vw_C, vwCl[ci]? = some r ∧ Cond.selects r.1 yX11_free yX11_free ∈ ab_TS := fun ci h => by
  have h : ci = 11 := List.mem_singleton.mp h
  subst h
  exact ⟨_, rfl, tw_949⟩
theorem ts_X11_freest : ∀ ci ∈ ab_cls 0, ∃ r : vw_C, vwCl[ci]? = some r ∧ Cond.selects r.1 yX11_freest yX11_freest ∈ ab_TS := fun ci h => by
  have h : ci = 11 := List.mem_singleton.mp h
  subst h
  exact ⟨_, rfl, tw_950⟩
theorem ts_X11_help : ∀ ci ∈ ab_cls 0, ∃ r : vw_C, vwCl[ci]? = some r ∧ Cond.selects r.1 yX11_help yX11_help ∈ ab_TS := fun ci h => by
  have h : ci = 11 := List.mem_singleton.mp h
  subst h
  exact ⟨_, rfl, tw_951⟩
theorem ts_X11_image : ∀ ci ∈ ab_cls 0, ∃ r : vw_C, vwCl[ci]? = some r ∧ Cond.selects r.1 yX11_image yX11_image ∈ ab_TS := fun ci h => by
  have h : ci = 11 := List.mem_singleton.mp h
  subst h
  exact ⟨_, rfl, tw_952⟩
theorem ts_X11_judge : ∀ ci ∈ ab_cls 0, ∃ r : vw_C, vwCl[ci]? = some r ∧ Cond.selects r.1 yX11_judge yX11_judge ∈ ab_TS := fun ci h => by
  have h : ci = 11 := List.mem_singleton.mp h
  subst h
  exact ⟨_, rfl, tw_953⟩
theorem ts_X11_keep : ∀ ci ∈ ab_cls 0, ∃ r : vw_C, vwCl[ci]? = some r ∧ Cond.selects r.1 yX11_keep yX11_keep ∈ ab_TS := fun ci h => by
  have h : ci = 11 := List.mem_singleton.mp h
  subst h
  exact ⟨_, rfl, tw_954⟩
theorem ts_X11_lasts : ∀ ci ∈ ab_cls 0, ∃ r : vw_C, vwCl[ci]? = some r ∧ Cond.selects r.1 yX11_lasts yX11_lasts ∈ ab_TS := fun ci h => by
  have h : ci = 11 := List.mem_singleton.mp h
  subst h
  exact ⟨_, rfl, tw_955⟩
theorem ts_X11_least : ∀ ci ∈ ab_cls 0, ∃ r : vw_C, vwCl[ci]? = some r ∧ Cond.selects r.1 yX11_least yX11_least ∈ ab_TS := fun ci h => by
  have h : ci = 11 := List.mem_singleton.mp h
  subst h
  exact ⟨_, rfl, tw_956⟩
theorem ts_X11_listMoves : ∀ ci ∈ ab_cls 0, ∃ r : vw_C, vwCl[ci]? = some r ∧ Cond.selects r.1 yX11_listMoves yX11_listMoves ∈ ab_TS := fun ci h => by
  have h : ci = 11 := List.mem_singleton.mp h
  subst h
  exact ⟨_, rfl, tw_957⟩
theorem ts_X11_listRefusal : ∀ ci ∈ ab_cls 0, ∃ r : vw_C, vwCl[ci]? = some r ∧ Cond.selects r.1 yX11_listRefusal yX11_listRefusal ∈ ab_TS := fun ci h => by
  have h : ci = 11 := List.mem_singleton.mp h
  subst h
  exact ⟨_, rfl, tw_958⟩
theorem ts_X11_marks : ∀ ci ∈ ab_cls 0, ∃ r : vw_C, vwCl[ci]? = some r ∧ Cond.selects r.1 yX11_marks yX11_marks ∈ ab_TS := fun ci h => by
  have h : ci = 11 := List.mem_singleton.mp h
  subst h
  exact ⟨_, rfl, tw_959⟩
theorem ts_X11_may : ∀ ci ∈ ab_cls 0, ∃ r : vw_C, vwCl[ci]? = some r ∧ Cond.selects r.1 yX11_may yX11_may ∈ ab_TS := fun ci h => by
  have h : ci = 11 := List.mem_singleton.mp h
  subst h
  exact ⟨_, rfl, tw_960⟩
theorem ts_X11_month : ∀ ci ∈ ab_cls 0, ∃ r : vw_C, vwCl[ci]? = some r ∧ Cond.selects r.1 yX11_month yX11_month ∈ ab_TS := fun ci h => by
  have h : ci = 11 := List.mem_singleton.mp h
  subst h
  exact ⟨_, rfl, tw_961⟩
theorem ts_X11_nail : ∀ ci ∈ ab_cls 0, ∃ r : vw_C, vwCl[ci]? = some r ∧ Cond.selects r.1 yX11_nail yX11_nail ∈ ab_TS := fun ci h => by
  have h : ci = 11 := List.mem_singleton.mp h
  subst h
  exact ⟨_, rfl, tw_962⟩
theorem ts_X11_nextOrder : ∀ ci ∈ ab_cls 0, ∃ r : vw_C, vwCl[ci]? = some r ∧ Cond.selects r.1 yX11_nextOrder yX11_nextOrder ∈ ab_TS := fun ci h => by
  have h : ci = 11 := List.mem_singleton.mp h
  subst h
  exact ⟨_, rfl, tw_963⟩
theorem ts_X11_orderDigits : ∀ ci ∈ ab_cls 0, ∃ r : vw_C, vwCl[ci]? = some r ∧ Cond.selects r.1 yX11_orderDigits yX11_orderDigits ∈ ab_TS := fun ci h => by
  have h : ci = 11 := List.mem_singleton.mp h
  subst h
  exact ⟨_, rfl, tw_964⟩
theorem ts_X11_pair : ∀ ci ∈ ab_cls 0, ∃ r : vw_C, vwCl[ci]? = some r ∧ Cond.selects r.1 yX11_pair yX11_pair ∈ ab_TS := fun ci h => by
  have h : ci = 11 := List.mem_singleton.mp h
  subst h
  exact ⟨_, rfl, tw_965⟩
theorem ts_X11_plan : ∀ ci ∈ ab_cls 0, ∃ r : vw_C, vwCl[ci]? = some r ∧ Cond.selects r.1 yX11_plan yX11_plan ∈ ab_TS := fun ci h => by
  have h : ci = 11 := List.mem_singleton.mp h
  subst h
  exact ⟨_, rfl, tw_966⟩
theorem ts_X11_playList : ∀ ci ∈ ab_cls 0, ∃ r : vw_C, vwCl[ci]? = some r ∧ Cond.selects r.1 yX11_playList yX11_playList ∈ ab_TS := fun ci h => by
  have h : ci = 11 := List.mem_singleton.mp h
  subst h
  exact ⟨_, rfl, tw_967⟩
theorem ts_X11_playMove : ∀ ci ∈ ab_cls 0, ∃ r : vw_C, vwCl[ci]? = some r ∧ Cond.selects r.1 yX11_playMove yX11_playMove ∈ ab_TS := fun ci h => by
  have h : ci = 11 := List.mem_singleton.mp h
  subst h
  exact ⟨_, rfl, tw_968⟩
theorem ts_X11_playSeeds : ∀ ci ∈ ab_cls 0, ∃ r : vw_C, vwCl[ci]? = some r ∧ Cond.selects r.1 yX11_playSeeds yX11_playSeeds ∈ ab_TS := fun ci h => by
  have h : ci = 11 := List.mem_singleton.mp h
  subst h
  exact ⟨_, rfl, tw_969⟩
theorem ts_X11_playTwo : ∀ ci ∈ ab_cls 0, ∃ r : vw_C, vwCl[ci]? = some r ∧ Cond.selects r.1 yX11_playTwo yX11_playTwo ∈ ab_TS := fun ci h => by
  have h : ci = 11 := List.mem_singleton.mp h
  subst h
  exact ⟨_, rfl, tw_970⟩
theorem ts_X11_put : ∀ ci ∈ ab_cls 0, ∃ r : vw_C, vwCl[ci]? = some r ∧ Cond.selects r.1 yX11_put yX11_put ∈ ab_TS := fun ci h => by
  have h : ci = 11 := List.mem_singleton.mp h
  subst h
  exact ⟨_, rfl, tw_971⟩
theorem ts_X11_restore : ∀ ci ∈ ab_cls 0, ∃ r : vw_C, vwCl[ci]? = some r ∧ Cond.selects r.1 yX11_restore yX11_restore ∈ ab_TS := fun ci h => by
  have h : ci = 11 := List.mem_singleton.mp h
  subst h
  exact ⟨_, rfl, tw_972⟩
theorem ts_X11_rise : ∀ ci ∈ ab_cls 0, ∃ r : vw_C, vwCl[ci]? = some r ∧ Cond.selects r.1 yX11_rise yX11_rise ∈ ab_TS := fun ci h => by
  have h : ci = 11 := List.mem_singleton.mp h
  subst h
  exact ⟨_, rfl, tw_973⟩
theorem ts_X11_row : ∀ ci ∈ ab_cls 0, ∃ r : vw_C, vwCl[ci]? = some r ∧ Cond.selects r.1 yX11_row yX11_row ∈ ab_TS := fun ci h => by
  have h : ci = 11 := List.mem_singleton.mp h
  subst h
  exact ⟨_, rfl, tw_974⟩
theorem ts_X11_seeded : ∀ ci ∈ ab_cls 0, ∃ r : vw_C, vwCl[ci]? = some r ∧ Cond.selects r.1 yX11_seeded yX11_seeded ∈ ab_TS := fun ci h => by
  have h : ci = 11 := List.mem_singleton.mp h
  subst h
  exact ⟨_, rfl, tw_975⟩
theorem ts_X11_set : ∀ ci ∈ ab_cls 0, ∃ r : vw_C, vwCl[ci]? = some r ∧ Cond.selects r.1 yX11_set yX11_set ∈ ab_TS := fun ci h => by
  have h : ci = 11 := List.mem_singleton.mp h
  subst h
  exact ⟨_, rfl, tw_976⟩
theorem ts_X11_shelfAt : ∀ ci ∈ ab_cls 0, ∃ r : vw_C, vwCl[ci]? = some r ∧ Cond.selects r.1 yX11_shelfAt yX11_shelfAt ∈ ab_TS := fun ci h => by
  have h : ci = 11 := List.mem_singleton.mp h
  subst h
  exact ⟨_, rfl, tw_977⟩
theorem ts_X11_state : ∀ ci ∈ ab_cls 0, ∃ r : vw_C, vwCl[ci]? = some r ∧ Cond.selects r.1 yX11_state yX11_state ∈ ab_TS := fun ci h => by
  have h : ci = 11 := List.mem_singleton.mp h
  subst h
  exact ⟨_, rfl, tw_978⟩
theorem ts_X11_swapPlaces : ∀ ci ∈ ab_cls 0, ∃ r : vw_C, vwCl[ci]? = some r ∧ Cond.selects r.1 yX11_swapPlaces yX11_swapPlaces ∈ ab_TS := fun ci h => by
  have h : ci = 11 := List.mem_singleton.mp h
  subst h
  exact ⟨_, rfl, tw_979⟩
theorem ts_X11_takeList : ∀ ci ∈ ab_cls 0, ∃ r : vw_C, vwCl[ci]? = some r ∧ Cond.selects r.1 yX11_takeList yX11_takeList ∈ ab_TS := fun ci h => by
  have h : ci = 11 := List.mem_singleton.mp h
  subst h
  exact ⟨_, rfl, tw_980⟩
theorem ts_X11_takeOrder : ∀ ci ∈ ab_cls 0, ∃ r : vw_C, vwCl[ci]? = some r ∧ Cond.selects r.1 yX11_takeOrder yX11_takeOrder ∈ ab_TS := fun ci h => by
  have h : ci = 11 := List.mem_singleton.mp h
  subst h
  exact ⟨_, rfl, tw_981⟩
theorem ts_X11_toss : ∀ ci ∈ ab_cls 0, ∃ r : vw_C, vwCl[ci]? = some r ∧ Cond.selects r.1 yX11_toss yX11_toss ∈ ab_TS := fun ci h => by
  have h : ci = 11 := List.mem_singleton.mp h
  subst h
  exact ⟨_, rfl, tw_982⟩
theorem ts_X11_town : ∀ ci ∈ ab_cls 0, ∃ r : vw_C, vwCl[ci]? = some r ∧ Cond.selects r.1 yX11_town yX11_town ∈ ab_TS := fun ci h => by
  have h : ci = 11 := List.mem_singleton.mp h
  subst h
  exact ⟨_, rfl, tw_983⟩
theorem ts_X11_two : ∀ ci ∈ ab_cls 0, ∃ r : vw_C, vwCl[ci]? = some r ∧ Cond.selects r.1 yX11_two yX11_two ∈ ab_TS := fun ci h => by
  have h : ci = 11 := List.mem_singleton.mp h
  subst h
  exact ⟨_, rfl, tw_984⟩
theorem ts_X11_why : ∀ ci ∈ ab_cls 0, ∃ r : vw_C, vwCl[ci]? = some r ∧ Cond.selects r.1 yX11_why yX11_why ∈ ab_TS := fun ci h => by
  have h : ci = 11 := List.mem_singleton.mp h
  subst h
  exact ⟨_, rfl, tw_985⟩
theorem ts_X11_worthOfMove : ∀ ci ∈ ab_cls 0, ∃ r : vw_C, vwCl[ci]? = some r ∧ Cond.selects r.1 yX11_worthOfMove yX11_worthOfMove ∈ ab_TS := fun ci h => by
  have h : ci = 11 := List.mem_singleton.mp h
  subst h
  exact ⟨_, rfl, tw_986⟩
theorem ts_X12_backOf : ∀ ci ∈ ab_cls 5, ∃ r : vw_C, vwCl[ci]? = some r ∧ Cond.selects r.1 yX12_backOf yX12_backOf ∈ ab_TS := fun ci h => by
  have h : ci = 12 := List.mem_singleton.mp h
  subst h
  exact ⟨_, rfl, tw_987⟩
theorem ts_X12_begins : ∀ ci ∈ ab_cls 5, ∃ r : vw_C, vwCl[ci]? = some r ∧ Cond.selects r.1 yX12_begins yX12_begins ∈ ab_TS := fun ci h => by
  have h : ci = 12 := List.mem_singleton.mp h
  subst h
  exact ⟨_, rfl, tw_988⟩
theorem ts_X12_behind : ∀ ci ∈ ab_cls 5, ∃ r : vw_C, vwCl[ci]? = some r ∧ Cond.selects r.1 yX12_behind yX12_behind ∈ ab_TS := fun ci h => by
  have h : ci = 12 := List.mem_singleton.mp h
  subst h
  exact ⟨_, rfl, tw_989⟩
theorem ts_X12_byLaw : ∀ ci ∈ ab_cls 5, ∃ r : vw_C, vwCl[ci]? = some r ∧ Cond.selects r.1 yX12_byLaw yX12_byLaw ∈ ab_TS := fun ci h => by
  have h : ci = 12 := List.mem_singleton.mp h
  subst h
  exact ⟨_, rfl, tw_990⟩
theorem ts_X12_care : ∀ ci ∈ ab_cls 5, ∃ r : vw_C, vwCl[ci]? = some r ∧ Cond.selects r.1 yX12_care yX12_care ∈ ab_TS := fun ci h => by
  have h : ci = 12 := List.mem_singleton.mp h
  subst h
  exact ⟨_, rfl, tw_991⟩
theorem ts_X12_careOf : ∀ ci ∈ ab_cls 5, ∃ r : vw_C, vwCl[ci]? = some r ∧ Cond.selects r.1 yX12_careOf yX12_careOf ∈ ab_TS := fun ci h => by
  have h : ci = 12 := List.mem_singleton.mp h
  subst h
  exact ⟨_, rfl, tw_992⟩
theorem ts_X12_comes : ∀ ci ∈ ab_cls 5, ∃ r : vw_C, vwCl[ci]? = some r ∧ Cond.selects r.1 yX12_comes yX12_comes ∈ ab_TS := fun ci h => by
  have h : ci = 12 := List.mem_singleton.mp h
  subst h
  exact ⟨_, rfl, tw_993⟩
theorem ts_X12_copy : ∀ ci ∈ ab_cls 5, ∃ r : vw_C, vwCl[ci]? = some r ∧ Cond.selects r.1 yX12_copy yX12_copy ∈ ab_TS := fun ci h => by
  have h : ci = 12 := List.mem_singleton.mp h
  subst h
  exact ⟨_, rfl, tw_994⟩
theorem ts_X12_costOf : ∀ ci ∈ ab_cls 5, ∃ r : vw_C, vwCl[ci]? = some r ∧ Cond.selects r.1 yX12_costOf yX12_costOf ∈ ab_TS := fun ci h => by
  have h : ci = 12 := List.mem_singleton.mp h
  subst h
  exact ⟨_, rfl, tw_995⟩
theorem ts_X12_count : ∀ ci ∈ ab_cls 5, ∃ r : vw_C, vwCl[ci]? = some r ∧ Cond.selects r.1 yX12_count yX12_count ∈ ab_TS := fun ci h => by
  have h : ci = 12 := List.mem_singleton.mp h
  subst h
  exact ⟨_, rfl, tw_996⟩
theorem ts_X12_deed : ∀ ci ∈ ab_cls 5, ∃ r : vw_C, vwCl[ci]? = some r ∧ Cond.selects r.1 yX12_deed yX12_deed ∈ ab_TS := fun ci h => by
  have h : ci = 12 := List.mem_singleton.mp h
  subst h
  exact ⟨_, rfl, tw_997⟩
theorem ts_X12_drawn : ∀ ci ∈ ab_cls 5, ∃ r : vw_C, vwCl[ci]? = some r ∧ Cond.selects r.1 yX12_drawn yX12_drawn ∈ ab_TS := fun ci h => by
  have h : ci = 12 := List.mem_singleton.mp h
  subst h
  exact ⟨_, rfl, tw_998⟩
theorem ts_X12_element : ∀ ci ∈ ab_cls 5, ∃ r : vw_C, vwCl[ci]? = some r ∧ Cond.selects r.1 yX12_element yX12_element ∈ ab_TS := fun ci h => by
  have h : ci = 12 := List.mem_singleton.mp h
  subst h
  exact ⟨_, rfl, tw_999⟩
theorem ts_X12_even : ∀ ci ∈ ab_cls 5, ∃ r : vw_C, vwCl[ci]? = some r ∧ Cond.selects r.1 yX12_even yX12_even ∈ ab_TS := fun ci h => by
  have h : ci = 12 := List.mem_singleton.mp h
  subst h
  exact ⟨_, rfl, tw_1000⟩
theorem ts_X12_evenYear : ∀ ci ∈ ab_cls 5, ∃ r : vw_C, vwCl[ci]? = some r ∧ Cond.selects r.1 yX12_evenYear yX12_evenYear ∈ ab_TS := fun ci h => by
  have h : ci = 12 := List.mem_singleton.mp h
  subst h
  exact ⟨_, rfl, tw_1001⟩
theorem ts_X12_ever : ∀ ci ∈ ab_cls 5, ∃ r : vw_C, vwCl[ci]? = some r ∧ Cond.selects r.1 yX12_ever yX12_ever ∈ ab_TS := fun ci h => by
  have h : ci = 12 := List.mem_singleton.mp h
  subst h
  exact ⟨_, rfl, tw_1002⟩
theorem ts_X12_falls : ∀ ci ∈ ab_cls 5, ∃ r : vw_C, vwCl[ci]? = some r ∧ Cond.selects r.1 yX12_falls yX12_falls ∈ ab_TS := fun ci h => by
  have h : ci = 12 := List.mem_singleton.mp h
  subst h
  exact ⟨_, rfl, tw_1003⟩
theorem ts_X12_finds : ∀ ci ∈ ab_cls 5, ∃ r : vw_C, vwCl[ci]? = some r ∧ Cond.selects r.1 yX12_finds yX12_finds ∈ ab_TS := fun ci h => by
  have h : ci = 12 := List.mem_singleton.mp h
  subst h
  exact ⟨_, rfl, tw_1004⟩
theorem ts_X12_free : ∀ ci ∈ ab_cls 5, ∃ r : vw_C, vwCl[ci]? = some r ∧ Cond.selects r.1 yX12_free yX12_free ∈ ab_TS := fun ci h => by
  have h : ci = 12 := List.mem_singleton.mp h
  subst h
  exact ⟨_, rfl, tw_1005⟩
theorem ts_X12_get : ∀ ci ∈ ab_cls 5, ∃ r : vw_C, vwCl[ci]? = some r ∧ Cond.selects r.1 yX12_get yX12_get ∈ ab_TS := fun ci h => by
  have h : ci = 12 := List.mem_singleton.mp h
  subst h
  exact ⟨_, rfl, tw_1006⟩
theorem ts_X12_help : ∀ ci ∈ ab_cls 5, ∃ r : vw_C, vwCl[ci]? = some r ∧ Cond.selects r.1 yX12_help yX12_help ∈ ab_TS := fun ci h => by
  have h : ci = 12 := List.mem_singleton.mp h
  subst h
  exact ⟨_, rfl, tw_1007⟩
theorem ts_X12_here : ∀ ci ∈ ab_cls 5, ∃ r : vw_C, vwCl[ci]? = some r ∧ Cond.selects r.1 yX12_here yX12_here ∈ ab_TS := fun ci h => by
  have h : ci = 12 := List.mem_singleton.mp h
  subst h
  exact ⟨_, rfl, tw_1008⟩
theorem ts_X12_holds : ∀ ci ∈ ab_cls 5, ∃ r : vw_C, vwCl[ci]? = some r ∧ Cond.selects r.1 yX12_holds yX12_holds ∈ ab_TS := fun ci h => by
  have h : ci = 12 := List.mem_singleton.mp h
  subst h
  exact ⟨_, rfl, tw_1009⟩
theorem ts_X12_image : ∀ ci ∈ ab_cls 5, ∃ r : vw_C, vwCl[ci]? = some r ∧ Cond.selects r.1 yX12_image yX12_image ∈ ab_TS := fun ci h => by
  have h : ci = 12 := List.mem_singleton.mp h
  subst h
  exact ⟨_, rfl, tw_1010⟩
theorem ts_X12_isDeed : ∀ ci ∈ ab_cls 5, ∃ r : vw_C, vwCl[ci]? = some r ∧ Cond.selects r.1 yX12_isDeed yX12_isDeed ∈ ab_TS := fun ci h => by
  have h : ci = 12 := List.mem_singleton.mp h
  subst h
  exact ⟨_, rfl, tw_1011⟩
theorem ts_X12_isDigit : ∀ ci ∈ ab_cls 5, ∃ r : vw_C, vwCl[ci]? = some r ∧ Cond.selects r.1 yX12_isDigit yX12_isDigit ∈ ab_TS := fun ci h => by
  have h : ci = 12 := List.mem_singleton.mp h
  subst h
  exact ⟨_, rfl, tw_1012⟩
theorem ts_X12_isHeld : ∀ ci ∈ ab_cls 5, ∃ r : vw_C, vwCl[ci]? = some r ∧ Cond.selects r.1 yX12_isHeld yX12_isHeld ∈ ab_TS := fun ci h => by
  have h : ci = 12 := List.mem_singleton.mp h
  subst h
  exact ⟨_, rfl, tw_1013⟩
theorem ts_X12_isKept : ∀ ci ∈ ab_cls 5, ∃ r : vw_C, vwCl[ci]? = some r ∧ Cond.selects r.1 yX12_isKept yX12_isKept ∈ ab_TS := fun ci h => by
  have h : ci = 12 := List.mem_singleton.mp h
  subst h
  exact ⟨_, rfl, tw_1014⟩
theorem ts_X12_judge : ∀ ci ∈ ab_cls 5, ∃ r : vw_C, vwCl[ci]? = some r ∧ Cond.selects r.1 yX12_judge yX12_judge ∈ ab_TS := fun ci h => by
  have h : ci = 12 := List.mem_singleton.mp h
  subst h
  exact ⟨_, rfl, tw_1015⟩
theorem ts_X12_keep : ∀ ci ∈ ab_cls 5, ∃ r : vw_C, vwCl[ci]? = some r ∧ Cond.selects r.1 yX12_keep yX12_keep ∈ ab_TS := fun ci h => by
  have h : ci = 12 := List.mem_singleton.mp h
  subst h
  exact ⟨_, rfl, tw_1016⟩
theorem ts_X12_lasts : ∀ ci ∈ ab_cls 5, ∃ r : vw_C, vwCl[ci]? = some r ∧ Cond.selects r.1 yX12_lasts yX12_lasts ∈ ab_TS := fun ci h => by
  have h : ci = 12 := List.mem_singleton.mp h
  subst h
  exact ⟨_, rfl, tw_1017⟩
theorem ts_X12_lays : ∀ ci ∈ ab_cls 5, ∃ r : vw_C, vwCl[ci]? = some r ∧ Cond.selects r.1 yX12_lays yX12_lays ∈ ab_TS := fun ci h => by
  have h : ci = 12 := List.mem_singleton.mp h
  subst h
  exact ⟨_, rfl, tw_1018⟩
theorem ts_X12_least : ∀ ci ∈ ab_cls 5, ∃ r : vw_C, vwCl[ci]? = some r ∧ Cond.selects r.1 yX12_least yX12_least ∈ ab_TS := fun ci h => by
  have h : ci = 12 := List.mem_singleton.mp h
  subst h
  exact ⟨_, rfl, tw_1019⟩
theorem ts_X12_leastOf : ∀ ci ∈ ab_cls 5, ∃ r : vw_C, vwCl[ci]? = some r ∧ Cond.selects r.1 yX12_leastOf yX12_leastOf ∈ ab_TS := fun ci h => by
  have h : ci = 12 := List.mem_singleton.mp h
  subst h
  exact ⟨_, rfl, tw_1020⟩
theorem ts_X12_lines : ∀ ci ∈ ab_cls 5, ∃ r : vw_C, vwCl[ci]? = some r ∧ Cond.selects r.1 yX12_lines yX12_lines ∈ ab_TS := fun ci h => by
  have h : ci = 12 := List.mem_singleton.mp h
  subst h
  exact ⟨_, rfl, tw_1021⟩
theorem ts_X12_marks : ∀ ci ∈ ab_cls 5, ∃ r : vw_C, vwCl[ci]? = some r ∧ Cond.selects r.1 yX12_marks yX12_marks ∈ ab_TS := fun ci h => by
  have h : ci = 12 := List.mem_singleton.mp h
  subst h
  exact ⟨_, rfl, tw_1022⟩
theorem ts_X12_marksBy : ∀ ci ∈ ab_cls 5, ∃ r : vw_C, vwCl[ci]? = some r ∧ Cond.selects r.1 yX12_marksBy yX12_marksBy ∈ ab_TS := fun ci h => by
  have h : ci = 12 := List.mem_singleton.mp h
  subst h
  exact ⟨_, rfl, tw_1023⟩
theorem ts_X12_may : ∀ ci ∈ ab_cls 5, ∃ r : vw_C, vwCl[ci]? = some r ∧ Cond.selects r.1 yX12_may yX12_may ∈ ab_TS := fun ci h => by
  have h : ci = 12 := List.mem_singleton.mp h
  subst h
  exact ⟨_, rfl, tw_1024⟩
theorem ts_X12_mayBy : ∀ ci ∈ ab_cls 5, ∃ r : vw_C, vwCl[ci]? = some r ∧ Cond.selects r.1 yX12_mayBy yX12_mayBy ∈ ab_TS := fun ci h => by
  have h : ci = 12 := List.mem_singleton.mp h
  subst h
  exact ⟨_, rfl, tw_1025⟩
theorem ts_X12_month : ∀ ci ∈ ab_cls 5, ∃ r : vw_C, vwCl[ci]? = some r ∧ Cond.selects r.1 yX12_month yX12_month ∈ ab_TS := fun ci h => by
  have h : ci = 12 := List.mem_singleton.mp h
  subst h
  exact ⟨_, rfl, tw_1026⟩
theorem ts_X12_nail : ∀ ci ∈ ab_cls 5, ∃ r : vw_C, vwCl[ci]? = some r ∧ Cond.selects r.1 yX12_nail yX12_nail ∈ ab_TS := fun ci h => by
  have h : ci = 12 := List.mem_singleton.mp h
  subst h
  exact ⟨_, rfl, tw_1027⟩
theorem ts_X12_oddYear : ∀ ci ∈ ab_cls 5, ∃ r : vw_C, vwCl[ci]? = some r ∧ Cond.selects r.1 yX12_oddYear yX12_oddYear ∈ ab_TS := fun ci h => by
  have h : ci = 12 := List.mem_singleton.mp h
  subst h
  exact ⟨_, rfl, tw_1028⟩
theorem ts_X12_pair : ∀ ci ∈ ab_cls 5, ∃ r : vw_C, vwCl[ci]? = some r ∧ Cond.selects r.1 yX12_pair yX12_pair ∈ ab_TS := fun ci h => by
  have h : ci = 12 := List.mem_singleton.mp h
  subst h
  exact ⟨_, rfl, tw_1029⟩
theorem ts_X12_pairOf : ∀ ci ∈ ab_cls 5, ∃ r : vw_C, vwCl[ci]? = some r ∧ Cond.selects r.1 yX12_pairOf yX12_pairOf ∈ ab_TS := fun ci h => by
  have h : ci = 12 := List.mem_singleton.mp h
  subst h
  exact ⟨_, rfl, tw_1030⟩
theorem ts_X12_plan : ∀ ci ∈ ab_cls 5, ∃ r : vw_C, vwCl[ci]? = some r ∧ Cond.selects r.1 yX12_plan yX12_plan ∈ ab_TS := fun ci h => by
  have h : ci = 12 := List.mem_singleton.mp h
  subst h
  exact ⟨_, rfl, tw_1031⟩
theorem ts_X12_plans : ∀ ci ∈ ab_cls 5, ∃ r : vw_C, vwCl[ci]? = some r ∧ Cond.selects r.1 yX12_plans yX12_plans ∈ ab_TS := fun ci h => by
  have h : ci = 12 := List.mem_singleton.mp h
  subst h
  exact ⟨_, rfl, tw_1032⟩
theorem ts_X12_priceOf : ∀ ci ∈ ab_cls 5, ∃ r : vw_C, vwCl[ci]? = some r ∧ Cond.selects r.1 yX12_priceOf yX12_priceOf ∈ ab_TS := fun ci h => by
  have h : ci = 12 := List.mem_singleton.mp h
  subst h
  exact ⟨_, rfl, tw_1033⟩
theorem ts_X12_put : ∀ ci ∈ ab_cls 5, ∃ r : vw_C, vwCl[ci]? = some r ∧ Cond.selects r.1 yX12_put yX12_put ∈ ab_TS := fun ci h => by
  have h : ci = 12 := List.mem_singleton.mp h
  subst h
  exact ⟨_, rfl, tw_1034⟩
theorem ts_X12_readsDeed : ∀ ci ∈ ab_cls 5, ∃ r : vw_C, vwCl[ci]? = some r ∧ Cond.selects r.1 yX12_readsDeed yX12_readsDeed ∈ ab_TS := fun ci h => by
  have h : ci = 12 := List.mem_singleton.mp h
  subst h
  exact ⟨_, rfl, tw_1035⟩
theorem ts_X12_readsMark : ∀ ci ∈ ab_cls 5, ∃ r : vw_C, vwCl[ci]? = some r ∧ Cond.selects r.1 yX12_readsMark yX12_readsMark ∈ ab_TS := fun ci h => by
  have h : ci = 12 := List.mem_singleton.mp h
  subst h
  exact ⟨_, rfl, tw_1036⟩
theorem ts_X12_readsNumber : ∀ ci ∈ ab_cls 5, ∃ r : vw_C, vwCl[ci]? = some r ∧ Cond.selects r.1 yX12_readsNumber yX12_readsNumber ∈ ab_TS := fun ci h => by
  have h : ci = 12 := List.mem_singleton.mp h
  subst h
  exact ⟨_, rfl, tw_1037⟩
theorem ts_X12_readsStatement : ∀ ci ∈ ab_cls 5, ∃ r : vw_C, vwCl[ci]? = some r ∧ Cond.selects r.1 yX12_readsStatement yX12_readsStatement ∈ ab_TS := fun ci h => by
  have h : ci = 12 := List.mem_singleton.mp h
  subst h
  exact ⟨_, rfl, tw_1038⟩
theorem ts_X12_restore : ∀ ci ∈ ab_cls 5, ∃ r : vw_C, vwCl[ci]? = some r ∧ Cond.selects r.1 yX12_restore yX12_restore ∈ ab_TS := fun ci h => by
  have h : ci = 12 := List.mem_singleton.mp h
  subst h
  exact ⟨_, rfl, tw_1039⟩
theorem ts_X12_rise : ∀ ci ∈ ab_cls 5, ∃ r : vw_C, vwCl[ci]? = some r ∧ Cond.selects r.1 yX12_rise yX12_rise ∈ ab_TS := fun ci h => by
  have h : ci = 12 := List.mem_singleton.mp h
  subst h
  exact ⟨_, rfl, tw_1040⟩
theorem ts_X12_row : ∀ ci ∈ ab_cls 5, ∃ r : vw_C, vwCl[ci]? = some r ∧ Cond.selects r.1 yX12_row yX12_row ∈ ab_TS := fun ci h => by
  have h : ci = 12 := List.mem_singleton.mp h
  subst h
  exact ⟨_, rfl, tw_1041⟩
theorem ts_X12_seeded : ∀ ci ∈ ab_cls 5, ∃ r : vw_C, vwCl[ci]? = some r ∧ Cond.selects r.1 yX12_seeded yX12_seeded ∈ ab_TS := fun ci h => by
  have h : ci = 12 := List.mem_singleton.mp h
  subst h
  exact ⟨_, rfl, tw_1042⟩
theorem ts_X12_set : ∀ ci ∈ ab_cls 5, ∃ r : vw_C, vwCl[ci]? = some r ∧ Cond.selects r.1 yX12_set yX12_set ∈ ab_TS := fun ci h => by
  have h : ci = 12 := List.mem_singleton.mp h
  subst h
  exact ⟨_, rfl, tw_1043⟩
theorem ts_X12_standing : ∀ ci ∈ ab_cls 5, ∃ r : vw_C, vwCl[ci]? = some r ∧ Cond.selects r.1 yX12_standing yX12_standing ∈ ab_TS := fun ci h => by
  have h : ci = 12 := List.mem_singleton.mp h
  subst h
  exact ⟨_, rfl, tw_1044⟩
theorem ts_X12_state : ∀ ci ∈ ab_cls 5, ∃ r : vw_C, vwCl[ci]? = some r ∧ Cond.selects r.1 yX12_state yX12_state ∈ ab_TS := fun ci h => by
  have h : ci = 12 := List.mem_singleton.mp h
  subst h
  exact ⟨_, rfl, tw_1045⟩
theorem ts_X12_takes : ∀ ci ∈ ab_cls 5, ∃ r : vw_C, vwCl[ci]? = some r ∧ Cond.selects r.1 yX12_takes yX12_takes ∈ ab_TS := fun ci h => by
  have h : ci = 12 := List.mem_singleton.mp h
  subst h
  exact ⟨_, rfl, tw_1046⟩
theorem ts_X12_thrown : ∀ ci ∈ ab_cls 5, ∃ r : vw_C, vwCl[ci]? = some r ∧ Cond.selects r.1 yX12_thrown yX12_thrown ∈ ab_TS := fun ci h => by
  have h : ci = 12 := List.mem_singleton.mp h
  subst h
  exact ⟨_, rfl, tw_1047⟩
theorem ts_X12_toss : ∀ ci ∈ ab_cls 5, ∃ r : vw_C, vwCl[ci]? = some r ∧ Cond.selects r.1 yX12_toss yX12_toss ∈ ab_TS := fun ci h => by
  have h : ci = 12 := List.mem_singleton.mp h
  subst h
  exact ⟨_, rfl, tw_1048⟩
theorem ts_X12_town : ∀ ci ∈ ab_cls 5, ∃ r : vw_C, vwCl[ci]? = some r ∧ Cond.selects r.1 yX12_town yX12_town ∈ ab_TS := fun ci h => by
  have h : ci = 12 := List.mem_singleton.mp h
  subst h
  exact ⟨_, rfl, tw_1049⟩
theorem ts_X12_tries : ∀ ci ∈ ab_cls 5, ∃ r : vw_C, vwCl[ci]? = some r ∧ Cond.selects r.1 yX12_tries yX12_tries ∈ ab_TS := fun ci h => by
  have h : ci = 12 := List.mem_singleton.mp h
  subst h
  exact ⟨_, rfl, tw_1050⟩
theorem ts_X12_two : ∀ ci ∈ ab_cls 5, ∃ r : vw_C, vwCl[ci]? = some r ∧ Cond.selects r.1 yX12_two yX12_two ∈ ab_TS := fun ci h => by
  have h : ci = 12 := List.mem_singleton.mp h
  subst h
  exact ⟨_, rfl, tw_1051⟩
theorem ts_X12_undoes : ∀ ci ∈ ab_cls 5, ∃ r : vw_C, vwCl[ci]? = some r ∧ Cond.selects r.1 yX12_undoes yX12_undoes ∈ ab_TS := fun ci h => by
  have h : ci = 12 := List.mem_singleton.mp h
  subst h
  exact ⟨_, rfl, tw_1052⟩
theorem ts_X12_why : ∀ ci ∈ ab_cls 5, ∃ r : vw_C, vwCl[ci]? = some r ∧ Cond.selects r.1 yX12_why yX12_why ∈ ab_TS := fun ci h => by
  have h : ci = 12 := List.mem_singleton.mp h
  subst h
  exact ⟨_, rfl, tw_1053⟩
theorem ts_X12_worthOf : ∀ ci ∈ ab_cls 5, ∃ r : vw_C, vwCl[ci]? = some r ∧ Cond.selects r.1 yX12_worthOf yX12_worthOf ∈ ab_TS := fun ci h => by
  have h : ci = 12 := List.mem_singleton.mp h
  subst h
  exact ⟨_, rfl, tw_1054⟩
theorem ts_X12_wrongKept : ∀ ci ∈ ab_cls 5, ∃ r : vw_C, vwCl[ci]? = some r ∧ Cond.selects r.1 yX12_wrongKept yX12_wrongKept ∈ ab_TS := fun ci h => by
  have h : ci = 12 := List.mem_singleton.mp h
  subst h
  exact ⟨_, rfl, tw_1055⟩
theorem ts_X12_wrongList : ∀ ci ∈ ab_cls 5, ∃ r : vw_C, vwCl[ci]? = some r ∧ Cond.selects r.1 yX12_wrongList yX12_wrongList ∈ ab_TS := fun ci h => by
  have h : ci = 12 := List.mem_singleton.mp h
  subst h
  exact ⟨_, rfl, tw_1056⟩
theorem ts_X12_wrongRow : ∀ ci ∈ ab_cls 5, ∃ r : vw_C, vwCl[ci]? = some r ∧ Cond.selects r.1 yX12_wrongRow yX12_wrongRow ∈ ab_TS := fun ci h => by
  have h : ci = 12 := List.mem_singleton.mp h
  subst h
  exact ⟨_, rfl, tw_1057⟩
theorem ts_X1_fail : ∀ ci ∈ ab_cls 4, ∃ r : vw_C, vwCl[ci]? = some r ∧ Cond.selects r.1 yX1_fail yX1_fail ∈ ab_TS := fun ci h => by
  have h : ci ∈ [0, 1, 2, 3, 4, 5, 7, 8] := h
  simp only [List.mem_cons, List.not_mem_nil, or_false] at h
  rcases h with rfl | rfl | rfl | rfl | rfl | rfl | rfl | rfl
  · exact ⟨_, rfl, tw_1058⟩
  · exact ⟨_, rfl, tw_1059⟩
  · exact ⟨_, rfl, tw_1060⟩
  · exact ⟨_, rfl, tw_1061⟩
  · exact ⟨_, rfl, tw_1062⟩
  · exact ⟨_, rfl, tw_1063⟩
  · exact ⟨_, rfl, tw_1064⟩
  · exact ⟨_, rfl, tw_1065⟩
theorem ts_X1_hasGround : ∀ ci ∈ ab_cls 4, ∃ r : vw_C, vwCl[ci]? = some r ∧ Cond.selects r.1 yX1_hasGround yX1_hasGround ∈ ab_TS := fun ci h => by
  have h : ci ∈ [0, 1, 2, 3, 4, 5, 7, 8] := h
  simp only [List.mem_cons, List.not_mem_nil, or_false] at h
  rcases h with rfl | rfl | rfl | rfl | rfl | rfl | rfl | rfl
  · exact ⟨_, rfl, tw_1066⟩
  · exact ⟨_, rfl, tw_1067⟩
  · exact ⟨_, rfl, tw_1068⟩
  · exact ⟨_, rfl, tw_1069⟩
  · exact ⟨_, rfl, tw_1070⟩
  · exact ⟨_, rfl, tw_1071⟩
  · exact ⟨_, rfl, tw_1072⟩
  · exact ⟨_, rfl, tw_1073⟩
theorem ts_X1_marksBehind : ∀ ci ∈ ab_cls 4, ∃ r : vw_C, vwCl[ci]? = some r ∧ Cond.selects r.1 yX1_marksBehind yX1_marksBehind ∈ ab_TS := fun ci h => by
  have h : ci ∈ [0, 1, 2, 3, 4, 5, 7, 8] := h
  simp only [List.mem_cons, List.not_mem_nil, or_false] at h
  rcases h with rfl | rfl | rfl | rfl | rfl | rfl | rfl | rfl
  · exact ⟨_, rfl, tw_1074⟩
  · exact ⟨_, rfl, tw_1075⟩
  · exact ⟨_, rfl, tw_1076⟩
  · exact ⟨_, rfl, tw_1077⟩
  · exact ⟨_, rfl, tw_1078⟩
  · exact ⟨_, rfl, tw_1079⟩
  · exact ⟨_, rfl, tw_1080⟩
  · exact ⟨_, rfl, tw_1081⟩
theorem ts_X1_mayBeDone : ∀ ci ∈ ab_cls 4, ∃ r : vw_C, vwCl[ci]? = some r ∧ Cond.selects r.1 yX1_mayBeDone yX1_mayBeDone ∈ ab_TS := fun ci h => by
  have h : ci ∈ [0, 1, 2, 3, 4, 5, 7, 8] := h
  simp only [List.mem_cons, List.not_mem_nil, or_false] at h
  rcases h with rfl | rfl | rfl | rfl | rfl | rfl | rfl | rfl
  · exact ⟨_, rfl, tw_1082⟩
  · exact ⟨_, rfl, tw_1083⟩
  · exact ⟨_, rfl, tw_1084⟩
  · exact ⟨_, rfl, tw_1085⟩
  · exact ⟨_, rfl, tw_1086⟩
  · exact ⟨_, rfl, tw_1087⟩
  · exact ⟨_, rfl, tw_1088⟩
  · exact ⟨_, rfl, tw_1089⟩
theorem ts_X6_bytesRefusal : ∀ ci ∈ ab_cls 3, ∃ r : vw_C, vwCl[ci]? = some r ∧ Cond.selects r.1 yX6_bytesRefusal yX6_bytesRefusal ∈ ab_TS := fun ci h => by
  have h : ci = 6 := List.mem_singleton.mp h
  subst h
  exact ⟨_, rfl, tw_1090⟩
theorem ts_X6_deedRefusal : ∀ ci ∈ ab_cls 3, ∃ r : vw_C, vwCl[ci]? = some r ∧ Cond.selects r.1 yX6_deedRefusal yX6_deedRefusal ∈ ab_TS := fun ci h => by
  have h : ci = 6 := List.mem_singleton.mp h
  subst h
  exact ⟨_, rfl, tw_1091⟩
theorem ts_X6_hasPlace : ∀ ci ∈ ab_cls 3, ∃ r : vw_C, vwCl[ci]? = some r ∧ Cond.selects r.1 yX6_hasPlace yX6_hasPlace ∈ ab_TS := fun ci h => by
  have h : ci = 6 := List.mem_singleton.mp h
  subst h
  exact ⟨_, rfl, tw_1092⟩
theorem ts_X6_hasPlaces : ∀ ci ∈ ab_cls 3, ∃ r : vw_C, vwCl[ci]? = some r ∧ Cond.selects r.1 yX6_hasPlaces yX6_hasPlaces ∈ ab_TS := fun ci h => by
  have h : ci = 6 := List.mem_singleton.mp h
  subst h
  exact ⟨_, rfl, tw_1093⟩
theorem ts_X6_hold : ∀ ci ∈ ab_cls 3, ∃ r : vw_C, vwCl[ci]? = some r ∧ Cond.selects r.1 yX6_hold yX6_hold ∈ ab_TS := fun ci h => by
  have h : ci = 6 := List.mem_singleton.mp h
  subst h
  exact ⟨_, rfl, tw_1094⟩
theorem ts_X6_holdRow : ∀ ci ∈ ab_cls 3, ∃ r : vw_C, vwCl[ci]? = some r ∧ Cond.selects r.1 yX6_holdRow yX6_holdRow ∈ ab_TS := fun ci h => by
  have h : ci = 6 := List.mem_singleton.mp h
  subst h
  exact ⟨_, rfl, tw_1095⟩
theorem ts_X6_isEmpty : ∀ ci ∈ ab_cls 3, ∃ r : vw_C, vwCl[ci]? = some r ∧ Cond.selects r.1 yX6_isEmpty yX6_isEmpty ∈ ab_TS := fun ci h => by
  have h : ci = 6 := List.mem_singleton.mp h
  subst h
  exact ⟨_, rfl, tw_1096⟩
theorem ts_X6_leastNumber : ∀ ci ∈ ab_cls 3, ∃ r : vw_C, vwCl[ci]? = some r ∧ Cond.selects r.1 yX6_leastNumber yX6_leastNumber ∈ ab_TS := fun ci h => by
  have h : ci = 6 := List.mem_singleton.mp h
  subst h
  exact ⟨_, rfl, tw_1097⟩
theorem ts_X6_read : ∀ ci ∈ ab_cls 3, ∃ r : vw_C, vwCl[ci]? = some r ∧ Cond.selects r.1 yX6_read yX6_read ∈ ab_TS := fun ci h => by
  have h : ci = 6 := List.mem_singleton.mp h
  subst h
  exact ⟨_, rfl, tw_1098⟩
theorem ts_X6_rowRefusal : ∀ ci ∈ ab_cls 3, ∃ r : vw_C, vwCl[ci]? = some r ∧ Cond.selects r.1 yX6_rowRefusal yX6_rowRefusal ∈ ab_TS := fun ci h => by
  have h : ci = 6 := List.mem_singleton.mp h
  subst h
  exact ⟨_, rfl, tw_1099⟩
theorem ts_X6_write : ∀ ci ∈ ab_cls 3, ∃ r : vw_C, vwCl[ci]? = some r ∧ Cond.selects r.1 yX6_write yX6_write ∈ ab_TS := fun ci h => by
  have h : ci = 6 := List.mem_singleton.mp h
  subst h
  exact ⟨_, rfl, tw_1100⟩
theorem ts_X9_become : ∀ ci ∈ ab_cls 1, ∃ r : vw_C, vwCl[ci]? = some r ∧ Cond.selects r.1 yX9_become yX9_become ∈ ab_TS := fun ci h => by
  have h : ci = 9 := List.mem_singleton.mp h
  subst h
  exact ⟨_, rfl, tw_1101⟩
theorem ts_X9_changeCoins : ∀ ci ∈ ab_cls 1, ∃ r : vw_C, vwCl[ci]? = some r ∧ Cond.selects r.1 yX9_changeCoins yX9_changeCoins ∈ ab_TS := fun ci h => by
  have h : ci = 9 := List.mem_singleton.mp h
  subst h
  exact ⟨_, rfl, tw_1102⟩
theorem ts_X9_changeLaw : ∀ ci ∈ ab_cls 1, ∃ r : vw_C, vwCl[ci]? = some r ∧ Cond.selects r.1 yX9_changeLaw yX9_changeLaw ∈ ab_TS := fun ci h => by
  have h : ci = 9 := List.mem_singleton.mp h
  subst h
  exact ⟨_, rfl, tw_1103⟩
theorem ts_X9_changeNail : ∀ ci ∈ ab_cls 1, ∃ r : vw_C, vwCl[ci]? = some r ∧ Cond.selects r.1 yX9_changeNail yX9_changeNail ∈ ab_TS := fun ci h => by
  have h : ci = 9 := List.mem_singleton.mp h
  subst h
  exact ⟨_, rfl, tw_1104⟩
theorem ts_X9_deedAt : ∀ ci ∈ ab_cls 1, ∃ r : vw_C, vwCl[ci]? = some r ∧ Cond.selects r.1 yX9_deedAt yX9_deedAt ∈ ab_TS := fun ci h => by
  have h : ci = 9 := List.mem_singleton.mp h
  subst h
  exact ⟨_, rfl, tw_1105⟩
theorem ts_X9_nailCost : ∀ ci ∈ ab_cls 1, ∃ r : vw_C, vwCl[ci]? = some r ∧ Cond.selects r.1 yX9_nailCost yX9_nailCost ∈ ab_TS := fun ci h => by
  have h : ci = 9 := List.mem_singleton.mp h
  subst h
  exact ⟨_, rfl, tw_1106⟩
theorem ts_X9_newDeed : ∀ ci ∈ ab_cls 1, ∃ r : vw_C, vwCl[ci]? = some r ∧ Cond.selects r.1 yX9_newDeed yX9_newDeed ∈ ab_TS := fun ci h => by
  have h : ci = 9 := List.mem_singleton.mp h
  subst h
  exact ⟨_, rfl, tw_1107⟩
theorem ts_X9_read : ∀ ci ∈ ab_cls 1, ∃ r : vw_C, vwCl[ci]? = some r ∧ Cond.selects r.1 yX9_read yX9_read ∈ ab_TS := fun ci h => by
  have h : ci = 9 := List.mem_singleton.mp h
  subst h
  exact ⟨_, rfl, tw_1108⟩
theorem ts_X9_take : ∀ ci ∈ ab_cls 1, ∃ r : vw_C, vwCl[ci]? = some r ∧ Cond.selects r.1 yX9_take yX9_take ∈ ab_TS := fun ci h => by
  have h : ci = 9 := List.mem_singleton.mp h
  subst h
  exact ⟨_, rfl, tw_1109⟩
theorem ts_X9_takeDeed : ∀ ci ∈ ab_cls 1, ∃ r : vw_C, vwCl[ci]? = some r ∧ Cond.selects r.1 yX9_takeDeed yX9_takeDeed ∈ ab_TS := fun ci h => by
  have h : ci = 9 := List.mem_singleton.mp h
  subst h
  exact ⟨_, rfl, tw_1110⟩
theorem ts_X9_takeMark : ∀ ci ∈ ab_cls 1, ∃ r : vw_C, vwCl[ci]? = some r ∧ Cond.selects r.1 yX9_takeMark yX9_takeMark ∈ ab_TS := fun ci h => by
  have h : ci = 9 := List.mem_singleton.mp h
  subst h
  exact ⟨_, rfl, tw_1111⟩
theorem ts_X9_takeNail : ∀ ci ∈ ab_cls 1, ∃ r : vw_C, vwCl[ci]? = some r ∧ Cond.selects r.1 yX9_takeNail yX9_takeNail ∈ ab_TS := fun ci h => by
  have h : ci = 9 := List.mem_singleton.mp h
  subst h
  exact ⟨_, rfl, tw_1112⟩
theorem tn_X11_9 : (RX11, 9, yX9_init, "BackwardYears") ∈ ab_nests := List.mem_of_getElem? (i := 0) rfl
theorem tn_X11_24 : (RX11, 24, yX10_init, "BackwardYears") ∈ ab_nests := List.mem_of_getElem? (i := 1) rfl
theorem tn_X11_45 : (RX11, 45, yX6_init, "BackwardYears") ∈ ab_nests := List.mem_of_getElem? (i := 2) rfl
theorem tn_X6_34 : (RX6, 34, yX11_at, "BackwardYears") ∈ ab_nests := List.mem_of_getElem? (i := 3) rfl
theorem tn_X10_90 : (RX10, 90, yX11_store, "BackwardYears") ∈ ab_nests := List.mem_of_getElem? (i := 4) rfl
theorem tn_X10_120 : (RX10, 120, yX11_at, "BackwardYears") ∈ ab_nests := List.mem_of_getElem? (i := 5) rfl
theorem tn_X6_39 : (RX6, 39, yX11_store, "BackwardYears") ∈ ab_nests := List.mem_of_getElem? (i := 6) rfl
