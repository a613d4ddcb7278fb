abbrev mJ6_bitCount_0f7a4 : ab_M := (yJ6_bitCount_0f7a4, cJ6_bitCount_0f7a4, 1, (some .int), 0, fun _ => 0)
abbrev mJ9_max_7cf53 : ab_M := (yJ9_max_7cf53, cJ9_max_7cf53, 2, (some .int), 0, fun _ => 0)
abbrev mJ9_min_7cf53 : ab_M := (yJ9_min_7cf53, cJ9_min_7cf53, 2, (some .int), 0, fun _ => 0)
abbrev mL_element : ab_M := (yL_element, cL_element, 5, (some .int), 0, fun _ => 0)
abbrev mX0_init : ab_M := (yX0_init, cX0_init, 6, none, 0, fun _ => 0)
abbrev mX10_add : ab_M := (yX10_add, cX10_add, 2, none, 0, fun _ => 0)
abbrev mX10_begin : ab_M := (yX10_begin, cX10_begin, 3, none, 0, fun _ => 0)
abbrev mX10_deedAt : ab_M := (yX10_deedAt, cX10_deedAt, 2, (some (.object "BackwardYears$Deed")), 0, fun _ => 0)
abbrev mX10_evenPlace : ab_M := (yX10_evenPlace, cX10_evenPlace, 5, none, 0, fun _ => 0)
abbrev mX10_evenYear : ab_M := (yX10_evenYear, cX10_evenYear, 3, none, 0, fun _ => 0)
abbrev mX10_fate : ab_M := (yX10_fate, cX10_fate, 2, (some .int), 0, fun _ => 0)
abbrev mX10_has : ab_M := (yX10_has, cX10_has, 2, (some .boolean), 0, fun _ => 0)
abbrev mX10_init : ab_M := (yX10_init, cX10_init, 1, none, 0, fun _ => 0)
abbrev mX10_leastNails : ab_M := (yX10_leastNails, cX10_leastNails, 6, (some .int), 0, fun _ => 0)
abbrev mX10_letFall : ab_M := (yX10_letFall, cX10_letFall, 5, none, 0, fun _ => 0)
abbrev mX10_nailAt : ab_M := (yX10_nailAt, cX10_nailAt, 3, none, 0, fun _ => 0)
abbrev mX10_oddYear : ab_M := (yX10_oddYear, cX10_oddYear, 2, none, 0, fun _ => 0)
abbrev mX10_open : ab_M := (yX10_open, cX10_open, 2, none, 0, fun _ => 0)
abbrev mX10_play : ab_M := (yX10_play, cX10_play, 2, none, 0, fun _ => 0)
abbrev mX10_standing : ab_M := (yX10_standing, cX10_standing, 1, (some .int), 0, fun _ => 0)
abbrev mX10_stays : ab_M := (yX10_stays, cX10_stays, 5, (some .boolean), 0, fun _ => 0)
abbrev mX10_undo : ab_M := (yX10_undo, cX10_undo, 3, none, 0, fun _ => 0)
abbrev mX11_addMoves : ab_M := (yX11_addMoves, cX11_addMoves, 5, none, 0, fun _ => 0)
abbrev mX11_areMarks : ab_M := (yX11_areMarks, cX11_areMarks, 1, (some .boolean), 0, fun _ => 0)
abbrev mX11_areNails : ab_M := (yX11_areNails, cX11_areNails, 1, (some .boolean), 0, fun _ => 0)
abbrev mX11_areWorths : ab_M := (yX11_areWorths, cX11_areWorths, 3, (some .boolean), 0, fun _ => 0)
abbrev mX11_at : ab_M := (yX11_at, cX11_at, 2, (some .int), 0, fun _ => 0)
abbrev mX11_behind : ab_M := (yX11_behind, cX11_behind, 5, (some .int), 0, fun _ => 0)
abbrev mX11_bestMove : ab_M := (yX11_bestMove, cX11_bestMove, 8, (some .int), 0, fun _ => 0)
abbrev mX11_byLaw : ab_M := (yX11_byLaw, cX11_byLaw, 5, (some .int), 0, fun _ => 0)
abbrev mX11_care : ab_M := (yX11_care, cX11_care, 4, (some .int), 0, fun _ => 0)
abbrev mX11_copy : ab_M := (yX11_copy, cX11_copy, 8, (some .int), 0, fun _ => 0)
abbrev mX11_count : ab_M := (yX11_count, cX11_count, 4, (some .int), 0, fun _ => 0)
abbrev mX11_counted : ab_M := (yX11_counted, cX11_counted, 3, (some .int), 0, fun _ => 0)
abbrev mX11_deed : ab_M := (yX11_deed, cX11_deed, 4, (some .int), 0, fun _ => 0)
abbrev mX11_drawn : ab_M := (yX11_drawn, cX11_drawn, 2, (some .int), 0, fun _ => 0)
abbrev mX11_element : ab_M := (yX11_element, cX11_element, 4, (some .long), 0, fun _ => 0)
abbrev mX11_endYears : ab_M := (yX11_endYears, cX11_endYears, 2, none, 0, fun _ => 0)
abbrev mX11_endedSoBefore : ab_M := (yX11_endedSoBefore, cX11_endedSoBefore, 3, (some .boolean), 0, fun _ => 0)
abbrev mX11_even : ab_M := (yX11_even, cX11_even, 3, (some .int), 0, fun _ => 0)
abbrev mX11_ever : ab_M := (yX11_ever, cX11_ever, 5, (some .int), 0, fun _ => 0)
abbrev mX11_firstWrong : ab_M := (yX11_firstWrong, cX11_firstWrong, 5, (some .int), 0, fun _ => 0)
abbrev mX11_free : ab_M := (yX11_free, cX11_free, 6, (some .int), 0, fun _ => 0)
abbrev mX11_freest : ab_M := (yX11_freest, cX11_freest, 9, (some .int), 0, fun _ => 0)
abbrev mX11_help : ab_M := (yX11_help, cX11_help, 4, (some .int), 0, fun _ => 0)
abbrev mX11_image : ab_M := (yX11_image, cX11_image, 1, (some .int), 0, fun _ => 0)
abbrev mX11_init : ab_M := (yX11_init, cX11_init, 2, none, 0, fun _ => 0)
abbrev mX11_judge : ab_M := (yX11_judge, cX11_judge, 6, (some .int), 0, fun _ => 0)
abbrev mX11_keep : ab_M := (yX11_keep, cX11_keep, 6, (some .int), 0, fun _ => 0)
abbrev mX11_lasts : ab_M := (yX11_lasts, cX11_lasts, 5, (some .int), 0, fun _ => 0)
abbrev mX11_least : ab_M := (yX11_least, cX11_least, 6, (some .int), 0, fun _ => 0)
abbrev mX11_listMoves : ab_M := (yX11_listMoves, cX11_listMoves, 3, none, 0, fun _ => 0)
abbrev mX11_listRefusal : ab_M := (yX11_listRefusal, cX11_listRefusal, 5, (some .int), 0, fun _ => 0)
abbrev mX11_marks : ab_M := (yX11_marks, cX11_marks, 1, (some .int), 0, fun _ => 0)
abbrev mX11_may : ab_M := (yX11_may, cX11_may, 3, (some .int), 0, fun _ => 0)
abbrev mX11_month : ab_M := (yX11_month, cX11_month, 3, (some .int), 0, fun _ => 0)
abbrev mX11_nail : ab_M := (yX11_nail, cX11_nail, 2, (some .int), 0, fun _ => 0)
abbrev mX11_nextOrder : ab_M := (yX11_nextOrder, cX11_nextOrder, 6, (some .boolean), 0, fun _ => 0)
abbrev mX11_nextSeed : ab_M := (yX11_nextSeed, cX11_nextSeed, 1, (some .int), 0, fun _ => 0)
abbrev mX11_orderDigits : ab_M := (yX11_orderDigits, cX11_orderDigits, 4, (some .int), 0, fun _ => 0)
abbrev mX11_pair : ab_M := (yX11_pair, cX11_pair, 4, (some .int), 0, fun _ => 0)
abbrev mX11_plan : ab_M := (yX11_plan, cX11_plan, 7, (some .int), 0, fun _ => 0)
abbrev mX11_playList : ab_M := (yX11_playList, cX11_playList, 4, (some .int), 0, fun _ => 0)
abbrev mX11_playMove : ab_M := (yX11_playMove, cX11_playMove, 4, none, 0, fun _ => 0)
abbrev mX11_playSeeds : ab_M := (yX11_playSeeds, cX11_playSeeds, 8, (some .int), 0, fun _ => 0)
abbrev mX11_playTwo : ab_M := (yX11_playTwo, cX11_playTwo, 8, (some .int), 0, fun _ => 0)
abbrev mX11_put : ab_M := (yX11_put, cX11_put, 6, (some .int), 0, fun _ => 0)
abbrev mX11_restore : ab_M := (yX11_restore, cX11_restore, 1, (some .int), 0, fun _ => 0)
abbrev mX11_rise : ab_M := (yX11_rise, cX11_rise, 1, (some .int), 0, fun _ => 0)
abbrev mX11_row : ab_M := (yX11_row, cX11_row, 5, (some .int), 0, fun _ => 0)
abbrev mX11_seeded : ab_M := (yX11_seeded, cX11_seeded, 5, (some .int), 0, fun _ => 0)
abbrev mX11_set : ab_M := (yX11_set, cX11_set, 3, (some .int), 0, fun _ => 0)
abbrev mX11_shelfAt : ab_M := (yX11_shelfAt, cX11_shelfAt, 2, (some (.object "BackwardYears$Shelf")), 0, fun _ => 0)
abbrev mX11_state : ab_M := (yX11_state, cX11_state, 2, (some .int), 0, fun _ => 0)
abbrev mX11_store : ab_M := (yX11_store, cX11_store, 3, none, 0, fun _ => 0)
abbrev mX11_swapPlaces : ab_M := (yX11_swapPlaces, cX11_swapPlaces, 4, none, 0, fun _ => 0)
abbrev mX11_takeList : ab_M := (yX11_takeList, cX11_takeList, 5, (some .int), 0, fun _ => 0)
abbrev mX11_takeOrder : ab_M := (yX11_takeOrder, cX11_takeOrder, 3, none, 0, fun _ => 0)
abbrev mX11_toss : ab_M := (yX11_toss, cX11_toss, 5, (some .int), 0, fun _ => 0)
abbrev mX11_town : ab_M := (yX11_town, cX11_town, 5, (some .int), 0, fun _ => 0)
abbrev mX11_two : ab_M := (yX11_two, cX11_two, 10, (some .int), 0, fun _ => 0)
abbrev mX11_why : ab_M := (yX11_why, cX11_why, 5, (some .int), 0, fun _ => 0)
abbrev mX11_worthOfMarks : ab_M := (yX11_worthOfMarks, cX11_worthOfMarks, 4, (some .int), 0, fun _ => 0)
abbrev mX11_worthOfMove : ab_M := (yX11_worthOfMove, cX11_worthOfMove, 8, (some .int), 0, fun _ => 0)
abbrev mX12_areNails : ab_M := (yX12_areNails, cX12_areNails, 1, (some .boolean), 0, fun _ => 0)
abbrev mX12_backOf : ab_M := (yX12_backOf, cX12_backOf, 2, (some .int), 0, fun _ => 0)
abbrev mX12_begins : ab_M := (yX12_begins, cX12_begins, 1, none, 0, fun _ => 0)
abbrev mX12_behind : ab_M := (yX12_behind, cX12_behind, 5, (some .int), 0, fun _ => 0)
abbrev mX12_bits : ab_M := (yX12_bits, cX12_bits, 3, (some .int), 0, fun _ => 0)
abbrev mX12_byLaw : ab_M := (yX12_byLaw, cX12_byLaw, 6, (some .int), 0, fun _ => 0)
abbrev mX12_care : ab_M := (yX12_care, cX12_care, 3, (some .int), 0, fun _ => 0)
abbrev mX12_careOf : ab_M := (yX12_careOf, cX12_careOf, 3, (some .int), 0, fun _ => 0)
abbrev mX12_comes : ab_M := (yX12_comes, cX12_comes, 4, (some .boolean), 0, fun _ => 0)
abbrev mX12_copy : ab_M := (yX12_copy, cX12_copy, 8, (some .int), 0, fun _ => 0)
abbrev mX12_costOf : ab_M := (yX12_costOf, cX12_costOf, 3, (some .int), 0, fun _ => 0)
abbrev mX12_count : ab_M := (yX12_count, cX12_count, 4, (some .int), 0, fun _ => 0)
abbrev mX12_deed : ab_M := (yX12_deed, cX12_deed, 3, (some .int), 0, fun _ => 0)
abbrev mX12_drawn : ab_M := (yX12_drawn, cX12_drawn, 2, (some .int), 0, fun _ => 0)
abbrev mX12_element : ab_M := (yX12_element, cX12_element, 3, (some .long), 0, fun _ => 0)
abbrev mX12_even : ab_M := (yX12_even, cX12_even, 5, (some .int), 0, fun _ => 0)
abbrev mX12_evenYear : ab_M := (yX12_evenYear, cX12_evenYear, 4, none, 0, fun _ => 0)
abbrev mX12_ever : ab_M := (yX12_ever, cX12_ever, 5, (some .int), 0, fun _ => 0)
abbrev mX12_falls : ab_M := (yX12_falls, cX12_falls, 3, none, 0, fun _ => 0)
abbrev mX12_finds : ab_M := (yX12_finds, cX12_finds, 3, (some .boolean), 0, fun _ => 0)
abbrev mX12_free : ab_M := (yX12_free, cX12_free, 5, (some .int), 0, fun _ => 0)
abbrev mX12_get : ab_M := (yX12_get, cX12_get, 3, (some .int), 0, fun _ => 0)
abbrev mX12_help : ab_M := (yX12_help, cX12_help, 3, (some .int), 0, fun _ => 0)
abbrev mX12_here : ab_M := (yX12_here, cX12_here, 1, (some .int), 0, fun _ => 0)
abbrev mX12_holds : ab_M := (yX12_holds, cX12_holds, 2, (some .boolean), 0, fun _ => 0)
abbrev mX12_image : ab_M := (yX12_image, cX12_image, 2, (some .int), 0, fun _ => 0)
abbrev mX12_init : ab_M := (yX12_init, cX12_init, 1, none, 0, fun _ => 0)
abbrev mX12_isDeed : ab_M := (yX12_isDeed, cX12_isDeed, 2, (some .boolean), 0, fun _ => 0)
abbrev mX12_isDigit : ab_M := (yX12_isDigit, cX12_isDigit, 1, (some .boolean), 0, fun _ => 0)
abbrev mX12_isHeld : ab_M := (yX12_isHeld, cX12_isHeld, 3, (some .boolean), 0, fun _ => 0)
abbrev mX12_isIn : ab_M := (yX12_isIn, cX12_isIn, 6, (some .boolean), 0, fun _ => 0)
abbrev mX12_isKept : ab_M := (yX12_isKept, cX12_isKept, 3, (some .boolean), 0, fun _ => 0)
abbrev mX12_isMark : ab_M := (yX12_isMark, cX12_isMark, 1, (some .boolean), 0, fun _ => 0)
abbrev mX12_isShelf : ab_M := (yX12_isShelf, cX12_isShelf, 1, (some .boolean), 0, fun _ => 0)
abbrev mX12_judge : ab_M := (yX12_judge, cX12_judge, 7, (some .int), 0, fun _ => 0)
abbrev mX12_keep : ab_M := (yX12_keep, cX12_keep, 5, (some .int), 0, fun _ => 0)
abbrev mX12_lasts : ab_M := (yX12_lasts, cX12_lasts, 5, (some .int), 0, fun _ => 0)
abbrev mX12_lays : ab_M := (yX12_lays, cX12_lays, 4, none, 0, fun _ => 0)
abbrev mX12_least : ab_M := (yX12_least, cX12_least, 5, (some .int), 0, fun _ => 0)
abbrev mX12_leastOf : ab_M := (yX12_leastOf, cX12_leastOf, 2, (some .int), 0, fun _ => 0)
abbrev mX12_lines : ab_M := (yX12_lines, cX12_lines, 7, none, 0, fun _ => 0)
abbrev mX12_marks : ab_M := (yX12_marks, cX12_marks, 1, (some .int), 0, fun _ => 0)
abbrev mX12_marksBy : ab_M := (yX12_marksBy, cX12_marksBy, 4, (some .int), 0, fun _ => 0)
abbrev mX12_may : ab_M := (yX12_may, cX12_may, 2, (some .int), 0, fun _ => 0)
abbrev mX12_mayBy : ab_M := (yX12_mayBy, cX12_mayBy, 4, (some .boolean), 0, fun _ => 0)
abbrev mX12_month : ab_M := (yX12_month, cX12_month, 3, (some .int), 0, fun _ => 0)
abbrev mX12_nail : ab_M := (yX12_nail, cX12_nail, 2, (some .int), 0, fun _ => 0)
abbrev mX12_oddYear : ab_M := (yX12_oddYear, cX12_oddYear, 2, none, 0, fun _ => 0)
abbrev mX12_pair : ab_M := (yX12_pair, cX12_pair, 4, (some .int), 0, fun _ => 0)
abbrev mX12_pairOf : ab_M := (yX12_pairOf, cX12_pairOf, 1, none, 0, fun _ => 0)
abbrev mX12_plan : ab_M := (yX12_plan, cX12_plan, 6, (some .int), 0, fun _ => 0)
abbrev mX12_plans : ab_M := (yX12_plans, cX12_plans, 7, none, 0, fun _ => 0)
abbrev mX12_priceOf : ab_M := (yX12_priceOf, cX12_priceOf, 3, (some .int), 0, fun _ => 0)
abbrev mX12_put : ab_M := (yX12_put, cX12_put, 5, (some .int), 0, fun _ => 0)
abbrev mX12_readsDeed : ab_M := (yX12_readsDeed, cX12_readsDeed, 2, (some .boolean), 0, fun _ => 0)
abbrev mX12_readsMark : ab_M := (yX12_readsMark, cX12_readsMark, 1, (some .boolean), 0, fun _ => 0)
abbrev mX12_readsNumber : ab_M := (yX12_readsNumber, cX12_readsNumber, 4, (some .boolean), 0, fun _ => 0)
abbrev mX12_readsStatement : ab_M := (yX12_readsStatement, cX12_readsStatement, 4, (some .boolean), 0, fun _ => 0)
abbrev mX12_restore : ab_M := (yX12_restore, cX12_restore, 2, (some .int), 0, fun _ => 0)
abbrev mX12_rise : ab_M := (yX12_rise, cX12_rise, 1, (some .int), 0, fun _ => 0)
abbrev mX12_row : ab_M := (yX12_row, cX12_row, 5, (some .int), 0, fun _ => 0)
abbrev mX12_seeded : ab_M := (yX12_seeded, cX12_seeded, 6, (some .int), 0, fun _ => 0)
abbrev mX12_set : ab_M := (yX12_set, cX12_set, 5, (some .int), 0, fun _ => 0)
abbrev mX12_standing : ab_M := (yX12_standing, cX12_standing, 3, (some .int), 0, fun _ => 0)
abbrev mX12_state : ab_M := (yX12_state, cX12_state, 2, (some .int), 0, fun _ => 0)
abbrev mX12_takes : ab_M := (yX12_takes, cX12_takes, 2, (some .boolean), 0, fun _ => 0)
abbrev mX12_thrown : ab_M := (yX12_thrown, cX12_thrown, 1, (some .int), 0, fun _ => 0)
abbrev mX12_toss : ab_M := (yX12_toss, cX12_toss, 3, (some .int), 0, fun _ => 0)
abbrev mX12_town : ab_M := (yX12_town, cX12_town, 7, (some .int), 0, fun _ => 0)
abbrev mX12_tries : ab_M := (yX12_tries, cX12_tries, 12, none, 0, fun _ => 0)
abbrev mX12_two : ab_M := (yX12_two, cX12_two, 10, (some .int), 0, fun _ => 0)
abbrev mX12_undoes : ab_M := (yX12_undoes, cX12_undoes, 3, none, 0, fun _ => 0)
abbrev mX12_why : ab_M := (yX12_why, cX12_why, 5, (some .int), 0, fun _ => 0)
abbrev mX12_worthOf : ab_M := (yX12_worthOf, cX12_worthOf, 5, (some .long), 0, fun _ => 0)
abbrev mX12_wrongKept : ab_M := (yX12_wrongKept, cX12_wrongKept, 2, (some .int), 0, fun _ => 0)
abbrev mX12_wrongList : ab_M := (yX12_wrongList, cX12_wrongList, 4, (some .int), 0, fun _ => 0)
abbrev mX12_wrongRow : ab_M := (yX12_wrongRow, cX12_wrongRow, 3, (some .int), 0, fun _ => 0)
abbrev mX1_fail : ab_M := (yX1_fail, cX1_fail, 1, none, 0, fun _ => 0)
abbrev mX1_hasGround : ab_M := (yX1_hasGround, cX1_hasGround, 2, (some .boolean), 0, fun _ => 0)
abbrev mX1_init : ab_M := (yX1_init, cX1_init, 6, none, 0, fun _ => 0)
abbrev mX1_marksBehind : ab_M := (yX1_marksBehind, cX1_marksBehind, 2, (some .int), 0, fun _ => 0)
abbrev mX1_mayBeDone : ab_M := (yX1_mayBeDone, cX1_mayBeDone, 3, (some .boolean), 0, fun _ => 0)
abbrev mX2_init : ab_M := (yX2_init, cX2_init, 6, none, 0, fun _ => 0)
abbrev mX3_init : ab_M := (yX3_init, cX3_init, 6, none, 0, fun _ => 0)
abbrev mX4_init : ab_M := (yX4_init, cX4_init, 6, none, 0, fun _ => 0)
abbrev mX5_init : ab_M := (yX5_init, cX5_init, 6, none, 0, fun _ => 0)
abbrev mX6_bytesRefusal : ab_M := (yX6_bytesRefusal, cX6_bytesRefusal, 1, (some .int), 0, fun _ => 0)
abbrev mX6_deedRefusal : ab_M := (yX6_deedRefusal, cX6_deedRefusal, 1, (some .int), 0, fun _ => 0)
abbrev mX6_hasPlace : ab_M := (yX6_hasPlace, cX6_hasPlace, 2, (some .boolean), 0, fun _ => 0)
abbrev mX6_hasPlaces : ab_M := (yX6_hasPlaces, cX6_hasPlaces, 3, (some .boolean), 0, fun _ => 0)
abbrev mX6_hold : ab_M := (yX6_hold, cX6_hold, 2, none, 0, fun _ => 0)
abbrev mX6_holdRow : ab_M := (yX6_holdRow, cX6_holdRow, 4, none, 0, fun _ => 0)
abbrev mX6_init : ab_M := (yX6_init, cX6_init, 1, none, 0, fun _ => 0)
abbrev mX6_isEmpty : ab_M := (yX6_isEmpty, cX6_isEmpty, 1, (some .boolean), 0, fun _ => 0)
abbrev mX6_leastNumber : ab_M := (yX6_leastNumber, cX6_leastNumber, 1, (some .int), 0, fun _ => 0)
abbrev mX6_read : ab_M := (yX6_read, cX6_read, 2, (some .int), 0, fun _ => 0)
abbrev mX6_rowRefusal : ab_M := (yX6_rowRefusal, cX6_rowRefusal, 1, (some .int), 0, fun _ => 0)
abbrev mX6_write : ab_M := (yX6_write, cX6_write, 3, (some .boolean), 0, fun _ => 0)
abbrev mX7_init : ab_M := (yX7_init, cX7_init, 6, none, 0, fun _ => 0)
abbrev mX8_init : ab_M := (yX8_init, cX8_init, 6, none, 0, fun _ => 0)
abbrev mX9_become : ab_M := (yX9_become, cX9_become, 3, none, 0, fun _ => 0)
abbrev mX9_behindDeed : ab_M := (yX9_behindDeed, cX9_behindDeed, 3, (some .int), 0, fun _ => 0)
abbrev mX9_behindDigit : ab_M := (yX9_behindDigit, cX9_behindDigit, 2, (some .int), 0, fun _ => 0)
abbrev mX9_behindLetter : ab_M := (yX9_behindLetter, cX9_behindLetter, 2, (some .int), 0, fun _ => 0)
abbrev mX9_behindNail : ab_M := (yX9_behindNail, cX9_behindNail, 3, (some .int), 0, fun _ => 0)
abbrev mX9_behindNeeds : ab_M := (yX9_behindNeeds, cX9_behindNeeds, 5, (some .int), 0, fun _ => 0)
abbrev mX9_behindNumber : ab_M := (yX9_behindNumber, cX9_behindNumber, 5, (some .int), 0, fun _ => 0)
abbrev mX9_behindSign : ab_M := (yX9_behindSign, cX9_behindSign, 3, (some .int), 0, fun _ => 0)
abbrev mX9_behindStatement : ab_M := (yX9_behindStatement, cX9_behindStatement, 3, (some .int), 0, fun _ => 0)
abbrev mX9_changeCoins : ab_M := (yX9_changeCoins, cX9_changeCoins, 3, (some .int), 0, fun _ => 0)
abbrev mX9_changeLaw : ab_M := (yX9_changeLaw, cX9_changeLaw, 3, (some .int), 0, fun _ => 0)
abbrev mX9_changeNail : ab_M := (yX9_changeNail, cX9_changeNail, 3, (some .int), 0, fun _ => 0)
abbrev mX9_deedAt : ab_M := (yX9_deedAt, cX9_deedAt, 2, (some (.object "BackwardYears$Deed")), 0, fun _ => 0)
abbrev mX9_faultAt : ab_M := (yX9_faultAt, cX9_faultAt, 1, (some .int), 0, fun _ => 0)
abbrev mX9_init : ab_M := (yX9_init, cX9_init, 1, none, 0, fun _ => 0)
abbrev mX9_isDigit : ab_M := (yX9_isDigit, cX9_isDigit, 1, (some .boolean), 0, fun _ => 0)
abbrev mX9_isLetter : ab_M := (yX9_isLetter, cX9_isLetter, 1, (some .boolean), 0, fun _ => 0)
abbrev mX9_nailCost : ab_M := (yX9_nailCost, cX9_nailCost, 3, (some .int), 0, fun _ => 0)
abbrev mX9_newDeed : ab_M := (yX9_newDeed, cX9_newDeed, 9, (some (.object "BackwardYears$Deed")), 0, fun _ => 0)
abbrev mX9_number : ab_M := (yX9_number, cX9_number, 4, (some .int), 0, fun _ => 0)
abbrev mX9_read : ab_M := (yX9_read, cX9_read, 5, (some .int), 0, fun _ => 0)
abbrev mX9_take : ab_M := (yX9_take, cX9_take, 3, (some .boolean), 0, fun _ => 0)
abbrev mX9_takeDeed : ab_M := (yX9_takeDeed, cX9_takeDeed, 2, (some .boolean), 0, fun _ => 0)
abbrev mX9_takeMark : ab_M := (yX9_takeMark, cX9_takeMark, 2, (some .boolean), 0, fun _ => 0)
abbrev mX9_takeNail : ab_M := (yX9_takeNail, cX9_takeNail, 5, (some .boolean), 0, fun _ => 0)
abbrev mX9_wrongAt : ab_M := (yX9_wrongAt, cX9_wrongAt, 1, (some .int), 0, fun _ => 0)
abbrev mL_law (L : Nat) (xs : Nat → Int32) : ab_M := (yL_law, code, 8, some .boolean, L, xs)
theorem ab_ty1 {t T : Nat} (h : (ab_shp t).1 = T) : ∀ z, some t = some z → (ab_shp z).1 = T := fun z e => by cases e; exact h
theorem ab_k_bipush_m128 : (Int8.ofInt (-128)).toInt32 = (-128) := by decide
theorem ab_k_bipush_m15 : (Int8.ofInt (-15)).toInt32 = (-15) := by decide
theorem ab_k_bipush_m14 : (Int8.ofInt (-14)).toInt32 = (-14) := by decide
theorem ab_k_bipush_m13 : (Int8.ofInt (-13)).toInt32 = (-13) := by decide
theorem ab_k_bipush_m12 : (Int8.ofInt (-12)).toInt32 = (-12) := by decide
theorem ab_k_bipush_m11 : (Int8.ofInt (-11)).toInt32 = (-11) := by decide
theorem ab_k_bipush_m4 : (Int8.ofInt (-4)).toInt32 = (-4) := by decide
theorem ab_k_bipush_m3 : (Int8.ofInt (-3)).toInt32 = (-3) := by decide
theorem ab_k_bipush_6 : (Int8.ofInt 6).toInt32 = 6 := by decide
theorem ab_k_bipush_7 : (Int8.ofInt 7).toInt32 = 7 := by decide
theorem ab_k_bipush_8 : (Int8.ofInt 8).toInt32 = 8 := by decide
theorem ab_k_bipush_9 : (Int8.ofInt 9).toInt32 = 9 := by decide
theorem ab_k_bipush_10 : (Int8.ofInt 10).toInt32 = 10 := by decide
theorem ab_k_bipush_12 : (Int8.ofInt 12).toInt32 = 12 := by decide
theorem ab_k_bipush_13 : (Int8.ofInt 13).toInt32 = 13 := by decide
theorem ab_k_bipush_16 : (Int8.ofInt 16).toInt32 = 16 := by decide
theorem ab_k_bipush_30 : (Int8.ofInt 30).toInt32 = 30 := by decide
theorem ab_k_bipush_32 : (Int8.ofInt 32).toInt32 = 32 := by decide
theorem ab_k_bipush_43 : (Int8.ofInt 43).toInt32 = 43 := by decide
theorem ab_k_bipush_45 : (Int8.ofInt 45).toInt32 = 45 := by decide
theorem ab_k_bipush_47 : (Int8.ofInt 47).toInt32 = 47 := by decide
theorem ab_k_bipush_48 : (Int8.ofInt 48).toInt32 = 48 := by decide
theorem ab_k_bipush_57 : (Int8.ofInt 57).toInt32 = 57 := by decide
theorem ab_k_bipush_59 : (Int8.ofInt 59).toInt32 = 59 := by decide
theorem ab_k_bipush_63 : (Int8.ofInt 63).toInt32 = 63 := by decide
theorem ab_k_bipush_97 : (Int8.ofInt 97).toInt32 = 97 := by decide
theorem ab_k_bipush_99 : (Int8.ofInt 99).toInt32 = 99 := by decide
theorem ab_k_bipush_100 : (Int8.ofInt 100).toInt32 = 100 := by decide
theorem ab_k_bipush_106 : (Int8.ofInt 106).toInt32 = 106 := by decide
theorem ab_k_bipush_108 : (Int8.ofInt 108).toInt32 = 108 := by decide
theorem ab_k_bipush_109 : (Int8.ofInt 109).toInt32 = 109 := by decide
theorem ab_k_bipush_110 : (Int8.ofInt 110).toInt32 = 110 := by decide
theorem ab_k_bipush_120 : (Int8.ofInt 120).toInt32 = 120 := by decide
theorem ab_k_iconst_m1 : Int32.ofInt (-1) = (-1) := by decide
theorem ab_k_iconst_0 : Int32.ofInt 0 = 0 := by decide
theorem ab_k_iconst_1 : Int32.ofInt 1 = 1 := by decide
theorem ab_k_iconst_2 : Int32.ofInt 2 = 2 := by decide
theorem ab_k_iconst_3 : Int32.ofInt 3 = 3 := by decide
theorem ab_k_iconst_4 : Int32.ofInt 4 = 4 := by decide
theorem ab_k_iconst_5 : Int32.ofInt 5 = 5 := by decide
theorem ab_k_sipush_m32768 : (Int16.ofInt (-32768)).toInt32 = (-32768) := by decide
theorem ab_k_sipush_m2000 : (Int16.ofInt (-2000)).toInt32 = (-2000) := by decide
theorem ab_k_sipush_m1000 : (Int16.ofInt (-1000)).toInt32 = (-1000) := by decide
theorem ab_k_sipush_m999 : (Int16.ofInt (-999)).toInt32 = (-999) := by decide
theorem ab_k_sipush_200 : (Int16.ofInt 200).toInt32 = 200 := by decide
theorem ab_k_sipush_241 : (Int16.ofInt 241).toInt32 = 241 := by decide
theorem ab_k_sipush_255 : (Int16.ofInt 255).toInt32 = 255 := by decide
theorem ab_k_sipush_800 : (Int16.ofInt 800).toInt32 = 800 := by decide
theorem ab_k_sipush_999 : (Int16.ofInt 999).toInt32 = 999 := by decide
theorem ab_k_sipush_1023 : (Int16.ofInt 1023).toInt32 = 1023 := by decide
theorem ab_k_sipush_9999 : (Int16.ofInt 9999).toInt32 = 9999 := by decide
theorem ab_k_sipush_10000 : (Int16.ofInt 10000).toInt32 = 10000 := by decide
theorem ab_k_sipush_12345 : (Int16.ofInt 12345).toInt32 = 12345 := by decide
theorem tw_0 : (.constant RJ6 265 (1431655765) : Cond) ∈ ab_TS := ab_TS_in (tk_4 _ (List.mem_of_getElem? (i := 9) (by decide +kernel))) (by decide +kernel)
theorem tw_1 : (.constant RJ6 266 (858993459) : Cond) ∈ ab_TS := ab_TS_in (tk_4 _ (List.mem_of_getElem? (i := 10) (by decide +kernel))) (by decide +kernel)
theorem tw_2 : (.constant RJ6 267 (252645135) : Cond) ∈ ab_TS := ab_TS_in (tk_4 _ (List.mem_of_getElem? (i := 11) (by decide +kernel))) (by decide +kernel)
theorem tw_3 : (.methodLink RX9 3 ⟨"java/lang/Object", "<init>", "()V"⟩ : Cond) ∈ ab_TS := ab_TS_in (tk_1 _ (List.mem_of_getElem? (i := 35) (by decide +kernel))) (by decide +kernel)
theorem tw_4 : (.instanceMethod ⟨"java/lang/Object", "<init>", "()V"⟩ : Cond) ∈ ab_TS := ab_TS_in (tk_1 _ (List.mem_of_getElem? (i := 28) (by decide +kernel))) (by decide +kernel)
theorem tw_5 : (.classLink RX9 9 RX1 : Cond) ∈ ab_TS := ab_TS_in (tk_1 _ (List.mem_of_getElem? (i := 36) (by decide +kernel))) (by decide +kernel)
theorem tw_6 : (.methodLink RX10 3 ⟨"java/lang/Object", "<init>", "()V"⟩ : Cond) ∈ ab_TS := ab_TS_in (tk_1 _ (List.mem_of_getElem? (i := 78) (by decide +kernel))) (by decide +kernel)
theorem tw_7 : (.classLink RX10 9 RX1 : Cond) ∈ ab_TS := ab_TS_in (tk_1 _ (List.mem_of_getElem? (i := 79) (by decide +kernel))) (by decide +kernel)
theorem tw_8 : (.arrayClass .int : Cond) ∈ ab_TS := ab_TS_in (tk_1 _ (List.mem_of_getElem? (i := 130) (by decide +kernel))) (by decide +kernel)
theorem tw_9 : (.methodLink RX6 5 ⟨"java/lang/Object", "<init>", "()V"⟩ : Cond) ∈ ab_TS := ab_TS_in (tk_1 _ (List.mem_of_getElem? (i := 137) (by decide +kernel))) (by decide +kernel)
theorem tw_10 : (.methodLink RX11 1 ⟨"java/lang/Object", "<init>", "()V"⟩ : Cond) ∈ ab_TS := ab_TS_in (tk_1 _ (List.mem_of_getElem? (i := 27) (by decide +kernel))) (by decide +kernel)
theorem tw_11 : (.instanceMethod yX9_init : Cond) ∈ ab_TS := ab_TS_in (tk_1 _ (List.mem_of_getElem? (i := 33) (by decide +kernel))) (by decide +kernel)
theorem tw_12 : (.instanceMethod yX10_init : Cond) ∈ ab_TS := ab_TS_in (tk_1 _ (List.mem_of_getElem? (i := 76) (by decide +kernel))) (by decide +kernel)
theorem tw_13 : (.classLink RX11 29 RX6 : Cond) ∈ ab_TS := ab_TS_in (tk_1 _ (List.mem_of_getElem? (i := 131) (by decide +kernel))) (by decide +kernel)
theorem tw_14 : (.instanceMethod yX6_init : Cond) ∈ ab_TS := ab_TS_in (tk_1 _ (List.mem_of_getElem? (i := 135) (by decide +kernel))) (by decide +kernel)
theorem tw_15 : (.methodLink RX12 1 ⟨"java/lang/Object", "<init>", "()V"⟩ : Cond) ∈ ab_TS := ab_TS_in (tk_5 _ (List.mem_of_getElem? (i := 115) (by decide +kernel))) (by decide +kernel)
theorem tw_16 : (.instanceMethod yX6_isEmpty : Cond) ∈ ab_TS := ab_TS_in (tk_1 _ (List.mem_of_getElem? (i := 200) (by decide +kernel))) (by decide +kernel)
theorem tw_17 : (.methodLink RX6 26 yX6_isEmpty : Cond) ∈ ab_TS := ab_TS_in (tk_1 _ (List.mem_of_getElem? (i := 199) (by decide +kernel))) (by decide +kernel)
theorem tw_18 : (.instanceMethod yX9_deedAt : Cond) ∈ ab_TS := ab_TS_in (tk_1 _ (List.mem_of_getElem? (i := 208) (by decide +kernel))) (by decide +kernel)
theorem tw_19 : (.methodLink RX9 24 yX9_deedAt : Cond) ∈ ab_TS := ab_TS_in (tk_1 _ (List.mem_of_getElem? (i := 207) (by decide +kernel))) (by decide +kernel)
theorem tw_20 : (.instanceMethod yX6_hasPlace : Cond) ∈ ab_TS := ab_TS_in (tk_1 _ (List.mem_of_getElem? (i := 223) (by decide +kernel))) (by decide +kernel)
theorem tw_21 : (.methodLink RX6 30 yX6_hasPlace : Cond) ∈ ab_TS := ab_TS_in (tk_1 _ (List.mem_of_getElem? (i := 222) (by decide +kernel))) (by decide +kernel)
theorem tw_22 : (.constant RX6 38 (-2147483648) : Cond) ∈ ab_TS := ab_TS_in (tk_1 _ (List.mem_of_getElem? (i := 229) (by decide +kernel))) (by decide +kernel)
theorem tw_23 : (.static yX11_at : Cond) ∈ ab_TS := ab_TS_in (tk_1 _ (List.mem_of_getElem? (i := 227) (by decide +kernel))) (by decide +kernel)
theorem tw_24 : (.instanceMethod yX6_read : Cond) ∈ ab_TS := ab_TS_in (tk_1 _ (List.mem_of_getElem? (i := 219) (by decide +kernel))) (by decide +kernel)
theorem tw_25 : (.methodLink RX9 60 yX6_read : Cond) ∈ ab_TS := ab_TS_in (tk_1 _ (List.mem_of_getElem? (i := 218) (by decide +kernel))) (by decide +kernel)
theorem tw_26 : (.methodLink RX9 88 yX9_isDigit : Cond) ∈ ab_TS := ab_TS_in (tk_1 _ (List.mem_of_getElem? (i := 236) (by decide +kernel))) (by decide +kernel)
theorem tw_27 : (.static yX9_isDigit : Cond) ∈ ab_TS := ab_TS_in (tk_1 _ (List.mem_of_getElem? (i := 237) (by decide +kernel))) (by decide +kernel)
theorem tw_28 : (.methodLink RX9 79 yX9_wrongAt : Cond) ∈ ab_TS := ab_TS_in (tk_1 _ (List.mem_of_getElem? (i := 239) (by decide +kernel))) (by decide +kernel)
theorem tw_29 : (.static yX9_wrongAt : Cond) ∈ ab_TS := ab_TS_in (tk_2 _ (List.mem_of_getElem? (i := 0) (by decide +kernel))) (by decide +kernel)
theorem tw_30 : (.methodLink RX9 92 yX9_isLetter : Cond) ∈ ab_TS := ab_TS_in (tk_2 _ (List.mem_of_getElem? (i := 5) (by decide +kernel))) (by decide +kernel)
theorem tw_31 : (.static yX9_isLetter : Cond) ∈ ab_TS := ab_TS_in (tk_2 _ (List.mem_of_getElem? (i := 6) (by decide +kernel))) (by decide +kernel)
theorem tw_32 : (.methodLink RX9 76 yX9_behindDigit : Cond) ∈ ab_TS := ab_TS_in (tk_1 _ (List.mem_of_getElem? (i := 233) (by decide +kernel))) (by decide +kernel)
theorem tw_33 : (.static yX9_behindDigit : Cond) ∈ ab_TS := ab_TS_in (tk_1 _ (List.mem_of_getElem? (i := 234) (by decide +kernel))) (by decide +kernel)
theorem tw_34 : (.methodLink RX9 85 yX9_behindNeeds : Cond) ∈ ab_TS := ab_TS_in (tk_2 _ (List.mem_of_getElem? (i := 2) (by decide +kernel))) (by decide +kernel)
theorem tw_35 : (.static yX9_behindNeeds : Cond) ∈ ab_TS := ab_TS_in (tk_2 _ (List.mem_of_getElem? (i := 3) (by decide +kernel))) (by decide +kernel)
theorem tw_36 : (.methodLink RX9 82 yX9_behindSign : Cond) ∈ ab_TS := ab_TS_in (tk_2 _ (List.mem_of_getElem? (i := 8) (by decide +kernel))) (by decide +kernel)
theorem tw_37 : (.static yX9_behindSign : Cond) ∈ ab_TS := ab_TS_in (tk_2 _ (List.mem_of_getElem? (i := 9) (by decide +kernel))) (by decide +kernel)
theorem tw_38 : (.methodLink RX9 66 yX9_behindLetter : Cond) ∈ ab_TS := ab_TS_in (tk_2 _ (List.mem_of_getElem? (i := 11) (by decide +kernel))) (by decide +kernel)
theorem tw_39 : (.static yX9_behindLetter : Cond) ∈ ab_TS := ab_TS_in (tk_2 _ (List.mem_of_getElem? (i := 12) (by decide +kernel))) (by decide +kernel)
theorem tw_40 : (.methodLink RX9 69 yX9_behindNumber : Cond) ∈ ab_TS := ab_TS_in (tk_2 _ (List.mem_of_getElem? (i := 14) (by decide +kernel))) (by decide +kernel)
theorem tw_41 : (.static yX9_behindNumber : Cond) ∈ ab_TS := ab_TS_in (tk_2 _ (List.mem_of_getElem? (i := 15) (by decide +kernel))) (by decide +kernel)
theorem tw_42 : (.methodLink RX9 63 yX9_behindDeed : Cond) ∈ ab_TS := ab_TS_in (tk_1 _ (List.mem_of_getElem? (i := 230) (by decide +kernel))) (by decide +kernel)
theorem tw_43 : (.static yX9_behindDeed : Cond) ∈ ab_TS := ab_TS_in (tk_1 _ (List.mem_of_getElem? (i := 231) (by decide +kernel))) (by decide +kernel)
theorem tw_44 : (.methodLink RX9 73 yX9_behindNail : Cond) ∈ ab_TS := ab_TS_in (tk_2 _ (List.mem_of_getElem? (i := 17) (by decide +kernel))) (by decide +kernel)
theorem tw_45 : (.static yX9_behindNail : Cond) ∈ ab_TS := ab_TS_in (tk_2 _ (List.mem_of_getElem? (i := 18) (by decide +kernel))) (by decide +kernel)
theorem tw_46 : (.methodLink RX1 3 ⟨"java/lang/Object", "<init>", "()V"⟩ : Cond) ∈ ab_TS := ab_TS_in (tk_2 _ (List.mem_of_getElem? (i := 38) (by decide +kernel))) (by decide +kernel)
theorem tw_47 : (.instanceMethod yX1_init : Cond) ∈ ab_TS := ab_TS_in (tk_2 _ (List.mem_of_getElem? (i := 36) (by decide +kernel))) (by decide +kernel)
theorem tw_48 : (.methodLink RX4 3 yX1_init : Cond) ∈ ab_TS := ab_TS_in (tk_2 _ (List.mem_of_getElem? (i := 164) (by decide +kernel))) (by decide +kernel)
theorem tw_49 : (.methodLink RX7 3 yX1_init : Cond) ∈ ab_TS := ab_TS_in (tk_2 _ (List.mem_of_getElem? (i := 185) (by decide +kernel))) (by decide +kernel)
theorem tw_50 : (.instanceMethod yX7_init : Cond) ∈ ab_TS := ab_TS_in (tk_2 _ (List.mem_of_getElem? (i := 183) (by decide +kernel))) (by decide +kernel)
theorem tw_51 : (.methodLink RX2 3 yX7_init : Cond) ∈ ab_TS := ab_TS_in (tk_2 _ (List.mem_of_getElem? (i := 206) (by decide +kernel))) (by decide +kernel)
theorem tw_52 : (.methodLink RX5 3 yX1_init : Cond) ∈ ab_TS := ab_TS_in (tk_2 _ (List.mem_of_getElem? (i := 227) (by decide +kernel))) (by decide +kernel)
theorem tw_53 : (.instanceMethod yX4_init : Cond) ∈ ab_TS := ab_TS_in (tk_2 _ (List.mem_of_getElem? (i := 162) (by decide +kernel))) (by decide +kernel)
theorem tw_54 : (.methodLink RX0 3 yX4_init : Cond) ∈ ab_TS := ab_TS_in (tk_3 _ (List.mem_of_getElem? (i := 8) (by decide +kernel))) (by decide +kernel)
theorem tw_55 : (.methodLink RX3 3 yX1_init : Cond) ∈ ab_TS := ab_TS_in (tk_3 _ (List.mem_of_getElem? (i := 29) (by decide +kernel))) (by decide +kernel)
theorem tw_56 : (.instanceMethod yX5_init : Cond) ∈ ab_TS := ab_TS_in (tk_2 _ (List.mem_of_getElem? (i := 225) (by decide +kernel))) (by decide +kernel)
theorem tw_57 : (.methodLink RX8 3 yX5_init : Cond) ∈ ab_TS := ab_TS_in (tk_3 _ (List.mem_of_getElem? (i := 50) (by decide +kernel))) (by decide +kernel)
theorem tw_58 : (.methodLink RX9 106 yX9_number : Cond) ∈ ab_TS := ab_TS_in (tk_2 _ (List.mem_of_getElem? (i := 31) (by decide +kernel))) (by decide +kernel)
theorem tw_59 : (.static yX9_number : Cond) ∈ ab_TS := ab_TS_in (tk_2 _ (List.mem_of_getElem? (i := 32) (by decide +kernel))) (by decide +kernel)
theorem tw_60 : (.methodLink RX9 121 yX1_init : Cond) ∈ ab_TS := ab_TS_in (tk_2 _ (List.mem_of_getElem? (i := 35) (by decide +kernel))) (by decide +kernel)
theorem tw_61 : (.methodLink RX9 126 yX4_init : Cond) ∈ ab_TS := ab_TS_in (tk_2 _ (List.mem_of_getElem? (i := 161) (by decide +kernel))) (by decide +kernel)
theorem tw_62 : (.methodLink RX9 129 yX7_init : Cond) ∈ ab_TS := ab_TS_in (tk_2 _ (List.mem_of_getElem? (i := 182) (by decide +kernel))) (by decide +kernel)
theorem tw_63 : (.instanceMethod yX2_init : Cond) ∈ ab_TS := ab_TS_in (tk_2 _ (List.mem_of_getElem? (i := 204) (by decide +kernel))) (by decide +kernel)
theorem tw_64 : (.methodLink RX9 132 yX2_init : Cond) ∈ ab_TS := ab_TS_in (tk_2 _ (List.mem_of_getElem? (i := 203) (by decide +kernel))) (by decide +kernel)
theorem tw_65 : (.methodLink RX9 135 yX5_init : Cond) ∈ ab_TS := ab_TS_in (tk_2 _ (List.mem_of_getElem? (i := 224) (by decide +kernel))) (by decide +kernel)
theorem tw_66 : (.instanceMethod yX0_init : Cond) ∈ ab_TS := ab_TS_in (tk_3 _ (List.mem_of_getElem? (i := 6) (by decide +kernel))) (by decide +kernel)
theorem tw_67 : (.methodLink RX9 138 yX0_init : Cond) ∈ ab_TS := ab_TS_in (tk_3 _ (List.mem_of_getElem? (i := 5) (by decide +kernel))) (by decide +kernel)
theorem tw_68 : (.instanceMethod yX3_init : Cond) ∈ ab_TS := ab_TS_in (tk_3 _ (List.mem_of_getElem? (i := 27) (by decide +kernel))) (by decide +kernel)
theorem tw_69 : (.methodLink RX9 141 yX3_init : Cond) ∈ ab_TS := ab_TS_in (tk_3 _ (List.mem_of_getElem? (i := 26) (by decide +kernel))) (by decide +kernel)
theorem tw_70 : (.instanceMethod yX8_init : Cond) ∈ ab_TS := ab_TS_in (tk_3 _ (List.mem_of_getElem? (i := 48) (by decide +kernel))) (by decide +kernel)
theorem tw_71 : (.methodLink RX9 144 yX8_init : Cond) ∈ ab_TS := ab_TS_in (tk_3 _ (List.mem_of_getElem? (i := 47) (by decide +kernel))) (by decide +kernel)
theorem tw_72 : (.instanceMethod yX9_changeNail : Cond) ∈ ab_TS := ab_TS_in (tk_3 _ (List.mem_of_getElem? (i := 83) (by decide +kernel))) (by decide +kernel)
theorem tw_73 : (.methodLink RX9 118 yX9_changeNail : Cond) ∈ ab_TS := ab_TS_in (tk_3 _ (List.mem_of_getElem? (i := 82) (by decide +kernel))) (by decide +kernel)
theorem tw_74 : (.instanceMethod yX9_changeCoins : Cond) ∈ ab_TS := ab_TS_in (tk_3 _ (List.mem_of_getElem? (i := 75) (by decide +kernel))) (by decide +kernel)
theorem tw_75 : (.methodLink RX9 109 yX9_changeCoins : Cond) ∈ ab_TS := ab_TS_in (tk_3 _ (List.mem_of_getElem? (i := 74) (by decide +kernel))) (by decide +kernel)
theorem tw_76 : (.instanceMethod yX9_newDeed : Cond) ∈ ab_TS := ab_TS_in (tk_2 _ (List.mem_of_getElem? (i := 29) (by decide +kernel))) (by decide +kernel)
theorem tw_77 : (.methodLink RX9 95 yX9_newDeed : Cond) ∈ ab_TS := ab_TS_in (tk_2 _ (List.mem_of_getElem? (i := 27) (by decide +kernel))) (by decide +kernel)
theorem tw_78 : (.instanceMethod yX9_takeDeed : Cond) ∈ ab_TS := ab_TS_in (tk_3 _ (List.mem_of_getElem? (i := 68) (by decide +kernel))) (by decide +kernel)
theorem tw_79 : (.methodLink RX9 99 yX9_takeDeed : Cond) ∈ ab_TS := ab_TS_in (tk_3 _ (List.mem_of_getElem? (i := 66) (by decide +kernel))) (by decide +kernel)
theorem tw_80 : (.instanceMethod yX9_takeMark : Cond) ∈ ab_TS := ab_TS_in (tk_3 _ (List.mem_of_getElem? (i := 72) (by decide +kernel))) (by decide +kernel)
theorem tw_81 : (.methodLink RX9 103 yX9_takeMark : Cond) ∈ ab_TS := ab_TS_in (tk_3 _ (List.mem_of_getElem? (i := 70) (by decide +kernel))) (by decide +kernel)
theorem tw_82 : (.instanceMethod yX9_takeNail : Cond) ∈ ab_TS := ab_TS_in (tk_3 _ (List.mem_of_getElem? (i := 80) (by decide +kernel))) (by decide +kernel)
theorem tw_83 : (.methodLink RX9 112 yX9_takeNail : Cond) ∈ ab_TS := ab_TS_in (tk_3 _ (List.mem_of_getElem? (i := 78) (by decide +kernel))) (by decide +kernel)
theorem tw_84 : (.instanceMethod yX9_changeLaw : Cond) ∈ ab_TS := ab_TS_in (tk_3 _ (List.mem_of_getElem? (i := 87) (by decide +kernel))) (by decide +kernel)
theorem tw_85 : (.methodLink RX9 115 yX9_changeLaw : Cond) ∈ ab_TS := ab_TS_in (tk_3 _ (List.mem_of_getElem? (i := 86) (by decide +kernel))) (by decide +kernel)
theorem tw_86 : (.methodLink RX9 48 yX9_behindStatement : Cond) ∈ ab_TS := ab_TS_in (tk_1 _ (List.mem_of_getElem? (i := 215) (by decide +kernel))) (by decide +kernel)
theorem tw_87 : (.static yX9_behindStatement : Cond) ∈ ab_TS := ab_TS_in (tk_1 _ (List.mem_of_getElem? (i := 216) (by decide +kernel))) (by decide +kernel)
theorem tw_88 : (.methodLink RX9 52 yX9_faultAt : Cond) ∈ ab_TS := ab_TS_in (tk_2 _ (List.mem_of_getElem? (i := 20) (by decide +kernel))) (by decide +kernel)
theorem tw_89 : (.static yX9_faultAt : Cond) ∈ ab_TS := ab_TS_in (tk_2 _ (List.mem_of_getElem? (i := 21) (by decide +kernel))) (by decide +kernel)
theorem tw_90 : (.instanceMethod yX9_take : Cond) ∈ ab_TS := ab_TS_in (tk_2 _ (List.mem_of_getElem? (i := 25) (by decide +kernel))) (by decide +kernel)
theorem tw_91 : (.methodLink RX9 56 yX9_take : Cond) ∈ ab_TS := ab_TS_in (tk_2 _ (List.mem_of_getElem? (i := 23) (by decide +kernel))) (by decide +kernel)
theorem tw_92 : (.instanceMethod yX11_shelfAt : Cond) ∈ ab_TS := ab_TS_in (tk_1 _ (List.mem_of_getElem? (i := 193) (by decide +kernel))) (by decide +kernel)
theorem tw_93 : (.methodLink RX11 46 yX11_shelfAt : Cond) ∈ ab_TS := ab_TS_in (tk_1 _ (List.mem_of_getElem? (i := 191) (by decide +kernel))) (by decide +kernel)
theorem tw_94 : (.instanceMethod yX6_bytesRefusal : Cond) ∈ ab_TS := ab_TS_in (tk_1 _ (List.mem_of_getElem? (i := 196) (by decide +kernel))) (by decide +kernel)
theorem tw_95 : (.methodLink RX11 50 yX6_bytesRefusal : Cond) ∈ ab_TS := ab_TS_in (tk_1 _ (List.mem_of_getElem? (i := 195) (by decide +kernel))) (by decide +kernel)
theorem tw_96 : (.instanceMethod yX9_become : Cond) ∈ ab_TS := ab_TS_in (tk_1 _ (List.mem_of_getElem? (i := 204) (by decide +kernel))) (by decide +kernel)
theorem tw_97 : (.methodLink RX11 54 yX9_become : Cond) ∈ ab_TS := ab_TS_in (tk_1 _ (List.mem_of_getElem? (i := 203) (by decide +kernel))) (by decide +kernel)
theorem tw_98 : (.instanceMethod yX9_read : Cond) ∈ ab_TS := ab_TS_in (tk_1 _ (List.mem_of_getElem? (i := 212) (by decide +kernel))) (by decide +kernel)
theorem tw_99 : (.methodLink RX11 58 yX9_read : Cond) ∈ ab_TS := ab_TS_in (tk_1 _ (List.mem_of_getElem? (i := 211) (by decide +kernel))) (by decide +kernel)
theorem tw_100 : (.constantLong RX12 69 (7) : Cond) ∈ ab_TS := ab_TS_in (tk_6 _ (List.mem_of_getElem? (i := 15) (by decide +kernel))) (by decide +kernel)
theorem tw_101 : (.methodLink RX12 65 yX12_isIn : Cond) ∈ ab_TS := ab_TS_in (tk_6 _ (List.mem_of_getElem? (i := 16) (by decide +kernel))) (by decide +kernel)
theorem tw_102 : (.static yX12_isIn : Cond) ∈ ab_TS := ab_TS_in (tk_6 _ (List.mem_of_getElem? (i := 17) (by decide +kernel))) (by decide +kernel)
theorem tw_103 : (.methodLink RX12 123 yX12_isShelf : Cond) ∈ ab_TS := ab_TS_in (tk_6 _ (List.mem_of_getElem? (i := 12) (by decide +kernel))) (by decide +kernel)
theorem tw_104 : (.static yX12_isShelf : Cond) ∈ ab_TS := ab_TS_in (tk_6 _ (List.mem_of_getElem? (i := 13) (by decide +kernel))) (by decide +kernel)
theorem tw_105 : (.instanceMethod yX12_here : Cond) ∈ ab_TS := ab_TS_in (tk_6 _ (List.mem_of_getElem? (i := 25) (by decide +kernel))) (by decide +kernel)
theorem tw_106 : (.methodLink RX12 82 yX12_here : Cond) ∈ ab_TS := ab_TS_in (tk_6 _ (List.mem_of_getElem? (i := 23) (by decide +kernel))) (by decide +kernel)
theorem tw_107 : (.constantLong RX12 86 (48) : Cond) ∈ ab_TS := ab_TS_in (tk_6 _ (List.mem_of_getElem? (i := 39) (by decide +kernel))) (by decide +kernel)
theorem tw_108 : (.constantLong RX12 88 (57) : Cond) ∈ ab_TS := ab_TS_in (tk_6 _ (List.mem_of_getElem? (i := 40) (by decide +kernel))) (by decide +kernel)
theorem tw_109 : (.instanceMethod yX12_isDigit : Cond) ∈ ab_TS := ab_TS_in (tk_6 _ (List.mem_of_getElem? (i := 37) (by decide +kernel))) (by decide +kernel)
theorem tw_110 : (.methodLink RX12 90 yX12_isDigit : Cond) ∈ ab_TS := ab_TS_in (tk_6 _ (List.mem_of_getElem? (i := 35) (by decide +kernel))) (by decide +kernel)
theorem tw_111 : (.constantLong RX12 97 (97) : Cond) ∈ ab_TS := ab_TS_in (tk_6 _ (List.mem_of_getElem? (i := 50) (by decide +kernel))) (by decide +kernel)
theorem tw_112 : (.constantLong RX12 99 (106) : Cond) ∈ ab_TS := ab_TS_in (tk_6 _ (List.mem_of_getElem? (i := 41) (by decide +kernel))) (by decide +kernel)
theorem tw_113 : (.instanceMethod yX12_readsNumber : Cond) ∈ ab_TS := ab_TS_in (tk_6 _ (List.mem_of_getElem? (i := 33) (by decide +kernel))) (by decide +kernel)
theorem tw_114 : (.methodLink RX12 101 yX12_readsNumber : Cond) ∈ ab_TS := ab_TS_in (tk_6 _ (List.mem_of_getElem? (i := 31) (by decide +kernel))) (by decide +kernel)
theorem tw_115 : (.instanceMethod yX12_takes : Cond) ∈ ab_TS := ab_TS_in (tk_6 _ (List.mem_of_getElem? (i := 44) (by decide +kernel))) (by decide +kernel)
theorem tw_116 : (.methodLink RX12 111 yX12_takes : Cond) ∈ ab_TS := ab_TS_in (tk_6 _ (List.mem_of_getElem? (i := 42) (by decide +kernel))) (by decide +kernel)
theorem tw_117 : (.instanceMethod yX12_readsMark : Cond) ∈ ab_TS := ab_TS_in (tk_6 _ (List.mem_of_getElem? (i := 48) (by decide +kernel))) (by decide +kernel)
theorem tw_118 : (.methodLink RX12 114 yX12_readsMark : Cond) ∈ ab_TS := ab_TS_in (tk_6 _ (List.mem_of_getElem? (i := 46) (by decide +kernel))) (by decide +kernel)
theorem tw_119 : (.instanceMethod yX12_readsDeed : Cond) ∈ ab_TS := ab_TS_in (tk_6 _ (List.mem_of_getElem? (i := 29) (by decide +kernel))) (by decide +kernel)
theorem tw_120 : (.methodLink RX12 120 yX12_readsDeed : Cond) ∈ ab_TS := ab_TS_in (tk_6 _ (List.mem_of_getElem? (i := 27) (by decide +kernel))) (by decide +kernel)
theorem tw_121 : (.instanceMethod yX12_wrongRow : Cond) ∈ ab_TS := ab_TS_in (tk_6 _ (List.mem_of_getElem? (i := 10) (by decide +kernel))) (by decide +kernel)
theorem tw_122 : (.methodLink RX12 126 yX12_wrongRow : Cond) ∈ ab_TS := ab_TS_in (tk_6 _ (List.mem_of_getElem? (i := 8) (by decide +kernel))) (by decide +kernel)
theorem tw_123 : (.instanceMethod yX12_readsStatement : Cond) ∈ ab_TS := ab_TS_in (tk_6 _ (List.mem_of_getElem? (i := 21) (by decide +kernel))) (by decide +kernel)
theorem tw_124 : (.methodLink RX12 130 yX12_readsStatement : Cond) ∈ ab_TS := ab_TS_in (tk_6 _ (List.mem_of_getElem? (i := 19) (by decide +kernel))) (by decide +kernel)
theorem tw_125 : (.instanceMethod yX12_comes : Cond) ∈ ab_TS := ab_TS_in (tk_6 _ (List.mem_of_getElem? (i := 53) (by decide +kernel))) (by decide +kernel)
theorem tw_126 : (.methodLink RX12 133 yX12_comes : Cond) ∈ ab_TS := ab_TS_in (tk_6 _ (List.mem_of_getElem? (i := 51) (by decide +kernel))) (by decide +kernel)
theorem tw_127 : (.methodLink RX11 62 yX9_deedAt : Cond) ∈ ab_TS := ab_TS_in (tk_3 _ (List.mem_of_getElem? (i := 94) (by decide +kernel))) (by decide +kernel)
theorem tw_128 : (.instanceMethod yX12_get : Cond) ∈ ab_TS := ab_TS_in (tk_6 _ (List.mem_of_getElem? (i := 66) (by decide +kernel))) (by decide +kernel)
theorem tw_129 : (.methodLink RX12 136 yX12_get : Cond) ∈ ab_TS := ab_TS_in (tk_6 _ (List.mem_of_getElem? (i := 64) (by decide +kernel))) (by decide +kernel)
theorem tw_130 : (.instanceMethod yX12_costOf : Cond) ∈ ab_TS := ab_TS_in (tk_6 _ (List.mem_of_getElem? (i := 70) (by decide +kernel))) (by decide +kernel)
theorem tw_131 : (.methodLink RX12 139 yX12_costOf : Cond) ∈ ab_TS := ab_TS_in (tk_6 _ (List.mem_of_getElem? (i := 68) (by decide +kernel))) (by decide +kernel)
theorem tw_132 : (.instanceMethod yX12_isDeed : Cond) ∈ ab_TS := ab_TS_in (tk_6 _ (List.mem_of_getElem? (i := 61) (by decide +kernel))) (by decide +kernel)
theorem tw_133 : (.methodLink RX12 143 yX12_isDeed : Cond) ∈ ab_TS := ab_TS_in (tk_6 _ (List.mem_of_getElem? (i := 59) (by decide +kernel))) (by decide +kernel)
theorem tw_134 : (.constantLong RX12 146 (4) : Cond) ∈ ab_TS := ab_TS_in (tk_6 _ (List.mem_of_getElem? (i := 63) (by decide +kernel))) (by decide +kernel)
theorem tw_135 : (.instanceMethod yX12_isKept : Cond) ∈ ab_TS := ab_TS_in (tk_6 _ (List.mem_of_getElem? (i := 78) (by decide +kernel))) (by decide +kernel)
theorem tw_136 : (.methodLink RX12 151 yX12_isKept : Cond) ∈ ab_TS := ab_TS_in (tk_6 _ (List.mem_of_getElem? (i := 76) (by decide +kernel))) (by decide +kernel)
theorem tw_137 : (.instanceMethod yX12_backOf : Cond) ∈ ab_TS := ab_TS_in (tk_6 _ (List.mem_of_getElem? (i := 74) (by decide +kernel))) (by decide +kernel)
theorem tw_138 : (.methodLink RX12 148 yX12_backOf : Cond) ∈ ab_TS := ab_TS_in (tk_6 _ (List.mem_of_getElem? (i := 72) (by decide +kernel))) (by decide +kernel)
theorem tw_139 : (.constantLong RX12 154 (3) : Cond) ∈ ab_TS := ab_TS_in (tk_6 _ (List.mem_of_getElem? (i := 88) (by decide +kernel))) (by decide +kernel)
theorem tw_140 : (.methodLink RX11 112 yX9_changeLaw : Cond) ∈ ab_TS := ab_TS_in (tk_3 _ (List.mem_of_getElem? (i := 111) (by decide +kernel))) (by decide +kernel)
theorem tw_141 : (.methodLink RX11 116 yX9_changeNail : Cond) ∈ ab_TS := ab_TS_in (tk_3 _ (List.mem_of_getElem? (i := 112) (by decide +kernel))) (by decide +kernel)
theorem tw_142 : (.methodLink RX11 119 yX9_changeCoins : Cond) ∈ ab_TS := ab_TS_in (tk_3 _ (List.mem_of_getElem? (i := 113) (by decide +kernel))) (by decide +kernel)
theorem tw_143 : (.constantLong RX12 156 (2) : Cond) ∈ ab_TS := ab_TS_in (tk_6 _ (List.mem_of_getElem? (i := 97) (by decide +kernel))) (by decide +kernel)
theorem tw_144 : (.constantLong RX12 160 (9999) : Cond) ∈ ab_TS := ab_TS_in (tk_6 _ (List.mem_of_getElem? (i := 99) (by decide +kernel))) (by decide +kernel)
theorem tw_145 : (.constantLong RX12 158 (99) : Cond) ∈ ab_TS := ab_TS_in (tk_6 _ (List.mem_of_getElem? (i := 98) (by decide +kernel))) (by decide +kernel)
theorem tw_146 : (.instanceMethod yX1_hasGround : Cond) ∈ ab_TS := ab_TS_in (tk_3 _ (List.mem_of_getElem? (i := 131) (by decide +kernel))) (by decide +kernel)
theorem tw_147 : (.sameMethod RX1 RX1 "hasGround" "(I)Z" : Cond) ∈ ab_TS := ab_TS_in (tk_3 _ (List.mem_of_getElem? (i := 133) (by decide +kernel))) (by decide +kernel)
theorem tw_148 : (.methodLink RX1 49 yX1_hasGround : Cond) ∈ ab_TS := ab_TS_in (tk_3 _ (List.mem_of_getElem? (i := 130) (by decide +kernel))) (by decide +kernel)
theorem tw_149 : (.instanceMethod yX1_mayBeDone : Cond) ∈ ab_TS := ab_TS_in (tk_3 _ (List.mem_of_getElem? (i := 119) (by decide +kernel))) (by decide +kernel)
theorem tw_150 : (.sameMethod RX1 RX1 "mayBeDone" "(II)Z" : Cond) ∈ ab_TS := ab_TS_in (tk_3 _ (List.mem_of_getElem? (i := 121) (by decide +kernel))) (by decide +kernel)
theorem tw_151 : (.methodLink RX11 122 yX1_mayBeDone : Cond) ∈ ab_TS := ab_TS_in (tk_3 _ (List.mem_of_getElem? (i := 118) (by decide +kernel))) (by decide +kernel)
theorem tw_152 : (.instanceMethod yX12_mayBy : Cond) ∈ ab_TS := ab_TS_in (tk_6 _ (List.mem_of_getElem? (i := 106) (by decide +kernel))) (by decide +kernel)
theorem tw_153 : (.methodLink RX12 162 yX12_mayBy : Cond) ∈ ab_TS := ab_TS_in (tk_6 _ (List.mem_of_getElem? (i := 104) (by decide +kernel))) (by decide +kernel)
theorem tw_154 : (.methodLink RX11 269 yX6_read : Cond) ∈ ab_TS := ab_TS_in (tk_3 _ (List.mem_of_getElem? (i := 161) (by decide +kernel))) (by decide +kernel)
theorem tw_155 : (.instanceMethod yX11_listRefusal : Cond) ∈ ab_TS := ab_TS_in (tk_3 _ (List.mem_of_getElem? (i := 159) (by decide +kernel))) (by decide +kernel)
theorem tw_156 : (.methodLink RX11 179 yX11_listRefusal : Cond) ∈ ab_TS := ab_TS_in (tk_3 _ (List.mem_of_getElem? (i := 157) (by decide +kernel))) (by decide +kernel)
theorem tw_157 : (.instanceMethod yX10_open : Cond) ∈ ab_TS := ab_TS_in (tk_3 _ (List.mem_of_getElem? (i := 163) (by decide +kernel))) (by decide +kernel)
theorem tw_158 : (.methodLink RX11 306 yX10_open : Cond) ∈ ab_TS := ab_TS_in (tk_3 _ (List.mem_of_getElem? (i := 162) (by decide +kernel))) (by decide +kernel)
theorem tw_159 : (.instanceMethod yX10_add : Cond) ∈ ab_TS := ab_TS_in (tk_3 _ (List.mem_of_getElem? (i := 167) (by decide +kernel))) (by decide +kernel)
theorem tw_160 : (.methodLink RX11 309 yX10_add : Cond) ∈ ab_TS := ab_TS_in (tk_3 _ (List.mem_of_getElem? (i := 166) (by decide +kernel))) (by decide +kernel)
theorem tw_161 : (.instanceMethod yX9_nailCost : Cond) ∈ ab_TS := ab_TS_in (tk_3 _ (List.mem_of_getElem? (i := 214) (by decide +kernel))) (by decide +kernel)
theorem tw_162 : (.methodLink RX10 107 yX9_nailCost : Cond) ∈ ab_TS := ab_TS_in (tk_3 _ (List.mem_of_getElem? (i := 213) (by decide +kernel))) (by decide +kernel)
theorem tw_163 : (.instanceMethod yX10_deedAt : Cond) ∈ ab_TS := ab_TS_in (tk_3 _ (List.mem_of_getElem? (i := 188) (by decide +kernel))) (by decide +kernel)
theorem tw_164 : (.methodLink RX10 78 yX10_deedAt : Cond) ∈ ab_TS := ab_TS_in (tk_3 _ (List.mem_of_getElem? (i := 186) (by decide +kernel))) (by decide +kernel)
theorem tw_165 : (.methodLink RX10 82 yX1_mayBeDone : Cond) ∈ ab_TS := ab_TS_in (tk_3 _ (List.mem_of_getElem? (i := 190) (by decide +kernel))) (by decide +kernel)
theorem tw_166 : (.instanceMethod yX1_marksBehind : Cond) ∈ ab_TS := ab_TS_in (tk_3 _ (List.mem_of_getElem? (i := 192) (by decide +kernel))) (by decide +kernel)
theorem tw_167 : (.sameMethod RX1 RX1 "marksBehind" "(I)I" : Cond) ∈ ab_TS := ab_TS_in (tk_3 _ (List.mem_of_getElem? (i := 194) (by decide +kernel))) (by decide +kernel)
theorem tw_168 : (.methodLink RX10 86 yX1_marksBehind : Cond) ∈ ab_TS := ab_TS_in (tk_3 _ (List.mem_of_getElem? (i := 191) (by decide +kernel))) (by decide +kernel)
theorem tw_169 : (.static yX11_store : Cond) ∈ ab_TS := ab_TS_in (tk_3 _ (List.mem_of_getElem? (i := 204) (by decide +kernel))) (by decide +kernel)
theorem tw_170 : (.methodLink RX10 101 yX10_has : Cond) ∈ ab_TS := ab_TS_in (tk_3 _ (List.mem_of_getElem? (i := 206) (by decide +kernel))) (by decide +kernel)
theorem tw_171 : (.static yX10_has : Cond) ∈ ab_TS := ab_TS_in (tk_3 _ (List.mem_of_getElem? (i := 207) (by decide +kernel))) (by decide +kernel)
theorem tw_172 : (.instanceMethod yX10_nailAt : Cond) ∈ ab_TS := ab_TS_in (tk_3 _ (List.mem_of_getElem? (i := 211) (by decide +kernel))) (by decide +kernel)
theorem tw_173 : (.methodLink RX10 104 yX10_nailAt : Cond) ∈ ab_TS := ab_TS_in (tk_3 _ (List.mem_of_getElem? (i := 209) (by decide +kernel))) (by decide +kernel)
theorem tw_174 : (.instanceMethod yX10_evenPlace : Cond) ∈ ab_TS := ab_TS_in (tk_3 _ (List.mem_of_getElem? (i := 183) (by decide +kernel))) (by decide +kernel)
theorem tw_175 : (.methodLink RX10 75 yX10_evenPlace : Cond) ∈ ab_TS := ab_TS_in (tk_3 _ (List.mem_of_getElem? (i := 182) (by decide +kernel))) (by decide +kernel)
theorem tw_176 : (.methodLink RX10 133 yJ9_min_7cf53 : Cond) ∈ ab_TS := ab_TS_in (tk_3 _ (List.mem_of_getElem? (i := 230) (by decide +kernel))) (by decide +kernel)
theorem tw_177 : (.methodLink RX10 127 yX1_hasGround : Cond) ∈ ab_TS := ab_TS_in (tk_3 _ (List.mem_of_getElem? (i := 237) (by decide +kernel))) (by decide +kernel)
theorem tw_178 : (.instanceMethod yX10_undo : Cond) ∈ ab_TS := ab_TS_in (tk_3 _ (List.mem_of_getElem? (i := 228) (by decide +kernel))) (by decide +kernel)
theorem tw_179 : (.methodLink RX10 114 yX10_undo : Cond) ∈ ab_TS := ab_TS_in (tk_3 _ (List.mem_of_getElem? (i := 226) (by decide +kernel))) (by decide +kernel)
theorem tw_180 : (.instanceMethod yX10_stays : Cond) ∈ ab_TS := ab_TS_in (tk_3 _ (List.mem_of_getElem? (i := 223) (by decide +kernel))) (by decide +kernel)
theorem tw_181 : (.methodLink RX10 110 yX10_stays : Cond) ∈ ab_TS := ab_TS_in (tk_3 _ (List.mem_of_getElem? (i := 221) (by decide +kernel))) (by decide +kernel)
theorem tw_182 : (.instanceMethod yX10_letFall : Cond) ∈ ab_TS := ab_TS_in (tk_3 _ (List.mem_of_getElem? (i := 235) (by decide +kernel))) (by decide +kernel)
theorem tw_183 : (.methodLink RX10 117 yX10_letFall : Cond) ∈ ab_TS := ab_TS_in (tk_3 _ (List.mem_of_getElem? (i := 233) (by decide +kernel))) (by decide +kernel)
theorem tw_184 : (.instanceMethod yX10_begin : Cond) ∈ ab_TS := ab_TS_in (tk_3 _ (List.mem_of_getElem? (i := 175) (by decide +kernel))) (by decide +kernel)
theorem tw_185 : (.methodLink RX10 64 yX10_begin : Cond) ∈ ab_TS := ab_TS_in (tk_3 _ (List.mem_of_getElem? (i := 174) (by decide +kernel))) (by decide +kernel)
theorem tw_186 : (.instanceMethod yX10_evenYear : Cond) ∈ ab_TS := ab_TS_in (tk_3 _ (List.mem_of_getElem? (i := 179) (by decide +kernel))) (by decide +kernel)
theorem tw_187 : (.methodLink RX10 68 yX10_evenYear : Cond) ∈ ab_TS := ab_TS_in (tk_3 _ (List.mem_of_getElem? (i := 178) (by decide +kernel))) (by decide +kernel)
theorem tw_188 : (.instanceMethod yX10_oddYear : Cond) ∈ ab_TS := ab_TS_in (tk_3 _ (List.mem_of_getElem? (i := 218) (by decide +kernel))) (by decide +kernel)
theorem tw_189 : (.methodLink RX10 72 yX10_oddYear : Cond) ∈ ab_TS := ab_TS_in (tk_3 _ (List.mem_of_getElem? (i := 217) (by decide +kernel))) (by decide +kernel)
theorem tw_190 : (.methodLink RX11 219 yX11_areNails : Cond) ∈ ab_TS := ab_TS_in (tk_3 _ (List.mem_of_getElem? (i := 150) (by decide +kernel))) (by decide +kernel)
theorem tw_191 : (.static yX11_areNails : Cond) ∈ ab_TS := ab_TS_in (tk_3 _ (List.mem_of_getElem? (i := 151) (by decide +kernel))) (by decide +kernel)
theorem tw_192 : (.instanceMethod yX11_takeList : Cond) ∈ ab_TS := ab_TS_in (tk_3 _ (List.mem_of_getElem? (i := 155) (by decide +kernel))) (by decide +kernel)
theorem tw_193 : (.methodLink RX11 142 yX11_takeList : Cond) ∈ ab_TS := ab_TS_in (tk_3 _ (List.mem_of_getElem? (i := 153) (by decide +kernel))) (by decide +kernel)
theorem tw_194 : (.instanceMethod yX10_play : Cond) ∈ ab_TS := ab_TS_in (tk_3 _ (List.mem_of_getElem? (i := 171) (by decide +kernel))) (by decide +kernel)
theorem tw_195 : (.methodLink RX11 176 yX10_play : Cond) ∈ ab_TS := ab_TS_in (tk_3 _ (List.mem_of_getElem? (i := 170) (by decide +kernel))) (by decide +kernel)
theorem tw_196 : (.instanceMethod yX11_playList : Cond) ∈ ab_TS := ab_TS_in (tk_3 _ (List.mem_of_getElem? (i := 148) (by decide +kernel))) (by decide +kernel)
theorem tw_197 : (.methodLink RX11 126 yX11_playList : Cond) ∈ ab_TS := ab_TS_in (tk_3 _ (List.mem_of_getElem? (i := 146) (by decide +kernel))) (by decide +kernel)
theorem tw_198 : (.instanceMethod yX11_endYears : Cond) ∈ ab_TS := ab_TS_in (tk_4 _ (List.mem_of_getElem? (i := 0) (by decide +kernel))) (by decide +kernel)
theorem tw_199 : (.methodLink RX11 130 yX11_endYears : Cond) ∈ ab_TS := ab_TS_in (tk_3 _ (List.mem_of_getElem? (i := 238) (by decide +kernel))) (by decide +kernel)
theorem tw_200 : (.instanceMethod yX10_standing : Cond) ∈ ab_TS := ab_TS_in (tk_4 _ (List.mem_of_getElem? (i := 3) (by decide +kernel))) (by decide +kernel)
theorem tw_201 : (.methodLink RX11 134 yX10_standing : Cond) ∈ ab_TS := ab_TS_in (tk_4 _ (List.mem_of_getElem? (i := 2) (by decide +kernel))) (by decide +kernel)
theorem tw_202 : (.methodLink RX11 137 yJ6_bitCount_0f7a4 : Cond) ∈ ab_TS := ab_TS_in (tk_4 _ (List.mem_of_getElem? (i := 6) (by decide +kernel))) (by decide +kernel)
theorem tw_203 : (.static yJ6_bitCount_0f7a4 : Cond) ∈ ab_TS := ab_TS_in (tk_4 _ (List.mem_of_getElem? (i := 7) (by decide +kernel))) (by decide +kernel)
theorem tw_204 : (.constantLong RX12 212 (255) : Cond) ∈ ab_TS := ab_TS_in (tk_6 _ (List.mem_of_getElem? (i := 115) (by decide +kernel))) (by decide +kernel)
theorem tw_205 : (.instanceMethod yX12_begins : Cond) ∈ ab_TS := ab_TS_in (tk_6 _ (List.mem_of_getElem? (i := 126) (by decide +kernel))) (by decide +kernel)
theorem tw_206 : (.methodLink RX12 172 yX12_begins : Cond) ∈ ab_TS := ab_TS_in (tk_6 _ (List.mem_of_getElem? (i := 124) (by decide +kernel))) (by decide +kernel)
theorem tw_207 : (.instanceMethod yX12_marksBy : Cond) ∈ ab_TS := ab_TS_in (tk_6 _ (List.mem_of_getElem? (i := 138) (by decide +kernel))) (by decide +kernel)
theorem tw_208 : (.methodLink RX12 187 yX12_marksBy : Cond) ∈ ab_TS := ab_TS_in (tk_6 _ (List.mem_of_getElem? (i := 136) (by decide +kernel))) (by decide +kernel)
theorem tw_209 : (.instanceMethod yX12_priceOf : Cond) ∈ ab_TS := ab_TS_in (tk_6 _ (List.mem_of_getElem? (i := 142) (by decide +kernel))) (by decide +kernel)
theorem tw_210 : (.methodLink RX12 190 yX12_priceOf : Cond) ∈ ab_TS := ab_TS_in (tk_6 _ (List.mem_of_getElem? (i := 140) (by decide +kernel))) (by decide +kernel)
theorem tw_211 : (.instanceMethod yX12_holds : Cond) ∈ ab_TS := ab_TS_in (tk_6 _ (List.mem_of_getElem? (i := 154) (by decide +kernel))) (by decide +kernel)
theorem tw_212 : (.methodLink RX12 193 yX12_holds : Cond) ∈ ab_TS := ab_TS_in (tk_6 _ (List.mem_of_getElem? (i := 152) (by decide +kernel))) (by decide +kernel)
theorem tw_213 : (.instanceMethod yX12_undoes : Cond) ∈ ab_TS := ab_TS_in (tk_6 _ (List.mem_of_getElem? (i := 158) (by decide +kernel))) (by decide +kernel)
theorem tw_214 : (.methodLink RX12 196 yX12_undoes : Cond) ∈ ab_TS := ab_TS_in (tk_6 _ (List.mem_of_getElem? (i := 156) (by decide +kernel))) (by decide +kernel)
theorem tw_215 : (.instanceMethod yX12_isHeld : Cond) ∈ ab_TS := ab_TS_in (tk_6 _ (List.mem_of_getElem? (i := 150) (by decide +kernel))) (by decide +kernel)
theorem tw_216 : (.methodLink RX12 200 yX12_isHeld : Cond) ∈ ab_TS := ab_TS_in (tk_6 _ (List.mem_of_getElem? (i := 148) (by decide +kernel))) (by decide +kernel)
theorem tw_217 : (.instanceMethod yX12_falls : Cond) ∈ ab_TS := ab_TS_in (tk_6 _ (List.mem_of_getElem? (i := 162) (by decide +kernel))) (by decide +kernel)
theorem tw_218 : (.methodLink RX12 203 yX12_falls : Cond) ∈ ab_TS := ab_TS_in (tk_6 _ (List.mem_of_getElem? (i := 160) (by decide +kernel))) (by decide +kernel)
theorem tw_219 : (.instanceMethod yX12_evenYear : Cond) ∈ ab_TS := ab_TS_in (tk_6 _ (List.mem_of_getElem? (i := 134) (by decide +kernel))) (by decide +kernel)
theorem tw_220 : (.methodLink RX12 206 yX12_evenYear : Cond) ∈ ab_TS := ab_TS_in (tk_6 _ (List.mem_of_getElem? (i := 132) (by decide +kernel))) (by decide +kernel)
theorem tw_221 : (.instanceMethod yX12_oddYear : Cond) ∈ ab_TS := ab_TS_in (tk_6 _ (List.mem_of_getElem? (i := 146) (by decide +kernel))) (by decide +kernel)
theorem tw_222 : (.methodLink RX12 209 yX12_oddYear : Cond) ∈ ab_TS := ab_TS_in (tk_6 _ (List.mem_of_getElem? (i := 144) (by decide +kernel))) (by decide +kernel)
theorem tw_223 : (.methodLink RX12 214 yX12_areNails : Cond) ∈ ab_TS := ab_TS_in (tk_6 _ (List.mem_of_getElem? (i := 112) (by decide +kernel))) (by decide +kernel)
theorem tw_224 : (.static yX12_areNails : Cond) ∈ ab_TS := ab_TS_in (tk_6 _ (List.mem_of_getElem? (i := 113) (by decide +kernel))) (by decide +kernel)
theorem tw_225 : (.instanceMethod yX12_wrongList : Cond) ∈ ab_TS := ab_TS_in (tk_6 _ (List.mem_of_getElem? (i := 118) (by decide +kernel))) (by decide +kernel)
theorem tw_226 : (.methodLink RX12 217 yX12_wrongList : Cond) ∈ ab_TS := ab_TS_in (tk_6 _ (List.mem_of_getElem? (i := 116) (by decide +kernel))) (by decide +kernel)
theorem tw_227 : (.instanceMethod yX12_lays : Cond) ∈ ab_TS := ab_TS_in (tk_6 _ (List.mem_of_getElem? (i := 122) (by decide +kernel))) (by decide +kernel)
theorem tw_228 : (.methodLink RX12 220 yX12_lays : Cond) ∈ ab_TS := ab_TS_in (tk_6 _ (List.mem_of_getElem? (i := 120) (by decide +kernel))) (by decide +kernel)
theorem tw_229 : (.instanceMethod yX12_pairOf : Cond) ∈ ab_TS := ab_TS_in (tk_6 _ (List.mem_of_getElem? (i := 130) (by decide +kernel))) (by decide +kernel)
theorem tw_230 : (.methodLink RX12 223 yX12_pairOf : Cond) ∈ ab_TS := ab_TS_in (tk_6 _ (List.mem_of_getElem? (i := 128) (by decide +kernel))) (by decide +kernel)
theorem tw_231 : (.instanceMethod yX12_standing : Cond) ∈ ab_TS := ab_TS_in (tk_6 _ (List.mem_of_getElem? (i := 166) (by decide +kernel))) (by decide +kernel)
theorem tw_232 : (.methodLink RX12 226 yX12_standing : Cond) ∈ ab_TS := ab_TS_in (tk_6 _ (List.mem_of_getElem? (i := 164) (by decide +kernel))) (by decide +kernel)
theorem tw_233 : (.methodLink RX11 145 yX10_begin : Cond) ∈ ab_TS := ab_TS_in (tk_4 _ (List.mem_of_getElem? (i := 16) (by decide +kernel))) (by decide +kernel)
theorem tw_234 : (.methodLink RX11 149 yX10_evenYear : Cond) ∈ ab_TS := ab_TS_in (tk_4 _ (List.mem_of_getElem? (i := 17) (by decide +kernel))) (by decide +kernel)
theorem tw_235 : (.constantLong RX12 71 (9) : Cond) ∈ ab_TS := ab_TS_in (tk_6 _ (List.mem_of_getElem? (i := 179) (by decide +kernel))) (by decide +kernel)
theorem tw_236 : (.methodLink RX12 229 yX12_isMark : Cond) ∈ ab_TS := ab_TS_in (tk_6 _ (List.mem_of_getElem? (i := 176) (by decide +kernel))) (by decide +kernel)
theorem tw_237 : (.static yX12_isMark : Cond) ∈ ab_TS := ab_TS_in (tk_6 _ (List.mem_of_getElem? (i := 177) (by decide +kernel))) (by decide +kernel)
theorem tw_238 : (.instanceMethod yX10_fate : Cond) ∈ ab_TS := ab_TS_in (tk_4 _ (List.mem_of_getElem? (i := 27) (by decide +kernel))) (by decide +kernel)
theorem tw_239 : (.methodLink RX11 159 yX10_fate : Cond) ∈ ab_TS := ab_TS_in (tk_4 _ (List.mem_of_getElem? (i := 26) (by decide +kernel))) (by decide +kernel)
theorem tw_240 : (.methodLink RX10 139 yJ6_bitCount_0f7a4 : Cond) ∈ ab_TS := ab_TS_in (tk_4 _ (List.mem_of_getElem? (i := 45) (by decide +kernel))) (by decide +kernel)
theorem tw_241 : (.methodLink RX10 144 yX10_play : Cond) ∈ ab_TS := ab_TS_in (tk_4 _ (List.mem_of_getElem? (i := 46) (by decide +kernel))) (by decide +kernel)
theorem tw_242 : (.methodLink RX11 169 yX11_areMarks : Cond) ∈ ab_TS := ab_TS_in (tk_4 _ (List.mem_of_getElem? (i := 38) (by decide +kernel))) (by decide +kernel)
theorem tw_243 : (.static yX11_areMarks : Cond) ∈ ab_TS := ab_TS_in (tk_4 _ (List.mem_of_getElem? (i := 39) (by decide +kernel))) (by decide +kernel)
theorem tw_244 : (.instanceMethod yX10_leastNails : Cond) ∈ ab_TS := ab_TS_in (tk_4 _ (List.mem_of_getElem? (i := 42) (by decide +kernel))) (by decide +kernel)
theorem tw_245 : (.methodLink RX11 173 yX10_leastNails : Cond) ∈ ab_TS := ab_TS_in (tk_4 _ (List.mem_of_getElem? (i := 41) (by decide +kernel))) (by decide +kernel)
theorem tw_246 : (.methodLink RX12 235 yX12_bits : Cond) ∈ ab_TS := ab_TS_in (tk_6 _ (List.mem_of_getElem? (i := 197) (by decide +kernel))) (by decide +kernel)
theorem tw_247 : (.static yX12_bits : Cond) ∈ ab_TS := ab_TS_in (tk_6 _ (List.mem_of_getElem? (i := 198) (by decide +kernel))) (by decide +kernel)
theorem tw_248 : (.constantLong RX12 241 (1023) : Cond) ∈ ab_TS := ab_TS_in (tk_6 _ (List.mem_of_getElem? (i := 192) (by decide +kernel))) (by decide +kernel)
theorem tw_249 : (.instanceMethod yX12_finds : Cond) ∈ ab_TS := ab_TS_in (tk_6 _ (List.mem_of_getElem? (i := 195) (by decide +kernel))) (by decide +kernel)
theorem tw_250 : (.methodLink RX12 243 yX12_finds : Cond) ∈ ab_TS := ab_TS_in (tk_6 _ (List.mem_of_getElem? (i := 193) (by decide +kernel))) (by decide +kernel)
theorem tw_251 : (.methodLink RX11 322 yX11_at : Cond) ∈ ab_TS := ab_TS_in (tk_4 _ (List.mem_of_getElem? (i := 59) (by decide +kernel))) (by decide +kernel)
theorem tw_252 : (.methodLink RX11 329 yX11_store : Cond) ∈ ab_TS := ab_TS_in (tk_4 _ (List.mem_of_getElem? (i := 72) (by decide +kernel))) (by decide +kernel)
theorem tw_253 : (.instanceMethod yX11_swapPlaces : Cond) ∈ ab_TS := ab_TS_in (tk_4 _ (List.mem_of_getElem? (i := 70) (by decide +kernel))) (by decide +kernel)
theorem tw_254 : (.methodLink RX11 326 yX11_swapPlaces : Cond) ∈ ab_TS := ab_TS_in (tk_4 _ (List.mem_of_getElem? (i := 68) (by decide +kernel))) (by decide +kernel)
theorem tw_255 : (.instanceMethod yX11_takeOrder : Cond) ∈ ab_TS := ab_TS_in (tk_4 _ (List.mem_of_getElem? (i := 57) (by decide +kernel))) (by decide +kernel)
theorem tw_256 : (.methodLink RX11 312 yX11_takeOrder : Cond) ∈ ab_TS := ab_TS_in (tk_4 _ (List.mem_of_getElem? (i := 55) (by decide +kernel))) (by decide +kernel)
theorem tw_257 : (.instanceMethod yX11_nextOrder : Cond) ∈ ab_TS := ab_TS_in (tk_4 _ (List.mem_of_getElem? (i := 66) (by decide +kernel))) (by decide +kernel)
theorem tw_258 : (.methodLink RX11 319 yX11_nextOrder : Cond) ∈ ab_TS := ab_TS_in (tk_4 _ (List.mem_of_getElem? (i := 64) (by decide +kernel))) (by decide +kernel)
theorem tw_259 : (.instanceMethod yX11_orderDigits : Cond) ∈ ab_TS := ab_TS_in (tk_4 _ (List.mem_of_getElem? (i := 62) (by decide +kernel))) (by decide +kernel)
theorem tw_260 : (.methodLink RX11 316 yX11_orderDigits : Cond) ∈ ab_TS := ab_TS_in (tk_4 _ (List.mem_of_getElem? (i := 60) (by decide +kernel))) (by decide +kernel)
theorem tw_261 : (.instanceMethod yX11_freest : Cond) ∈ ab_TS := ab_TS_in (tk_4 _ (List.mem_of_getElem? (i := 53) (by decide +kernel))) (by decide +kernel)
theorem tw_262 : (.methodLink RX11 183 yX11_freest : Cond) ∈ ab_TS := ab_TS_in (tk_4 _ (List.mem_of_getElem? (i := 51) (by decide +kernel))) (by decide +kernel)
theorem tw_263 : (.instanceMethod yX12_lines : Cond) ∈ ab_TS := ab_TS_in (tk_6 _ (List.mem_of_getElem? (i := 206) (by decide +kernel))) (by decide +kernel)
theorem tw_264 : (.methodLink RX12 252 yX12_lines : Cond) ∈ ab_TS := ab_TS_in (tk_6 _ (List.mem_of_getElem? (i := 204) (by decide +kernel))) (by decide +kernel)
theorem tw_265 : (.instanceMethod yX11_addMoves : Cond) ∈ ab_TS := ab_TS_in (tk_4 _ (List.mem_of_getElem? (i := 92) (by decide +kernel))) (by decide +kernel)
theorem tw_266 : (.methodLink RX11 336 yX11_addMoves : Cond) ∈ ab_TS := ab_TS_in (tk_4 _ (List.mem_of_getElem? (i := 90) (by decide +kernel))) (by decide +kernel)
theorem tw_267 : (.methodLink RX11 354 yX10_oddYear : Cond) ∈ ab_TS := ab_TS_in (tk_4 _ (List.mem_of_getElem? (i := 106) (by decide +kernel))) (by decide +kernel)
theorem tw_268 : (.instanceMethod yX11_playMove : Cond) ∈ ab_TS := ab_TS_in (tk_4 _ (List.mem_of_getElem? (i := 104) (by decide +kernel))) (by decide +kernel)
theorem tw_269 : (.methodLink RX11 340 yX11_playMove : Cond) ∈ ab_TS := ab_TS_in (tk_4 _ (List.mem_of_getElem? (i := 102) (by decide +kernel))) (by decide +kernel)
theorem tw_270 : (.methodLink RX11 346 yX11_worthOfMarks : Cond) ∈ ab_TS := ab_TS_in (tk_4 _ (List.mem_of_getElem? (i := 107) (by decide +kernel))) (by decide +kernel)
theorem tw_271 : (.static yX11_worthOfMarks : Cond) ∈ ab_TS := ab_TS_in (tk_4 _ (List.mem_of_getElem? (i := 108) (by decide +kernel))) (by decide +kernel)
theorem tw_272 : (.methodLink RX11 349 yJ9_max_7cf53 : Cond) ∈ ab_TS := ab_TS_in (tk_4 _ (List.mem_of_getElem? (i := 110) (by decide +kernel))) (by decide +kernel)
theorem tw_273 : (.instanceMethod yX11_worthOfMove : Cond) ∈ ab_TS := ab_TS_in (tk_4 _ (List.mem_of_getElem? (i := 100) (by decide +kernel))) (by decide +kernel)
theorem tw_274 : (.methodLink RX11 203 yX11_worthOfMove : Cond) ∈ ab_TS := ab_TS_in (tk_4 _ (List.mem_of_getElem? (i := 98) (by decide +kernel))) (by decide +kernel)
theorem tw_275 : (.instanceMethod yX11_endedSoBefore : Cond) ∈ ab_TS := ab_TS_in (tk_4 _ (List.mem_of_getElem? (i := 115) (by decide +kernel))) (by decide +kernel)
theorem tw_276 : (.methodLink RX11 343 yX11_endedSoBefore : Cond) ∈ ab_TS := ab_TS_in (tk_4 _ (List.mem_of_getElem? (i := 113) (by decide +kernel))) (by decide +kernel)
theorem tw_277 : (.constant RX11 187 (-1000000001) : Cond) ∈ ab_TS := ab_TS_in (tk_4 _ (List.mem_of_getElem? (i := 77) (by decide +kernel))) (by decide +kernel)
theorem tw_278 : (.instanceMethod yX6_rowRefusal : Cond) ∈ ab_TS := ab_TS_in (tk_4 _ (List.mem_of_getElem? (i := 79) (by decide +kernel))) (by decide +kernel)
theorem tw_279 : (.methodLink RX11 188 yX6_rowRefusal : Cond) ∈ ab_TS := ab_TS_in (tk_4 _ (List.mem_of_getElem? (i := 78) (by decide +kernel))) (by decide +kernel)
theorem tw_280 : (.methodLink RX11 191 yX11_areWorths : Cond) ∈ ab_TS := ab_TS_in (tk_4 _ (List.mem_of_getElem? (i := 82) (by decide +kernel))) (by decide +kernel)
theorem tw_281 : (.static yX11_areWorths : Cond) ∈ ab_TS := ab_TS_in (tk_4 _ (List.mem_of_getElem? (i := 83) (by decide +kernel))) (by decide +kernel)
theorem tw_282 : (.instanceMethod yX11_listMoves : Cond) ∈ ab_TS := ab_TS_in (tk_4 _ (List.mem_of_getElem? (i := 88) (by decide +kernel))) (by decide +kernel)
theorem tw_283 : (.methodLink RX11 196 yX11_listMoves : Cond) ∈ ab_TS := ab_TS_in (tk_4 _ (List.mem_of_getElem? (i := 86) (by decide +kernel))) (by decide +kernel)
theorem tw_284 : (.instanceMethod yX11_bestMove : Cond) ∈ ab_TS := ab_TS_in (tk_4 _ (List.mem_of_getElem? (i := 96) (by decide +kernel))) (by decide +kernel)
theorem tw_285 : (.methodLink RX11 199 yX11_bestMove : Cond) ∈ ab_TS := ab_TS_in (tk_4 _ (List.mem_of_getElem? (i := 94) (by decide +kernel))) (by decide +kernel)
theorem tw_286 : (.constant RX11 195 (-1000000000) : Cond) ∈ ab_TS := ab_TS_in (tk_4 _ (List.mem_of_getElem? (i := 85) (by decide +kernel))) (by decide +kernel)
theorem tw_287 : (.instanceMethod yX12_worthOf : Cond) ∈ ab_TS := ab_TS_in (tk_6 _ (List.mem_of_getElem? (i := 227) (by decide +kernel))) (by decide +kernel)
theorem tw_288 : (.methodLink RX12 262 yX12_worthOf : Cond) ∈ ab_TS := ab_TS_in (tk_6 _ (List.mem_of_getElem? (i := 225) (by decide +kernel))) (by decide +kernel)
theorem tw_289 : (.instanceMethod yX12_plans : Cond) ∈ ab_TS := ab_TS_in (tk_6 _ (List.mem_of_getElem? (i := 219) (by decide +kernel))) (by decide +kernel)
theorem tw_290 : (.methodLink RX12 259 yX12_plans : Cond) ∈ ab_TS := ab_TS_in (tk_6 _ (List.mem_of_getElem? (i := 217) (by decide +kernel))) (by decide +kernel)
theorem tw_291 : (.instanceMethod yX12_tries : Cond) ∈ ab_TS := ab_TS_in (tk_6 _ (List.mem_of_getElem? (i := 223) (by decide +kernel))) (by decide +kernel)
theorem tw_292 : (.methodLink RX12 277 yX12_tries : Cond) ∈ ab_TS := ab_TS_in (tk_6 _ (List.mem_of_getElem? (i := 221) (by decide +kernel))) (by decide +kernel)
theorem tw_293 : (.constant RX12 281 (-1000000001) : Cond) ∈ ab_TS := ab_TS_in (tk_6 _ (List.mem_of_getElem? (i := 212) (by decide +kernel))) (by decide +kernel)
theorem tw_294 : (.constant RX12 283 (-1000000013) : Cond) ∈ ab_TS := ab_TS_in (tk_6 _ (List.mem_of_getElem? (i := 214) (by decide +kernel))) (by decide +kernel)
theorem tw_295 : (.constant RX12 282 (-1000000000) : Cond) ∈ ab_TS := ab_TS_in (tk_6 _ (List.mem_of_getElem? (i := 213) (by decide +kernel))) (by decide +kernel)
theorem tw_296 : (.constantLong RX12 284 (-999) : Cond) ∈ ab_TS := ab_TS_in (tk_6 _ (List.mem_of_getElem? (i := 215) (by decide +kernel))) (by decide +kernel)
theorem tw_297 : (.constantLong RX12 286 (999) : Cond) ∈ ab_TS := ab_TS_in (tk_6 _ (List.mem_of_getElem? (i := 216) (by decide +kernel))) (by decide +kernel)
theorem tw_298 : (.methodLink RX11 210 yX1_hasGround : Cond) ∈ ab_TS := ab_TS_in (tk_4 _ (List.mem_of_getElem? (i := 121) (by decide +kernel))) (by decide +kernel)
theorem tw_299 : (.instanceMethod yX11_playTwo : Cond) ∈ ab_TS := ab_TS_in (tk_4 _ (List.mem_of_getElem? (i := 132) (by decide +kernel))) (by decide +kernel)
theorem tw_300 : (.methodLink RX11 222 yX11_playTwo : Cond) ∈ ab_TS := ab_TS_in (tk_4 _ (List.mem_of_getElem? (i := 130) (by decide +kernel))) (by decide +kernel)
theorem tw_301 : (.methodLink RX11 226 yX9_nailCost : Cond) ∈ ab_TS := ab_TS_in (tk_4 _ (List.mem_of_getElem? (i := 138) (by decide +kernel))) (by decide +kernel)
theorem tw_302 : (.constant RX11 363 (1103515245) : Cond) ∈ ab_TS := ab_TS_in (tk_4 _ (List.mem_of_getElem? (i := 158) (by decide +kernel))) (by decide +kernel)
theorem tw_303 : (.constant RX11 364 (2147483647) : Cond) ∈ ab_TS := ab_TS_in (tk_4 _ (List.mem_of_getElem? (i := 162) (by decide +kernel))) (by decide +kernel)
theorem tw_304 : (.constant RX11 365 (65536) : Cond) ∈ ab_TS := ab_TS_in (tk_4 _ (List.mem_of_getElem? (i := 163) (by decide +kernel))) (by decide +kernel)
theorem tw_305 : (.methodLink RX11 357 yX11_nextSeed : Cond) ∈ ab_TS := ab_TS_in (tk_4 _ (List.mem_of_getElem? (i := 155) (by decide +kernel))) (by decide +kernel)
theorem tw_306 : (.static yX11_nextSeed : Cond) ∈ ab_TS := ab_TS_in (tk_4 _ (List.mem_of_getElem? (i := 156) (by decide +kernel))) (by decide +kernel)
theorem tw_307 : (.methodLink RX11 360 yX11_drawn : Cond) ∈ ab_TS := ab_TS_in (tk_4 _ (List.mem_of_getElem? (i := 159) (by decide +kernel))) (by decide +kernel)
theorem tw_308 : (.static yX11_drawn : Cond) ∈ ab_TS := ab_TS_in (tk_4 _ (List.mem_of_getElem? (i := 160) (by decide +kernel))) (by decide +kernel)
theorem tw_309 : (.instanceMethod yX11_playSeeds : Cond) ∈ ab_TS := ab_TS_in (tk_4 _ (List.mem_of_getElem? (i := 153) (by decide +kernel))) (by decide +kernel)
theorem tw_310 : (.methodLink RX11 230 yX11_playSeeds : Cond) ∈ ab_TS := ab_TS_in (tk_4 _ (List.mem_of_getElem? (i := 151) (by decide +kernel))) (by decide +kernel)
theorem tw_311 : (.constant RX12 291 (1103515245) : Cond) ∈ ab_TS := ab_TS_in (tk_7 _ (List.mem_of_getElem? (i := 22) (by decide +kernel))) (by decide +kernel)
theorem tw_312 : (.constant RX12 292 (2147483647) : Cond) ∈ ab_TS := ab_TS_in (tk_7 _ (List.mem_of_getElem? (i := 23) (by decide +kernel))) (by decide +kernel)
theorem tw_313 : (.constant RX12 293 (65536) : Cond) ∈ ab_TS := ab_TS_in (tk_7 _ (List.mem_of_getElem? (i := 24) (by decide +kernel))) (by decide +kernel)
theorem tw_314 : (.constantLong RX12 294 (30) : Cond) ∈ ab_TS := ab_TS_in (tk_7 _ (List.mem_of_getElem? (i := 17) (by decide +kernel))) (by decide +kernel)
theorem tw_315 : (.instanceMethod yX12_drawn : Cond) ∈ ab_TS := ab_TS_in (tk_7 _ (List.mem_of_getElem? (i := 20) (by decide +kernel))) (by decide +kernel)
theorem tw_316 : (.methodLink RX12 296 yX12_drawn : Cond) ∈ ab_TS := ab_TS_in (tk_7 _ (List.mem_of_getElem? (i := 18) (by decide +kernel))) (by decide +kernel)
theorem tw_317 : (.methodLink RX11 366 yX10_evenPlace : Cond) ∈ ab_TS := ab_TS_in (tk_4 _ (List.mem_of_getElem? (i := 172) (by decide +kernel))) (by decide +kernel)
theorem tw_318 : (.instanceMethod yX6_leastNumber : Cond) ∈ ab_TS := ab_TS_in (tk_4 _ (List.mem_of_getElem? (i := 174) (by decide +kernel))) (by decide +kernel)
theorem tw_319 : (.methodLink RX11 369 yX6_leastNumber : Cond) ∈ ab_TS := ab_TS_in (tk_4 _ (List.mem_of_getElem? (i := 173) (by decide +kernel))) (by decide +kernel)
theorem tw_320 : (.instanceMethod yX11_firstWrong : Cond) ∈ ab_TS := ab_TS_in (tk_4 _ (List.mem_of_getElem? (i := 170) (by decide +kernel))) (by decide +kernel)
theorem tw_321 : (.methodLink RX11 233 yX11_firstWrong : Cond) ∈ ab_TS := ab_TS_in (tk_4 _ (List.mem_of_getElem? (i := 168) (by decide +kernel))) (by decide +kernel)
theorem tw_322 : (.constant RX12 299 (-2147483648) : Cond) ∈ ab_TS := ab_TS_in (tk_7 _ (List.mem_of_getElem? (i := 33) (by decide +kernel))) (by decide +kernel)
theorem tw_323 : (.instanceMethod yX12_leastOf : Cond) ∈ ab_TS := ab_TS_in (tk_7 _ (List.mem_of_getElem? (i := 31) (by decide +kernel))) (by decide +kernel)
theorem tw_324 : (.methodLink RX12 300 yX12_leastOf : Cond) ∈ ab_TS := ab_TS_in (tk_7 _ (List.mem_of_getElem? (i := 29) (by decide +kernel))) (by decide +kernel)
theorem tw_325 : (.instanceMethod yX11_counted : Cond) ∈ ab_TS := ab_TS_in (tk_4 _ (List.mem_of_getElem? (i := 191) (by decide +kernel))) (by decide +kernel)
theorem tw_326 : (.methodLink RX11 240 yX11_counted : Cond) ∈ ab_TS := ab_TS_in (tk_4 _ (List.mem_of_getElem? (i := 189) (by decide +kernel))) (by decide +kernel)
theorem tw_327 : (.constantLong RX12 306 (5) : Cond) ∈ ab_TS := ab_TS_in (tk_7 _ (List.mem_of_getElem? (i := 46) (by decide +kernel))) (by decide +kernel)
theorem tw_328 : (.instanceMethod yX6_hold : Cond) ∈ ab_TS := ab_TS_in (tk_4 _ (List.mem_of_getElem? (i := 198) (by decide +kernel))) (by decide +kernel)
theorem tw_329 : (.methodLink RX11 244 yX6_hold : Cond) ∈ ab_TS := ab_TS_in (tk_4 _ (List.mem_of_getElem? (i := 197) (by decide +kernel))) (by decide +kernel)
theorem tw_330 : (.instanceMethod yX12_careOf : Cond) ∈ ab_TS := ab_TS_in (tk_7 _ (List.mem_of_getElem? (i := 53) (by decide +kernel))) (by decide +kernel)
theorem tw_331 : (.methodLink RX12 308 yX12_careOf : Cond) ∈ ab_TS := ab_TS_in (tk_7 _ (List.mem_of_getElem? (i := 51) (by decide +kernel))) (by decide +kernel)
theorem tw_332 : (.instanceMethod yX6_holdRow : Cond) ∈ ab_TS := ab_TS_in (tk_4 _ (List.mem_of_getElem? (i := 206) (by decide +kernel))) (by decide +kernel)
theorem tw_333 : (.methodLink RX11 248 yX6_holdRow : Cond) ∈ ab_TS := ab_TS_in (tk_4 _ (List.mem_of_getElem? (i := 205) (by decide +kernel))) (by decide +kernel)
theorem tw_334 : (.instanceMethod yX6_write : Cond) ∈ ab_TS := ab_TS_in (tk_4 _ (List.mem_of_getElem? (i := 214) (by decide +kernel))) (by decide +kernel)
theorem tw_335 : (.methodLink RX11 251 yX6_write : Cond) ∈ ab_TS := ab_TS_in (tk_4 _ (List.mem_of_getElem? (i := 213) (by decide +kernel))) (by decide +kernel)
theorem tw_336 : (.methodLink RX11 271 yX6_isEmpty : Cond) ∈ ab_TS := ab_TS_in (tk_4 _ (List.mem_of_getElem? (i := 222) (by decide +kernel))) (by decide +kernel)
theorem tw_337 : (.instanceMethod yX6_hasPlaces : Cond) ∈ ab_TS := ab_TS_in (tk_4 _ (List.mem_of_getElem? (i := 224) (by decide +kernel))) (by decide +kernel)
theorem tw_338 : (.methodLink RX11 278 yX6_hasPlaces : Cond) ∈ ab_TS := ab_TS_in (tk_4 _ (List.mem_of_getElem? (i := 223) (by decide +kernel))) (by decide +kernel)
theorem tw_339 : (.methodLink RX11 284 ⟨RJ10, "arraycopy", "(Ljava/lang/Object;ILjava/lang/Object;II)V"⟩ : Cond) ∈ ab_TS := ab_TS_in (tk_4 _ (List.mem_of_getElem? (i := 227) (by decide +kernel))) (by decide +kernel)
theorem tw_340 : (.native ⟨RJ10, "arraycopy", "(Ljava/lang/Object;ILjava/lang/Object;II)V"⟩ : Cond) ∈ ab_TS := ab_TS_in (tk_4 _ (List.mem_of_getElem? (i := 229) (by decide +kernel))) (by decide +kernel)
theorem tw_341 : (.static ⟨RJ10, "arraycopy", "(Ljava/lang/Object;ILjava/lang/Object;II)V"⟩ : Cond) ∈ ab_TS := ab_TS_in (tk_4 _ (List.mem_of_getElem? (i := 228) (by decide +kernel))) (by decide +kernel)
theorem tw_342 : (.initialized RJ10 : Cond) ∈ ab_TS := ab_TS_in (tk_1 _ (List.mem_of_getElem? (i := 21) (by decide +kernel))) (by decide +kernel)
theorem tw_343 : (.instanceMethod yX6_deedRefusal : Cond) ∈ ab_TS := ab_TS_in (tk_4 _ (List.mem_of_getElem? (i := 235) (by decide +kernel))) (by decide +kernel)
theorem tw_344 : (.methodLink RX11 294 yX6_deedRefusal : Cond) ∈ ab_TS := ab_TS_in (tk_4 _ (List.mem_of_getElem? (i := 234) (by decide +kernel))) (by decide +kernel)
theorem tw_345 : (.instanceMethod yX12_wrongKept : Cond) ∈ ab_TS := ab_TS_in (tk_7 _ (List.mem_of_getElem? (i := 77) (by decide +kernel))) (by decide +kernel)
theorem tw_346 : (.methodLink RX12 311 yX12_wrongKept : Cond) ∈ ab_TS := ab_TS_in (tk_7 _ (List.mem_of_getElem? (i := 75) (by decide +kernel))) (by decide +kernel)
theorem tw_347 : (.instanceMethod yX11_init : Cond) ∈ ab_TS := ab_TS_in (tk_1 _ (List.mem_of_getElem? (i := 25) (by decide +kernel))) (by decide +kernel)
theorem tw_348 : (.methodLink RL 17 yX11_init : Cond) ∈ ab_TS := ab_TS_in (tk_1 _ (List.mem_of_getElem? (i := 24) (by decide +kernel))) (by decide +kernel)
theorem tw_349 : (.instanceMethod yX12_init : Cond) ∈ ab_TS := ab_TS_in (tk_5 _ (List.mem_of_getElem? (i := 113) (by decide +kernel))) (by decide +kernel)
theorem tw_350 : (.methodLink RL 20 yX12_init : Cond) ∈ ab_TS := ab_TS_in (tk_5 _ (List.mem_of_getElem? (i := 112) (by decide +kernel))) (by decide +kernel)
theorem tw_351 : (.arrayClass .long : Cond) ∈ ab_TS := ab_TS_in (tk_7 _ (List.mem_of_getElem? (i := 83) (by decide +kernel))) (by decide +kernel)
theorem tw_352 : (.instanceMethod yX11_town : Cond) ∈ ab_TS := ab_TS_in (tk_1 _ (List.mem_of_getElem? (i := 188) (by decide +kernel))) (by decide +kernel)
theorem tw_353 : (.methodLink RL 21 yX11_town : Cond) ∈ ab_TS := ab_TS_in (tk_1 _ (List.mem_of_getElem? (i := 187) (by decide +kernel))) (by decide +kernel)
theorem tw_354 : (.instanceMethod yX12_town : Cond) ∈ ab_TS := ab_TS_in (tk_6 _ (List.mem_of_getElem? (i := 5) (by decide +kernel))) (by decide +kernel)
theorem tw_355 : (.methodLink RL 25 yX12_town : Cond) ∈ ab_TS := ab_TS_in (tk_6 _ (List.mem_of_getElem? (i := 4) (by decide +kernel))) (by decide +kernel)
theorem tw_356 : (.instanceMethod yX11_deed : Cond) ∈ ab_TS := ab_TS_in (tk_3 _ (List.mem_of_getElem? (i := 91) (by decide +kernel))) (by decide +kernel)
theorem tw_357 : (.methodLink RL 26 yX11_deed : Cond) ∈ ab_TS := ab_TS_in (tk_3 _ (List.mem_of_getElem? (i := 90) (by decide +kernel))) (by decide +kernel)
theorem tw_358 : (.instanceMethod yX12_deed : Cond) ∈ ab_TS := ab_TS_in (tk_6 _ (List.mem_of_getElem? (i := 56) (by decide +kernel))) (by decide +kernel)
theorem tw_359 : (.methodLink RL 30 yX12_deed : Cond) ∈ ab_TS := ab_TS_in (tk_6 _ (List.mem_of_getElem? (i := 55) (by decide +kernel))) (by decide +kernel)
theorem tw_360 : (.instanceMethod yX11_marks : Cond) ∈ ab_TS := ab_TS_in (tk_3 _ (List.mem_of_getElem? (i := 96) (by decide +kernel))) (by decide +kernel)
theorem tw_361 : (.methodLink RL 31 yX11_marks : Cond) ∈ ab_TS := ab_TS_in (tk_3 _ (List.mem_of_getElem? (i := 95) (by decide +kernel))) (by decide +kernel)
theorem tw_362 : (.instanceMethod yX12_marks : Cond) ∈ ab_TS := ab_TS_in (tk_6 _ (List.mem_of_getElem? (i := 81) (by decide +kernel))) (by decide +kernel)
theorem tw_363 : (.methodLink RL 35 yX12_marks : Cond) ∈ ab_TS := ab_TS_in (tk_6 _ (List.mem_of_getElem? (i := 80) (by decide +kernel))) (by decide +kernel)
theorem tw_364 : (.instanceMethod yX11_state : Cond) ∈ ab_TS := ab_TS_in (tk_3 _ (List.mem_of_getElem? (i := 100) (by decide +kernel))) (by decide +kernel)
theorem tw_365 : (.methodLink RL 36 yX11_state : Cond) ∈ ab_TS := ab_TS_in (tk_3 _ (List.mem_of_getElem? (i := 99) (by decide +kernel))) (by decide +kernel)
theorem tw_366 : (.instanceMethod yX12_state : Cond) ∈ ab_TS := ab_TS_in (tk_6 _ (List.mem_of_getElem? (i := 85) (by decide +kernel))) (by decide +kernel)
theorem tw_367 : (.methodLink RL 39 yX12_state : Cond) ∈ ab_TS := ab_TS_in (tk_6 _ (List.mem_of_getElem? (i := 84) (by decide +kernel))) (by decide +kernel)
theorem tw_368 : (.instanceMethod yX11_rise : Cond) ∈ ab_TS := ab_TS_in (tk_3 _ (List.mem_of_getElem? (i := 104) (by decide +kernel))) (by decide +kernel)
theorem tw_369 : (.methodLink RL 40 yX11_rise : Cond) ∈ ab_TS := ab_TS_in (tk_3 _ (List.mem_of_getElem? (i := 103) (by decide +kernel))) (by decide +kernel)
theorem tw_370 : (.instanceMethod yX12_rise : Cond) ∈ ab_TS := ab_TS_in (tk_6 _ (List.mem_of_getElem? (i := 90) (by decide +kernel))) (by decide +kernel)
theorem tw_371 : (.methodLink RL 43 yX12_rise : Cond) ∈ ab_TS := ab_TS_in (tk_6 _ (List.mem_of_getElem? (i := 89) (by decide +kernel))) (by decide +kernel)
theorem tw_372 : (.instanceMethod yX11_set : Cond) ∈ ab_TS := ab_TS_in (tk_3 _ (List.mem_of_getElem? (i := 108) (by decide +kernel))) (by decide +kernel)
theorem tw_373 : (.methodLink RL 44 yX11_set : Cond) ∈ ab_TS := ab_TS_in (tk_3 _ (List.mem_of_getElem? (i := 107) (by decide +kernel))) (by decide +kernel)
theorem tw_374 : (.instanceMethod yX12_set : Cond) ∈ ab_TS := ab_TS_in (tk_6 _ (List.mem_of_getElem? (i := 94) (by decide +kernel))) (by decide +kernel)
theorem tw_375 : (.methodLink RL 47 yX12_set : Cond) ∈ ab_TS := ab_TS_in (tk_6 _ (List.mem_of_getElem? (i := 93) (by decide +kernel))) (by decide +kernel)
theorem tw_376 : (.instanceMethod yX11_may : Cond) ∈ ab_TS := ab_TS_in (tk_3 _ (List.mem_of_getElem? (i := 115) (by decide +kernel))) (by decide +kernel)
theorem tw_377 : (.methodLink RL 48 yX11_may : Cond) ∈ ab_TS := ab_TS_in (tk_3 _ (List.mem_of_getElem? (i := 114) (by decide +kernel))) (by decide +kernel)
theorem tw_378 : (.instanceMethod yX12_may : Cond) ∈ ab_TS := ab_TS_in (tk_6 _ (List.mem_of_getElem? (i := 101) (by decide +kernel))) (by decide +kernel)
theorem tw_379 : (.methodLink RL 51 yX12_may : Cond) ∈ ab_TS := ab_TS_in (tk_6 _ (List.mem_of_getElem? (i := 100) (by decide +kernel))) (by decide +kernel)
theorem tw_380 : (.instanceMethod yX11_pair : Cond) ∈ ab_TS := ab_TS_in (tk_3 _ (List.mem_of_getElem? (i := 143) (by decide +kernel))) (by decide +kernel)
theorem tw_381 : (.methodLink RL 52 yX11_pair : Cond) ∈ ab_TS := ab_TS_in (tk_3 _ (List.mem_of_getElem? (i := 142) (by decide +kernel))) (by decide +kernel)
theorem tw_382 : (.instanceMethod yX12_pair : Cond) ∈ ab_TS := ab_TS_in (tk_6 _ (List.mem_of_getElem? (i := 109) (by decide +kernel))) (by decide +kernel)
theorem tw_383 : (.methodLink RL 55 yX12_pair : Cond) ∈ ab_TS := ab_TS_in (tk_6 _ (List.mem_of_getElem? (i := 108) (by decide +kernel))) (by decide +kernel)
theorem tw_384 : (.instanceMethod yX11_even : Cond) ∈ ab_TS := ab_TS_in (tk_4 _ (List.mem_of_getElem? (i := 13) (by decide +kernel))) (by decide +kernel)
theorem tw_385 : (.methodLink RL 56 yX11_even : Cond) ∈ ab_TS := ab_TS_in (tk_4 _ (List.mem_of_getElem? (i := 12) (by decide +kernel))) (by decide +kernel)
theorem tw_386 : (.instanceMethod yX12_even : Cond) ∈ ab_TS := ab_TS_in (tk_6 _ (List.mem_of_getElem? (i := 169) (by decide +kernel))) (by decide +kernel)
theorem tw_387 : (.methodLink RL 59 yX12_even : Cond) ∈ ab_TS := ab_TS_in (tk_6 _ (List.mem_of_getElem? (i := 168) (by decide +kernel))) (by decide +kernel)
theorem tw_388 : (.instanceMethod yX11_lasts : Cond) ∈ ab_TS := ab_TS_in (tk_4 _ (List.mem_of_getElem? (i := 19) (by decide +kernel))) (by decide +kernel)
theorem tw_389 : (.methodLink RL 60 yX11_lasts : Cond) ∈ ab_TS := ab_TS_in (tk_4 _ (List.mem_of_getElem? (i := 18) (by decide +kernel))) (by decide +kernel)
theorem tw_390 : (.instanceMethod yX12_lasts : Cond) ∈ ab_TS := ab_TS_in (tk_6 _ (List.mem_of_getElem? (i := 173) (by decide +kernel))) (by decide +kernel)
theorem tw_391 : (.methodLink RL 64 yX12_lasts : Cond) ∈ ab_TS := ab_TS_in (tk_6 _ (List.mem_of_getElem? (i := 172) (by decide +kernel))) (by decide +kernel)
theorem tw_392 : (.instanceMethod yX11_why : Cond) ∈ ab_TS := ab_TS_in (tk_4 _ (List.mem_of_getElem? (i := 23) (by decide +kernel))) (by decide +kernel)
theorem tw_393 : (.methodLink RL 65 yX11_why : Cond) ∈ ab_TS := ab_TS_in (tk_4 _ (List.mem_of_getElem? (i := 22) (by decide +kernel))) (by decide +kernel)
theorem tw_394 : (.instanceMethod yX12_why : Cond) ∈ ab_TS := ab_TS_in (tk_6 _ (List.mem_of_getElem? (i := 181) (by decide +kernel))) (by decide +kernel)
theorem tw_395 : (.methodLink RL 68 yX12_why : Cond) ∈ ab_TS := ab_TS_in (tk_6 _ (List.mem_of_getElem? (i := 180) (by decide +kernel))) (by decide +kernel)
theorem tw_396 : (.instanceMethod yX11_behind : Cond) ∈ ab_TS := ab_TS_in (tk_4 _ (List.mem_of_getElem? (i := 31) (by decide +kernel))) (by decide +kernel)
theorem tw_397 : (.methodLink RL 69 yX11_behind : Cond) ∈ ab_TS := ab_TS_in (tk_4 _ (List.mem_of_getElem? (i := 30) (by decide +kernel))) (by decide +kernel)
theorem tw_398 : (.instanceMethod yX12_behind : Cond) ∈ ab_TS := ab_TS_in (tk_6 _ (List.mem_of_getElem? (i := 185) (by decide +kernel))) (by decide +kernel)
theorem tw_399 : (.methodLink RL 72 yX12_behind : Cond) ∈ ab_TS := ab_TS_in (tk_6 _ (List.mem_of_getElem? (i := 184) (by decide +kernel))) (by decide +kernel)
theorem tw_400 : (.instanceMethod yX11_least : Cond) ∈ ab_TS := ab_TS_in (tk_4 _ (List.mem_of_getElem? (i := 35) (by decide +kernel))) (by decide +kernel)
theorem tw_401 : (.methodLink RL 73 yX11_least : Cond) ∈ ab_TS := ab_TS_in (tk_4 _ (List.mem_of_getElem? (i := 34) (by decide +kernel))) (by decide +kernel)
theorem tw_402 : (.instanceMethod yX12_least : Cond) ∈ ab_TS := ab_TS_in (tk_6 _ (List.mem_of_getElem? (i := 189) (by decide +kernel))) (by decide +kernel)
theorem tw_403 : (.methodLink RL 76 yX12_least : Cond) ∈ ab_TS := ab_TS_in (tk_6 _ (List.mem_of_getElem? (i := 188) (by decide +kernel))) (by decide +kernel)
theorem tw_404 : (.instanceMethod yX11_free : Cond) ∈ ab_TS := ab_TS_in (tk_4 _ (List.mem_of_getElem? (i := 48) (by decide +kernel))) (by decide +kernel)
theorem tw_405 : (.methodLink RL 77 yX11_free : Cond) ∈ ab_TS := ab_TS_in (tk_4 _ (List.mem_of_getElem? (i := 47) (by decide +kernel))) (by decide +kernel)
theorem tw_406 : (.instanceMethod yX12_free : Cond) ∈ ab_TS := ab_TS_in (tk_6 _ (List.mem_of_getElem? (i := 201) (by decide +kernel))) (by decide +kernel)
theorem tw_407 : (.methodLink RL 80 yX12_free : Cond) ∈ ab_TS := ab_TS_in (tk_6 _ (List.mem_of_getElem? (i := 200) (by decide +kernel))) (by decide +kernel)
theorem tw_408 : (.instanceMethod yX11_plan : Cond) ∈ ab_TS := ab_TS_in (tk_4 _ (List.mem_of_getElem? (i := 74) (by decide +kernel))) (by decide +kernel)
theorem tw_409 : (.methodLink RL 81 yX11_plan : Cond) ∈ ab_TS := ab_TS_in (tk_4 _ (List.mem_of_getElem? (i := 73) (by decide +kernel))) (by decide +kernel)
theorem tw_410 : (.instanceMethod yX12_plan : Cond) ∈ ab_TS := ab_TS_in (tk_6 _ (List.mem_of_getElem? (i := 209) (by decide +kernel))) (by decide +kernel)
theorem tw_411 : (.methodLink RL 84 yX12_plan : Cond) ∈ ab_TS := ab_TS_in (tk_6 _ (List.mem_of_getElem? (i := 208) (by decide +kernel))) (by decide +kernel)
theorem tw_412 : (.instanceMethod yX11_ever : Cond) ∈ ab_TS := ab_TS_in (tk_4 _ (List.mem_of_getElem? (i := 118) (by decide +kernel))) (by decide +kernel)
theorem tw_413 : (.methodLink RL 85 yX11_ever : Cond) ∈ ab_TS := ab_TS_in (tk_4 _ (List.mem_of_getElem? (i := 117) (by decide +kernel))) (by decide +kernel)
theorem tw_414 : (.instanceMethod yX12_ever : Cond) ∈ ab_TS := ab_TS_in (tk_6 _ (List.mem_of_getElem? (i := 230) (by decide +kernel))) (by decide +kernel)
theorem tw_415 : (.methodLink RL 88 yX12_ever : Cond) ∈ ab_TS := ab_TS_in (tk_6 _ (List.mem_of_getElem? (i := 229) (by decide +kernel))) (by decide +kernel)
theorem tw_416 : (.instanceMethod yX11_help : Cond) ∈ ab_TS := ab_TS_in (tk_4 _ (List.mem_of_getElem? (i := 123) (by decide +kernel))) (by decide +kernel)
theorem tw_417 : (.methodLink RL 89 yX11_help : Cond) ∈ ab_TS := ab_TS_in (tk_4 _ (List.mem_of_getElem? (i := 122) (by decide +kernel))) (by decide +kernel)
theorem tw_418 : (.instanceMethod yX12_help : Cond) ∈ ab_TS := ab_TS_in (tk_6 _ (List.mem_of_getElem? (i := 234) (by decide +kernel))) (by decide +kernel)
theorem tw_419 : (.methodLink RL 92 yX12_help : Cond) ∈ ab_TS := ab_TS_in (tk_6 _ (List.mem_of_getElem? (i := 233) (by decide +kernel))) (by decide +kernel)
theorem tw_420 : (.instanceMethod yX11_two : Cond) ∈ ab_TS := ab_TS_in (tk_4 _ (List.mem_of_getElem? (i := 127) (by decide +kernel))) (by decide +kernel)
theorem tw_421 : (.methodLink RL 93 yX11_two : Cond) ∈ ab_TS := ab_TS_in (tk_4 _ (List.mem_of_getElem? (i := 126) (by decide +kernel))) (by decide +kernel)
theorem tw_422 : (.instanceMethod yX12_two : Cond) ∈ ab_TS := ab_TS_in (tk_6 _ (List.mem_of_getElem? (i := 238) (by decide +kernel))) (by decide +kernel)
theorem tw_423 : (.methodLink RL 97 yX12_two : Cond) ∈ ab_TS := ab_TS_in (tk_6 _ (List.mem_of_getElem? (i := 237) (by decide +kernel))) (by decide +kernel)
theorem tw_424 : (.instanceMethod yX11_month : Cond) ∈ ab_TS := ab_TS_in (tk_4 _ (List.mem_of_getElem? (i := 135) (by decide +kernel))) (by decide +kernel)
theorem tw_425 : (.methodLink RL 98 yX11_month : Cond) ∈ ab_TS := ab_TS_in (tk_4 _ (List.mem_of_getElem? (i := 134) (by decide +kernel))) (by decide +kernel)
theorem tw_426 : (.instanceMethod yX12_month : Cond) ∈ ab_TS := ab_TS_in (tk_7 _ (List.mem_of_getElem? (i := 2) (by decide +kernel))) (by decide +kernel)
theorem tw_427 : (.methodLink RL 101 yX12_month : Cond) ∈ ab_TS := ab_TS_in (tk_7 _ (List.mem_of_getElem? (i := 1) (by decide +kernel))) (by decide +kernel)
theorem tw_428 : (.instanceMethod yX11_nail : Cond) ∈ ab_TS := ab_TS_in (tk_4 _ (List.mem_of_getElem? (i := 140) (by decide +kernel))) (by decide +kernel)
theorem tw_429 : (.methodLink RL 102 yX11_nail : Cond) ∈ ab_TS := ab_TS_in (tk_4 _ (List.mem_of_getElem? (i := 139) (by decide +kernel))) (by decide +kernel)
theorem tw_430 : (.instanceMethod yX12_nail : Cond) ∈ ab_TS := ab_TS_in (tk_7 _ (List.mem_of_getElem? (i := 6) (by decide +kernel))) (by decide +kernel)
theorem tw_431 : (.methodLink RL 105 yX12_nail : Cond) ∈ ab_TS := ab_TS_in (tk_7 _ (List.mem_of_getElem? (i := 5) (by decide +kernel))) (by decide +kernel)
theorem tw_432 : (.instanceMethod yX11_byLaw : Cond) ∈ ab_TS := ab_TS_in (tk_4 _ (List.mem_of_getElem? (i := 144) (by decide +kernel))) (by decide +kernel)
theorem tw_433 : (.methodLink RL 106 yX11_byLaw : Cond) ∈ ab_TS := ab_TS_in (tk_4 _ (List.mem_of_getElem? (i := 143) (by decide +kernel))) (by decide +kernel)
theorem tw_434 : (.instanceMethod yX12_byLaw : Cond) ∈ ab_TS := ab_TS_in (tk_7 _ (List.mem_of_getElem? (i := 10) (by decide +kernel))) (by decide +kernel)
theorem tw_435 : (.methodLink RL 109 yX12_byLaw : Cond) ∈ ab_TS := ab_TS_in (tk_7 _ (List.mem_of_getElem? (i := 9) (by decide +kernel))) (by decide +kernel)
theorem tw_436 : (.instanceMethod yX11_seeded : Cond) ∈ ab_TS := ab_TS_in (tk_4 _ (List.mem_of_getElem? (i := 148) (by decide +kernel))) (by decide +kernel)
theorem tw_437 : (.methodLink RL 110 yX11_seeded : Cond) ∈ ab_TS := ab_TS_in (tk_4 _ (List.mem_of_getElem? (i := 147) (by decide +kernel))) (by decide +kernel)
theorem tw_438 : (.instanceMethod yX12_seeded : Cond) ∈ ab_TS := ab_TS_in (tk_7 _ (List.mem_of_getElem? (i := 14) (by decide +kernel))) (by decide +kernel)
theorem tw_439 : (.methodLink RL 113 yX12_seeded : Cond) ∈ ab_TS := ab_TS_in (tk_7 _ (List.mem_of_getElem? (i := 13) (by decide +kernel))) (by decide +kernel)
theorem tw_440 : (.instanceMethod yX11_judge : Cond) ∈ ab_TS := ab_TS_in (tk_4 _ (List.mem_of_getElem? (i := 165) (by decide +kernel))) (by decide +kernel)
theorem tw_441 : (.methodLink RL 114 yX11_judge : Cond) ∈ ab_TS := ab_TS_in (tk_4 _ (List.mem_of_getElem? (i := 164) (by decide +kernel))) (by decide +kernel)
theorem tw_442 : (.instanceMethod yX12_judge : Cond) ∈ ab_TS := ab_TS_in (tk_7 _ (List.mem_of_getElem? (i := 26) (by decide +kernel))) (by decide +kernel)
theorem tw_443 : (.methodLink RL 117 yX12_judge : Cond) ∈ ab_TS := ab_TS_in (tk_7 _ (List.mem_of_getElem? (i := 25) (by decide +kernel))) (by decide +kernel)
theorem tw_444 : (.instanceMethod yX11_image : Cond) ∈ ab_TS := ab_TS_in (tk_4 _ (List.mem_of_getElem? (i := 178) (by decide +kernel))) (by decide +kernel)
theorem tw_445 : (.methodLink RL 118 yX11_image : Cond) ∈ ab_TS := ab_TS_in (tk_4 _ (List.mem_of_getElem? (i := 177) (by decide +kernel))) (by decide +kernel)
theorem tw_446 : (.instanceMethod yX12_image : Cond) ∈ ab_TS := ab_TS_in (tk_7 _ (List.mem_of_getElem? (i := 35) (by decide +kernel))) (by decide +kernel)
theorem tw_447 : (.methodLink RL 121 yX12_image : Cond) ∈ ab_TS := ab_TS_in (tk_7 _ (List.mem_of_getElem? (i := 34) (by decide +kernel))) (by decide +kernel)
theorem tw_448 : (.instanceMethod yX11_restore : Cond) ∈ ab_TS := ab_TS_in (tk_4 _ (List.mem_of_getElem? (i := 182) (by decide +kernel))) (by decide +kernel)
theorem tw_449 : (.methodLink RL 122 yX11_restore : Cond) ∈ ab_TS := ab_TS_in (tk_4 _ (List.mem_of_getElem? (i := 181) (by decide +kernel))) (by decide +kernel)
theorem tw_450 : (.instanceMethod yX12_restore : Cond) ∈ ab_TS := ab_TS_in (tk_7 _ (List.mem_of_getElem? (i := 39) (by decide +kernel))) (by decide +kernel)
theorem tw_451 : (.methodLink RL 125 yX12_restore : Cond) ∈ ab_TS := ab_TS_in (tk_7 _ (List.mem_of_getElem? (i := 38) (by decide +kernel))) (by decide +kernel)
theorem tw_452 : (.instanceMethod yX11_count : Cond) ∈ ab_TS := ab_TS_in (tk_4 _ (List.mem_of_getElem? (i := 186) (by decide +kernel))) (by decide +kernel)
theorem tw_453 : (.methodLink RL 126 yX11_count : Cond) ∈ ab_TS := ab_TS_in (tk_4 _ (List.mem_of_getElem? (i := 185) (by decide +kernel))) (by decide +kernel)
theorem tw_454 : (.instanceMethod yX12_count : Cond) ∈ ab_TS := ab_TS_in (tk_7 _ (List.mem_of_getElem? (i := 43) (by decide +kernel))) (by decide +kernel)
theorem tw_455 : (.methodLink RL 129 yX12_count : Cond) ∈ ab_TS := ab_TS_in (tk_7 _ (List.mem_of_getElem? (i := 42) (by decide +kernel))) (by decide +kernel)
theorem tw_456 : (.instanceMethod yX11_keep : Cond) ∈ ab_TS := ab_TS_in (tk_4 _ (List.mem_of_getElem? (i := 194) (by decide +kernel))) (by decide +kernel)
theorem tw_457 : (.methodLink RL 130 yX11_keep : Cond) ∈ ab_TS := ab_TS_in (tk_4 _ (List.mem_of_getElem? (i := 193) (by decide +kernel))) (by decide +kernel)
theorem tw_458 : (.instanceMethod yX12_keep : Cond) ∈ ab_TS := ab_TS_in (tk_7 _ (List.mem_of_getElem? (i := 48) (by decide +kernel))) (by decide +kernel)
theorem tw_459 : (.methodLink RL 133 yX12_keep : Cond) ∈ ab_TS := ab_TS_in (tk_7 _ (List.mem_of_getElem? (i := 47) (by decide +kernel))) (by decide +kernel)
theorem tw_460 : (.instanceMethod yX11_row : Cond) ∈ ab_TS := ab_TS_in (tk_4 _ (List.mem_of_getElem? (i := 202) (by decide +kernel))) (by decide +kernel)
theorem tw_461 : (.methodLink RL 134 yX11_row : Cond) ∈ ab_TS := ab_TS_in (tk_4 _ (List.mem_of_getElem? (i := 201) (by decide +kernel))) (by decide +kernel)
theorem tw_462 : (.instanceMethod yX12_row : Cond) ∈ ab_TS := ab_TS_in (tk_7 _ (List.mem_of_getElem? (i := 56) (by decide +kernel))) (by decide +kernel)
theorem tw_463 : (.methodLink RL 137 yX12_row : Cond) ∈ ab_TS := ab_TS_in (tk_7 _ (List.mem_of_getElem? (i := 55) (by decide +kernel))) (by decide +kernel)
theorem tw_464 : (.instanceMethod yX11_put : Cond) ∈ ab_TS := ab_TS_in (tk_4 _ (List.mem_of_getElem? (i := 210) (by decide +kernel))) (by decide +kernel)
theorem tw_465 : (.methodLink RL 138 yX11_put : Cond) ∈ ab_TS := ab_TS_in (tk_4 _ (List.mem_of_getElem? (i := 209) (by decide +kernel))) (by decide +kernel)
theorem tw_466 : (.instanceMethod yX12_put : Cond) ∈ ab_TS := ab_TS_in (tk_7 _ (List.mem_of_getElem? (i := 60) (by decide +kernel))) (by decide +kernel)
theorem tw_467 : (.methodLink RL 141 yX12_put : Cond) ∈ ab_TS := ab_TS_in (tk_7 _ (List.mem_of_getElem? (i := 59) (by decide +kernel))) (by decide +kernel)
theorem tw_468 : (.methodLink RL 142 yL_element : Cond) ∈ ab_TS := ab_TS_in (tk_5 _ (List.mem_of_getElem? (i := 82) (by decide +kernel))) (by decide +kernel)
theorem tw_469 : (.static yL_element : Cond) ∈ ab_TS := ab_TS_in (tk_5 _ (List.mem_of_getElem? (i := 83) (by decide +kernel))) (by decide +kernel)
theorem tw_470 : (.instanceMethod yX12_element : Cond) ∈ ab_TS := ab_TS_in (tk_7 _ (List.mem_of_getElem? (i := 64) (by decide +kernel))) (by decide +kernel)
theorem tw_471 : (.methodLink RL 147 yX12_element : Cond) ∈ ab_TS := ab_TS_in (tk_7 _ (List.mem_of_getElem? (i := 63) (by decide +kernel))) (by decide +kernel)
theorem tw_472 : (.instanceMethod yX12_thrown : Cond) ∈ ab_TS := ab_TS_in (tk_6 _ (List.mem_of_getElem? (i := 1) (by decide +kernel))) (by decide +kernel)
theorem tw_473 : (.methodLink RL 148 yX12_thrown : Cond) ∈ ab_TS := ab_TS_in (tk_6 _ (List.mem_of_getElem? (i := 0) (by decide +kernel))) (by decide +kernel)
theorem tw_474 : (.instanceMethod yX11_copy : Cond) ∈ ab_TS := ab_TS_in (tk_4 _ (List.mem_of_getElem? (i := 219) (by decide +kernel))) (by decide +kernel)
theorem tw_475 : (.methodLink RL 151 yX11_copy : Cond) ∈ ab_TS := ab_TS_in (tk_4 _ (List.mem_of_getElem? (i := 218) (by decide +kernel))) (by decide +kernel)
theorem tw_476 : (.instanceMethod yX12_copy : Cond) ∈ ab_TS := ab_TS_in (tk_7 _ (List.mem_of_getElem? (i := 68) (by decide +kernel))) (by decide +kernel)
theorem tw_477 : (.methodLink RL 154 yX12_copy : Cond) ∈ ab_TS := ab_TS_in (tk_7 _ (List.mem_of_getElem? (i := 67) (by decide +kernel))) (by decide +kernel)
theorem tw_478 : (.instanceMethod yX11_care : Cond) ∈ ab_TS := ab_TS_in (tk_4 _ (List.mem_of_getElem? (i := 231) (by decide +kernel))) (by decide +kernel)
theorem tw_479 : (.methodLink RL 155 yX11_care : Cond) ∈ ab_TS := ab_TS_in (tk_4 _ (List.mem_of_getElem? (i := 230) (by decide +kernel))) (by decide +kernel)
theorem tw_480 : (.instanceMethod yX12_care : Cond) ∈ ab_TS := ab_TS_in (tk_7 _ (List.mem_of_getElem? (i := 72) (by decide +kernel))) (by decide +kernel)
theorem tw_481 : (.methodLink RL 158 yX12_care : Cond) ∈ ab_TS := ab_TS_in (tk_7 _ (List.mem_of_getElem? (i := 71) (by decide +kernel))) (by decide +kernel)
theorem tw_482 : (.instanceMethod yX11_toss : Cond) ∈ ab_TS := ab_TS_in (tk_4 _ (List.mem_of_getElem? (i := 239) (by decide +kernel))) (by decide +kernel)
theorem tw_483 : (.methodLink RL 159 yX11_toss : Cond) ∈ ab_TS := ab_TS_in (tk_4 _ (List.mem_of_getElem? (i := 238) (by decide +kernel))) (by decide +kernel)
theorem tw_484 : (.instanceMethod yX12_toss : Cond) ∈ ab_TS := ab_TS_in (tk_7 _ (List.mem_of_getElem? (i := 80) (by decide +kernel))) (by decide +kernel)
theorem tw_485 : (.methodLink RL 162 yX12_toss : Cond) ∈ ab_TS := ab_TS_in (tk_7 _ (List.mem_of_getElem? (i := 79) (by decide +kernel))) (by decide +kernel)
theorem tw_486 : (.code yJ6_bitCount_0f7a4 cJ6_bitCount_0f7a4 1 (some .int) : Cond) ∈ ab_TS := ab_TS_in (tk_4 _ (List.mem_of_getElem? (i := 8) (by decide +kernel))) (by decide +kernel)
theorem tw_487 : (.initialized RJ6 : Cond) ∈ ab_TS := ab_TS_in (tk_1 _ (List.mem_of_getElem? (i := 15) (by decide +kernel))) (by decide +kernel)
theorem tw_488 : (.code yX0_init cX0_init 6 none : Cond) ∈ ab_TS := ab_TS_in (tk_3 _ (List.mem_of_getElem? (i := 7) (by decide +kernel))) (by decide +kernel)
theorem tw_489 : (.initialized RX0 : Cond) ∈ ab_TS := ab_TS_in (tk_1 _ (List.mem_of_getElem? (i := 11) (by decide +kernel))) (by decide +kernel)
theorem tw_490 : (.code yX10_add cX10_add 2 none : Cond) ∈ ab_TS := ab_TS_in (tk_3 _ (List.mem_of_getElem? (i := 169) (by decide +kernel))) (by decide +kernel)
theorem tw_491 : (.initialized RX10 : Cond) ∈ ab_TS := ab_TS_in (tk_1 _ (List.mem_of_getElem? (i := 3) (by decide +kernel))) (by decide +kernel)
theorem tw_492 : (.code yX10_begin cX10_begin 3 none : Cond) ∈ ab_TS := ab_TS_in (tk_3 _ (List.mem_of_getElem? (i := 177) (by decide +kernel))) (by decide +kernel)
theorem tw_493 : (.code yX10_deedAt cX10_deedAt 2 (some (.object "BackwardYears$Deed")) : Cond) ∈ ab_TS := ab_TS_in (tk_3 _ (List.mem_of_getElem? (i := 189) (by decide +kernel))) (by decide +kernel)
theorem tw_494 : (.code yX10_evenPlace cX10_evenPlace 5 none : Cond) ∈ ab_TS := ab_TS_in (tk_3 _ (List.mem_of_getElem? (i := 185) (by decide +kernel))) (by decide +kernel)
theorem tw_495 : (.code yX10_evenYear cX10_evenYear 3 none : Cond) ∈ ab_TS := ab_TS_in (tk_3 _ (List.mem_of_getElem? (i := 181) (by decide +kernel))) (by decide +kernel)
theorem tw_496 : (.code yX10_fate cX10_fate 2 (some .int) : Cond) ∈ ab_TS := ab_TS_in (tk_4 _ (List.mem_of_getElem? (i := 29) (by decide +kernel))) (by decide +kernel)
theorem tw_497 : (.code yX10_has cX10_has 2 (some .boolean) : Cond) ∈ ab_TS := ab_TS_in (tk_3 _ (List.mem_of_getElem? (i := 208) (by decide +kernel))) (by decide +kernel)
theorem tw_498 : (.code yX10_init cX10_init 1 none : Cond) ∈ ab_TS := ab_TS_in (tk_1 _ (List.mem_of_getElem? (i := 77) (by decide +kernel))) (by decide +kernel)
theorem tw_499 : (.code yX10_leastNails cX10_leastNails 6 (some .int) : Cond) ∈ ab_TS := ab_TS_in (tk_4 _ (List.mem_of_getElem? (i := 44) (by decide +kernel))) (by decide +kernel)
theorem tw_500 : (.code yX10_letFall cX10_letFall 5 none : Cond) ∈ ab_TS := ab_TS_in (tk_3 _ (List.mem_of_getElem? (i := 236) (by decide +kernel))) (by decide +kernel)
theorem tw_501 : (.code yX10_nailAt cX10_nailAt 3 none : Cond) ∈ ab_TS := ab_TS_in (tk_3 _ (List.mem_of_getElem? (i := 212) (by decide +kernel))) (by decide +kernel)
theorem tw_502 : (.code yX10_oddYear cX10_oddYear 2 none : Cond) ∈ ab_TS := ab_TS_in (tk_3 _ (List.mem_of_getElem? (i := 220) (by decide +kernel))) (by decide +kernel)
theorem tw_503 : (.code yX10_open cX10_open 2 none : Cond) ∈ ab_TS := ab_TS_in (tk_3 _ (List.mem_of_getElem? (i := 165) (by decide +kernel))) (by decide +kernel)
theorem tw_504 : (.code yX10_play cX10_play 2 none : Cond) ∈ ab_TS := ab_TS_in (tk_3 _ (List.mem_of_getElem? (i := 173) (by decide +kernel))) (by decide +kernel)
theorem tw_505 : (.code yX10_standing cX10_standing 1 (some .int) : Cond) ∈ ab_TS := ab_TS_in (tk_4 _ (List.mem_of_getElem? (i := 5) (by decide +kernel))) (by decide +kernel)
theorem tw_506 : (.code yX10_stays cX10_stays 5 (some .boolean) : Cond) ∈ ab_TS := ab_TS_in (tk_3 _ (List.mem_of_getElem? (i := 224) (by decide +kernel))) (by decide +kernel)
theorem tw_507 : (.code yX10_undo cX10_undo 3 none : Cond) ∈ ab_TS := ab_TS_in (tk_3 _ (List.mem_of_getElem? (i := 229) (by decide +kernel))) (by decide +kernel)
theorem tw_508 : (.code yX11_addMoves cX11_addMoves 5 none : Cond) ∈ ab_TS := ab_TS_in (tk_4 _ (List.mem_of_getElem? (i := 93) (by decide +kernel))) (by decide +kernel)
theorem tw_509 : (.initialized RX11 : Cond) ∈ ab_TS := ab_TS_in (tk_1 _ (List.mem_of_getElem? (i := 1) (by decide +kernel))) (by decide +kernel)
theorem tw_510 : (.code yX11_areMarks cX11_areMarks 1 (some .boolean) : Cond) ∈ ab_TS := ab_TS_in (tk_4 _ (List.mem_of_getElem? (i := 40) (by decide +kernel))) (by decide +kernel)
theorem tw_511 : (.code yX11_areNails cX11_areNails 1 (some .boolean) : Cond) ∈ ab_TS := ab_TS_in (tk_3 _ (List.mem_of_getElem? (i := 152) (by decide +kernel))) (by decide +kernel)
theorem tw_512 : (.code yX11_areWorths cX11_areWorths 3 (some .boolean) : Cond) ∈ ab_TS := ab_TS_in (tk_4 _ (List.mem_of_getElem? (i := 84) (by decide +kernel))) (by decide +kernel)
theorem tw_513 : (.code yX11_at cX11_at 2 (some .int) : Cond) ∈ ab_TS := ab_TS_in (tk_1 _ (List.mem_of_getElem? (i := 228) (by decide +kernel))) (by decide +kernel)
theorem tw_514 : (.code yX11_behind cX11_behind 5 (some .int) : Cond) ∈ ab_TS := ab_TS_in (tk_4 _ (List.mem_of_getElem? (i := 33) (by decide +kernel))) (by decide +kernel)
theorem tw_515 : (.code yX11_bestMove cX11_bestMove 8 (some .int) : Cond) ∈ ab_TS := ab_TS_in (tk_4 _ (List.mem_of_getElem? (i := 97) (by decide +kernel))) (by decide +kernel)
theorem tw_516 : (.code yX11_byLaw cX11_byLaw 5 (some .int) : Cond) ∈ ab_TS := ab_TS_in (tk_4 _ (List.mem_of_getElem? (i := 146) (by decide +kernel))) (by decide +kernel)
theorem tw_517 : (.code yX11_care cX11_care 4 (some .int) : Cond) ∈ ab_TS := ab_TS_in (tk_4 _ (List.mem_of_getElem? (i := 233) (by decide +kernel))) (by decide +kernel)
theorem tw_518 : (.code yX11_copy cX11_copy 8 (some .int) : Cond) ∈ ab_TS := ab_TS_in (tk_4 _ (List.mem_of_getElem? (i := 221) (by decide +kernel))) (by decide +kernel)
theorem tw_519 : (.code yX11_count cX11_count 4 (some .int) : Cond) ∈ ab_TS := ab_TS_in (tk_4 _ (List.mem_of_getElem? (i := 188) (by decide +kernel))) (by decide +kernel)
theorem tw_520 : (.code yX11_counted cX11_counted 3 (some .int) : Cond) ∈ ab_TS := ab_TS_in (tk_4 _ (List.mem_of_getElem? (i := 192) (by decide +kernel))) (by decide +kernel)
theorem tw_521 : (.code yX11_deed cX11_deed 4 (some .int) : Cond) ∈ ab_TS := ab_TS_in (tk_3 _ (List.mem_of_getElem? (i := 93) (by decide +kernel))) (by decide +kernel)
theorem tw_522 : (.code yX11_drawn cX11_drawn 2 (some .int) : Cond) ∈ ab_TS := ab_TS_in (tk_4 _ (List.mem_of_getElem? (i := 161) (by decide +kernel))) (by decide +kernel)
theorem tw_523 : (.code yX11_element cX11_element 4 (some .long) : Cond) ∈ ab_TS := ab_TS_in (tk_5 _ (List.mem_of_getElem? (i := 90) (by decide +kernel))) (by decide +kernel)
theorem tw_524 : (.code yX11_endYears cX11_endYears 2 none : Cond) ∈ ab_TS := ab_TS_in (tk_4 _ (List.mem_of_getElem? (i := 1) (by decide +kernel))) (by decide +kernel)
theorem tw_525 : (.code yX11_endedSoBefore cX11_endedSoBefore 3 (some .boolean) : Cond) ∈ ab_TS := ab_TS_in (tk_4 _ (List.mem_of_getElem? (i := 116) (by decide +kernel))) (by decide +kernel)
theorem tw_526 : (.code yX11_even cX11_even 3 (some .int) : Cond) ∈ ab_TS := ab_TS_in (tk_4 _ (List.mem_of_getElem? (i := 15) (by decide +kernel))) (by decide +kernel)
theorem tw_527 : (.code yX11_ever cX11_ever 5 (some .int) : Cond) ∈ ab_TS := ab_TS_in (tk_4 _ (List.mem_of_getElem? (i := 120) (by decide +kernel))) (by decide +kernel)
theorem tw_528 : (.code yX11_firstWrong cX11_firstWrong 5 (some .int) : Cond) ∈ ab_TS := ab_TS_in (tk_4 _ (List.mem_of_getElem? (i := 171) (by decide +kernel))) (by decide +kernel)
theorem tw_529 : (.code yX11_free cX11_free 6 (some .int) : Cond) ∈ ab_TS := ab_TS_in (tk_4 _ (List.mem_of_getElem? (i := 50) (by decide +kernel))) (by decide +kernel)
theorem tw_530 : (.code yX11_freest cX11_freest 9 (some .int) : Cond) ∈ ab_TS := ab_TS_in (tk_4 _ (List.mem_of_getElem? (i := 54) (by decide +kernel))) (by decide +kernel)
theorem tw_531 : (.code yX11_help cX11_help 4 (some .int) : Cond) ∈ ab_TS := ab_TS_in (tk_4 _ (List.mem_of_getElem? (i := 125) (by decide +kernel))) (by decide +kernel)
theorem tw_532 : (.code yX11_image cX11_image 1 (some .int) : Cond) ∈ ab_TS := ab_TS_in (tk_4 _ (List.mem_of_getElem? (i := 180) (by decide +kernel))) (by decide +kernel)
theorem tw_533 : (.code yX11_init cX11_init 2 none : Cond) ∈ ab_TS := ab_TS_in (tk_1 _ (List.mem_of_getElem? (i := 26) (by decide +kernel))) (by decide +kernel)
theorem tw_534 : (.code yX11_judge cX11_judge 6 (some .int) : Cond) ∈ ab_TS := ab_TS_in (tk_4 _ (List.mem_of_getElem? (i := 167) (by decide +kernel))) (by decide +kernel)
theorem tw_535 : (.code yX11_keep cX11_keep 6 (some .int) : Cond) ∈ ab_TS := ab_TS_in (tk_4 _ (List.mem_of_getElem? (i := 196) (by decide +kernel))) (by decide +kernel)
theorem tw_536 : (.code yX11_lasts cX11_lasts 5 (some .int) : Cond) ∈ ab_TS := ab_TS_in (tk_4 _ (List.mem_of_getElem? (i := 21) (by decide +kernel))) (by decide +kernel)
theorem tw_537 : (.code yX11_least cX11_least 6 (some .int) : Cond) ∈ ab_TS := ab_TS_in (tk_4 _ (List.mem_of_getElem? (i := 37) (by decide +kernel))) (by decide +kernel)
theorem tw_538 : (.code yX11_listMoves cX11_listMoves 3 none : Cond) ∈ ab_TS := ab_TS_in (tk_4 _ (List.mem_of_getElem? (i := 89) (by decide +kernel))) (by decide +kernel)
theorem tw_539 : (.code yX11_listRefusal cX11_listRefusal 5 (some .int) : Cond) ∈ ab_TS := ab_TS_in (tk_3 _ (List.mem_of_getElem? (i := 160) (by decide +kernel))) (by decide +kernel)
theorem tw_540 : (.code yX11_marks cX11_marks 1 (some .int) : Cond) ∈ ab_TS := ab_TS_in (tk_3 _ (List.mem_of_getElem? (i := 98) (by decide +kernel))) (by decide +kernel)
theorem tw_541 : (.code yX11_may cX11_may 3 (some .int) : Cond) ∈ ab_TS := ab_TS_in (tk_3 _ (List.mem_of_getElem? (i := 117) (by decide +kernel))) (by decide +kernel)
theorem tw_542 : (.code yX11_month cX11_month 3 (some .int) : Cond) ∈ ab_TS := ab_TS_in (tk_4 _ (List.mem_of_getElem? (i := 137) (by decide +kernel))) (by decide +kernel)
theorem tw_543 : (.code yX11_nail cX11_nail 2 (some .int) : Cond) ∈ ab_TS := ab_TS_in (tk_4 _ (List.mem_of_getElem? (i := 142) (by decide +kernel))) (by decide +kernel)
theorem tw_544 : (.code yX11_nextOrder cX11_nextOrder 6 (some .boolean) : Cond) ∈ ab_TS := ab_TS_in (tk_4 _ (List.mem_of_getElem? (i := 67) (by decide +kernel))) (by decide +kernel)
theorem tw_545 : (.code yX11_nextSeed cX11_nextSeed 1 (some .int) : Cond) ∈ ab_TS := ab_TS_in (tk_4 _ (List.mem_of_getElem? (i := 157) (by decide +kernel))) (by decide +kernel)
theorem tw_546 : (.code yX11_orderDigits cX11_orderDigits 4 (some .int) : Cond) ∈ ab_TS := ab_TS_in (tk_4 _ (List.mem_of_getElem? (i := 63) (by decide +kernel))) (by decide +kernel)
theorem tw_547 : (.code yX11_pair cX11_pair 4 (some .int) : Cond) ∈ ab_TS := ab_TS_in (tk_3 _ (List.mem_of_getElem? (i := 145) (by decide +kernel))) (by decide +kernel)
theorem tw_548 : (.code yX11_plan cX11_plan 7 (some .int) : Cond) ∈ ab_TS := ab_TS_in (tk_4 _ (List.mem_of_getElem? (i := 76) (by decide +kernel))) (by decide +kernel)
theorem tw_549 : (.code yX11_playList cX11_playList 4 (some .int) : Cond) ∈ ab_TS := ab_TS_in (tk_3 _ (List.mem_of_getElem? (i := 149) (by decide +kernel))) (by decide +kernel)
theorem tw_550 : (.code yX11_playMove cX11_playMove 4 none : Cond) ∈ ab_TS := ab_TS_in (tk_4 _ (List.mem_of_getElem? (i := 105) (by decide +kernel))) (by decide +kernel)
theorem tw_551 : (.code yX11_playSeeds cX11_playSeeds 8 (some .int) : Cond) ∈ ab_TS := ab_TS_in (tk_4 _ (List.mem_of_getElem? (i := 154) (by decide +kernel))) (by decide +kernel)
theorem tw_552 : (.code yX11_playTwo cX11_playTwo 8 (some .int) : Cond) ∈ ab_TS := ab_TS_in (tk_4 _ (List.mem_of_getElem? (i := 133) (by decide +kernel))) (by decide +kernel)
theorem tw_553 : (.code yX11_put cX11_put 6 (some .int) : Cond) ∈ ab_TS := ab_TS_in (tk_4 _ (List.mem_of_getElem? (i := 212) (by decide +kernel))) (by decide +kernel)
theorem tw_554 : (.code yX11_restore cX11_restore 1 (some .int) : Cond) ∈ ab_TS := ab_TS_in (tk_4 _ (List.mem_of_getElem? (i := 184) (by decide +kernel))) (by decide +kernel)
theorem tw_555 : (.code yX11_rise cX11_rise 1 (some .int) : Cond) ∈ ab_TS := ab_TS_in (tk_3 _ (List.mem_of_getElem? (i := 106) (by decide +kernel))) (by decide +kernel)
theorem tw_556 : (.code yX11_row cX11_row 5 (some .int) : Cond) ∈ ab_TS := ab_TS_in (tk_4 _ (List.mem_of_getElem? (i := 204) (by decide +kernel))) (by decide +kernel)
theorem tw_557 : (.code yX11_seeded cX11_seeded 5 (some .int) : Cond) ∈ ab_TS := ab_TS_in (tk_4 _ (List.mem_of_getElem? (i := 150) (by decide +kernel))) (by decide +kernel)
theorem tw_558 : (.code yX11_set cX11_set 3 (some .int) : Cond) ∈ ab_TS := ab_TS_in (tk_3 _ (List.mem_of_getElem? (i := 110) (by decide +kernel))) (by decide +kernel)
theorem tw_559 : (.code yX11_shelfAt cX11_shelfAt 2 (some (.object "BackwardYears$Shelf")) : Cond) ∈ ab_TS := ab_TS_in (tk_1 _ (List.mem_of_getElem? (i := 194) (by decide +kernel))) (by decide +kernel)
theorem tw_560 : (.code yX11_state cX11_state 2 (some .int) : Cond) ∈ ab_TS := ab_TS_in (tk_3 _ (List.mem_of_getElem? (i := 102) (by decide +kernel))) (by decide +kernel)
theorem tw_561 : (.code yX11_store cX11_store 3 none : Cond) ∈ ab_TS := ab_TS_in (tk_3 _ (List.mem_of_getElem? (i := 205) (by decide +kernel))) (by decide +kernel)
theorem tw_562 : (.code yX11_swapPlaces cX11_swapPlaces 4 none : Cond) ∈ ab_TS := ab_TS_in (tk_4 _ (List.mem_of_getElem? (i := 71) (by decide +kernel))) (by decide +kernel)
theorem tw_563 : (.code yX11_takeList cX11_takeList 5 (some .int) : Cond) ∈ ab_TS := ab_TS_in (tk_3 _ (List.mem_of_getElem? (i := 156) (by decide +kernel))) (by decide +kernel)
theorem tw_564 : (.code yX11_takeOrder cX11_takeOrder 3 none : Cond) ∈ ab_TS := ab_TS_in (tk_4 _ (List.mem_of_getElem? (i := 58) (by decide +kernel))) (by decide +kernel)
theorem tw_565 : (.code yX11_town cX11_town 5 (some .int) : Cond) ∈ ab_TS := ab_TS_in (tk_1 _ (List.mem_of_getElem? (i := 190) (by decide +kernel))) (by decide +kernel)
theorem tw_566 : (.code yX11_two cX11_two 10 (some .int) : Cond) ∈ ab_TS := ab_TS_in (tk_4 _ (List.mem_of_getElem? (i := 129) (by decide +kernel))) (by decide +kernel)
theorem tw_567 : (.code yX11_why cX11_why 5 (some .int) : Cond) ∈ ab_TS := ab_TS_in (tk_4 _ (List.mem_of_getElem? (i := 25) (by decide +kernel))) (by decide +kernel)
theorem tw_568 : (.code yX11_worthOfMarks cX11_worthOfMarks 4 (some .int) : Cond) ∈ ab_TS := ab_TS_in (tk_4 _ (List.mem_of_getElem? (i := 109) (by decide +kernel))) (by decide +kernel)
theorem tw_569 : (.code yX11_worthOfMove cX11_worthOfMove 8 (some .int) : Cond) ∈ ab_TS := ab_TS_in (tk_4 _ (List.mem_of_getElem? (i := 101) (by decide +kernel))) (by decide +kernel)
theorem tw_570 : (.code yX12_areNails cX12_areNails 1 (some .boolean) : Cond) ∈ ab_TS := ab_TS_in (tk_6 _ (List.mem_of_getElem? (i := 114) (by decide +kernel))) (by decide +kernel)
theorem tw_571 : (.initialized RX12 : Cond) ∈ ab_TS := ab_TS_in (tk_1 _ (List.mem_of_getElem? (i := 5) (by decide +kernel))) (by decide +kernel)
theorem tw_572 : (.code yX12_backOf cX12_backOf 2 (some .int) : Cond) ∈ ab_TS := ab_TS_in (tk_6 _ (List.mem_of_getElem? (i := 75) (by decide +kernel))) (by decide +kernel)
theorem tw_573 : (.code yX12_begins cX12_begins 1 none : Cond) ∈ ab_TS := ab_TS_in (tk_6 _ (List.mem_of_getElem? (i := 127) (by decide +kernel))) (by decide +kernel)
theorem tw_574 : (.code yX12_behind cX12_behind 5 (some .int) : Cond) ∈ ab_TS := ab_TS_in (tk_6 _ (List.mem_of_getElem? (i := 187) (by decide +kernel))) (by decide +kernel)
theorem tw_575 : (.code yX12_bits cX12_bits 3 (some .int) : Cond) ∈ ab_TS := ab_TS_in (tk_6 _ (List.mem_of_getElem? (i := 199) (by decide +kernel))) (by decide +kernel)
theorem tw_576 : (.code yX12_byLaw cX12_byLaw 6 (some .int) : Cond) ∈ ab_TS := ab_TS_in (tk_7 _ (List.mem_of_getElem? (i := 12) (by decide +kernel))) (by decide +kernel)
theorem tw_577 : (.code yX12_care cX12_care 3 (some .int) : Cond) ∈ ab_TS := ab_TS_in (tk_7 _ (List.mem_of_getElem? (i := 74) (by decide +kernel))) (by decide +kernel)
theorem tw_578 : (.code yX12_careOf cX12_careOf 3 (some .int) : Cond) ∈ ab_TS := ab_TS_in (tk_7 _ (List.mem_of_getElem? (i := 54) (by decide +kernel))) (by decide +kernel)
theorem tw_579 : (.code yX12_comes cX12_comes 4 (some .boolean) : Cond) ∈ ab_TS := ab_TS_in (tk_6 _ (List.mem_of_getElem? (i := 54) (by decide +kernel))) (by decide +kernel)
theorem tw_580 : (.code yX12_copy cX12_copy 8 (some .int) : Cond) ∈ ab_TS := ab_TS_in (tk_7 _ (List.mem_of_getElem? (i := 70) (by decide +kernel))) (by decide +kernel)
theorem tw_581 : (.code yX12_costOf cX12_costOf 3 (some .int) : Cond) ∈ ab_TS := ab_TS_in (tk_6 _ (List.mem_of_getElem? (i := 71) (by decide +kernel))) (by decide +kernel)
theorem tw_582 : (.code yX12_count cX12_count 4 (some .int) : Cond) ∈ ab_TS := ab_TS_in (tk_7 _ (List.mem_of_getElem? (i := 45) (by decide +kernel))) (by decide +kernel)
theorem tw_583 : (.code yX12_deed cX12_deed 3 (some .int) : Cond) ∈ ab_TS := ab_TS_in (tk_6 _ (List.mem_of_getElem? (i := 58) (by decide +kernel))) (by decide +kernel)
theorem tw_584 : (.code yX12_drawn cX12_drawn 2 (some .int) : Cond) ∈ ab_TS := ab_TS_in (tk_7 _ (List.mem_of_getElem? (i := 21) (by decide +kernel))) (by decide +kernel)
theorem tw_585 : (.code yX12_element cX12_element 3 (some .long) : Cond) ∈ ab_TS := ab_TS_in (tk_7 _ (List.mem_of_getElem? (i := 66) (by decide +kernel))) (by decide +kernel)
theorem tw_586 : (.code yX12_even cX12_even 5 (some .int) : Cond) ∈ ab_TS := ab_TS_in (tk_6 _ (List.mem_of_getElem? (i := 171) (by decide +kernel))) (by decide +kernel)
theorem tw_587 : (.code yX12_evenYear cX12_evenYear 4 none : Cond) ∈ ab_TS := ab_TS_in (tk_6 _ (List.mem_of_getElem? (i := 135) (by decide +kernel))) (by decide +kernel)
theorem tw_588 : (.code yX12_ever cX12_ever 5 (some .int) : Cond) ∈ ab_TS := ab_TS_in (tk_6 _ (List.mem_of_getElem? (i := 232) (by decide +kernel))) (by decide +kernel)
theorem tw_589 : (.code yX12_falls cX12_falls 3 none : Cond) ∈ ab_TS := ab_TS_in (tk_6 _ (List.mem_of_getElem? (i := 163) (by decide +kernel))) (by decide +kernel)
theorem tw_590 : (.code yX12_finds cX12_finds 3 (some .boolean) : Cond) ∈ ab_TS := ab_TS_in (tk_6 _ (List.mem_of_getElem? (i := 196) (by decide +kernel))) (by decide +kernel)
theorem tw_591 : (.code yX12_free cX12_free 5 (some .int) : Cond) ∈ ab_TS := ab_TS_in (tk_6 _ (List.mem_of_getElem? (i := 203) (by decide +kernel))) (by decide +kernel)
theorem tw_592 : (.code yX12_get cX12_get 3 (some .int) : Cond) ∈ ab_TS := ab_TS_in (tk_6 _ (List.mem_of_getElem? (i := 67) (by decide +kernel))) (by decide +kernel)
theorem tw_593 : (.code yX12_help cX12_help 3 (some .int) : Cond) ∈ ab_TS := ab_TS_in (tk_6 _ (List.mem_of_getElem? (i := 236) (by decide +kernel))) (by decide +kernel)
theorem tw_594 : (.code yX12_here cX12_here 1 (some .int) : Cond) ∈ ab_TS := ab_TS_in (tk_6 _ (List.mem_of_getElem? (i := 26) (by decide +kernel))) (by decide +kernel)
theorem tw_595 : (.code yX12_holds cX12_holds 2 (some .boolean) : Cond) ∈ ab_TS := ab_TS_in (tk_6 _ (List.mem_of_getElem? (i := 155) (by decide +kernel))) (by decide +kernel)
theorem tw_596 : (.code yX12_image cX12_image 2 (some .int) : Cond) ∈ ab_TS := ab_TS_in (tk_7 _ (List.mem_of_getElem? (i := 37) (by decide +kernel))) (by decide +kernel)
theorem tw_597 : (.code yX12_init cX12_init 1 none : Cond) ∈ ab_TS := ab_TS_in (tk_5 _ (List.mem_of_getElem? (i := 114) (by decide +kernel))) (by decide +kernel)
theorem tw_598 : (.code yX12_isDeed cX12_isDeed 2 (some .boolean) : Cond) ∈ ab_TS := ab_TS_in (tk_6 _ (List.mem_of_getElem? (i := 62) (by decide +kernel))) (by decide +kernel)
theorem tw_599 : (.code yX12_isDigit cX12_isDigit 1 (some .boolean) : Cond) ∈ ab_TS := ab_TS_in (tk_6 _ (List.mem_of_getElem? (i := 38) (by decide +kernel))) (by decide +kernel)
theorem tw_600 : (.code yX12_isHeld cX12_isHeld 3 (some .boolean) : Cond) ∈ ab_TS := ab_TS_in (tk_6 _ (List.mem_of_getElem? (i := 151) (by decide +kernel))) (by decide +kernel)
theorem tw_601 : (.code yX12_isIn cX12_isIn 6 (some .boolean) : Cond) ∈ ab_TS := ab_TS_in (tk_6 _ (List.mem_of_getElem? (i := 18) (by decide +kernel))) (by decide +kernel)
theorem tw_602 : (.code yX12_isKept cX12_isKept 3 (some .boolean) : Cond) ∈ ab_TS := ab_TS_in (tk_6 _ (List.mem_of_getElem? (i := 79) (by decide +kernel))) (by decide +kernel)
theorem tw_603 : (.code yX12_isMark cX12_isMark 1 (some .boolean) : Cond) ∈ ab_TS := ab_TS_in (tk_6 _ (List.mem_of_getElem? (i := 178) (by decide +kernel))) (by decide +kernel)
theorem tw_604 : (.code yX12_isShelf cX12_isShelf 1 (some .boolean) : Cond) ∈ ab_TS := ab_TS_in (tk_6 _ (List.mem_of_getElem? (i := 14) (by decide +kernel))) (by decide +kernel)
theorem tw_605 : (.code yX12_judge cX12_judge 7 (some .int) : Cond) ∈ ab_TS := ab_TS_in (tk_7 _ (List.mem_of_getElem? (i := 28) (by decide +kernel))) (by decide +kernel)
theorem tw_606 : (.code yX12_keep cX12_keep 5 (some .int) : Cond) ∈ ab_TS := ab_TS_in (tk_7 _ (List.mem_of_getElem? (i := 50) (by decide +kernel))) (by decide +kernel)
theorem tw_607 : (.code yX12_lasts cX12_lasts 5 (some .int) : Cond) ∈ ab_TS := ab_TS_in (tk_6 _ (List.mem_of_getElem? (i := 175) (by decide +kernel))) (by decide +kernel)
theorem tw_608 : (.code yX12_lays cX12_lays 4 none : Cond) ∈ ab_TS := ab_TS_in (tk_6 _ (List.mem_of_getElem? (i := 123) (by decide +kernel))) (by decide +kernel)
theorem tw_609 : (.code yX12_least cX12_least 5 (some .int) : Cond) ∈ ab_TS := ab_TS_in (tk_6 _ (List.mem_of_getElem? (i := 191) (by decide +kernel))) (by decide +kernel)
theorem tw_610 : (.code yX12_leastOf cX12_leastOf 2 (some .int) : Cond) ∈ ab_TS := ab_TS_in (tk_7 _ (List.mem_of_getElem? (i := 32) (by decide +kernel))) (by decide +kernel)
theorem tw_611 : (.code yX12_lines cX12_lines 7 none : Cond) ∈ ab_TS := ab_TS_in (tk_6 _ (List.mem_of_getElem? (i := 207) (by decide +kernel))) (by decide +kernel)
theorem tw_612 : (.code yX12_marks cX12_marks 1 (some .int) : Cond) ∈ ab_TS := ab_TS_in (tk_6 _ (List.mem_of_getElem? (i := 83) (by decide +kernel))) (by decide +kernel)
theorem tw_613 : (.code yX12_marksBy cX12_marksBy 4 (some .int) : Cond) ∈ ab_TS := ab_TS_in (tk_6 _ (List.mem_of_getElem? (i := 139) (by decide +kernel))) (by decide +kernel)
theorem tw_614 : (.code yX12_may cX12_may 2 (some .int) : Cond) ∈ ab_TS := ab_TS_in (tk_6 _ (List.mem_of_getElem? (i := 103) (by decide +kernel))) (by decide +kernel)
theorem tw_615 : (.code yX12_mayBy cX12_mayBy 4 (some .boolean) : Cond) ∈ ab_TS := ab_TS_in (tk_6 _ (List.mem_of_getElem? (i := 107) (by decide +kernel))) (by decide +kernel)
theorem tw_616 : (.code yX12_month cX12_month 3 (some .int) : Cond) ∈ ab_TS := ab_TS_in (tk_7 _ (List.mem_of_getElem? (i := 4) (by decide +kernel))) (by decide +kernel)
theorem tw_617 : (.code yX12_nail cX12_nail 2 (some .int) : Cond) ∈ ab_TS := ab_TS_in (tk_7 _ (List.mem_of_getElem? (i := 8) (by decide +kernel))) (by decide +kernel)
theorem tw_618 : (.code yX12_oddYear cX12_oddYear 2 none : Cond) ∈ ab_TS := ab_TS_in (tk_6 _ (List.mem_of_getElem? (i := 147) (by decide +kernel))) (by decide +kernel)
theorem tw_619 : (.code yX12_pair cX12_pair 4 (some .int) : Cond) ∈ ab_TS := ab_TS_in (tk_6 _ (List.mem_of_getElem? (i := 111) (by decide +kernel))) (by decide +kernel)
theorem tw_620 : (.code yX12_pairOf cX12_pairOf 1 none : Cond) ∈ ab_TS := ab_TS_in (tk_6 _ (List.mem_of_getElem? (i := 131) (by decide +kernel))) (by decide +kernel)
theorem tw_621 : (.code yX12_plan cX12_plan 6 (some .int) : Cond) ∈ ab_TS := ab_TS_in (tk_6 _ (List.mem_of_getElem? (i := 211) (by decide +kernel))) (by decide +kernel)
theorem tw_622 : (.code yX12_plans cX12_plans 7 none : Cond) ∈ ab_TS := ab_TS_in (tk_6 _ (List.mem_of_getElem? (i := 220) (by decide +kernel))) (by decide +kernel)
theorem tw_623 : (.code yX12_priceOf cX12_priceOf 3 (some .int) : Cond) ∈ ab_TS := ab_TS_in (tk_6 _ (List.mem_of_getElem? (i := 143) (by decide +kernel))) (by decide +kernel)
theorem tw_624 : (.code yX12_put cX12_put 5 (some .int) : Cond) ∈ ab_TS := ab_TS_in (tk_7 _ (List.mem_of_getElem? (i := 62) (by decide +kernel))) (by decide +kernel)
theorem tw_625 : (.code yX12_readsDeed cX12_readsDeed 2 (some .boolean) : Cond) ∈ ab_TS := ab_TS_in (tk_6 _ (List.mem_of_getElem? (i := 30) (by decide +kernel))) (by decide +kernel)
theorem tw_626 : (.code yX12_readsMark cX12_readsMark 1 (some .boolean) : Cond) ∈ ab_TS := ab_TS_in (tk_6 _ (List.mem_of_getElem? (i := 49) (by decide +kernel))) (by decide +kernel)
theorem tw_627 : (.code yX12_readsNumber cX12_readsNumber 4 (some .boolean) : Cond) ∈ ab_TS := ab_TS_in (tk_6 _ (List.mem_of_getElem? (i := 34) (by decide +kernel))) (by decide +kernel)
theorem tw_628 : (.code yX12_readsStatement cX12_readsStatement 4 (some .boolean) : Cond) ∈ ab_TS := ab_TS_in (tk_6 _ (List.mem_of_getElem? (i := 22) (by decide +kernel))) (by decide +kernel)
theorem tw_629 : (.code yX12_restore cX12_restore 2 (some .int) : Cond) ∈ ab_TS := ab_TS_in (tk_7 _ (List.mem_of_getElem? (i := 41) (by decide +kernel))) (by decide +kernel)
theorem tw_630 : (.code yX12_rise cX12_rise 1 (some .int) : Cond) ∈ ab_TS := ab_TS_in (tk_6 _ (List.mem_of_getElem? (i := 92) (by decide +kernel))) (by decide +kernel)
theorem tw_631 : (.code yX12_row cX12_row 5 (some .int) : Cond) ∈ ab_TS := ab_TS_in (tk_7 _ (List.mem_of_getElem? (i := 58) (by decide +kernel))) (by decide +kernel)
theorem tw_632 : (.code yX12_seeded cX12_seeded 6 (some .int) : Cond) ∈ ab_TS := ab_TS_in (tk_7 _ (List.mem_of_getElem? (i := 16) (by decide +kernel))) (by decide +kernel)
theorem tw_633 : (.code yX12_set cX12_set 5 (some .int) : Cond) ∈ ab_TS := ab_TS_in (tk_6 _ (List.mem_of_getElem? (i := 96) (by decide +kernel))) (by decide +kernel)
theorem tw_634 : (.code yX12_standing cX12_standing 3 (some .int) : Cond) ∈ ab_TS := ab_TS_in (tk_6 _ (List.mem_of_getElem? (i := 167) (by decide +kernel))) (by decide +kernel)
theorem tw_635 : (.code yX12_state cX12_state 2 (some .int) : Cond) ∈ ab_TS := ab_TS_in (tk_6 _ (List.mem_of_getElem? (i := 87) (by decide +kernel))) (by decide +kernel)
theorem tw_636 : (.code yX12_takes cX12_takes 2 (some .boolean) : Cond) ∈ ab_TS := ab_TS_in (tk_6 _ (List.mem_of_getElem? (i := 45) (by decide +kernel))) (by decide +kernel)
theorem tw_637 : (.code yX12_thrown cX12_thrown 1 (some .int) : Cond) ∈ ab_TS := ab_TS_in (tk_6 _ (List.mem_of_getElem? (i := 3) (by decide +kernel))) (by decide +kernel)
theorem tw_638 : (.code yX12_toss cX12_toss 3 (some .int) : Cond) ∈ ab_TS := ab_TS_in (tk_7 _ (List.mem_of_getElem? (i := 82) (by decide +kernel))) (by decide +kernel)
theorem tw_639 : (.code yX12_town cX12_town 7 (some .int) : Cond) ∈ ab_TS := ab_TS_in (tk_6 _ (List.mem_of_getElem? (i := 7) (by decide +kernel))) (by decide +kernel)
theorem tw_640 : (.code yX12_tries cX12_tries 12 none : Cond) ∈ ab_TS := ab_TS_in (tk_6 _ (List.mem_of_getElem? (i := 224) (by decide +kernel))) (by decide +kernel)
theorem tw_641 : (.code yX12_two cX12_two 10 (some .int) : Cond) ∈ ab_TS := ab_TS_in (tk_7 _ (List.mem_of_getElem? (i := 0) (by decide +kernel))) (by decide +kernel)
theorem tw_642 : (.code yX12_undoes cX12_undoes 3 none : Cond) ∈ ab_TS := ab_TS_in (tk_6 _ (List.mem_of_getElem? (i := 159) (by decide +kernel))) (by decide +kernel)
theorem tw_643 : (.code yX12_why cX12_why 5 (some .int) : Cond) ∈ ab_TS := ab_TS_in (tk_6 _ (List.mem_of_getElem? (i := 183) (by decide +kernel))) (by decide +kernel)
theorem tw_644 : (.code yX12_worthOf cX12_worthOf 5 (some .long) : Cond) ∈ ab_TS := ab_TS_in (tk_6 _ (List.mem_of_getElem? (i := 228) (by decide +kernel))) (by decide +kernel)
theorem tw_645 : (.code yX12_wrongKept cX12_wrongKept 2 (some .int) : Cond) ∈ ab_TS := ab_TS_in (tk_7 _ (List.mem_of_getElem? (i := 78) (by decide +kernel))) (by decide +kernel)
theorem tw_646 : (.code yX12_wrongList cX12_wrongList 4 (some .int) : Cond) ∈ ab_TS := ab_TS_in (tk_6 _ (List.mem_of_getElem? (i := 119) (by decide +kernel))) (by decide +kernel)
theorem tw_647 : (.code yX12_wrongRow cX12_wrongRow 3 (some .int) : Cond) ∈ ab_TS := ab_TS_in (tk_6 _ (List.mem_of_getElem? (i := 11) (by decide +kernel))) (by decide +kernel)
theorem tw_648 : (.code yX1_fail cX1_fail 1 none : Cond) ∈ ab_TS := ab_TS_in (tk_5 _ (List.mem_of_getElem? (i := 14) (by decide +kernel))) (by decide +kernel)
theorem tw_649 : (.initialized RX1 : Cond) ∈ ab_TS := ab_TS_in (tk_1 _ (List.mem_of_getElem? (i := 6) (by decide +kernel))) (by decide +kernel)
theorem tw_650 : (.code yX1_hasGround cX1_hasGround 2 (some .boolean) : Cond) ∈ ab_TS := ab_TS_in (tk_3 _ (List.mem_of_getElem? (i := 141) (by decide +kernel))) (by decide +kernel)
theorem tw_651 : (.code yX1_init cX1_init 6 none : Cond) ∈ ab_TS := ab_TS_in (tk_2 _ (List.mem_of_getElem? (i := 37) (by decide +kernel))) (by decide +kernel)
theorem tw_652 : (.code yX1_marksBehind cX1_marksBehind 2 (some .int) : Cond) ∈ ab_TS := ab_TS_in (tk_3 _ (List.mem_of_getElem? (i := 202) (by decide +kernel))) (by decide +kernel)
theorem tw_653 : (.code yX1_mayBeDone cX1_mayBeDone 3 (some .boolean) : Cond) ∈ ab_TS := ab_TS_in (tk_3 _ (List.mem_of_getElem? (i := 129) (by decide +kernel))) (by decide +kernel)
theorem tw_654 : (.code yX2_init cX2_init 6 none : Cond) ∈ ab_TS := ab_TS_in (tk_2 _ (List.mem_of_getElem? (i := 205) (by decide +kernel))) (by decide +kernel)
theorem tw_655 : (.initialized RX2 : Cond) ∈ ab_TS := ab_TS_in (tk_1 _ (List.mem_of_getElem? (i := 9) (by decide +kernel))) (by decide +kernel)
theorem tw_656 : (.code yX3_init cX3_init 6 none : Cond) ∈ ab_TS := ab_TS_in (tk_3 _ (List.mem_of_getElem? (i := 28) (by decide +kernel))) (by decide +kernel)
theorem tw_657 : (.initialized RX3 : Cond) ∈ ab_TS := ab_TS_in (tk_1 _ (List.mem_of_getElem? (i := 12) (by decide +kernel))) (by decide +kernel)
theorem tw_658 : (.code yX4_init cX4_init 6 none : Cond) ∈ ab_TS := ab_TS_in (tk_2 _ (List.mem_of_getElem? (i := 163) (by decide +kernel))) (by decide +kernel)
theorem tw_659 : (.initialized RX4 : Cond) ∈ ab_TS := ab_TS_in (tk_1 _ (List.mem_of_getElem? (i := 7) (by decide +kernel))) (by decide +kernel)
theorem tw_660 : (.code yX5_init cX5_init 6 none : Cond) ∈ ab_TS := ab_TS_in (tk_2 _ (List.mem_of_getElem? (i := 226) (by decide +kernel))) (by decide +kernel)
theorem tw_661 : (.initialized RX5 : Cond) ∈ ab_TS := ab_TS_in (tk_1 _ (List.mem_of_getElem? (i := 10) (by decide +kernel))) (by decide +kernel)
theorem tw_662 : (.code yX6_bytesRefusal cX6_bytesRefusal 1 (some .int) : Cond) ∈ ab_TS := ab_TS_in (tk_1 _ (List.mem_of_getElem? (i := 198) (by decide +kernel))) (by decide +kernel)
theorem tw_663 : (.initialized RX6 : Cond) ∈ ab_TS := ab_TS_in (tk_1 _ (List.mem_of_getElem? (i := 4) (by decide +kernel))) (by decide +kernel)
theorem tw_664 : (.code yX6_deedRefusal cX6_deedRefusal 1 (some .int) : Cond) ∈ ab_TS := ab_TS_in (tk_4 _ (List.mem_of_getElem? (i := 237) (by decide +kernel))) (by decide +kernel)
theorem tw_665 : (.code yX6_hasPlace cX6_hasPlace 2 (some .boolean) : Cond) ∈ ab_TS := ab_TS_in (tk_1 _ (List.mem_of_getElem? (i := 225) (by decide +kernel))) (by decide +kernel)
theorem tw_666 : (.code yX6_hasPlaces cX6_hasPlaces 3 (some .boolean) : Cond) ∈ ab_TS := ab_TS_in (tk_4 _ (List.mem_of_getElem? (i := 226) (by decide +kernel))) (by decide +kernel)
theorem tw_667 : (.code yX6_hold cX6_hold 2 none : Cond) ∈ ab_TS := ab_TS_in (tk_4 _ (List.mem_of_getElem? (i := 200) (by decide +kernel))) (by decide +kernel)
theorem tw_668 : (.code yX6_holdRow cX6_holdRow 4 none : Cond) ∈ ab_TS := ab_TS_in (tk_4 _ (List.mem_of_getElem? (i := 208) (by decide +kernel))) (by decide +kernel)
theorem tw_669 : (.code yX6_init cX6_init 1 none : Cond) ∈ ab_TS := ab_TS_in (tk_1 _ (List.mem_of_getElem? (i := 136) (by decide +kernel))) (by decide +kernel)
theorem tw_670 : (.code yX6_isEmpty cX6_isEmpty 1 (some .boolean) : Cond) ∈ ab_TS := ab_TS_in (tk_1 _ (List.mem_of_getElem? (i := 202) (by decide +kernel))) (by decide +kernel)
theorem tw_671 : (.code yX6_leastNumber cX6_leastNumber 1 (some .int) : Cond) ∈ ab_TS := ab_TS_in (tk_4 _ (List.mem_of_getElem? (i := 176) (by decide +kernel))) (by decide +kernel)
theorem tw_672 : (.code yX6_read cX6_read 2 (some .int) : Cond) ∈ ab_TS := ab_TS_in (tk_1 _ (List.mem_of_getElem? (i := 221) (by decide +kernel))) (by decide +kernel)
theorem tw_673 : (.code yX6_rowRefusal cX6_rowRefusal 1 (some .int) : Cond) ∈ ab_TS := ab_TS_in (tk_4 _ (List.mem_of_getElem? (i := 81) (by decide +kernel))) (by decide +kernel)
theorem tw_674 : (.code yX6_write cX6_write 3 (some .boolean) : Cond) ∈ ab_TS := ab_TS_in (tk_4 _ (List.mem_of_getElem? (i := 216) (by decide +kernel))) (by decide +kernel)
theorem tw_675 : (.code yX7_init cX7_init 6 none : Cond) ∈ ab_TS := ab_TS_in (tk_2 _ (List.mem_of_getElem? (i := 184) (by decide +kernel))) (by decide +kernel)
theorem tw_676 : (.initialized RX7 : Cond) ∈ ab_TS := ab_TS_in (tk_1 _ (List.mem_of_getElem? (i := 8) (by decide +kernel))) (by decide +kernel)
theorem tw_677 : (.code yX8_init cX8_init 6 none : Cond) ∈ ab_TS := ab_TS_in (tk_3 _ (List.mem_of_getElem? (i := 49) (by decide +kernel))) (by decide +kernel)
theorem tw_678 : (.initialized RX8 : Cond) ∈ ab_TS := ab_TS_in (tk_1 _ (List.mem_of_getElem? (i := 13) (by decide +kernel))) (by decide +kernel)
theorem tw_679 : (.code yX9_become cX9_become 3 none : Cond) ∈ ab_TS := ab_TS_in (tk_1 _ (List.mem_of_getElem? (i := 206) (by decide +kernel))) (by decide +kernel)
theorem tw_680 : (.initialized RX9 : Cond) ∈ ab_TS := ab_TS_in (tk_1 _ (List.mem_of_getElem? (i := 2) (by decide +kernel))) (by decide +kernel)
theorem tw_681 : (.code yX9_behindDeed cX9_behindDeed 3 (some .int) : Cond) ∈ ab_TS := ab_TS_in (tk_1 _ (List.mem_of_getElem? (i := 232) (by decide +kernel))) (by decide +kernel)
theorem tw_682 : (.code yX9_behindDigit cX9_behindDigit 2 (some .int) : Cond) ∈ ab_TS := ab_TS_in (tk_1 _ (List.mem_of_getElem? (i := 235) (by decide +kernel))) (by decide +kernel)
theorem tw_683 : (.code yX9_behindLetter cX9_behindLetter 2 (some .int) : Cond) ∈ ab_TS := ab_TS_in (tk_2 _ (List.mem_of_getElem? (i := 13) (by decide +kernel))) (by decide +kernel)
theorem tw_684 : (.code yX9_behindNail cX9_behindNail 3 (some .int) : Cond) ∈ ab_TS := ab_TS_in (tk_2 _ (List.mem_of_getElem? (i := 19) (by decide +kernel))) (by decide +kernel)
theorem tw_685 : (.code yX9_behindNeeds cX9_behindNeeds 5 (some .int) : Cond) ∈ ab_TS := ab_TS_in (tk_2 _ (List.mem_of_getElem? (i := 4) (by decide +kernel))) (by decide +kernel)
theorem tw_686 : (.code yX9_behindNumber cX9_behindNumber 5 (some .int) : Cond) ∈ ab_TS := ab_TS_in (tk_2 _ (List.mem_of_getElem? (i := 16) (by decide +kernel))) (by decide +kernel)
theorem tw_687 : (.code yX9_behindSign cX9_behindSign 3 (some .int) : Cond) ∈ ab_TS := ab_TS_in (tk_2 _ (List.mem_of_getElem? (i := 10) (by decide +kernel))) (by decide +kernel)
theorem tw_688 : (.code yX9_behindStatement cX9_behindStatement 3 (some .int) : Cond) ∈ ab_TS := ab_TS_in (tk_1 _ (List.mem_of_getElem? (i := 217) (by decide +kernel))) (by decide +kernel)
theorem tw_689 : (.code yX9_changeCoins cX9_changeCoins 3 (some .int) : Cond) ∈ ab_TS := ab_TS_in (tk_3 _ (List.mem_of_getElem? (i := 77) (by decide +kernel))) (by decide +kernel)
theorem tw_690 : (.code yX9_changeLaw cX9_changeLaw 3 (some .int) : Cond) ∈ ab_TS := ab_TS_in (tk_3 _ (List.mem_of_getElem? (i := 89) (by decide +kernel))) (by decide +kernel)
theorem tw_691 : (.code yX9_changeNail cX9_changeNail 3 (some .int) : Cond) ∈ ab_TS := ab_TS_in (tk_3 _ (List.mem_of_getElem? (i := 85) (by decide +kernel))) (by decide +kernel)
theorem tw_692 : (.code yX9_deedAt cX9_deedAt 2 (some (.object "BackwardYears$Deed")) : Cond) ∈ ab_TS := ab_TS_in (tk_1 _ (List.mem_of_getElem? (i := 210) (by decide +kernel))) (by decide +kernel)
theorem tw_693 : (.code yX9_faultAt cX9_faultAt 1 (some .int) : Cond) ∈ ab_TS := ab_TS_in (tk_2 _ (List.mem_of_getElem? (i := 22) (by decide +kernel))) (by decide +kernel)
theorem tw_694 : (.code yX9_init cX9_init 1 none : Cond) ∈ ab_TS := ab_TS_in (tk_1 _ (List.mem_of_getElem? (i := 34) (by decide +kernel))) (by decide +kernel)
theorem tw_695 : (.code yX9_isDigit cX9_isDigit 1 (some .boolean) : Cond) ∈ ab_TS := ab_TS_in (tk_1 _ (List.mem_of_getElem? (i := 238) (by decide +kernel))) (by decide +kernel)
theorem tw_696 : (.code yX9_isLetter cX9_isLetter 1 (some .boolean) : Cond) ∈ ab_TS := ab_TS_in (tk_2 _ (List.mem_of_getElem? (i := 7) (by decide +kernel))) (by decide +kernel)
theorem tw_697 : (.code yX9_nailCost cX9_nailCost 3 (some .int) : Cond) ∈ ab_TS := ab_TS_in (tk_3 _ (List.mem_of_getElem? (i := 216) (by decide +kernel))) (by decide +kernel)
theorem tw_698 : (.code yX9_newDeed cX9_newDeed 9 (some (.object "BackwardYears$Deed")) : Cond) ∈ ab_TS := ab_TS_in (tk_2 _ (List.mem_of_getElem? (i := 30) (by decide +kernel))) (by decide +kernel)
theorem tw_699 : (.code yX9_number cX9_number 4 (some .int) : Cond) ∈ ab_TS := ab_TS_in (tk_2 _ (List.mem_of_getElem? (i := 33) (by decide +kernel))) (by decide +kernel)
theorem tw_700 : (.code yX9_read cX9_read 5 (some .int) : Cond) ∈ ab_TS := ab_TS_in (tk_1 _ (List.mem_of_getElem? (i := 214) (by decide +kernel))) (by decide +kernel)
theorem tw_701 : (.code yX9_take cX9_take 3 (some .boolean) : Cond) ∈ ab_TS := ab_TS_in (tk_2 _ (List.mem_of_getElem? (i := 26) (by decide +kernel))) (by decide +kernel)
theorem tw_702 : (.code yX9_takeDeed cX9_takeDeed 2 (some .boolean) : Cond) ∈ ab_TS := ab_TS_in (tk_3 _ (List.mem_of_getElem? (i := 69) (by decide +kernel))) (by decide +kernel)
theorem tw_703 : (.code yX9_takeMark cX9_takeMark 2 (some .boolean) : Cond) ∈ ab_TS := ab_TS_in (tk_3 _ (List.mem_of_getElem? (i := 73) (by decide +kernel))) (by decide +kernel)
theorem tw_704 : (.code yX9_takeNail cX9_takeNail 5 (some .boolean) : Cond) ∈ ab_TS := ab_TS_in (tk_3 _ (List.mem_of_getElem? (i := 81) (by decide +kernel))) (by decide +kernel)
theorem tw_705 : (.code yX9_wrongAt cX9_wrongAt 1 (some .int) : Cond) ∈ ab_TS := ab_TS_in (tk_2 _ (List.mem_of_getElem? (i := 1) (by decide +kernel))) (by decide +kernel)
theorem tw_706 : (.sameField RX0 RX1 "cost" "I" : Cond) ∈ ab_TS := ab_TS_in (tk_2 _ (List.mem_of_getElem? (i := 72) (by decide +kernel))) (by decide +kernel)
theorem tw_707 : (.fieldLink RX0 15 RX0 "cost" "I" : Cond) ∈ ab_TS := ab_TS_in (tk_2 _ (List.mem_of_getElem? (i := 71) (by decide +kernel))) (by decide +kernel)
theorem tw_708 : (.sameField RX0 RX1 "back" "I" : Cond) ∈ ab_TS := ab_TS_in (tk_2 _ (List.mem_of_getElem? (i := 83) (by decide +kernel))) (by decide +kernel)
theorem tw_709 : (.fieldLink RX0 18 RX0 "back" "I" : Cond) ∈ ab_TS := ab_TS_in (tk_2 _ (List.mem_of_getElem? (i := 82) (by decide +kernel))) (by decide +kernel)
theorem tw_710 : (.sameField RX0 RX1 "keeps" "Z" : Cond) ∈ ab_TS := ab_TS_in (tk_2 _ (List.mem_of_getElem? (i := 102) (by decide +kernel))) (by decide +kernel)
theorem tw_711 : (.fieldLink RX0 21 RX0 "keeps" "Z" : Cond) ∈ ab_TS := ab_TS_in (tk_2 _ (List.mem_of_getElem? (i := 101) (by decide +kernel))) (by decide +kernel)
theorem tw_712 : (.sameField RX0 RX1 "care" "I" : Cond) ∈ ab_TS := ab_TS_in (tk_2 _ (List.mem_of_getElem? (i := 119) (by decide +kernel))) (by decide +kernel)
theorem tw_713 : (.fieldLink RX0 25 RX0 "care" "I" : Cond) ∈ ab_TS := ab_TS_in (tk_2 _ (List.mem_of_getElem? (i := 118) (by decide +kernel))) (by decide +kernel)
theorem tw_714 : (.sameField RX0 RX1 "failure" "I" : Cond) ∈ ab_TS := ab_TS_in (tk_2 _ (List.mem_of_getElem? (i := 125) (by decide +kernel))) (by decide +kernel)
theorem tw_715 : (.fieldLink RX0 28 RX0 "failure" "I" : Cond) ∈ ab_TS := ab_TS_in (tk_2 _ (List.mem_of_getElem? (i := 124) (by decide +kernel))) (by decide +kernel)
theorem tw_716 : (.sameField RX0 RX1 "kind" "I" : Cond) ∈ ab_TS := ab_TS_in (tk_2 _ (List.mem_of_getElem? (i := 59) (by decide +kernel))) (by decide +kernel)
theorem tw_717 : (.fieldLink RX0 9 RX0 "kind" "I" : Cond) ∈ ab_TS := ab_TS_in (tk_2 _ (List.mem_of_getElem? (i := 58) (by decide +kernel))) (by decide +kernel)
theorem tw_718 : (.fieldLink RX10 11 RX10 "deeds" "[LBackwardYears$Deed;" : Cond) ∈ ab_TS := ab_TS_in (tk_1 _ (List.mem_of_getElem? (i := 80) (by decide +kernel))) (by decide +kernel)
theorem tw_719 : (.fieldLink RX10 124 RX1 "needs" "I" : Cond) ∈ ab_TS := ab_TS_in (tk_2 _ (List.mem_of_getElem? (i := 42) (by decide +kernel))) (by decide +kernel)
theorem tw_720 : (.fieldLink RX10 130 RX1 "back" "I" : Cond) ∈ ab_TS := ab_TS_in (tk_2 _ (List.mem_of_getElem? (i := 88) (by decide +kernel))) (by decide +kernel)
theorem tw_721 : (.fieldLink RX10 17 RX10 "made" "[I" : Cond) ∈ ab_TS := ab_TS_in (tk_1 _ (List.mem_of_getElem? (i := 81) (by decide +kernel))) (by decide +kernel)
theorem tw_722 : (.fieldLink RX10 21 RX10 "lost" "[I" : Cond) ∈ ab_TS := ab_TS_in (tk_1 _ (List.mem_of_getElem? (i := 82) (by decide +kernel))) (by decide +kernel)
theorem tw_723 : (.fieldLink RX10 24 RX10 "town" "LBackwardYears$Town;" : Cond) ∈ ab_TS := ab_TS_in (tk_1 _ (List.mem_of_getElem? (i := 83) (by decide +kernel))) (by decide +kernel)
theorem tw_724 : (.fieldLink RX10 28 RX9 "law" "I" : Cond) ∈ ab_TS := ab_TS_in (tk_1 _ (List.mem_of_getElem? (i := 47) (by decide +kernel))) (by decide +kernel)
theorem tw_725 : (.fieldLink RX10 34 RX10 "law" "I" : Cond) ∈ ab_TS := ab_TS_in (tk_1 _ (List.mem_of_getElem? (i := 84) (by decide +kernel))) (by decide +kernel)
theorem tw_726 : (.fieldLink RX10 35 RX10 "size" "I" : Cond) ∈ ab_TS := ab_TS_in (tk_1 _ (List.mem_of_getElem? (i := 86) (by decide +kernel))) (by decide +kernel)
theorem tw_727 : (.fieldLink RX10 38 RX10 "marks" "I" : Cond) ∈ ab_TS := ab_TS_in (tk_1 _ (List.mem_of_getElem? (i := 88) (by decide +kernel))) (by decide +kernel)
theorem tw_728 : (.fieldLink RX10 41 RX10 "coins" "I" : Cond) ∈ ab_TS := ab_TS_in (tk_1 _ (List.mem_of_getElem? (i := 90) (by decide +kernel))) (by decide +kernel)
theorem tw_729 : (.fieldLink RX10 44 RX10 "paid" "I" : Cond) ∈ ab_TS := ab_TS_in (tk_1 _ (List.mem_of_getElem? (i := 92) (by decide +kernel))) (by decide +kernel)
theorem tw_730 : (.fieldLink RX10 47 RX10 "done" "I" : Cond) ∈ ab_TS := ab_TS_in (tk_1 _ (List.mem_of_getElem? (i := 94) (by decide +kernel))) (by decide +kernel)
theorem tw_731 : (.fieldLink RX10 50 RX10 "undone" "I" : Cond) ∈ ab_TS := ab_TS_in (tk_1 _ (List.mem_of_getElem? (i := 96) (by decide +kernel))) (by decide +kernel)
theorem tw_732 : (.fieldLink RX10 53 RX10 "nailed" "I" : Cond) ∈ ab_TS := ab_TS_in (tk_1 _ (List.mem_of_getElem? (i := 98) (by decide +kernel))) (by decide +kernel)
theorem tw_733 : (.fieldLink RX10 56 RX10 "firm" "I" : Cond) ∈ ab_TS := ab_TS_in (tk_1 _ (List.mem_of_getElem? (i := 99) (by decide +kernel))) (by decide +kernel)
theorem tw_734 : (.fieldLink RX10 59 RX10 "fallen" "I" : Cond) ∈ ab_TS := ab_TS_in (tk_1 _ (List.mem_of_getElem? (i := 100) (by decide +kernel))) (by decide +kernel)
theorem tw_735 : (.fieldLink RX10 62 RX9 "marks" "I" : Cond) ∈ ab_TS := ab_TS_in (tk_1 _ (List.mem_of_getElem? (i := 43) (by decide +kernel))) (by decide +kernel)
theorem tw_736 : (.fieldLink RX10 63 RX9 "coins" "I" : Cond) ∈ ab_TS := ab_TS_in (tk_1 _ (List.mem_of_getElem? (i := 46) (by decide +kernel))) (by decide +kernel)
theorem tw_737 : (.fieldLink RX10 94 RX1 "cost" "I" : Cond) ∈ ab_TS := ab_TS_in (tk_2 _ (List.mem_of_getElem? (i := 75) (by decide +kernel))) (by decide +kernel)
theorem tw_738 : (.fieldLink RX10 97 RX1 "keeps" "Z" : Cond) ∈ ab_TS := ab_TS_in (tk_2 _ (List.mem_of_getElem? (i := 104) (by decide +kernel))) (by decide +kernel)
theorem tw_739 : (.fieldLink RX11 10 RX11 "now" "LBackwardYears$Town;" : Cond) ∈ ab_TS := ab_TS_in (tk_1 _ (List.mem_of_getElem? (i := 156) (by decide +kernel))) (by decide +kernel)
theorem tw_740 : (.fieldLink RX11 100 RX9 "year" "I" : Cond) ∈ ab_TS := ab_TS_in (tk_1 _ (List.mem_of_getElem? (i := 55) (by decide +kernel))) (by decide +kernel)
theorem tw_741 : (.fieldLink RX11 103 RX9 "law" "I" : Cond) ∈ ab_TS := ab_TS_in (tk_1 _ (List.mem_of_getElem? (i := 49) (by decide +kernel))) (by decide +kernel)
theorem tw_742 : (.fieldLink RX11 106 RX9 "nail" "I" : Cond) ∈ ab_TS := ab_TS_in (tk_1 _ (List.mem_of_getElem? (i := 51) (by decide +kernel))) (by decide +kernel)
theorem tw_743 : (.fieldLink RX11 109 RX9 "rise" "I" : Cond) ∈ ab_TS := ab_TS_in (tk_1 _ (List.mem_of_getElem? (i := 53) (by decide +kernel))) (by decide +kernel)
theorem tw_744 : (.fieldLink RX11 152 RX10 "done" "I" : Cond) ∈ ab_TS := ab_TS_in (tk_1 _ (List.mem_of_getElem? (i := 95) (by decide +kernel))) (by decide +kernel)
theorem tw_745 : (.fieldLink RX11 155 RX10 "marks" "I" : Cond) ∈ ab_TS := ab_TS_in (tk_1 _ (List.mem_of_getElem? (i := 89) (by decide +kernel))) (by decide +kernel)
theorem tw_746 : (.fieldLink RX11 156 RX10 "size" "I" : Cond) ∈ ab_TS := ab_TS_in (tk_1 _ (List.mem_of_getElem? (i := 87) (by decide +kernel))) (by decide +kernel)
theorem tw_747 : (.fieldLink RX11 16 RX11 "then" "LBackwardYears$Town;" : Cond) ∈ ab_TS := ab_TS_in (tk_1 _ (List.mem_of_getElem? (i := 157) (by decide +kernel))) (by decide +kernel)
theorem tw_748 : (.fieldLink RX11 162 RX10 "coins" "I" : Cond) ∈ ab_TS := ab_TS_in (tk_1 _ (List.mem_of_getElem? (i := 91) (by decide +kernel))) (by decide +kernel)
theorem tw_749 : (.fieldLink RX11 163 RX10 "undone" "I" : Cond) ∈ ab_TS := ab_TS_in (tk_1 _ (List.mem_of_getElem? (i := 97) (by decide +kernel))) (by decide +kernel)
theorem tw_750 : (.fieldLink RX11 166 RX10 "paid" "I" : Cond) ∈ ab_TS := ab_TS_in (tk_1 _ (List.mem_of_getElem? (i := 93) (by decide +kernel))) (by decide +kernel)
theorem tw_751 : (.fieldLink RX11 182 RX6 "size" "I" : Cond) ∈ ab_TS := ab_TS_in (tk_1 _ (List.mem_of_getElem? (i := 146) (by decide +kernel))) (by decide +kernel)
theorem tw_752 : (.fieldLink RX11 19 RX11 "draft" "LBackwardYears$Town;" : Cond) ∈ ab_TS := ab_TS_in (tk_1 _ (List.mem_of_getElem? (i := 158) (by decide +kernel))) (by decide +kernel)
theorem tw_753 : (.fieldLink RX11 207 RX9 "deedCount" "I" : Cond) ∈ ab_TS := ab_TS_in (tk_1 _ (List.mem_of_getElem? (i := 40) (by decide +kernel))) (by decide +kernel)
theorem tw_754 : (.fieldLink RX11 213 RX1 "sets" "I" : Cond) ∈ ab_TS := ab_TS_in (tk_2 _ (List.mem_of_getElem? (i := 94) (by decide +kernel))) (by decide +kernel)
theorem tw_755 : (.fieldLink RX11 216 RX1 "clears" "I" : Cond) ∈ ab_TS := ab_TS_in (tk_2 _ (List.mem_of_getElem? (i := 98) (by decide +kernel))) (by decide +kernel)
theorem tw_756 : (.fieldLink RX11 229 RX10 "law" "I" : Cond) ∈ ab_TS := ab_TS_in (tk_1 _ (List.mem_of_getElem? (i := 85) (by decide +kernel))) (by decide +kernel)
theorem tw_757 : (.fieldLink RX11 237 RX11 "imageTaken" "Z" : Cond) ∈ ab_TS := ab_TS_in (tk_1 _ (List.mem_of_getElem? (i := 165) (by decide +kernel))) (by decide +kernel)
theorem tw_758 : (.fieldLink RX11 25 RX11 "years" "LBackwardYears$Years;" : Cond) ∈ ab_TS := ab_TS_in (tk_1 _ (List.mem_of_getElem? (i := 159) (by decide +kernel))) (by decide +kernel)
theorem tw_759 : (.fieldLink RX11 275 RX6 "sort" "I" : Cond) ∈ ab_TS := ab_TS_in (tk_1 _ (List.mem_of_getElem? (i := 143) (by decide +kernel))) (by decide +kernel)
theorem tw_760 : (.fieldLink RX11 281 RX6 "elements" "[I" : Cond) ∈ ab_TS := ab_TS_in (tk_1 _ (List.mem_of_getElem? (i := 139) (by decide +kernel))) (by decide +kernel)
theorem tw_761 : (.fieldLink RX11 290 RX6 "deed" "LBackwardYears$Deed;" : Cond) ∈ ab_TS := ab_TS_in (tk_1 _ (List.mem_of_getElem? (i := 141) (by decide +kernel))) (by decide +kernel)
theorem tw_762 : (.fieldLink RX11 297 RX1 "care" "I" : Cond) ∈ ab_TS := ab_TS_in (tk_2 _ (List.mem_of_getElem? (i := 120) (by decide +kernel))) (by decide +kernel)
theorem tw_763 : (.fieldLink RX11 31 RX11 "shelves" "[LBackwardYears$Shelf;" : Cond) ∈ ab_TS := ab_TS_in (tk_1 _ (List.mem_of_getElem? (i := 160) (by decide +kernel))) (by decide +kernel)
theorem tw_764 : (.fieldLink RX11 333 RX11 "moveCount" "I" : Cond) ∈ ab_TS := ab_TS_in (tk_1 _ (List.mem_of_getElem? (i := 164) (by decide +kernel))) (by decide +kernel)
theorem tw_765 : (.fieldLink RX11 35 RX11 "order" "[I" : Cond) ∈ ab_TS := ab_TS_in (tk_1 _ (List.mem_of_getElem? (i := 161) (by decide +kernel))) (by decide +kernel)
theorem tw_766 : (.fieldLink RX11 39 RX11 "moves" "[I" : Cond) ∈ ab_TS := ab_TS_in (tk_1 _ (List.mem_of_getElem? (i := 162) (by decide +kernel))) (by decide +kernel)
theorem tw_767 : (.fieldLink RX11 42 RX11 "ends" "[I" : Cond) ∈ ab_TS := ab_TS_in (tk_1 _ (List.mem_of_getElem? (i := 163) (by decide +kernel))) (by decide +kernel)
theorem tw_768 : (.fieldLink RX11 66 RX1 "kind" "I" : Cond) ∈ ab_TS := ab_TS_in (tk_2 _ (List.mem_of_getElem? (i := 64) (by decide +kernel))) (by decide +kernel)
theorem tw_769 : (.fieldLink RX11 72 RX1 "needs" "I" : Cond) ∈ ab_TS := ab_TS_in (tk_2 _ (List.mem_of_getElem? (i := 41) (by decide +kernel))) (by decide +kernel)
theorem tw_770 : (.fieldLink RX11 75 RX1 "makes" "I" : Cond) ∈ ab_TS := ab_TS_in (tk_2 _ (List.mem_of_getElem? (i := 44) (by decide +kernel))) (by decide +kernel)
theorem tw_771 : (.fieldLink RX11 78 RX1 "pays" "I" : Cond) ∈ ab_TS := ab_TS_in (tk_2 _ (List.mem_of_getElem? (i := 46) (by decide +kernel))) (by decide +kernel)
theorem tw_772 : (.fieldLink RX11 81 RX1 "figure" "I" : Cond) ∈ ab_TS := ab_TS_in (tk_2 _ (List.mem_of_getElem? (i := 48) (by decide +kernel))) (by decide +kernel)
theorem tw_773 : (.fieldLink RX11 84 RX1 "cost" "I" : Cond) ∈ ab_TS := ab_TS_in (tk_2 _ (List.mem_of_getElem? (i := 74) (by decide +kernel))) (by decide +kernel)
theorem tw_774 : (.fieldLink RX11 87 RX1 "back" "I" : Cond) ∈ ab_TS := ab_TS_in (tk_2 _ (List.mem_of_getElem? (i := 87) (by decide +kernel))) (by decide +kernel)
theorem tw_775 : (.fieldLink RX11 90 RX1 "keeps" "Z" : Cond) ∈ ab_TS := ab_TS_in (tk_2 _ (List.mem_of_getElem? (i := 103) (by decide +kernel))) (by decide +kernel)
theorem tw_776 : (.fieldLink RX11 94 RX9 "marks" "I" : Cond) ∈ ab_TS := ab_TS_in (tk_1 _ (List.mem_of_getElem? (i := 42) (by decide +kernel))) (by decide +kernel)
theorem tw_777 : (.fieldLink RX11 97 RX9 "coins" "I" : Cond) ∈ ab_TS := ab_TS_in (tk_1 _ (List.mem_of_getElem? (i := 45) (by decide +kernel))) (by decide +kernel)
theorem tw_778 : (.fieldLink RX12 105 RX12 "kindRead" "I" : Cond) ∈ ab_TS := ab_TS_in (tk_5 _ (List.mem_of_getElem? (i := 133) (by decide +kernel))) (by decide +kernel)
theorem tw_779 : (.fieldLink RX12 108 RX12 "letters" "I" : Cond) ∈ ab_TS := ab_TS_in (tk_5 _ (List.mem_of_getElem? (i := 131) (by decide +kernel))) (by decide +kernel)
theorem tw_780 : (.fieldLink RX12 117 RX12 "figureRead" "I" : Cond) ∈ ab_TS := ab_TS_in (tk_5 _ (List.mem_of_getElem? (i := 134) (by decide +kernel))) (by decide +kernel)
theorem tw_781 : (.fieldLink RX12 13 RX12 "image" "[I" : Cond) ∈ ab_TS := ab_TS_in (tk_5 _ (List.mem_of_getElem? (i := 117) (by decide +kernel))) (by decide +kernel)
theorem tw_782 : (.fieldLink RX12 16 RX12 "read" "[I" : Cond) ∈ ab_TS := ab_TS_in (tk_5 _ (List.mem_of_getElem? (i := 118) (by decide +kernel))) (by decide +kernel)
theorem tw_783 : (.fieldLink RX12 166 RX12 "listed" "I" : Cond) ∈ ab_TS := ab_TS_in (tk_5 _ (List.mem_of_getElem? (i := 140) (by decide +kernel))) (by decide +kernel)
theorem tw_784 : (.fieldLink RX12 169 RX12 "nails" "I" : Cond) ∈ ab_TS := ab_TS_in (tk_5 _ (List.mem_of_getElem? (i := 141) (by decide +kernel))) (by decide +kernel)
theorem tw_785 : (.fieldLink RX12 175 RX12 "so" "I" : Cond) ∈ ab_TS := ab_TS_in (tk_5 _ (List.mem_of_getElem? (i := 142) (by decide +kernel))) (by decide +kernel)
theorem tw_786 : (.fieldLink RX12 178 RX12 "coins" "I" : Cond) ∈ ab_TS := ab_TS_in (tk_5 _ (List.mem_of_getElem? (i := 143) (by decide +kernel))) (by decide +kernel)
theorem tw_787 : (.fieldLink RX12 181 RX12 "paid" "I" : Cond) ∈ ab_TS := ab_TS_in (tk_5 _ (List.mem_of_getElem? (i := 144) (by decide +kernel))) (by decide +kernel)
theorem tw_788 : (.fieldLink RX12 184 RX12 "undone" "I" : Cond) ∈ ab_TS := ab_TS_in (tk_5 _ (List.mem_of_getElem? (i := 145) (by decide +kernel))) (by decide +kernel)
theorem tw_789 : (.fieldLink RX12 19 RX12 "kept" "[I" : Cond) ∈ ab_TS := ab_TS_in (tk_5 _ (List.mem_of_getElem? (i := 119) (by decide +kernel))) (by decide +kernel)
theorem tw_790 : (.fieldLink RX12 22 RX12 "sort" "[I" : Cond) ∈ ab_TS := ab_TS_in (tk_5 _ (List.mem_of_getElem? (i := 120) (by decide +kernel))) (by decide +kernel)
theorem tw_791 : (.fieldLink RX12 232 RX12 "bestNails" "I" : Cond) ∈ ab_TS := ab_TS_in (tk_5 _ (List.mem_of_getElem? (i := 146) (by decide +kernel))) (by decide +kernel)
theorem tw_792 : (.fieldLink RX12 238 RX12 "bestPaid" "I" : Cond) ∈ ab_TS := ab_TS_in (tk_5 _ (List.mem_of_getElem? (i := 147) (by decide +kernel))) (by decide +kernel)
theorem tw_793 : (.fieldLink RX12 246 RX12 "bestMany" "I" : Cond) ∈ ab_TS := ab_TS_in (tk_5 _ (List.mem_of_getElem? (i := 150) (by decide +kernel))) (by decide +kernel)
theorem tw_794 : (.fieldLink RX12 249 RX12 "bestDigits" "I" : Cond) ∈ ab_TS := ab_TS_in (tk_5 _ (List.mem_of_getElem? (i := 149) (by decide +kernel))) (by decide +kernel)
theorem tw_795 : (.fieldLink RX12 25 RX12 "size" "[I" : Cond) ∈ ab_TS := ab_TS_in (tk_5 _ (List.mem_of_getElem? (i := 121) (by decide +kernel))) (by decide +kernel)
theorem tw_796 : (.fieldLink RX12 256 RX12 "worths" "I" : Cond) ∈ ab_TS := ab_TS_in (tk_5 _ (List.mem_of_getElem? (i := 154) (by decide +kernel))) (by decide +kernel)
theorem tw_797 : (.fieldLink RX12 266 RX12 "isPlanned" "Z" : Cond) ∈ ab_TS := ab_TS_in (tk_5 _ (List.mem_of_getElem? (i := 151) (by decide +kernel))) (by decide +kernel)
theorem tw_798 : (.fieldLink RX12 270 RX12 "bestWorth" "J" : Cond) ∈ ab_TS := ab_TS_in (tk_5 _ (List.mem_of_getElem? (i := 152) (by decide +kernel))) (by decide +kernel)
theorem tw_799 : (.fieldLink RX12 274 RX12 "bestFirst" "I" : Cond) ∈ ab_TS := ab_TS_in (tk_5 _ (List.mem_of_getElem? (i := 153) (by decide +kernel))) (by decide +kernel)
theorem tw_800 : (.fieldLink RX12 28 RX12 "element" "[I" : Cond) ∈ ab_TS := ab_TS_in (tk_5 _ (List.mem_of_getElem? (i := 122) (by decide +kernel))) (by decide +kernel)
theorem tw_801 : (.fieldLink RX12 288 RX12 "seed" "I" : Cond) ∈ ab_TS := ab_TS_in (tk_5 _ (List.mem_of_getElem? (i := 156) (by decide +kernel))) (by decide +kernel)
theorem tw_802 : (.fieldLink RX12 303 RX12 "hasImage" "Z" : Cond) ∈ ab_TS := ab_TS_in (tk_5 _ (List.mem_of_getElem? (i := 125) (by decide +kernel))) (by decide +kernel)
theorem tw_803 : (.fieldLink RX12 31 RX12 "keptCare" "[I" : Cond) ∈ ab_TS := ab_TS_in (tk_5 _ (List.mem_of_getElem? (i := 123) (by decide +kernel))) (by decide +kernel)
theorem tw_804 : (.fieldLink RX12 34 RX12 "keptToss" "[I" : Cond) ∈ ab_TS := ab_TS_in (tk_5 _ (List.mem_of_getElem? (i := 124) (by decide +kernel))) (by decide +kernel)
theorem tw_805 : (.fieldLink RX12 37 RX12 "numbers" "[I" : Cond) ∈ ab_TS := ab_TS_in (tk_5 _ (List.mem_of_getElem? (i := 132) (by decide +kernel))) (by decide +kernel)
theorem tw_806 : (.fieldLink RX12 40 RX12 "list" "[I" : Cond) ∈ ab_TS := ab_TS_in (tk_5 _ (List.mem_of_getElem? (i := 135) (by decide +kernel))) (by decide +kernel)
theorem tw_807 : (.fieldLink RX12 43 RX12 "changed" "[I" : Cond) ∈ ab_TS := ab_TS_in (tk_5 _ (List.mem_of_getElem? (i := 136) (by decide +kernel))) (by decide +kernel)
theorem tw_808 : (.fieldLink RX12 46 RX12 "ahead" "[I" : Cond) ∈ ab_TS := ab_TS_in (tk_5 _ (List.mem_of_getElem? (i := 137) (by decide +kernel))) (by decide +kernel)
theorem tw_809 : (.fieldLink RX12 49 RX12 "fate" "[I" : Cond) ∈ ab_TS := ab_TS_in (tk_5 _ (List.mem_of_getElem? (i := 138) (by decide +kernel))) (by decide +kernel)
theorem tw_810 : (.fieldLink RX12 52 RX12 "behindPlace" "[I" : Cond) ∈ ab_TS := ab_TS_in (tk_5 _ (List.mem_of_getElem? (i := 139) (by decide +kernel))) (by decide +kernel)
theorem tw_811 : (.fieldLink RX12 55 RX12 "line" "[I" : Cond) ∈ ab_TS := ab_TS_in (tk_5 _ (List.mem_of_getElem? (i := 148) (by decide +kernel))) (by decide +kernel)
theorem tw_812 : (.fieldLink RX12 58 RX12 "whose" "[I" : Cond) ∈ ab_TS := ab_TS_in (tk_5 _ (List.mem_of_getElem? (i := 155) (by decide +kernel))) (by decide +kernel)
theorem tw_813 : (.fieldLink RX12 61 RX12 "thrown" "I" : Cond) ∈ ab_TS := ab_TS_in (tk_5 _ (List.mem_of_getElem? (i := 126) (by decide +kernel))) (by decide +kernel)
theorem tw_814 : (.fieldLink RX12 73 RX12 "pos" "I" : Cond) ∈ ab_TS := ab_TS_in (tk_5 _ (List.mem_of_getElem? (i := 127) (by decide +kernel))) (by decide +kernel)
theorem tw_815 : (.fieldLink RX12 76 RX12 "end" "I" : Cond) ∈ ab_TS := ab_TS_in (tk_5 _ (List.mem_of_getElem? (i := 129) (by decide +kernel))) (by decide +kernel)
theorem tw_816 : (.fieldLink RX12 79 RX12 "base" "I" : Cond) ∈ ab_TS := ab_TS_in (tk_5 _ (List.mem_of_getElem? (i := 128) (by decide +kernel))) (by decide +kernel)
theorem tw_817 : (.fieldLink RX12 9 RX12 "s" "[I" : Cond) ∈ ab_TS := ab_TS_in (tk_5 _ (List.mem_of_getElem? (i := 116) (by decide +kernel))) (by decide +kernel)
theorem tw_818 : (.fieldLink RX12 94 RX12 "told" "I" : Cond) ∈ ab_TS := ab_TS_in (tk_5 _ (List.mem_of_getElem? (i := 130) (by decide +kernel))) (by decide +kernel)
theorem tw_819 : (.fieldLink RX1 15 RX1 "care" "I" : Cond) ∈ ab_TS := ab_TS_in (tk_2 _ (List.mem_of_getElem? (i := 105) (by decide +kernel))) (by decide +kernel)
theorem tw_820 : (.fieldLink RX1 18 RX1 "number" "I" : Cond) ∈ ab_TS := ab_TS_in (tk_2 _ (List.mem_of_getElem? (i := 39) (by decide +kernel))) (by decide +kernel)
theorem tw_821 : (.fieldLink RX1 21 RX1 "needs" "I" : Cond) ∈ ab_TS := ab_TS_in (tk_2 _ (List.mem_of_getElem? (i := 40) (by decide +kernel))) (by decide +kernel)
theorem tw_822 : (.fieldLink RX1 24 RX1 "makes" "I" : Cond) ∈ ab_TS := ab_TS_in (tk_2 _ (List.mem_of_getElem? (i := 43) (by decide +kernel))) (by decide +kernel)
theorem tw_823 : (.fieldLink RX1 27 RX1 "pays" "I" : Cond) ∈ ab_TS := ab_TS_in (tk_2 _ (List.mem_of_getElem? (i := 45) (by decide +kernel))) (by decide +kernel)
theorem tw_824 : (.fieldLink RX1 30 RX1 "figure" "I" : Cond) ∈ ab_TS := ab_TS_in (tk_2 _ (List.mem_of_getElem? (i := 47) (by decide +kernel))) (by decide +kernel)
theorem tw_825 : (.fieldLink RX1 33 RX1 "cost" "I" : Cond) ∈ ab_TS := ab_TS_in (tk_2 _ (List.mem_of_getElem? (i := 73) (by decide +kernel))) (by decide +kernel)
theorem tw_826 : (.fieldLink RX1 36 RX1 "back" "I" : Cond) ∈ ab_TS := ab_TS_in (tk_2 _ (List.mem_of_getElem? (i := 86) (by decide +kernel))) (by decide +kernel)
theorem tw_827 : (.fieldLink RX1 39 RX1 "sets" "I" : Cond) ∈ ab_TS := ab_TS_in (tk_2 _ (List.mem_of_getElem? (i := 93) (by decide +kernel))) (by decide +kernel)
theorem tw_828 : (.fieldLink RX1 42 RX1 "failure" "I" : Cond) ∈ ab_TS := ab_TS_in (tk_2 _ (List.mem_of_getElem? (i := 123) (by decide +kernel))) (by decide +kernel)
theorem tw_829 : (.fieldLink RX1 45 RX1 "canFail" "Z" : Cond) ∈ ab_TS := ab_TS_in (tk_2 _ (List.mem_of_getElem? (i := 129) (by decide +kernel))) (by decide +kernel)
theorem tw_830 : (.fieldLink RX1 53 RX1 "clears" "I" : Cond) ∈ ab_TS := ab_TS_in (tk_2 _ (List.mem_of_getElem? (i := 97) (by decide +kernel))) (by decide +kernel)
theorem tw_831 : (.fieldLink RX1 9 RX1 "kind" "I" : Cond) ∈ ab_TS := ab_TS_in (tk_2 _ (List.mem_of_getElem? (i := 49) (by decide +kernel))) (by decide +kernel)
theorem tw_832 : (.sameField RX2 RX1 "cost" "I" : Cond) ∈ ab_TS := ab_TS_in (tk_2 _ (List.mem_of_getElem? (i := 68) (by decide +kernel))) (by decide +kernel)
theorem tw_833 : (.fieldLink RX2 15 RX2 "cost" "I" : Cond) ∈ ab_TS := ab_TS_in (tk_2 _ (List.mem_of_getElem? (i := 67) (by decide +kernel))) (by decide +kernel)
theorem tw_834 : (.sameField RX2 RX1 "back" "I" : Cond) ∈ ab_TS := ab_TS_in (tk_2 _ (List.mem_of_getElem? (i := 81) (by decide +kernel))) (by decide +kernel)
theorem tw_835 : (.fieldLink RX2 18 RX2 "back" "I" : Cond) ∈ ab_TS := ab_TS_in (tk_2 _ (List.mem_of_getElem? (i := 80) (by decide +kernel))) (by decide +kernel)
theorem tw_836 : (.sameField RX2 RX1 "care" "I" : Cond) ∈ ab_TS := ab_TS_in (tk_2 _ (List.mem_of_getElem? (i := 113) (by decide +kernel))) (by decide +kernel)
theorem tw_837 : (.fieldLink RX2 21 RX2 "care" "I" : Cond) ∈ ab_TS := ab_TS_in (tk_2 _ (List.mem_of_getElem? (i := 112) (by decide +kernel))) (by decide +kernel)
theorem tw_838 : (.sameField RX2 RX1 "canFail" "Z" : Cond) ∈ ab_TS := ab_TS_in (tk_2 _ (List.mem_of_getElem? (i := 128) (by decide +kernel))) (by decide +kernel)
theorem tw_839 : (.fieldLink RX2 24 RX2 "canFail" "Z" : Cond) ∈ ab_TS := ab_TS_in (tk_2 _ (List.mem_of_getElem? (i := 127) (by decide +kernel))) (by decide +kernel)
theorem tw_840 : (.sameField RX2 RX1 "kind" "I" : Cond) ∈ ab_TS := ab_TS_in (tk_2 _ (List.mem_of_getElem? (i := 55) (by decide +kernel))) (by decide +kernel)
theorem tw_841 : (.fieldLink RX2 9 RX2 "kind" "I" : Cond) ∈ ab_TS := ab_TS_in (tk_2 _ (List.mem_of_getElem? (i := 54) (by decide +kernel))) (by decide +kernel)
theorem tw_842 : (.sameField RX3 RX1 "sets" "I" : Cond) ∈ ab_TS := ab_TS_in (tk_2 _ (List.mem_of_getElem? (i := 90) (by decide +kernel))) (by decide +kernel)
theorem tw_843 : (.fieldLink RX3 15 RX3 "sets" "I" : Cond) ∈ ab_TS := ab_TS_in (tk_2 _ (List.mem_of_getElem? (i := 89) (by decide +kernel))) (by decide +kernel)
theorem tw_844 : (.sameField RX3 RX1 "clears" "I" : Cond) ∈ ab_TS := ab_TS_in (tk_2 _ (List.mem_of_getElem? (i := 96) (by decide +kernel))) (by decide +kernel)
theorem tw_845 : (.fieldLink RX3 18 RX3 "clears" "I" : Cond) ∈ ab_TS := ab_TS_in (tk_2 _ (List.mem_of_getElem? (i := 95) (by decide +kernel))) (by decide +kernel)
theorem tw_846 : (.sameField RX3 RX1 "care" "I" : Cond) ∈ ab_TS := ab_TS_in (tk_2 _ (List.mem_of_getElem? (i := 109) (by decide +kernel))) (by decide +kernel)
theorem tw_847 : (.fieldLink RX3 21 RX3 "care" "I" : Cond) ∈ ab_TS := ab_TS_in (tk_2 _ (List.mem_of_getElem? (i := 108) (by decide +kernel))) (by decide +kernel)
theorem tw_848 : (.sameField RX3 RX1 "kind" "I" : Cond) ∈ ab_TS := ab_TS_in (tk_2 _ (List.mem_of_getElem? (i := 61) (by decide +kernel))) (by decide +kernel)
theorem tw_849 : (.fieldLink RX3 9 RX3 "kind" "I" : Cond) ∈ ab_TS := ab_TS_in (tk_2 _ (List.mem_of_getElem? (i := 60) (by decide +kernel))) (by decide +kernel)
theorem tw_850 : (.sameField RX4 RX1 "cost" "I" : Cond) ∈ ab_TS := ab_TS_in (tk_2 _ (List.mem_of_getElem? (i := 66) (by decide +kernel))) (by decide +kernel)
theorem tw_851 : (.fieldLink RX4 15 RX4 "cost" "I" : Cond) ∈ ab_TS := ab_TS_in (tk_2 _ (List.mem_of_getElem? (i := 65) (by decide +kernel))) (by decide +kernel)
theorem tw_852 : (.sameField RX4 RX1 "back" "I" : Cond) ∈ ab_TS := ab_TS_in (tk_2 _ (List.mem_of_getElem? (i := 85) (by decide +kernel))) (by decide +kernel)
theorem tw_853 : (.fieldLink RX4 18 RX4 "back" "I" : Cond) ∈ ab_TS := ab_TS_in (tk_2 _ (List.mem_of_getElem? (i := 84) (by decide +kernel))) (by decide +kernel)
theorem tw_854 : (.sameField RX4 RX1 "care" "I" : Cond) ∈ ab_TS := ab_TS_in (tk_2 _ (List.mem_of_getElem? (i := 115) (by decide +kernel))) (by decide +kernel)
theorem tw_855 : (.fieldLink RX4 21 RX4 "care" "I" : Cond) ∈ ab_TS := ab_TS_in (tk_2 _ (List.mem_of_getElem? (i := 114) (by decide +kernel))) (by decide +kernel)
theorem tw_856 : (.sameField RX4 RX1 "kind" "I" : Cond) ∈ ab_TS := ab_TS_in (tk_2 _ (List.mem_of_getElem? (i := 51) (by decide +kernel))) (by decide +kernel)
theorem tw_857 : (.fieldLink RX4 9 RX4 "kind" "I" : Cond) ∈ ab_TS := ab_TS_in (tk_2 _ (List.mem_of_getElem? (i := 50) (by decide +kernel))) (by decide +kernel)
theorem tw_858 : (.sameField RX5 RX1 "cost" "I" : Cond) ∈ ab_TS := ab_TS_in (tk_2 _ (List.mem_of_getElem? (i := 70) (by decide +kernel))) (by decide +kernel)
theorem tw_859 : (.fieldLink RX5 15 RX5 "cost" "I" : Cond) ∈ ab_TS := ab_TS_in (tk_2 _ (List.mem_of_getElem? (i := 69) (by decide +kernel))) (by decide +kernel)
theorem tw_860 : (.sameField RX5 RX1 "back" "I" : Cond) ∈ ab_TS := ab_TS_in (tk_2 _ (List.mem_of_getElem? (i := 79) (by decide +kernel))) (by decide +kernel)
theorem tw_861 : (.fieldLink RX5 18 RX5 "back" "I" : Cond) ∈ ab_TS := ab_TS_in (tk_2 _ (List.mem_of_getElem? (i := 78) (by decide +kernel))) (by decide +kernel)
theorem tw_862 : (.sameField RX5 RX1 "keeps" "Z" : Cond) ∈ ab_TS := ab_TS_in (tk_2 _ (List.mem_of_getElem? (i := 100) (by decide +kernel))) (by decide +kernel)
theorem tw_863 : (.fieldLink RX5 21 RX5 "keeps" "Z" : Cond) ∈ ab_TS := ab_TS_in (tk_2 _ (List.mem_of_getElem? (i := 99) (by decide +kernel))) (by decide +kernel)
theorem tw_864 : (.sameField RX5 RX1 "care" "I" : Cond) ∈ ab_TS := ab_TS_in (tk_2 _ (List.mem_of_getElem? (i := 117) (by decide +kernel))) (by decide +kernel)
theorem tw_865 : (.fieldLink RX5 25 RX5 "care" "I" : Cond) ∈ ab_TS := ab_TS_in (tk_2 _ (List.mem_of_getElem? (i := 116) (by decide +kernel))) (by decide +kernel)
theorem tw_866 : (.sameField RX5 RX1 "kind" "I" : Cond) ∈ ab_TS := ab_TS_in (tk_2 _ (List.mem_of_getElem? (i := 57) (by decide +kernel))) (by decide +kernel)
theorem tw_867 : (.fieldLink RX5 9 RX5 "kind" "I" : Cond) ∈ ab_TS := ab_TS_in (tk_2 _ (List.mem_of_getElem? (i := 56) (by decide +kernel))) (by decide +kernel)
theorem tw_868 : (.fieldLink RX6 11 RX6 "elements" "[I" : Cond) ∈ ab_TS := ab_TS_in (tk_1 _ (List.mem_of_getElem? (i := 138) (by decide +kernel))) (by decide +kernel)
theorem tw_869 : (.fieldLink RX6 15 RX6 "sort" "I" : Cond) ∈ ab_TS := ab_TS_in (tk_1 _ (List.mem_of_getElem? (i := 142) (by decide +kernel))) (by decide +kernel)
theorem tw_870 : (.fieldLink RX6 19 RX6 "deed" "LBackwardYears$Deed;" : Cond) ∈ ab_TS := ab_TS_in (tk_1 _ (List.mem_of_getElem? (i := 140) (by decide +kernel))) (by decide +kernel)
theorem tw_871 : (.fieldLink RX6 23 RX6 "size" "I" : Cond) ∈ ab_TS := ab_TS_in (tk_1 _ (List.mem_of_getElem? (i := 144) (by decide +kernel))) (by decide +kernel)
theorem tw_872 : (.sameField RX7 RX1 "back" "I" : Cond) ∈ ab_TS := ab_TS_in (tk_2 _ (List.mem_of_getElem? (i := 77) (by decide +kernel))) (by decide +kernel)
theorem tw_873 : (.fieldLink RX7 15 RX7 "back" "I" : Cond) ∈ ab_TS := ab_TS_in (tk_2 _ (List.mem_of_getElem? (i := 76) (by decide +kernel))) (by decide +kernel)
theorem tw_874 : (.sameField RX7 RX1 "care" "I" : Cond) ∈ ab_TS := ab_TS_in (tk_2 _ (List.mem_of_getElem? (i := 107) (by decide +kernel))) (by decide +kernel)
theorem tw_875 : (.fieldLink RX7 18 RX7 "care" "I" : Cond) ∈ ab_TS := ab_TS_in (tk_2 _ (List.mem_of_getElem? (i := 106) (by decide +kernel))) (by decide +kernel)
theorem tw_876 : (.sameField RX7 RX1 "kind" "I" : Cond) ∈ ab_TS := ab_TS_in (tk_2 _ (List.mem_of_getElem? (i := 53) (by decide +kernel))) (by decide +kernel)
theorem tw_877 : (.fieldLink RX7 9 RX7 "kind" "I" : Cond) ∈ ab_TS := ab_TS_in (tk_2 _ (List.mem_of_getElem? (i := 52) (by decide +kernel))) (by decide +kernel)
theorem tw_878 : (.sameField RX8 RX1 "sets" "I" : Cond) ∈ ab_TS := ab_TS_in (tk_2 _ (List.mem_of_getElem? (i := 92) (by decide +kernel))) (by decide +kernel)
theorem tw_879 : (.fieldLink RX8 15 RX8 "sets" "I" : Cond) ∈ ab_TS := ab_TS_in (tk_2 _ (List.mem_of_getElem? (i := 91) (by decide +kernel))) (by decide +kernel)
theorem tw_880 : (.sameField RX8 RX1 "care" "I" : Cond) ∈ ab_TS := ab_TS_in (tk_2 _ (List.mem_of_getElem? (i := 111) (by decide +kernel))) (by decide +kernel)
theorem tw_881 : (.fieldLink RX8 18 RX8 "care" "I" : Cond) ∈ ab_TS := ab_TS_in (tk_2 _ (List.mem_of_getElem? (i := 110) (by decide +kernel))) (by decide +kernel)
theorem tw_882 : (.sameField RX8 RX1 "failure" "I" : Cond) ∈ ab_TS := ab_TS_in (tk_2 _ (List.mem_of_getElem? (i := 122) (by decide +kernel))) (by decide +kernel)
theorem tw_883 : (.fieldLink RX8 21 RX8 "failure" "I" : Cond) ∈ ab_TS := ab_TS_in (tk_2 _ (List.mem_of_getElem? (i := 121) (by decide +kernel))) (by decide +kernel)
theorem tw_884 : (.sameField RX8 RX1 "kind" "I" : Cond) ∈ ab_TS := ab_TS_in (tk_2 _ (List.mem_of_getElem? (i := 63) (by decide +kernel))) (by decide +kernel)
theorem tw_885 : (.fieldLink RX8 9 RX8 "kind" "I" : Cond) ∈ ab_TS := ab_TS_in (tk_2 _ (List.mem_of_getElem? (i := 62) (by decide +kernel))) (by decide +kernel)
theorem tw_886 : (.fieldLink RX9 11 RX9 "deeds" "[LBackwardYears$Deed;" : Cond) ∈ ab_TS := ab_TS_in (tk_1 _ (List.mem_of_getElem? (i := 38) (by decide +kernel))) (by decide +kernel)
theorem tw_887 : (.fieldLink RX9 17 RX9 "coins" "I" : Cond) ∈ ab_TS := ab_TS_in (tk_1 _ (List.mem_of_getElem? (i := 44) (by decide +kernel))) (by decide +kernel)
theorem tw_888 : (.fieldLink RX9 21 RX9 "nail" "I" : Cond) ∈ ab_TS := ab_TS_in (tk_1 _ (List.mem_of_getElem? (i := 50) (by decide +kernel))) (by decide +kernel)
theorem tw_889 : (.fieldLink RX9 28 RX9 "deedCount" "I" : Cond) ∈ ab_TS := ab_TS_in (tk_1 _ (List.mem_of_getElem? (i := 39) (by decide +kernel))) (by decide +kernel)
theorem tw_890 : (.fieldLink RX9 31 RX9 "marks" "I" : Cond) ∈ ab_TS := ab_TS_in (tk_1 _ (List.mem_of_getElem? (i := 41) (by decide +kernel))) (by decide +kernel)
theorem tw_891 : (.fieldLink RX9 34 RX9 "law" "I" : Cond) ∈ ab_TS := ab_TS_in (tk_1 _ (List.mem_of_getElem? (i := 48) (by decide +kernel))) (by decide +kernel)
theorem tw_892 : (.fieldLink RX9 37 RX9 "rise" "I" : Cond) ∈ ab_TS := ab_TS_in (tk_1 _ (List.mem_of_getElem? (i := 52) (by decide +kernel))) (by decide +kernel)
theorem tw_893 : (.fieldLink RX9 40 RX9 "year" "I" : Cond) ∈ ab_TS := ab_TS_in (tk_1 _ (List.mem_of_getElem? (i := 54) (by decide +kernel))) (by decide +kernel)
theorem tw_894 : (.fieldLink RX9 43 RX6 "size" "I" : Cond) ∈ ab_TS := ab_TS_in (tk_1 _ (List.mem_of_getElem? (i := 145) (by decide +kernel))) (by decide +kernel)
theorem tw_895 : (.classLink RL 18 RX12 : Cond) ∈ ab_TS := ab_TS_in (tk_5 _ (List.mem_of_getElem? (i := 110) (by decide +kernel))) (by decide +kernel)
theorem tw_896 : (.instantiable RX12 41 : Cond) ∈ ab_TS := ab_TS_in (tk_5 _ (List.mem_of_getElem? (i := 111) (by decide +kernel))) (by decide +kernel)
theorem tw_897 : (.classLink RL 8 RX11 : Cond) ∈ ab_TS := ab_TS_in (tk_1 _ (List.mem_of_getElem? (i := 22) (by decide +kernel))) (by decide +kernel)
theorem tw_898 : (.instantiable RX11 10 : Cond) ∈ ab_TS := ab_TS_in (tk_1 _ (List.mem_of_getElem? (i := 23) (by decide +kernel))) (by decide +kernel)
theorem tw_899 : (.classLink RX11 22 RX10 : Cond) ∈ ab_TS := ab_TS_in (tk_1 _ (List.mem_of_getElem? (i := 73) (by decide +kernel))) (by decide +kernel)
theorem tw_900 : (.instantiable RX10 14 : Cond) ∈ ab_TS := ab_TS_in (tk_1 _ (List.mem_of_getElem? (i := 74) (by decide +kernel))) (by decide +kernel)
theorem tw_901 : (.instantiable RX6 4 : Cond) ∈ ab_TS := ab_TS_in (tk_1 _ (List.mem_of_getElem? (i := 133) (by decide +kernel))) (by decide +kernel)
theorem tw_902 : (.classLink RX11 7 RX9 : Cond) ∈ ab_TS := ab_TS_in (tk_1 _ (List.mem_of_getElem? (i := 30) (by decide +kernel))) (by decide +kernel)
theorem tw_903 : (.instantiable RX9 8 : Cond) ∈ ab_TS := ab_TS_in (tk_1 _ (List.mem_of_getElem? (i := 31) (by decide +kernel))) (by decide +kernel)
theorem tw_904 : (.classLink RX9 124 RX4 : Cond) ∈ ab_TS := ab_TS_in (tk_2 _ (List.mem_of_getElem? (i := 159) (by decide +kernel))) (by decide +kernel)
theorem tw_905 : (.instantiable RX4 14 : Cond) ∈ ab_TS := ab_TS_in (tk_2 _ (List.mem_of_getElem? (i := 160) (by decide +kernel))) (by decide +kernel)
theorem tw_906 : (.classLink RX9 127 RX7 : Cond) ∈ ab_TS := ab_TS_in (tk_2 _ (List.mem_of_getElem? (i := 180) (by decide +kernel))) (by decide +kernel)
theorem tw_907 : (.instantiable RX7 14 : Cond) ∈ ab_TS := ab_TS_in (tk_2 _ (List.mem_of_getElem? (i := 181) (by decide +kernel))) (by decide +kernel)
theorem tw_908 : (.classLink RX9 130 RX2 : Cond) ∈ ab_TS := ab_TS_in (tk_2 _ (List.mem_of_getElem? (i := 201) (by decide +kernel))) (by decide +kernel)
theorem tw_909 : (.instantiable RX2 14 : Cond) ∈ ab_TS := ab_TS_in (tk_2 _ (List.mem_of_getElem? (i := 202) (by decide +kernel))) (by decide +kernel)
theorem tw_910 : (.classLink RX9 133 RX5 : Cond) ∈ ab_TS := ab_TS_in (tk_2 _ (List.mem_of_getElem? (i := 222) (by decide +kernel))) (by decide +kernel)
theorem tw_911 : (.instantiable RX5 14 : Cond) ∈ ab_TS := ab_TS_in (tk_2 _ (List.mem_of_getElem? (i := 223) (by decide +kernel))) (by decide +kernel)
theorem tw_912 : (.classLink RX9 136 RX0 : Cond) ∈ ab_TS := ab_TS_in (tk_3 _ (List.mem_of_getElem? (i := 3) (by decide +kernel))) (by decide +kernel)
theorem tw_913 : (.instantiable RX0 14 : Cond) ∈ ab_TS := ab_TS_in (tk_3 _ (List.mem_of_getElem? (i := 4) (by decide +kernel))) (by decide +kernel)
theorem tw_914 : (.classLink RX9 139 RX3 : Cond) ∈ ab_TS := ab_TS_in (tk_3 _ (List.mem_of_getElem? (i := 24) (by decide +kernel))) (by decide +kernel)
theorem tw_915 : (.instantiable RX3 14 : Cond) ∈ ab_TS := ab_TS_in (tk_3 _ (List.mem_of_getElem? (i := 25) (by decide +kernel))) (by decide +kernel)
theorem tw_916 : (.classLink RX9 142 RX8 : Cond) ∈ ab_TS := ab_TS_in (tk_3 _ (List.mem_of_getElem? (i := 45) (by decide +kernel))) (by decide +kernel)
theorem tw_917 : (.instantiable RX8 14 : Cond) ∈ ab_TS := ab_TS_in (tk_3 _ (List.mem_of_getElem? (i := 46) (by decide +kernel))) (by decide +kernel)
theorem tw_918 : (.instantiable RX1 14 : Cond) ∈ ab_TS := ab_TS_in (tk_2 _ (List.mem_of_getElem? (i := 34) (by decide +kernel))) (by decide +kernel)
theorem tw_919 : (.selects RX10 yX10_add yX10_add : Cond) ∈ ab_TS := ab_TS_in (tk_3 _ (List.mem_of_getElem? (i := 168) (by decide +kernel))) (by decide +kernel)
theorem tw_920 : (.selects RX10 yX10_begin yX10_begin : Cond) ∈ ab_TS := ab_TS_in (tk_3 _ (List.mem_of_getElem? (i := 176) (by decide +kernel))) (by decide +kernel)
theorem tw_921 : (.selects RX10 yX10_deedAt yX10_deedAt : Cond) ∈ ab_TS := ab_TS_in (tk_0 _ (List.mem_of_getElem? (i := 9) (by decide +kernel))) (by decide +kernel)
theorem tw_922 : (.selects RX10 yX10_evenPlace yX10_evenPlace : Cond) ∈ ab_TS := ab_TS_in (tk_3 _ (List.mem_of_getElem? (i := 184) (by decide +kernel))) (by decide +kernel)
theorem tw_923 : (.selects RX10 yX10_evenYear yX10_evenYear : Cond) ∈ ab_TS := ab_TS_in (tk_3 _ (List.mem_of_getElem? (i := 180) (by decide +kernel))) (by decide +kernel)
theorem tw_924 : (.selects RX10 yX10_fate yX10_fate : Cond) ∈ ab_TS := ab_TS_in (tk_4 _ (List.mem_of_getElem? (i := 28) (by decide +kernel))) (by decide +kernel)
theorem tw_925 : (.selects RX10 yX10_leastNails yX10_leastNails : Cond) ∈ ab_TS := ab_TS_in (tk_4 _ (List.mem_of_getElem? (i := 43) (by decide +kernel))) (by decide +kernel)
theorem tw_926 : (.selects RX10 yX10_letFall yX10_letFall : Cond) ∈ ab_TS := ab_TS_in (tk_0 _ (List.mem_of_getElem? (i := 13) (by decide +kernel))) (by decide +kernel)
theorem tw_927 : (.selects RX10 yX10_nailAt yX10_nailAt : Cond) ∈ ab_TS := ab_TS_in (tk_0 _ (List.mem_of_getElem? (i := 10) (by decide +kernel))) (by decide +kernel)
theorem tw_928 : (.selects RX10 yX10_oddYear yX10_oddYear : Cond) ∈ ab_TS := ab_TS_in (tk_3 _ (List.mem_of_getElem? (i := 219) (by decide +kernel))) (by decide +kernel)
theorem tw_929 : (.selects RX10 yX10_open yX10_open : Cond) ∈ ab_TS := ab_TS_in (tk_3 _ (List.mem_of_getElem? (i := 164) (by decide +kernel))) (by decide +kernel)
theorem tw_930 : (.selects RX10 yX10_play yX10_play : Cond) ∈ ab_TS := ab_TS_in (tk_3 _ (List.mem_of_getElem? (i := 172) (by decide +kernel))) (by decide +kernel)
theorem tw_931 : (.selects RX10 yX10_standing yX10_standing : Cond) ∈ ab_TS := ab_TS_in (tk_4 _ (List.mem_of_getElem? (i := 4) (by decide +kernel))) (by decide +kernel)
theorem tw_932 : (.selects RX10 yX10_stays yX10_stays : Cond) ∈ ab_TS := ab_TS_in (tk_0 _ (List.mem_of_getElem? (i := 11) (by decide +kernel))) (by decide +kernel)
theorem tw_933 : (.selects RX10 yX10_undo yX10_undo : Cond) ∈ ab_TS := ab_TS_in (tk_0 _ (List.mem_of_getElem? (i := 12) (by decide +kernel))) (by decide +kernel)
theorem tw_934 : (.selects RX11 yX11_addMoves yX11_addMoves : Cond) ∈ ab_TS := ab_TS_in (tk_0 _ (List.mem_of_getElem? (i := 21) (by decide +kernel))) (by decide +kernel)
theorem tw_935 : (.selects RX11 yX11_behind yX11_behind : Cond) ∈ ab_TS := ab_TS_in (tk_4 _ (List.mem_of_getElem? (i := 32) (by decide +kernel))) (by decide +kernel)
theorem tw_936 : (.selects RX11 yX11_bestMove yX11_bestMove : Cond) ∈ ab_TS := ab_TS_in (tk_0 _ (List.mem_of_getElem? (i := 22) (by decide +kernel))) (by decide +kernel)
theorem tw_937 : (.selects RX11 yX11_byLaw yX11_byLaw : Cond) ∈ ab_TS := ab_TS_in (tk_4 _ (List.mem_of_getElem? (i := 145) (by decide +kernel))) (by decide +kernel)
theorem tw_938 : (.selects RX11 yX11_care yX11_care : Cond) ∈ ab_TS := ab_TS_in (tk_4 _ (List.mem_of_getElem? (i := 232) (by decide +kernel))) (by decide +kernel)
theorem tw_939 : (.selects RX11 yX11_copy yX11_copy : Cond) ∈ ab_TS := ab_TS_in (tk_4 _ (List.mem_of_getElem? (i := 220) (by decide +kernel))) (by decide +kernel)
theorem tw_940 : (.selects RX11 yX11_count yX11_count : Cond) ∈ ab_TS := ab_TS_in (tk_4 _ (List.mem_of_getElem? (i := 187) (by decide +kernel))) (by decide +kernel)
theorem tw_941 : (.selects RX11 yX11_counted yX11_counted : Cond) ∈ ab_TS := ab_TS_in (tk_0 _ (List.mem_of_getElem? (i := 29) (by decide +kernel))) (by decide +kernel)
theorem tw_942 : (.selects RX11 yX11_deed yX11_deed : Cond) ∈ ab_TS := ab_TS_in (tk_3 _ (List.mem_of_getElem? (i := 92) (by decide +kernel))) (by decide +kernel)
theorem tw_943 : (.selects RX11 yX11_element yX11_element : Cond) ∈ ab_TS := ab_TS_in (tk_5 _ (List.mem_of_getElem? (i := 89) (by decide +kernel))) (by decide +kernel)
theorem tw_944 : (.selects RX11 yX11_endYears yX11_endYears : Cond) ∈ ab_TS := ab_TS_in (tk_0 _ (List.mem_of_getElem? (i := 14) (by decide +kernel))) (by decide +kernel)
theorem tw_945 : (.selects RX11 yX11_endedSoBefore yX11_endedSoBefore : Cond) ∈ ab_TS := ab_TS_in (tk_0 _ (List.mem_of_getElem? (i := 25) (by decide +kernel))) (by decide +kernel)
theorem tw_946 : (.selects RX11 yX11_even yX11_even : Cond) ∈ ab_TS := ab_TS_in (tk_4 _ (List.mem_of_getElem? (i := 14) (by decide +kernel))) (by decide +kernel)
theorem tw_947 : (.selects RX11 yX11_ever yX11_ever : Cond) ∈ ab_TS := ab_TS_in (tk_4 _ (List.mem_of_getElem? (i := 119) (by decide +kernel))) (by decide +kernel)
theorem tw_948 : (.selects RX11 yX11_firstWrong yX11_firstWrong : Cond) ∈ ab_TS := ab_TS_in (tk_0 _ (List.mem_of_getElem? (i := 28) (by decide +kernel))) (by decide +kernel)
theorem tw_949 : (.selects RX11 yX11_free yX11_free : Cond) ∈ ab_TS := ab_TS_in (tk_4 _ (List.mem_of_getElem? (i := 49) (by decide +kernel))) (by decide +kernel)
theorem tw_950 : (.selects RX11 yX11_freest yX11_freest : Cond) ∈ ab_TS := ab_TS_in (tk_0 _ (List.mem_of_getElem? (i := 15) (by decide +kernel))) (by decide +kernel)
theorem tw_951 : (.selects RX11 yX11_help yX11_help : Cond) ∈ ab_TS := ab_TS_in (tk_4 _ (List.mem_of_getElem? (i := 124) (by decide +kernel))) (by decide +kernel)
theorem tw_952 : (.selects RX11 yX11_image yX11_image : Cond) ∈ ab_TS := ab_TS_in (tk_4 _ (List.mem_of_getElem? (i := 179) (by decide +kernel))) (by decide +kernel)
theorem tw_953 : (.selects RX11 yX11_judge yX11_judge : Cond) ∈ ab_TS := ab_TS_in (tk_4 _ (List.mem_of_getElem? (i := 166) (by decide +kernel))) (by decide +kernel)
theorem tw_954 : (.selects RX11 yX11_keep yX11_keep : Cond) ∈ ab_TS := ab_TS_in (tk_4 _ (List.mem_of_getElem? (i := 195) (by decide +kernel))) (by decide +kernel)
theorem tw_955 : (.selects RX11 yX11_lasts yX11_lasts : Cond) ∈ ab_TS := ab_TS_in (tk_4 _ (List.mem_of_getElem? (i := 20) (by decide +kernel))) (by decide +kernel)
theorem tw_956 : (.selects RX11 yX11_least yX11_least : Cond) ∈ ab_TS := ab_TS_in (tk_4 _ (List.mem_of_getElem? (i := 36) (by decide +kernel))) (by decide +kernel)
theorem tw_957 : (.selects RX11 yX11_listMoves yX11_listMoves : Cond) ∈ ab_TS := ab_TS_in (tk_0 _ (List.mem_of_getElem? (i := 20) (by decide +kernel))) (by decide +kernel)
theorem tw_958 : (.selects RX11 yX11_listRefusal yX11_listRefusal : Cond) ∈ ab_TS := ab_TS_in (tk_0 _ (List.mem_of_getElem? (i := 8) (by decide +kernel))) (by decide +kernel)
theorem tw_959 : (.selects RX11 yX11_marks yX11_marks : Cond) ∈ ab_TS := ab_TS_in (tk_3 _ (List.mem_of_getElem? (i := 97) (by decide +kernel))) (by decide +kernel)
theorem tw_960 : (.selects RX11 yX11_may yX11_may : Cond) ∈ ab_TS := ab_TS_in (tk_3 _ (List.mem_of_getElem? (i := 116) (by decide +kernel))) (by decide +kernel)
theorem tw_961 : (.selects RX11 yX11_month yX11_month : Cond) ∈ ab_TS := ab_TS_in (tk_4 _ (List.mem_of_getElem? (i := 136) (by decide +kernel))) (by decide +kernel)
theorem tw_962 : (.selects RX11 yX11_nail yX11_nail : Cond) ∈ ab_TS := ab_TS_in (tk_4 _ (List.mem_of_getElem? (i := 141) (by decide +kernel))) (by decide +kernel)
theorem tw_963 : (.selects RX11 yX11_nextOrder yX11_nextOrder : Cond) ∈ ab_TS := ab_TS_in (tk_0 _ (List.mem_of_getElem? (i := 18) (by decide +kernel))) (by decide +kernel)
theorem tw_964 : (.selects RX11 yX11_orderDigits yX11_orderDigits : Cond) ∈ ab_TS := ab_TS_in (tk_0 _ (List.mem_of_getElem? (i := 17) (by decide +kernel))) (by decide +kernel)
theorem tw_965 : (.selects RX11 yX11_pair yX11_pair : Cond) ∈ ab_TS := ab_TS_in (tk_3 _ (List.mem_of_getElem? (i := 144) (by decide +kernel))) (by decide +kernel)
theorem tw_966 : (.selects RX11 yX11_plan yX11_plan : Cond) ∈ ab_TS := ab_TS_in (tk_4 _ (List.mem_of_getElem? (i := 75) (by decide +kernel))) (by decide +kernel)
theorem tw_967 : (.selects RX11 yX11_playList yX11_playList : Cond) ∈ ab_TS := ab_TS_in (tk_0 _ (List.mem_of_getElem? (i := 6) (by decide +kernel))) (by decide +kernel)
theorem tw_968 : (.selects RX11 yX11_playMove yX11_playMove : Cond) ∈ ab_TS := ab_TS_in (tk_0 _ (List.mem_of_getElem? (i := 24) (by decide +kernel))) (by decide +kernel)
theorem tw_969 : (.selects RX11 yX11_playSeeds yX11_playSeeds : Cond) ∈ ab_TS := ab_TS_in (tk_0 _ (List.mem_of_getElem? (i := 27) (by decide +kernel))) (by decide +kernel)
theorem tw_970 : (.selects RX11 yX11_playTwo yX11_playTwo : Cond) ∈ ab_TS := ab_TS_in (tk_0 _ (List.mem_of_getElem? (i := 26) (by decide +kernel))) (by decide +kernel)
theorem tw_971 : (.selects RX11 yX11_put yX11_put : Cond) ∈ ab_TS := ab_TS_in (tk_4 _ (List.mem_of_getElem? (i := 211) (by decide +kernel))) (by decide +kernel)
theorem tw_972 : (.selects RX11 yX11_restore yX11_restore : Cond) ∈ ab_TS := ab_TS_in (tk_4 _ (List.mem_of_getElem? (i := 183) (by decide +kernel))) (by decide +kernel)
theorem tw_973 : (.selects RX11 yX11_rise yX11_rise : Cond) ∈ ab_TS := ab_TS_in (tk_3 _ (List.mem_of_getElem? (i := 105) (by decide +kernel))) (by decide +kernel)
theorem tw_974 : (.selects RX11 yX11_row yX11_row : Cond) ∈ ab_TS := ab_TS_in (tk_4 _ (List.mem_of_getElem? (i := 203) (by decide +kernel))) (by decide +kernel)
theorem tw_975 : (.selects RX11 yX11_seeded yX11_seeded : Cond) ∈ ab_TS := ab_TS_in (tk_4 _ (List.mem_of_getElem? (i := 149) (by decide +kernel))) (by decide +kernel)
theorem tw_976 : (.selects RX11 yX11_set yX11_set : Cond) ∈ ab_TS := ab_TS_in (tk_3 _ (List.mem_of_getElem? (i := 109) (by decide +kernel))) (by decide +kernel)
theorem tw_977 : (.selects RX11 yX11_shelfAt yX11_shelfAt : Cond) ∈ ab_TS := ab_TS_in (tk_0 _ (List.mem_of_getElem? (i := 0) (by decide +kernel))) (by decide +kernel)
theorem tw_978 : (.selects RX11 yX11_state yX11_state : Cond) ∈ ab_TS := ab_TS_in (tk_3 _ (List.mem_of_getElem? (i := 101) (by decide +kernel))) (by decide +kernel)
theorem tw_979 : (.selects RX11 yX11_swapPlaces yX11_swapPlaces : Cond) ∈ ab_TS := ab_TS_in (tk_0 _ (List.mem_of_getElem? (i := 19) (by decide +kernel))) (by decide +kernel)
theorem tw_980 : (.selects RX11 yX11_takeList yX11_takeList : Cond) ∈ ab_TS := ab_TS_in (tk_0 _ (List.mem_of_getElem? (i := 7) (by decide +kernel))) (by decide +kernel)
theorem tw_981 : (.selects RX11 yX11_takeOrder yX11_takeOrder : Cond) ∈ ab_TS := ab_TS_in (tk_0 _ (List.mem_of_getElem? (i := 16) (by decide +kernel))) (by decide +kernel)
theorem tw_982 : (.selects RX11 yX11_toss yX11_toss : Cond) ∈ ab_TS := ab_TS_in (tk_5 _ (List.mem_of_getElem? (i := 0) (by decide +kernel))) (by decide +kernel)
theorem tw_983 : (.selects RX11 yX11_town yX11_town : Cond) ∈ ab_TS := ab_TS_in (tk_1 _ (List.mem_of_getElem? (i := 189) (by decide +kernel))) (by decide +kernel)
theorem tw_984 : (.selects RX11 yX11_two yX11_two : Cond) ∈ ab_TS := ab_TS_in (tk_4 _ (List.mem_of_getElem? (i := 128) (by decide +kernel))) (by decide +kernel)
theorem tw_985 : (.selects RX11 yX11_why yX11_why : Cond) ∈ ab_TS := ab_TS_in (tk_4 _ (List.mem_of_getElem? (i := 24) (by decide +kernel))) (by decide +kernel)
theorem tw_986 : (.selects RX11 yX11_worthOfMove yX11_worthOfMove : Cond) ∈ ab_TS := ab_TS_in (tk_0 _ (List.mem_of_getElem? (i := 23) (by decide +kernel))) (by decide +kernel)
theorem tw_987 : (.selects RX12 yX12_backOf yX12_backOf : Cond) ∈ ab_TS := ab_TS_in (tk_0 _ (List.mem_of_getElem? (i := 43) (by decide +kernel))) (by decide +kernel)
theorem tw_988 : (.selects RX12 yX12_begins yX12_begins : Cond) ∈ ab_TS := ab_TS_in (tk_0 _ (List.mem_of_getElem? (i := 48) (by decide +kernel))) (by decide +kernel)
theorem tw_989 : (.selects RX12 yX12_behind yX12_behind : Cond) ∈ ab_TS := ab_TS_in (tk_6 _ (List.mem_of_getElem? (i := 186) (by decide +kernel))) (by decide +kernel)
theorem tw_990 : (.selects RX12 yX12_byLaw yX12_byLaw : Cond) ∈ ab_TS := ab_TS_in (tk_7 _ (List.mem_of_getElem? (i := 11) (by decide +kernel))) (by decide +kernel)
theorem tw_991 : (.selects RX12 yX12_care yX12_care : Cond) ∈ ab_TS := ab_TS_in (tk_7 _ (List.mem_of_getElem? (i := 73) (by decide +kernel))) (by decide +kernel)
theorem tw_992 : (.selects RX12 yX12_careOf yX12_careOf : Cond) ∈ ab_TS := ab_TS_in (tk_0 _ (List.mem_of_getElem? (i := 66) (by decide +kernel))) (by decide +kernel)
theorem tw_993 : (.selects RX12 yX12_comes yX12_comes : Cond) ∈ ab_TS := ab_TS_in (tk_0 _ (List.mem_of_getElem? (i := 39) (by decide +kernel))) (by decide +kernel)
theorem tw_994 : (.selects RX12 yX12_copy yX12_copy : Cond) ∈ ab_TS := ab_TS_in (tk_7 _ (List.mem_of_getElem? (i := 69) (by decide +kernel))) (by decide +kernel)
theorem tw_995 : (.selects RX12 yX12_costOf yX12_costOf : Cond) ∈ ab_TS := ab_TS_in (tk_0 _ (List.mem_of_getElem? (i := 42) (by decide +kernel))) (by decide +kernel)
theorem tw_996 : (.selects RX12 yX12_count yX12_count : Cond) ∈ ab_TS := ab_TS_in (tk_7 _ (List.mem_of_getElem? (i := 44) (by decide +kernel))) (by decide +kernel)
theorem tw_997 : (.selects RX12 yX12_deed yX12_deed : Cond) ∈ ab_TS := ab_TS_in (tk_6 _ (List.mem_of_getElem? (i := 57) (by decide +kernel))) (by decide +kernel)
theorem tw_998 : (.selects RX12 yX12_drawn yX12_drawn : Cond) ∈ ab_TS := ab_TS_in (tk_0 _ (List.mem_of_getElem? (i := 64) (by decide +kernel))) (by decide +kernel)
theorem tw_999 : (.selects RX12 yX12_element yX12_element : Cond) ∈ ab_TS := ab_TS_in (tk_7 _ (List.mem_of_getElem? (i := 65) (by decide +kernel))) (by decide +kernel)
theorem tw_1000 : (.selects RX12 yX12_even yX12_even : Cond) ∈ ab_TS := ab_TS_in (tk_6 _ (List.mem_of_getElem? (i := 170) (by decide +kernel))) (by decide +kernel)
theorem tw_1001 : (.selects RX12 yX12_evenYear yX12_evenYear : Cond) ∈ ab_TS := ab_TS_in (tk_0 _ (List.mem_of_getElem? (i := 50) (by decide +kernel))) (by decide +kernel)
theorem tw_1002 : (.selects RX12 yX12_ever yX12_ever : Cond) ∈ ab_TS := ab_TS_in (tk_6 _ (List.mem_of_getElem? (i := 231) (by decide +kernel))) (by decide +kernel)
theorem tw_1003 : (.selects RX12 yX12_falls yX12_falls : Cond) ∈ ab_TS := ab_TS_in (tk_0 _ (List.mem_of_getElem? (i := 57) (by decide +kernel))) (by decide +kernel)
theorem tw_1004 : (.selects RX12 yX12_finds yX12_finds : Cond) ∈ ab_TS := ab_TS_in (tk_0 _ (List.mem_of_getElem? (i := 59) (by decide +kernel))) (by decide +kernel)
theorem tw_1005 : (.selects RX12 yX12_free yX12_free : Cond) ∈ ab_TS := ab_TS_in (tk_6 _ (List.mem_of_getElem? (i := 202) (by decide +kernel))) (by decide +kernel)
theorem tw_1006 : (.selects RX12 yX12_get yX12_get : Cond) ∈ ab_TS := ab_TS_in (tk_0 _ (List.mem_of_getElem? (i := 41) (by decide +kernel))) (by decide +kernel)
theorem tw_1007 : (.selects RX12 yX12_help yX12_help : Cond) ∈ ab_TS := ab_TS_in (tk_6 _ (List.mem_of_getElem? (i := 235) (by decide +kernel))) (by decide +kernel)
theorem tw_1008 : (.selects RX12 yX12_here yX12_here : Cond) ∈ ab_TS := ab_TS_in (tk_0 _ (List.mem_of_getElem? (i := 33) (by decide +kernel))) (by decide +kernel)
theorem tw_1009 : (.selects RX12 yX12_holds yX12_holds : Cond) ∈ ab_TS := ab_TS_in (tk_0 _ (List.mem_of_getElem? (i := 55) (by decide +kernel))) (by decide +kernel)
theorem tw_1010 : (.selects RX12 yX12_image yX12_image : Cond) ∈ ab_TS := ab_TS_in (tk_7 _ (List.mem_of_getElem? (i := 36) (by decide +kernel))) (by decide +kernel)
theorem tw_1011 : (.selects RX12 yX12_isDeed yX12_isDeed : Cond) ∈ ab_TS := ab_TS_in (tk_0 _ (List.mem_of_getElem? (i := 40) (by decide +kernel))) (by decide +kernel)
theorem tw_1012 : (.selects RX12 yX12_isDigit yX12_isDigit : Cond) ∈ ab_TS := ab_TS_in (tk_0 _ (List.mem_of_getElem? (i := 36) (by decide +kernel))) (by decide +kernel)
theorem tw_1013 : (.selects RX12 yX12_isHeld yX12_isHeld : Cond) ∈ ab_TS := ab_TS_in (tk_0 _ (List.mem_of_getElem? (i := 54) (by decide +kernel))) (by decide +kernel)
theorem tw_1014 : (.selects RX12 yX12_isKept yX12_isKept : Cond) ∈ ab_TS := ab_TS_in (tk_0 _ (List.mem_of_getElem? (i := 44) (by decide +kernel))) (by decide +kernel)
theorem tw_1015 : (.selects RX12 yX12_judge yX12_judge : Cond) ∈ ab_TS := ab_TS_in (tk_7 _ (List.mem_of_getElem? (i := 27) (by decide +kernel))) (by decide +kernel)
theorem tw_1016 : (.selects RX12 yX12_keep yX12_keep : Cond) ∈ ab_TS := ab_TS_in (tk_7 _ (List.mem_of_getElem? (i := 49) (by decide +kernel))) (by decide +kernel)
theorem tw_1017 : (.selects RX12 yX12_lasts yX12_lasts : Cond) ∈ ab_TS := ab_TS_in (tk_6 _ (List.mem_of_getElem? (i := 174) (by decide +kernel))) (by decide +kernel)
theorem tw_1018 : (.selects RX12 yX12_lays yX12_lays : Cond) ∈ ab_TS := ab_TS_in (tk_0 _ (List.mem_of_getElem? (i := 47) (by decide +kernel))) (by decide +kernel)
theorem tw_1019 : (.selects RX12 yX12_least yX12_least : Cond) ∈ ab_TS := ab_TS_in (tk_6 _ (List.mem_of_getElem? (i := 190) (by decide +kernel))) (by decide +kernel)
theorem tw_1020 : (.selects RX12 yX12_leastOf yX12_leastOf : Cond) ∈ ab_TS := ab_TS_in (tk_0 _ (List.mem_of_getElem? (i := 65) (by decide +kernel))) (by decide +kernel)
theorem tw_1021 : (.selects RX12 yX12_lines yX12_lines : Cond) ∈ ab_TS := ab_TS_in (tk_0 _ (List.mem_of_getElem? (i := 60) (by decide +kernel))) (by decide +kernel)
theorem tw_1022 : (.selects RX12 yX12_marks yX12_marks : Cond) ∈ ab_TS := ab_TS_in (tk_6 _ (List.mem_of_getElem? (i := 82) (by decide +kernel))) (by decide +kernel)
theorem tw_1023 : (.selects RX12 yX12_marksBy yX12_marksBy : Cond) ∈ ab_TS := ab_TS_in (tk_0 _ (List.mem_of_getElem? (i := 51) (by decide +kernel))) (by decide +kernel)
theorem tw_1024 : (.selects RX12 yX12_may yX12_may : Cond) ∈ ab_TS := ab_TS_in (tk_6 _ (List.mem_of_getElem? (i := 102) (by decide +kernel))) (by decide +kernel)
theorem tw_1025 : (.selects RX12 yX12_mayBy yX12_mayBy : Cond) ∈ ab_TS := ab_TS_in (tk_0 _ (List.mem_of_getElem? (i := 45) (by decide +kernel))) (by decide +kernel)
theorem tw_1026 : (.selects RX12 yX12_month yX12_month : Cond) ∈ ab_TS := ab_TS_in (tk_7 _ (List.mem_of_getElem? (i := 3) (by decide +kernel))) (by decide +kernel)
theorem tw_1027 : (.selects RX12 yX12_nail yX12_nail : Cond) ∈ ab_TS := ab_TS_in (tk_7 _ (List.mem_of_getElem? (i := 7) (by decide +kernel))) (by decide +kernel)
theorem tw_1028 : (.selects RX12 yX12_oddYear yX12_oddYear : Cond) ∈ ab_TS := ab_TS_in (tk_0 _ (List.mem_of_getElem? (i := 53) (by decide +kernel))) (by decide +kernel)
theorem tw_1029 : (.selects RX12 yX12_pair yX12_pair : Cond) ∈ ab_TS := ab_TS_in (tk_6 _ (List.mem_of_getElem? (i := 110) (by decide +kernel))) (by decide +kernel)
theorem tw_1030 : (.selects RX12 yX12_pairOf yX12_pairOf : Cond) ∈ ab_TS := ab_TS_in (tk_0 _ (List.mem_of_getElem? (i := 49) (by decide +kernel))) (by decide +kernel)
theorem tw_1031 : (.selects RX12 yX12_plan yX12_plan : Cond) ∈ ab_TS := ab_TS_in (tk_6 _ (List.mem_of_getElem? (i := 210) (by decide +kernel))) (by decide +kernel)
theorem tw_1032 : (.selects RX12 yX12_plans yX12_plans : Cond) ∈ ab_TS := ab_TS_in (tk_0 _ (List.mem_of_getElem? (i := 61) (by decide +kernel))) (by decide +kernel)
theorem tw_1033 : (.selects RX12 yX12_priceOf yX12_priceOf : Cond) ∈ ab_TS := ab_TS_in (tk_0 _ (List.mem_of_getElem? (i := 52) (by decide +kernel))) (by decide +kernel)
theorem tw_1034 : (.selects RX12 yX12_put yX12_put : Cond) ∈ ab_TS := ab_TS_in (tk_7 _ (List.mem_of_getElem? (i := 61) (by decide +kernel))) (by decide +kernel)
theorem tw_1035 : (.selects RX12 yX12_readsDeed yX12_readsDeed : Cond) ∈ ab_TS := ab_TS_in (tk_0 _ (List.mem_of_getElem? (i := 34) (by decide +kernel))) (by decide +kernel)
theorem tw_1036 : (.selects RX12 yX12_readsMark yX12_readsMark : Cond) ∈ ab_TS := ab_TS_in (tk_0 _ (List.mem_of_getElem? (i := 38) (by decide +kernel))) (by decide +kernel)
theorem tw_1037 : (.selects RX12 yX12_readsNumber yX12_readsNumber : Cond) ∈ ab_TS := ab_TS_in (tk_0 _ (List.mem_of_getElem? (i := 35) (by decide +kernel))) (by decide +kernel)
theorem tw_1038 : (.selects RX12 yX12_readsStatement yX12_readsStatement : Cond) ∈ ab_TS := ab_TS_in (tk_0 _ (List.mem_of_getElem? (i := 32) (by decide +kernel))) (by decide +kernel)
theorem tw_1039 : (.selects RX12 yX12_restore yX12_restore : Cond) ∈ ab_TS := ab_TS_in (tk_7 _ (List.mem_of_getElem? (i := 40) (by decide +kernel))) (by decide +kernel)
theorem tw_1040 : (.selects RX12 yX12_rise yX12_rise : Cond) ∈ ab_TS := ab_TS_in (tk_6 _ (List.mem_of_getElem? (i := 91) (by decide +kernel))) (by decide +kernel)
theorem tw_1041 : (.selects RX12 yX12_row yX12_row : Cond) ∈ ab_TS := ab_TS_in (tk_7 _ (List.mem_of_getElem? (i := 57) (by decide +kernel))) (by decide +kernel)
theorem tw_1042 : (.selects RX12 yX12_seeded yX12_seeded : Cond) ∈ ab_TS := ab_TS_in (tk_7 _ (List.mem_of_getElem? (i := 15) (by decide +kernel))) (by decide +kernel)
theorem tw_1043 : (.selects RX12 yX12_set yX12_set : Cond) ∈ ab_TS := ab_TS_in (tk_6 _ (List.mem_of_getElem? (i := 95) (by decide +kernel))) (by decide +kernel)
theorem tw_1044 : (.selects RX12 yX12_standing yX12_standing : Cond) ∈ ab_TS := ab_TS_in (tk_0 _ (List.mem_of_getElem? (i := 58) (by decide +kernel))) (by decide +kernel)
theorem tw_1045 : (.selects RX12 yX12_state yX12_state : Cond) ∈ ab_TS := ab_TS_in (tk_6 _ (List.mem_of_getElem? (i := 86) (by decide +kernel))) (by decide +kernel)
theorem tw_1046 : (.selects RX12 yX12_takes yX12_takes : Cond) ∈ ab_TS := ab_TS_in (tk_0 _ (List.mem_of_getElem? (i := 37) (by decide +kernel))) (by decide +kernel)
theorem tw_1047 : (.selects RX12 yX12_thrown yX12_thrown : Cond) ∈ ab_TS := ab_TS_in (tk_6 _ (List.mem_of_getElem? (i := 2) (by decide +kernel))) (by decide +kernel)
theorem tw_1048 : (.selects RX12 yX12_toss yX12_toss : Cond) ∈ ab_TS := ab_TS_in (tk_7 _ (List.mem_of_getElem? (i := 81) (by decide +kernel))) (by decide +kernel)
theorem tw_1049 : (.selects RX12 yX12_town yX12_town : Cond) ∈ ab_TS := ab_TS_in (tk_6 _ (List.mem_of_getElem? (i := 6) (by decide +kernel))) (by decide +kernel)
theorem tw_1050 : (.selects RX12 yX12_tries yX12_tries : Cond) ∈ ab_TS := ab_TS_in (tk_0 _ (List.mem_of_getElem? (i := 62) (by decide +kernel))) (by decide +kernel)
theorem tw_1051 : (.selects RX12 yX12_two yX12_two : Cond) ∈ ab_TS := ab_TS_in (tk_6 _ (List.mem_of_getElem? (i := 239) (by decide +kernel))) (by decide +kernel)
theorem tw_1052 : (.selects RX12 yX12_undoes yX12_undoes : Cond) ∈ ab_TS := ab_TS_in (tk_0 _ (List.mem_of_getElem? (i := 56) (by decide +kernel))) (by decide +kernel)
theorem tw_1053 : (.selects RX12 yX12_why yX12_why : Cond) ∈ ab_TS := ab_TS_in (tk_6 _ (List.mem_of_getElem? (i := 182) (by decide +kernel))) (by decide +kernel)
theorem tw_1054 : (.selects RX12 yX12_worthOf yX12_worthOf : Cond) ∈ ab_TS := ab_TS_in (tk_0 _ (List.mem_of_getElem? (i := 63) (by decide +kernel))) (by decide +kernel)
theorem tw_1055 : (.selects RX12 yX12_wrongKept yX12_wrongKept : Cond) ∈ ab_TS := ab_TS_in (tk_0 _ (List.mem_of_getElem? (i := 67) (by decide +kernel))) (by decide +kernel)
theorem tw_1056 : (.selects RX12 yX12_wrongList yX12_wrongList : Cond) ∈ ab_TS := ab_TS_in (tk_0 _ (List.mem_of_getElem? (i := 46) (by decide +kernel))) (by decide +kernel)
theorem tw_1057 : (.selects RX12 yX12_wrongRow yX12_wrongRow : Cond) ∈ ab_TS := ab_TS_in (tk_0 _ (List.mem_of_getElem? (i := 31) (by decide +kernel))) (by decide +kernel)
theorem tw_1058 : (.selects RX0 yX1_fail yX1_fail : Cond) ∈ ab_TS := ab_TS_in (tk_5 _ (List.mem_of_getElem? (i := 7) (by decide +kernel))) (by decide +kernel)
theorem tw_1059 : (.selects RX1 yX1_fail yX1_fail : Cond) ∈ ab_TS := ab_TS_in (tk_5 _ (List.mem_of_getElem? (i := 5) (by decide +kernel))) (by decide +kernel)
theorem tw_1060 : (.selects RX2 yX1_fail yX1_fail : Cond) ∈ ab_TS := ab_TS_in (tk_5 _ (List.mem_of_getElem? (i := 8) (by decide +kernel))) (by decide +kernel)
theorem tw_1061 : (.selects RX3 yX1_fail yX1_fail : Cond) ∈ ab_TS := ab_TS_in (tk_5 _ (List.mem_of_getElem? (i := 9) (by decide +kernel))) (by decide +kernel)
theorem tw_1062 : (.selects RX4 yX1_fail yX1_fail : Cond) ∈ ab_TS := ab_TS_in (tk_5 _ (List.mem_of_getElem? (i := 10) (by decide +kernel))) (by decide +kernel)
theorem tw_1063 : (.selects RX5 yX1_fail yX1_fail : Cond) ∈ ab_TS := ab_TS_in (tk_5 _ (List.mem_of_getElem? (i := 11) (by decide +kernel))) (by decide +kernel)
theorem tw_1064 : (.selects RX7 yX1_fail yX1_fail : Cond) ∈ ab_TS := ab_TS_in (tk_5 _ (List.mem_of_getElem? (i := 12) (by decide +kernel))) (by decide +kernel)
theorem tw_1065 : (.selects RX8 yX1_fail yX1_fail : Cond) ∈ ab_TS := ab_TS_in (tk_5 _ (List.mem_of_getElem? (i := 13) (by decide +kernel))) (by decide +kernel)
theorem tw_1066 : (.selects RX0 yX1_hasGround yX1_hasGround : Cond) ∈ ab_TS := ab_TS_in (tk_3 _ (List.mem_of_getElem? (i := 134) (by decide +kernel))) (by decide +kernel)
theorem tw_1067 : (.selects RX1 yX1_hasGround yX1_hasGround : Cond) ∈ ab_TS := ab_TS_in (tk_3 _ (List.mem_of_getElem? (i := 132) (by decide +kernel))) (by decide +kernel)
theorem tw_1068 : (.selects RX2 yX1_hasGround yX1_hasGround : Cond) ∈ ab_TS := ab_TS_in (tk_3 _ (List.mem_of_getElem? (i := 135) (by decide +kernel))) (by decide +kernel)
theorem tw_1069 : (.selects RX3 yX1_hasGround yX1_hasGround : Cond) ∈ ab_TS := ab_TS_in (tk_3 _ (List.mem_of_getElem? (i := 136) (by decide +kernel))) (by decide +kernel)
theorem tw_1070 : (.selects RX4 yX1_hasGround yX1_hasGround : Cond) ∈ ab_TS := ab_TS_in (tk_3 _ (List.mem_of_getElem? (i := 137) (by decide +kernel))) (by decide +kernel)
theorem tw_1071 : (.selects RX5 yX1_hasGround yX1_hasGround : Cond) ∈ ab_TS := ab_TS_in (tk_3 _ (List.mem_of_getElem? (i := 138) (by decide +kernel))) (by decide +kernel)
theorem tw_1072 : (.selects RX7 yX1_hasGround yX1_hasGround : Cond) ∈ ab_TS := ab_TS_in (tk_3 _ (List.mem_of_getElem? (i := 139) (by decide +kernel))) (by decide +kernel)
theorem tw_1073 : (.selects RX8 yX1_hasGround yX1_hasGround : Cond) ∈ ab_TS := ab_TS_in (tk_3 _ (List.mem_of_getElem? (i := 140) (by decide +kernel))) (by decide +kernel)
theorem tw_1074 : (.selects RX0 yX1_marksBehind yX1_marksBehind : Cond) ∈ ab_TS := ab_TS_in (tk_3 _ (List.mem_of_getElem? (i := 195) (by decide +kernel))) (by decide +kernel)
theorem tw_1075 : (.selects RX1 yX1_marksBehind yX1_marksBehind : Cond) ∈ ab_TS := ab_TS_in (tk_3 _ (List.mem_of_getElem? (i := 193) (by decide +kernel))) (by decide +kernel)
theorem tw_1076 : (.selects RX2 yX1_marksBehind yX1_marksBehind : Cond) ∈ ab_TS := ab_TS_in (tk_3 _ (List.mem_of_getElem? (i := 196) (by decide +kernel))) (by decide +kernel)
theorem tw_1077 : (.selects RX3 yX1_marksBehind yX1_marksBehind : Cond) ∈ ab_TS := ab_TS_in (tk_3 _ (List.mem_of_getElem? (i := 197) (by decide +kernel))) (by decide +kernel)
theorem tw_1078 : (.selects RX4 yX1_marksBehind yX1_marksBehind : Cond) ∈ ab_TS := ab_TS_in (tk_3 _ (List.mem_of_getElem? (i := 198) (by decide +kernel))) (by decide +kernel)
theorem tw_1079 : (.selects RX5 yX1_marksBehind yX1_marksBehind : Cond) ∈ ab_TS := ab_TS_in (tk_3 _ (List.mem_of_getElem? (i := 199) (by decide +kernel))) (by decide +kernel)
theorem tw_1080 : (.selects RX7 yX1_marksBehind yX1_marksBehind : Cond) ∈ ab_TS := ab_TS_in (tk_3 _ (List.mem_of_getElem? (i := 200) (by decide +kernel))) (by decide +kernel)
theorem tw_1081 : (.selects RX8 yX1_marksBehind yX1_marksBehind : Cond) ∈ ab_TS := ab_TS_in (tk_3 _ (List.mem_of_getElem? (i := 201) (by decide +kernel))) (by decide +kernel)
theorem tw_1082 : (.selects RX0 yX1_mayBeDone yX1_mayBeDone : Cond) ∈ ab_TS := ab_TS_in (tk_3 _ (List.mem_of_getElem? (i := 122) (by decide +kernel))) (by decide +kernel)
theorem tw_1083 : (.selects RX1 yX1_mayBeDone yX1_mayBeDone : Cond) ∈ ab_TS := ab_TS_in (tk_3 _ (List.mem_of_getElem? (i := 120) (by decide +kernel))) (by decide +kernel)
theorem tw_1084 : (.selects RX2 yX1_mayBeDone yX1_mayBeDone : Cond) ∈ ab_TS := ab_TS_in (tk_3 _ (List.mem_of_getElem? (i := 123) (by decide +kernel))) (by decide +kernel)
theorem tw_1085 : (.selects RX3 yX1_mayBeDone yX1_mayBeDone : Cond) ∈ ab_TS := ab_TS_in (tk_3 _ (List.mem_of_getElem? (i := 124) (by decide +kernel))) (by decide +kernel)
theorem tw_1086 : (.selects RX4 yX1_mayBeDone yX1_mayBeDone : Cond) ∈ ab_TS := ab_TS_in (tk_3 _ (List.mem_of_getElem? (i := 125) (by decide +kernel))) (by decide +kernel)
theorem tw_1087 : (.selects RX5 yX1_mayBeDone yX1_mayBeDone : Cond) ∈ ab_TS := ab_TS_in (tk_3 _ (List.mem_of_getElem? (i := 126) (by decide +kernel))) (by decide +kernel)
theorem tw_1088 : (.selects RX7 yX1_mayBeDone yX1_mayBeDone : Cond) ∈ ab_TS := ab_TS_in (tk_3 _ (List.mem_of_getElem? (i := 127) (by decide +kernel))) (by decide +kernel)
theorem tw_1089 : (.selects RX8 yX1_mayBeDone yX1_mayBeDone : Cond) ∈ ab_TS := ab_TS_in (tk_3 _ (List.mem_of_getElem? (i := 128) (by decide +kernel))) (by decide +kernel)
theorem tw_1090 : (.selects RX6 yX6_bytesRefusal yX6_bytesRefusal : Cond) ∈ ab_TS := ab_TS_in (tk_1 _ (List.mem_of_getElem? (i := 197) (by decide +kernel))) (by decide +kernel)
theorem tw_1091 : (.selects RX6 yX6_deedRefusal yX6_deedRefusal : Cond) ∈ ab_TS := ab_TS_in (tk_4 _ (List.mem_of_getElem? (i := 236) (by decide +kernel))) (by decide +kernel)
theorem tw_1092 : (.selects RX6 yX6_hasPlace yX6_hasPlace : Cond) ∈ ab_TS := ab_TS_in (tk_1 _ (List.mem_of_getElem? (i := 224) (by decide +kernel))) (by decide +kernel)
theorem tw_1093 : (.selects RX6 yX6_hasPlaces yX6_hasPlaces : Cond) ∈ ab_TS := ab_TS_in (tk_4 _ (List.mem_of_getElem? (i := 225) (by decide +kernel))) (by decide +kernel)
theorem tw_1094 : (.selects RX6 yX6_hold yX6_hold : Cond) ∈ ab_TS := ab_TS_in (tk_4 _ (List.mem_of_getElem? (i := 199) (by decide +kernel))) (by decide +kernel)
theorem tw_1095 : (.selects RX6 yX6_holdRow yX6_holdRow : Cond) ∈ ab_TS := ab_TS_in (tk_4 _ (List.mem_of_getElem? (i := 207) (by decide +kernel))) (by decide +kernel)
theorem tw_1096 : (.selects RX6 yX6_isEmpty yX6_isEmpty : Cond) ∈ ab_TS := ab_TS_in (tk_1 _ (List.mem_of_getElem? (i := 201) (by decide +kernel))) (by decide +kernel)
theorem tw_1097 : (.selects RX6 yX6_leastNumber yX6_leastNumber : Cond) ∈ ab_TS := ab_TS_in (tk_4 _ (List.mem_of_getElem? (i := 175) (by decide +kernel))) (by decide +kernel)
theorem tw_1098 : (.selects RX6 yX6_read yX6_read : Cond) ∈ ab_TS := ab_TS_in (tk_1 _ (List.mem_of_getElem? (i := 220) (by decide +kernel))) (by decide +kernel)
theorem tw_1099 : (.selects RX6 yX6_rowRefusal yX6_rowRefusal : Cond) ∈ ab_TS := ab_TS_in (tk_4 _ (List.mem_of_getElem? (i := 80) (by decide +kernel))) (by decide +kernel)
theorem tw_1100 : (.selects RX6 yX6_write yX6_write : Cond) ∈ ab_TS := ab_TS_in (tk_4 _ (List.mem_of_getElem? (i := 215) (by decide +kernel))) (by decide +kernel)
theorem tw_1101 : (.selects RX9 yX9_become yX9_become : Cond) ∈ ab_TS := ab_TS_in (tk_1 _ (List.mem_of_getElem? (i := 205) (by decide +kernel))) (by decide +kernel)
theorem tw_1102 : (.selects RX9 yX9_changeCoins yX9_changeCoins : Cond) ∈ ab_TS := ab_TS_in (tk_3 _ (List.mem_of_getElem? (i := 76) (by decide +kernel))) (by decide +kernel)
theorem tw_1103 : (.selects RX9 yX9_changeLaw yX9_changeLaw : Cond) ∈ ab_TS := ab_TS_in (tk_3 _ (List.mem_of_getElem? (i := 88) (by decide +kernel))) (by decide +kernel)
theorem tw_1104 : (.selects RX9 yX9_changeNail yX9_changeNail : Cond) ∈ ab_TS := ab_TS_in (tk_3 _ (List.mem_of_getElem? (i := 84) (by decide +kernel))) (by decide +kernel)
theorem tw_1105 : (.selects RX9 yX9_deedAt yX9_deedAt : Cond) ∈ ab_TS := ab_TS_in (tk_1 _ (List.mem_of_getElem? (i := 209) (by decide +kernel))) (by decide +kernel)
theorem tw_1106 : (.selects RX9 yX9_nailCost yX9_nailCost : Cond) ∈ ab_TS := ab_TS_in (tk_3 _ (List.mem_of_getElem? (i := 215) (by decide +kernel))) (by decide +kernel)
theorem tw_1107 : (.selects RX9 yX9_newDeed yX9_newDeed : Cond) ∈ ab_TS := ab_TS_in (tk_0 _ (List.mem_of_getElem? (i := 2) (by decide +kernel))) (by decide +kernel)
theorem tw_1108 : (.selects RX9 yX9_read yX9_read : Cond) ∈ ab_TS := ab_TS_in (tk_1 _ (List.mem_of_getElem? (i := 213) (by decide +kernel))) (by decide +kernel)
theorem tw_1109 : (.selects RX9 yX9_take yX9_take : Cond) ∈ ab_TS := ab_TS_in (tk_0 _ (List.mem_of_getElem? (i := 1) (by decide +kernel))) (by decide +kernel)
theorem tw_1110 : (.selects RX9 yX9_takeDeed yX9_takeDeed : Cond) ∈ ab_TS := ab_TS_in (tk_0 _ (List.mem_of_getElem? (i := 3) (by decide +kernel))) (by decide +kernel)
theorem tw_1111 : (.selects RX9 yX9_takeMark yX9_takeMark : Cond) ∈ ab_TS := ab_TS_in (tk_0 _ (List.mem_of_getElem? (i := 4) (by decide +kernel))) (by decide +kernel)
theorem tw_1112 : (.selects RX9 yX9_takeNail yX9_takeNail : Cond) ∈ ab_TS := ab_TS_in (tk_0 _ (List.mem_of_getElem? (i := 5) (by decide +kernel))) (by decide +kernel)
theorem tw_math : (.initialized "java/lang/Math" : Cond) ∈ ab_TS := ab_TS_in (tk_1 _ (List.mem_of_getElem? (i := 14) (by decide +kernel))) (by decide +kernel)
theorem tw_min_c : (.code Lib.Math.min.name Lib.Math.min.code 2 (some .int) : Cond) ∈ ab_TS := ab_TS_in (tk_3 _ (List.mem_of_getElem? (i := 232) (by decide +kernel))) (by decide +kernel)
theorem tw_min_s : (.static Lib.Math.min.name : Cond) ∈ ab_TS := ab_TS_in (tk_3 _ (List.mem_of_getElem? (i := 231) (by decide +kernel))) (by decide +kernel)
theorem tw_max_c : (.code Lib.Math.max.name Lib.Math.max.code 2 (some .int) : Cond) ∈ ab_TS := ab_TS_in (tk_4 _ (List.mem_of_getElem? (i := 112) (by decide +kernel))) (by decide +kernel)
theorem tw_max_s : (.static Lib.Math.max.name : Cond) ∈ ab_TS := ab_TS_in (tk_4 _ (List.mem_of_getElem? (i := 111) (by decide +kernel))) (by decide +kernel)
theorem tw_obj : (.code objectInit ⟨#[0xb1]⟩ 1 none : Cond) ∈ ab_TS := ab_TS_in (tk_1 _ (List.mem_of_getElem? (i := 29) (by decide +kernel))) (by decide +kernel)
theorem mf_J6_bitCount_0f7a4 : ab_MF mJ6_bitCount_0f7a4 1 := ⟨tw_486, tw_487, ⟨by decide +kernel, by decide +kernel⟩, by decide +kernel, by decide⟩
theorem mf_X0_init : ab_MF mX0_init 5 := ⟨tw_488, tw_489, ⟨by decide +kernel, by decide +kernel⟩, by decide +kernel, by decide⟩
theorem mf_X10_add : ab_MF mX10_add 1 := ⟨tw_490, tw_491, ⟨by decide +kernel, by decide +kernel⟩, by decide +kernel, by decide⟩
theorem mf_X10_begin : ab_MF mX10_begin 2 := ⟨tw_492, tw_491, ⟨by decide +kernel, by decide +kernel⟩, by decide +kernel, by decide⟩
theorem mf_X10_deedAt : ab_MF mX10_deedAt 1 := ⟨tw_493, tw_491, ⟨by decide +kernel, by decide +kernel⟩, by decide +kernel, by decide⟩
theorem mf_X10_evenPlace : ab_MF mX10_evenPlace 2 := ⟨tw_494, tw_491, ⟨by decide +kernel, by decide +kernel⟩, by decide +kernel, by decide⟩
theorem mf_X10_evenYear : ab_MF mX10_evenYear 1 := ⟨tw_495, tw_491, ⟨by decide +kernel, by decide +kernel⟩, by decide +kernel, by decide⟩
theorem mf_X10_fate : ab_MF mX10_fate 1 := ⟨tw_496, tw_491, ⟨by decide +kernel, by decide +kernel⟩, by decide +kernel, by decide⟩
theorem mf_X10_has : ab_MF mX10_has 2 := ⟨tw_497, tw_491, ⟨by decide +kernel, by decide +kernel⟩, by decide +kernel, by decide⟩
theorem mf_X10_init : ab_MF mX10_init 0 := ⟨tw_498, tw_491, ⟨by decide +kernel, by decide +kernel⟩, by decide +kernel, by decide⟩
theorem mf_X10_leastNails : ab_MF mX10_leastNails 1 := ⟨tw_499, tw_491, ⟨by decide +kernel, by decide +kernel⟩, by decide +kernel, by decide⟩
theorem mf_X10_letFall : ab_MF mX10_letFall 0 := ⟨tw_500, tw_491, ⟨by decide +kernel, by decide +kernel⟩, by decide +kernel, by decide⟩
theorem mf_X10_nailAt : ab_MF mX10_nailAt 1 := ⟨tw_501, tw_491, ⟨by decide +kernel, by decide +kernel⟩, by decide +kernel, by decide⟩
theorem mf_X10_oddYear : ab_MF mX10_oddYear 0 := ⟨tw_502, tw_491, ⟨by decide +kernel, by decide +kernel⟩, by decide +kernel, by decide⟩
theorem mf_X10_open : ab_MF mX10_open 1 := ⟨tw_503, tw_491, ⟨by decide +kernel, by decide +kernel⟩, by decide +kernel, by decide⟩
theorem mf_X10_play : ab_MF mX10_play 1 := ⟨tw_504, tw_491, ⟨by decide +kernel, by decide +kernel⟩, by decide +kernel, by decide⟩
theorem mf_X10_standing : ab_MF mX10_standing 0 := ⟨tw_505, tw_491, ⟨by decide +kernel, by decide +kernel⟩, by decide +kernel, by decide⟩
theorem mf_X10_stays : ab_MF mX10_stays 1 := ⟨tw_506, tw_491, ⟨by decide +kernel, by decide +kernel⟩, by decide +kernel, by decide⟩
theorem mf_X10_undo : ab_MF mX10_undo 1 := ⟨tw_507, tw_491, ⟨by decide +kernel, by decide +kernel⟩, by decide +kernel, by decide⟩
theorem mf_X11_addMoves : ab_MF mX11_addMoves 3 := ⟨tw_508, tw_509, ⟨by decide +kernel, by decide +kernel⟩, by decide +kernel, by decide⟩
theorem mf_X11_areMarks : ab_MF mX11_areMarks 1 := ⟨tw_510, tw_509, ⟨by decide +kernel, by decide +kernel⟩, by decide +kernel, by decide⟩
theorem mf_X11_areNails : ab_MF mX11_areNails 1 := ⟨tw_511, tw_509, ⟨by decide +kernel, by decide +kernel⟩, by decide +kernel, by decide⟩
theorem mf_X11_areWorths : ab_MF mX11_areWorths 1 := ⟨tw_512, tw_509, ⟨by decide +kernel, by decide +kernel⟩, by decide +kernel, by decide⟩
theorem mf_X11_at : ab_MF mX11_at 2 := ⟨tw_513, tw_509, ⟨by decide +kernel, by decide +kernel⟩, by decide +kernel, by decide⟩
theorem mf_X11_behind : ab_MF mX11_behind 3 := ⟨tw_514, tw_509, ⟨by decide +kernel, by decide +kernel⟩, by decide +kernel, by decide⟩
theorem mf_X11_bestMove : ab_MF mX11_bestMove 2 := ⟨tw_515, tw_509, ⟨by decide +kernel, by decide +kernel⟩, by decide +kernel, by decide⟩
theorem mf_X11_byLaw : ab_MF mX11_byLaw 3 := ⟨tw_516, tw_509, ⟨by decide +kernel, by decide +kernel⟩, by decide +kernel, by decide⟩
theorem mf_X11_care : ab_MF mX11_care 1 := ⟨tw_517, tw_509, ⟨by decide +kernel, by decide +kernel⟩, by decide +kernel, by decide⟩
theorem mf_X11_copy : ab_MF mX11_copy 5 := ⟨tw_518, tw_509, ⟨by decide +kernel, by decide +kernel⟩, by decide +kernel, by decide⟩
theorem mf_X11_count : ab_MF mX11_count 1 := ⟨tw_519, tw_509, ⟨by decide +kernel, by decide +kernel⟩, by decide +kernel, by decide⟩
theorem mf_X11_counted : ab_MF mX11_counted 2 := ⟨tw_520, tw_509, ⟨by decide +kernel, by decide +kernel⟩, by decide +kernel, by decide⟩
theorem mf_X11_deed : ab_MF mX11_deed 2 := ⟨tw_521, tw_509, ⟨by decide +kernel, by decide +kernel⟩, by decide +kernel, by decide⟩
theorem mf_X11_drawn : ab_MF mX11_drawn 2 := ⟨tw_522, tw_509, ⟨by decide +kernel, by decide +kernel⟩, by decide +kernel, by decide⟩
theorem mf_X11_element : ab_MF mX11_element 2 := ⟨tw_523, tw_509, ⟨by decide +kernel, by decide +kernel⟩, by decide +kernel, by decide⟩
theorem mf_X11_endYears : ab_MF mX11_endYears 1 := ⟨tw_524, tw_509, ⟨by decide +kernel, by decide +kernel⟩, by decide +kernel, by decide⟩
theorem mf_X11_endedSoBefore : ab_MF mX11_endedSoBefore 1 := ⟨tw_525, tw_509, ⟨by decide +kernel, by decide +kernel⟩, by decide +kernel, by decide⟩
theorem mf_X11_even : ab_MF mX11_even 1 := ⟨tw_526, tw_509, ⟨by decide +kernel, by decide +kernel⟩, by decide +kernel, by decide⟩
theorem mf_X11_ever : ab_MF mX11_ever 0 := ⟨tw_527, tw_509, ⟨by decide +kernel, by decide +kernel⟩, by decide +kernel, by decide⟩
theorem mf_X11_firstWrong : ab_MF mX11_firstWrong 2 := ⟨tw_528, tw_509, ⟨by decide +kernel, by decide +kernel⟩, by decide +kernel, by decide⟩
theorem mf_X11_free : ab_MF mX11_free 3 := ⟨tw_529, tw_509, ⟨by decide +kernel, by decide +kernel⟩, by decide +kernel, by decide⟩
theorem mf_X11_freest : ab_MF mX11_freest 3 := ⟨tw_530, tw_509, ⟨by decide +kernel, by decide +kernel⟩, by decide +kernel, by decide⟩
theorem mf_X11_help : ab_MF mX11_help 0 := ⟨tw_531, tw_509, ⟨by decide +kernel, by decide +kernel⟩, by decide +kernel, by decide⟩
theorem mf_X11_image : ab_MF mX11_image 0 := ⟨tw_532, tw_509, ⟨by decide +kernel, by decide +kernel⟩, by decide +kernel, by decide⟩
theorem mf_X11_init : ab_MF mX11_init 0 := ⟨tw_533, tw_509, ⟨by decide +kernel, by decide +kernel⟩, by decide +kernel, by decide⟩
theorem mf_X11_judge : ab_MF mX11_judge 3 := ⟨tw_534, tw_509, ⟨by decide +kernel, by decide +kernel⟩, by decide +kernel, by decide⟩
theorem mf_X11_keep : ab_MF mX11_keep 3 := ⟨tw_535, tw_509, ⟨by decide +kernel, by decide +kernel⟩, by decide +kernel, by decide⟩
theorem mf_X11_lasts : ab_MF mX11_lasts 3 := ⟨tw_536, tw_509, ⟨by decide +kernel, by decide +kernel⟩, by decide +kernel, by decide⟩
theorem mf_X11_least : ab_MF mX11_least 3 := ⟨tw_537, tw_509, ⟨by decide +kernel, by decide +kernel⟩, by decide +kernel, by decide⟩
theorem mf_X11_listMoves : ab_MF mX11_listMoves 0 := ⟨tw_538, tw_509, ⟨by decide +kernel, by decide +kernel⟩, by decide +kernel, by decide⟩
theorem mf_X11_listRefusal : ab_MF mX11_listRefusal 1 := ⟨tw_539, tw_509, ⟨by decide +kernel, by decide +kernel⟩, by decide +kernel, by decide⟩
theorem mf_X11_marks : ab_MF mX11_marks 0 := ⟨tw_540, tw_509, ⟨by decide +kernel, by decide +kernel⟩, by decide +kernel, by decide⟩
theorem mf_X11_may : ab_MF mX11_may 1 := ⟨tw_541, tw_509, ⟨by decide +kernel, by decide +kernel⟩, by decide +kernel, by decide⟩
theorem mf_X11_month : ab_MF mX11_month 0 := ⟨tw_542, tw_509, ⟨by decide +kernel, by decide +kernel⟩, by decide +kernel, by decide⟩
theorem mf_X11_nail : ab_MF mX11_nail 1 := ⟨tw_543, tw_509, ⟨by decide +kernel, by decide +kernel⟩, by decide +kernel, by decide⟩
theorem mf_X11_nextOrder : ab_MF mX11_nextOrder 1 := ⟨tw_544, tw_509, ⟨by decide +kernel, by decide +kernel⟩, by decide +kernel, by decide⟩
theorem mf_X11_nextSeed : ab_MF mX11_nextSeed 1 := ⟨tw_545, tw_509, ⟨by decide +kernel, by decide +kernel⟩, by decide +kernel, by decide⟩
theorem mf_X11_orderDigits : ab_MF mX11_orderDigits 1 := ⟨tw_546, tw_509, ⟨by decide +kernel, by decide +kernel⟩, by decide +kernel, by decide⟩
theorem mf_X11_pair : ab_MF mX11_pair 2 := ⟨tw_547, tw_509, ⟨by decide +kernel, by decide +kernel⟩, by decide +kernel, by decide⟩
theorem mf_X11_plan : ab_MF mX11_plan 3 := ⟨tw_548, tw_509, ⟨by decide +kernel, by decide +kernel⟩, by decide +kernel, by decide⟩
theorem mf_X11_playList : ab_MF mX11_playList 2 := ⟨tw_549, tw_509, ⟨by decide +kernel, by decide +kernel⟩, by decide +kernel, by decide⟩
theorem mf_X11_playMove : ab_MF mX11_playMove 3 := ⟨tw_550, tw_509, ⟨by decide +kernel, by decide +kernel⟩, by decide +kernel, by decide⟩
theorem mf_X11_playSeeds : ab_MF mX11_playSeeds 2 := ⟨tw_551, tw_509, ⟨by decide +kernel, by decide +kernel⟩, by decide +kernel, by decide⟩
theorem mf_X11_playTwo : ab_MF mX11_playTwo 4 := ⟨tw_552, tw_509, ⟨by decide +kernel, by decide +kernel⟩, by decide +kernel, by decide⟩
theorem mf_X11_put : ab_MF mX11_put 3 := ⟨tw_553, tw_509, ⟨by decide +kernel, by decide +kernel⟩, by decide +kernel, by decide⟩
theorem mf_X11_restore : ab_MF mX11_restore 0 := ⟨tw_554, tw_509, ⟨by decide +kernel, by decide +kernel⟩, by decide +kernel, by decide⟩
theorem mf_X11_rise : ab_MF mX11_rise 0 := ⟨tw_555, tw_509, ⟨by decide +kernel, by decide +kernel⟩, by decide +kernel, by decide⟩
theorem mf_X11_row : ab_MF mX11_row 3 := ⟨tw_556, tw_509, ⟨by decide +kernel, by decide +kernel⟩, by decide +kernel, by decide⟩
theorem mf_X11_seeded : ab_MF mX11_seeded 3 := ⟨tw_557, tw_509, ⟨by decide +kernel, by decide +kernel⟩, by decide +kernel, by decide⟩
theorem mf_X11_set : ab_MF mX11_set 2 := ⟨tw_558, tw_509, ⟨by decide +kernel, by decide +kernel⟩, by decide +kernel, by decide⟩
theorem mf_X11_shelfAt : ab_MF mX11_shelfAt 1 := ⟨tw_559, tw_509, ⟨by decide +kernel, by decide +kernel⟩, by decide +kernel, by decide⟩
theorem mf_X11_state : ab_MF mX11_state 1 := ⟨tw_560, tw_509, ⟨by decide +kernel, by decide +kernel⟩, by decide +kernel, by decide⟩
theorem mf_X11_store : ab_MF mX11_store 3 := ⟨tw_561, tw_509, ⟨by decide +kernel, by decide +kernel⟩, by decide +kernel, by decide⟩
theorem mf_X11_swapPlaces : ab_MF mX11_swapPlaces 2 := ⟨tw_562, tw_509, ⟨by decide +kernel, by decide +kernel⟩, by decide +kernel, by decide⟩
theorem mf_X11_takeList : ab_MF mX11_takeList 1 := ⟨tw_563, tw_509, ⟨by decide +kernel, by decide +kernel⟩, by decide +kernel, by decide⟩
theorem mf_X11_takeOrder : ab_MF mX11_takeOrder 1 := ⟨tw_564, tw_509, ⟨by decide +kernel, by decide +kernel⟩, by decide +kernel, by decide⟩
theorem mf_X11_town : ab_MF mX11_town 1 := ⟨tw_565, tw_509, ⟨by decide +kernel, by decide +kernel⟩, by decide +kernel, by decide⟩
theorem mf_X11_two : ab_MF mX11_two 5 := ⟨tw_566, tw_509, ⟨by decide +kernel, by decide +kernel⟩, by decide +kernel, by decide⟩
theorem mf_X11_why : ab_MF mX11_why 3 := ⟨tw_567, tw_509, ⟨by decide +kernel, by decide +kernel⟩, by decide +kernel, by decide⟩
theorem mf_X11_worthOfMarks : ab_MF mX11_worthOfMarks 2 := ⟨tw_568, tw_509, ⟨by decide +kernel, by decide +kernel⟩, by decide +kernel, by decide⟩
theorem mf_X11_worthOfMove : ab_MF mX11_worthOfMove 3 := ⟨tw_569, tw_509, ⟨by decide +kernel, by decide +kernel⟩, by decide +kernel, by decide⟩
theorem mf_X12_areNails : ab_MF mX12_areNails 1 := ⟨tw_570, tw_571, ⟨by decide +kernel, by decide +kernel⟩, by decide +kernel, by decide⟩
theorem mf_X12_backOf : ab_MF mX12_backOf 1 := ⟨tw_572, tw_571, ⟨by decide +kernel, by decide +kernel⟩, by decide +kernel, by decide⟩
theorem mf_X12_begins : ab_MF mX12_begins 0 := ⟨tw_573, tw_571, ⟨by decide +kernel, by decide +kernel⟩, by decide +kernel, by decide⟩
theorem mf_X12_behind : ab_MF mX12_behind 3 := ⟨tw_574, tw_571, ⟨by decide +kernel, by decide +kernel⟩, by decide +kernel, by decide⟩
theorem mf_X12_bits : ab_MF mX12_bits 1 := ⟨tw_575, tw_571, ⟨by decide +kernel, by decide +kernel⟩, by decide +kernel, by decide⟩
theorem mf_X12_byLaw : ab_MF mX12_byLaw 3 := ⟨tw_576, tw_571, ⟨by decide +kernel, by decide +kernel⟩, by decide +kernel, by decide⟩
theorem mf_X12_care : ab_MF mX12_care 1 := ⟨tw_577, tw_571, ⟨by decide +kernel, by decide +kernel⟩, by decide +kernel, by decide⟩
theorem mf_X12_careOf : ab_MF mX12_careOf 1 := ⟨tw_578, tw_571, ⟨by decide +kernel, by decide +kernel⟩, by decide +kernel, by decide⟩
theorem mf_X12_comes : ab_MF mX12_comes 1 := ⟨tw_579, tw_571, ⟨by decide +kernel, by decide +kernel⟩, by decide +kernel, by decide⟩
theorem mf_X12_copy : ab_MF mX12_copy 5 := ⟨tw_580, tw_571, ⟨by decide +kernel, by decide +kernel⟩, by decide +kernel, by decide⟩
theorem mf_X12_costOf : ab_MF mX12_costOf 1 := ⟨tw_581, tw_571, ⟨by decide +kernel, by decide +kernel⟩, by decide +kernel, by decide⟩
theorem mf_X12_count : ab_MF mX12_count 1 := ⟨tw_582, tw_571, ⟨by decide +kernel, by decide +kernel⟩, by decide +kernel, by decide⟩
theorem mf_X12_deed : ab_MF mX12_deed 2 := ⟨tw_583, tw_571, ⟨by decide +kernel, by decide +kernel⟩, by decide +kernel, by decide⟩
theorem mf_X12_drawn : ab_MF mX12_drawn 1 := ⟨tw_584, tw_571, ⟨by decide +kernel, by decide +kernel⟩, by decide +kernel, by decide⟩
theorem mf_X12_element : ab_MF mX12_element 2 := ⟨tw_585, tw_571, ⟨by decide +kernel, by decide +kernel⟩, by decide +kernel, by decide⟩
theorem mf_X12_even : ab_MF mX12_even 1 := ⟨tw_586, tw_571, ⟨by decide +kernel, by decide +kernel⟩, by decide +kernel, by decide⟩
theorem mf_X12_evenYear : ab_MF mX12_evenYear 0 := ⟨tw_587, tw_571, ⟨by decide +kernel, by decide +kernel⟩, by decide +kernel, by decide⟩
theorem mf_X12_ever : ab_MF mX12_ever 0 := ⟨tw_588, tw_571, ⟨by decide +kernel, by decide +kernel⟩, by decide +kernel, by decide⟩
theorem mf_X12_falls : ab_MF mX12_falls 0 := ⟨tw_589, tw_571, ⟨by decide +kernel, by decide +kernel⟩, by decide +kernel, by decide⟩
theorem mf_X12_finds : ab_MF mX12_finds 1 := ⟨tw_590, tw_571, ⟨by decide +kernel, by decide +kernel⟩, by decide +kernel, by decide⟩
theorem mf_X12_free : ab_MF mX12_free 3 := ⟨tw_591, tw_571, ⟨by decide +kernel, by decide +kernel⟩, by decide +kernel, by decide⟩
theorem mf_X12_get : ab_MF mX12_get 2 := ⟨tw_592, tw_571, ⟨by decide +kernel, by decide +kernel⟩, by decide +kernel, by decide⟩
theorem mf_X12_help : ab_MF mX12_help 0 := ⟨tw_593, tw_571, ⟨by decide +kernel, by decide +kernel⟩, by decide +kernel, by decide⟩
theorem mf_X12_here : ab_MF mX12_here 0 := ⟨tw_594, tw_571, ⟨by decide +kernel, by decide +kernel⟩, by decide +kernel, by decide⟩
theorem mf_X12_holds : ab_MF mX12_holds 1 := ⟨tw_595, tw_571, ⟨by decide +kernel, by decide +kernel⟩, by decide +kernel, by decide⟩
theorem mf_X12_image : ab_MF mX12_image 0 := ⟨tw_596, tw_571, ⟨by decide +kernel, by decide +kernel⟩, by decide +kernel, by decide⟩
theorem mf_X12_init : ab_MF mX12_init 0 := ⟨tw_597, tw_571, ⟨by decide +kernel, by decide +kernel⟩, by decide +kernel, by decide⟩
theorem mf_X12_isDeed : ab_MF mX12_isDeed 1 := ⟨tw_598, tw_571, ⟨by decide +kernel, by decide +kernel⟩, by decide +kernel, by decide⟩
theorem mf_X12_isDigit : ab_MF mX12_isDigit 0 := ⟨tw_599, tw_571, ⟨by decide +kernel, by decide +kernel⟩, by decide +kernel, by decide⟩
theorem mf_X12_isHeld : ab_MF mX12_isHeld 1 := ⟨tw_600, tw_571, ⟨by decide +kernel, by decide +kernel⟩, by decide +kernel, by decide⟩
theorem mf_X12_isIn : ab_MF mX12_isIn 3 := ⟨tw_601, tw_571, ⟨by decide +kernel, by decide +kernel⟩, by decide +kernel, by decide⟩
theorem mf_X12_isKept : ab_MF mX12_isKept 1 := ⟨tw_602, tw_571, ⟨by decide +kernel, by decide +kernel⟩, by decide +kernel, by decide⟩
theorem mf_X12_isMark : ab_MF mX12_isMark 1 := ⟨tw_603, tw_571, ⟨by decide +kernel, by decide +kernel⟩, by decide +kernel, by decide⟩
theorem mf_X12_isShelf : ab_MF mX12_isShelf 1 := ⟨tw_604, tw_571, ⟨by decide +kernel, by decide +kernel⟩, by decide +kernel, by decide⟩
theorem mf_X12_judge : ab_MF mX12_judge 3 := ⟨tw_605, tw_571, ⟨by decide +kernel, by decide +kernel⟩, by decide +kernel, by decide⟩
theorem mf_X12_keep : ab_MF mX12_keep 3 := ⟨tw_606, tw_571, ⟨by decide +kernel, by decide +kernel⟩, by decide +kernel, by decide⟩
theorem mf_X12_lasts : ab_MF mX12_lasts 3 := ⟨tw_607, tw_571, ⟨by decide +kernel, by decide +kernel⟩, by decide +kernel, by decide⟩
theorem mf_X12_lays : ab_MF mX12_lays 2 := ⟨tw_608, tw_571, ⟨by decide +kernel, by decide +kernel⟩, by decide +kernel, by decide⟩
theorem mf_X12_least : ab_MF mX12_least 3 := ⟨tw_609, tw_571, ⟨by decide +kernel, by decide +kernel⟩, by decide +kernel, by decide⟩
theorem mf_X12_leastOf : ab_MF mX12_leastOf 1 := ⟨tw_610, tw_571, ⟨by decide +kernel, by decide +kernel⟩, by decide +kernel, by decide⟩
theorem mf_X12_lines : ab_MF mX12_lines 4 := ⟨tw_611, tw_571, ⟨by decide +kernel, by decide +kernel⟩, by decide +kernel, by decide⟩
theorem mf_X12_marks : ab_MF mX12_marks 0 := ⟨tw_612, tw_571, ⟨by decide +kernel, by decide +kernel⟩, by decide +kernel, by decide⟩
theorem mf_X12_marksBy : ab_MF mX12_marksBy 2 := ⟨tw_613, tw_571, ⟨by decide +kernel, by decide +kernel⟩, by decide +kernel, by decide⟩
theorem mf_X12_may : ab_MF mX12_may 1 := ⟨tw_614, tw_571, ⟨by decide +kernel, by decide +kernel⟩, by decide +kernel, by decide⟩
theorem mf_X12_mayBy : ab_MF mX12_mayBy 3 := ⟨tw_615, tw_571, ⟨by decide +kernel, by decide +kernel⟩, by decide +kernel, by decide⟩
theorem mf_X12_month : ab_MF mX12_month 0 := ⟨tw_616, tw_571, ⟨by decide +kernel, by decide +kernel⟩, by decide +kernel, by decide⟩
theorem mf_X12_nail : ab_MF mX12_nail 1 := ⟨tw_617, tw_571, ⟨by decide +kernel, by decide +kernel⟩, by decide +kernel, by decide⟩
theorem mf_X12_oddYear : ab_MF mX12_oddYear 0 := ⟨tw_618, tw_571, ⟨by decide +kernel, by decide +kernel⟩, by decide +kernel, by decide⟩
theorem mf_X12_pair : ab_MF mX12_pair 2 := ⟨tw_619, tw_571, ⟨by decide +kernel, by decide +kernel⟩, by decide +kernel, by decide⟩
theorem mf_X12_pairOf : ab_MF mX12_pairOf 0 := ⟨tw_620, tw_571, ⟨by decide +kernel, by decide +kernel⟩, by decide +kernel, by decide⟩
theorem mf_X12_plan : ab_MF mX12_plan 3 := ⟨tw_621, tw_571, ⟨by decide +kernel, by decide +kernel⟩, by decide +kernel, by decide⟩
theorem mf_X12_plans : ab_MF mX12_plans 4 := ⟨tw_622, tw_571, ⟨by decide +kernel, by decide +kernel⟩, by decide +kernel, by decide⟩
theorem mf_X12_priceOf : ab_MF mX12_priceOf 1 := ⟨tw_623, tw_571, ⟨by decide +kernel, by decide +kernel⟩, by decide +kernel, by decide⟩
theorem mf_X12_put : ab_MF mX12_put 3 := ⟨tw_624, tw_571, ⟨by decide +kernel, by decide +kernel⟩, by decide +kernel, by decide⟩
theorem mf_X12_readsDeed : ab_MF mX12_readsDeed 0 := ⟨tw_625, tw_571, ⟨by decide +kernel, by decide +kernel⟩, by decide +kernel, by decide⟩
theorem mf_X12_readsMark : ab_MF mX12_readsMark 0 := ⟨tw_626, tw_571, ⟨by decide +kernel, by decide +kernel⟩, by decide +kernel, by decide⟩
theorem mf_X12_readsNumber : ab_MF mX12_readsNumber 1 := ⟨tw_627, tw_571, ⟨by decide +kernel, by decide +kernel⟩, by decide +kernel, by decide⟩
theorem mf_X12_readsStatement : ab_MF mX12_readsStatement 0 := ⟨tw_628, tw_571, ⟨by decide +kernel, by decide +kernel⟩, by decide +kernel, by decide⟩
theorem mf_X12_restore : ab_MF mX12_restore 0 := ⟨tw_629, tw_571, ⟨by decide +kernel, by decide +kernel⟩, by decide +kernel, by decide⟩
theorem mf_X12_rise : ab_MF mX12_rise 0 := ⟨tw_630, tw_571, ⟨by decide +kernel, by decide +kernel⟩, by decide +kernel, by decide⟩
theorem mf_X12_row : ab_MF mX12_row 3 := ⟨tw_631, tw_571, ⟨by decide +kernel, by decide +kernel⟩, by decide +kernel, by decide⟩
theorem mf_X12_seeded : ab_MF mX12_seeded 3 := ⟨tw_632, tw_571, ⟨by decide +kernel, by decide +kernel⟩, by decide +kernel, by decide⟩
theorem mf_X12_set : ab_MF mX12_set 2 := ⟨tw_633, tw_571, ⟨by decide +kernel, by decide +kernel⟩, by decide +kernel, by decide⟩
theorem mf_X12_standing : ab_MF mX12_standing 0 := ⟨tw_634, tw_571, ⟨by decide +kernel, by decide +kernel⟩, by decide +kernel, by decide⟩
theorem mf_X12_state : ab_MF mX12_state 1 := ⟨tw_635, tw_571, ⟨by decide +kernel, by decide +kernel⟩, by decide +kernel, by decide⟩
theorem mf_X12_takes : ab_MF mX12_takes 1 := ⟨tw_636, tw_571, ⟨by decide +kernel, by decide +kernel⟩, by decide +kernel, by decide⟩
theorem mf_X12_thrown : ab_MF mX12_thrown 0 := ⟨tw_637, tw_571, ⟨by decide +kernel, by decide +kernel⟩, by decide +kernel, by decide⟩
theorem mf_X12_toss : ab_MF mX12_toss 1 := ⟨tw_638, tw_571, ⟨by decide +kernel, by decide +kernel⟩, by decide +kernel, by decide⟩
theorem mf_X12_town : ab_MF mX12_town 1 := ⟨tw_639, tw_571, ⟨by decide +kernel, by decide +kernel⟩, by decide +kernel, by decide⟩
theorem mf_X12_tries : ab_MF mX12_tries 7 := ⟨tw_640, tw_571, ⟨by decide +kernel, by decide +kernel⟩, by decide +kernel, by decide⟩
theorem mf_X12_two : ab_MF mX12_two 5 := ⟨tw_641, tw_571, ⟨by decide +kernel, by decide +kernel⟩, by decide +kernel, by decide⟩
theorem mf_X12_undoes : ab_MF mX12_undoes 2 := ⟨tw_642, tw_571, ⟨by decide +kernel, by decide +kernel⟩, by decide +kernel, by decide⟩
theorem mf_X12_why : ab_MF mX12_why 3 := ⟨tw_643, tw_571, ⟨by decide +kernel, by decide +kernel⟩, by decide +kernel, by decide⟩
theorem mf_X12_worthOf : ab_MF mX12_worthOf 1 := ⟨tw_644, tw_571, ⟨by decide +kernel, by decide +kernel⟩, by decide +kernel, by decide⟩
theorem mf_X12_wrongKept : ab_MF mX12_wrongKept 1 := ⟨tw_645, tw_571, ⟨by decide +kernel, by decide +kernel⟩, by decide +kernel, by decide⟩
theorem mf_X12_wrongList : ab_MF mX12_wrongList 1 := ⟨tw_646, tw_571, ⟨by decide +kernel, by decide +kernel⟩, by decide +kernel, by decide⟩
theorem mf_X12_wrongRow : ab_MF mX12_wrongRow 2 := ⟨tw_647, tw_571, ⟨by decide +kernel, by decide +kernel⟩, by decide +kernel, by decide⟩
theorem mf_X1_fail : ab_MF mX1_fail 0 := ⟨tw_648, tw_649, ⟨by decide +kernel, by decide +kernel⟩, by decide +kernel, by decide⟩
theorem mf_X1_hasGround : ab_MF mX1_hasGround 1 := ⟨tw_650, tw_649, ⟨by decide +kernel, by decide +kernel⟩, by decide +kernel, by decide⟩
theorem mf_X1_init : ab_MF mX1_init 5 := ⟨tw_651, tw_649, ⟨by decide +kernel, by decide +kernel⟩, by decide +kernel, by decide⟩
theorem mf_X1_marksBehind : ab_MF mX1_marksBehind 1 := ⟨tw_652, tw_649, ⟨by decide +kernel, by decide +kernel⟩, by decide +kernel, by decide⟩
theorem mf_X1_mayBeDone : ab_MF mX1_mayBeDone 2 := ⟨tw_653, tw_649, ⟨by decide +kernel, by decide +kernel⟩, by decide +kernel, by decide⟩
theorem mf_X2_init : ab_MF mX2_init 5 := ⟨tw_654, tw_655, ⟨by decide +kernel, by decide +kernel⟩, by decide +kernel, by decide⟩
theorem mf_X3_init : ab_MF mX3_init 5 := ⟨tw_656, tw_657, ⟨by decide +kernel, by decide +kernel⟩, by decide +kernel, by decide⟩
theorem mf_X4_init : ab_MF mX4_init 5 := ⟨tw_658, tw_659, ⟨by decide +kernel, by decide +kernel⟩, by decide +kernel, by decide⟩
theorem mf_X5_init : ab_MF mX5_init 5 := ⟨tw_660, tw_661, ⟨by decide +kernel, by decide +kernel⟩, by decide +kernel, by decide⟩
theorem mf_X6_bytesRefusal : ab_MF mX6_bytesRefusal 0 := ⟨tw_662, tw_663, ⟨by decide +kernel, by decide +kernel⟩, by decide +kernel, by decide⟩
theorem mf_X6_deedRefusal : ab_MF mX6_deedRefusal 0 := ⟨tw_664, tw_663, ⟨by decide +kernel, by decide +kernel⟩, by decide +kernel, by decide⟩
theorem mf_X6_hasPlace : ab_MF mX6_hasPlace 1 := ⟨tw_665, tw_663, ⟨by decide +kernel, by decide +kernel⟩, by decide +kernel, by decide⟩
theorem mf_X6_hasPlaces : ab_MF mX6_hasPlaces 2 := ⟨tw_666, tw_663, ⟨by decide +kernel, by decide +kernel⟩, by decide +kernel, by decide⟩
theorem mf_X6_hold : ab_MF mX6_hold 1 := ⟨tw_667, tw_663, ⟨by decide +kernel, by decide +kernel⟩, by decide +kernel, by decide⟩
theorem mf_X6_holdRow : ab_MF mX6_holdRow 2 := ⟨tw_668, tw_663, ⟨by decide +kernel, by decide +kernel⟩, by decide +kernel, by decide⟩
theorem mf_X6_init : ab_MF mX6_init 0 := ⟨tw_669, tw_663, ⟨by decide +kernel, by decide +kernel⟩, by decide +kernel, by decide⟩
theorem mf_X6_isEmpty : ab_MF mX6_isEmpty 0 := ⟨tw_670, tw_663, ⟨by decide +kernel, by decide +kernel⟩, by decide +kernel, by decide⟩
theorem mf_X6_leastNumber : ab_MF mX6_leastNumber 0 := ⟨tw_671, tw_663, ⟨by decide +kernel, by decide +kernel⟩, by decide +kernel, by decide⟩
theorem mf_X6_read : ab_MF mX6_read 1 := ⟨tw_672, tw_663, ⟨by decide +kernel, by decide +kernel⟩, by decide +kernel, by decide⟩
theorem mf_X6_rowRefusal : ab_MF mX6_rowRefusal 0 := ⟨tw_673, tw_663, ⟨by decide +kernel, by decide +kernel⟩, by decide +kernel, by decide⟩
theorem mf_X6_write : ab_MF mX6_write 2 := ⟨tw_674, tw_663, ⟨by decide +kernel, by decide +kernel⟩, by decide +kernel, by decide⟩
theorem mf_X7_init : ab_MF mX7_init 5 := ⟨tw_675, tw_676, ⟨by decide +kernel, by decide +kernel⟩, by decide +kernel, by decide⟩
theorem mf_X8_init : ab_MF mX8_init 5 := ⟨tw_677, tw_678, ⟨by decide +kernel, by decide +kernel⟩, by decide +kernel, by decide⟩
theorem mf_X9_become : ab_MF mX9_become 1 := ⟨tw_679, tw_680, ⟨by decide +kernel, by decide +kernel⟩, by decide +kernel, by decide⟩
theorem mf_X9_behindDeed : ab_MF mX9_behindDeed 2 := ⟨tw_681, tw_680, ⟨by decide +kernel, by decide +kernel⟩, by decide +kernel, by decide⟩
theorem mf_X9_behindDigit : ab_MF mX9_behindDigit 2 := ⟨tw_682, tw_680, ⟨by decide +kernel, by decide +kernel⟩, by decide +kernel, by decide⟩
theorem mf_X9_behindLetter : ab_MF mX9_behindLetter 2 := ⟨tw_683, tw_680, ⟨by decide +kernel, by decide +kernel⟩, by decide +kernel, by decide⟩
theorem mf_X9_behindNail : ab_MF mX9_behindNail 2 := ⟨tw_684, tw_680, ⟨by decide +kernel, by decide +kernel⟩, by decide +kernel, by decide⟩
theorem mf_X9_behindNeeds : ab_MF mX9_behindNeeds 2 := ⟨tw_685, tw_680, ⟨by decide +kernel, by decide +kernel⟩, by decide +kernel, by decide⟩
theorem mf_X9_behindNumber : ab_MF mX9_behindNumber 3 := ⟨tw_686, tw_680, ⟨by decide +kernel, by decide +kernel⟩, by decide +kernel, by decide⟩
theorem mf_X9_behindSign : ab_MF mX9_behindSign 3 := ⟨tw_687, tw_680, ⟨by decide +kernel, by decide +kernel⟩, by decide +kernel, by decide⟩
theorem mf_X9_behindStatement : ab_MF mX9_behindStatement 2 := ⟨tw_688, tw_680, ⟨by decide +kernel, by decide +kernel⟩, by decide +kernel, by decide⟩
theorem mf_X9_changeCoins : ab_MF mX9_changeCoins 1 := ⟨tw_689, tw_680, ⟨by decide +kernel, by decide +kernel⟩, by decide +kernel, by decide⟩
theorem mf_X9_changeLaw : ab_MF mX9_changeLaw 1 := ⟨tw_690, tw_680, ⟨by decide +kernel, by decide +kernel⟩, by decide +kernel, by decide⟩
theorem mf_X9_changeNail : ab_MF mX9_changeNail 1 := ⟨tw_691, tw_680, ⟨by decide +kernel, by decide +kernel⟩, by decide +kernel, by decide⟩
theorem mf_X9_deedAt : ab_MF mX9_deedAt 1 := ⟨tw_692, tw_680, ⟨by decide +kernel, by decide +kernel⟩, by decide +kernel, by decide⟩
theorem mf_X9_faultAt : ab_MF mX9_faultAt 1 := ⟨tw_693, tw_680, ⟨by decide +kernel, by decide +kernel⟩, by decide +kernel, by decide⟩
theorem mf_X9_init : ab_MF mX9_init 0 := ⟨tw_694, tw_680, ⟨by decide +kernel, by decide +kernel⟩, by decide +kernel, by decide⟩
theorem mf_X9_isDigit : ab_MF mX9_isDigit 1 := ⟨tw_695, tw_680, ⟨by decide +kernel, by decide +kernel⟩, by decide +kernel, by decide⟩
theorem mf_X9_isLetter : ab_MF mX9_isLetter 1 := ⟨tw_696, tw_680, ⟨by decide +kernel, by decide +kernel⟩, by decide +kernel, by decide⟩
theorem mf_X9_nailCost : ab_MF mX9_nailCost 1 := ⟨tw_697, tw_680, ⟨by decide +kernel, by decide +kernel⟩, by decide +kernel, by decide⟩
theorem mf_X9_newDeed : ab_MF mX9_newDeed 2 := ⟨tw_698, tw_680, ⟨by decide +kernel, by decide +kernel⟩, by decide +kernel, by decide⟩
theorem mf_X9_number : ab_MF mX9_number 2 := ⟨tw_699, tw_680, ⟨by decide +kernel, by decide +kernel⟩, by decide +kernel, by decide⟩
theorem mf_X9_read : ab_MF mX9_read 1 := ⟨tw_700, tw_680, ⟨by decide +kernel, by decide +kernel⟩, by decide +kernel, by decide⟩
theorem mf_X9_take : ab_MF mX9_take 2 := ⟨tw_701, tw_680, ⟨by decide +kernel, by decide +kernel⟩, by decide +kernel, by decide⟩
theorem mf_X9_takeDeed : ab_MF mX9_takeDeed 1 := ⟨tw_702, tw_680, ⟨by decide +kernel, by decide +kernel⟩, by decide +kernel, by decide⟩
theorem mf_X9_takeMark : ab_MF mX9_takeMark 1 := ⟨tw_703, tw_680, ⟨by decide +kernel, by decide +kernel⟩, by decide +kernel, by decide⟩
theorem mf_X9_takeNail : ab_MF mX9_takeNail 2 := ⟨tw_704, tw_680, ⟨by decide +kernel, by decide +kernel⟩, by decide +kernel, by decide⟩
theorem mf_X9_wrongAt : ab_MF mX9_wrongAt 1 := ⟨tw_705, tw_680, ⟨by decide +kernel, by decide +kernel⟩, by decide +kernel, by decide⟩
theorem fa_X0_15 : ab_FA RX0 15 4 6 0 false false := ⟨by decide, rfl, RX0, RX1, "cost", "I", tw_707, Or.inr tw_706, by decide +kernel, by decide +kernel, fun z => by cases z⟩
theorem fa_X0_18 : ab_FA RX0 18 4 7 0 false false := ⟨by decide, rfl, RX0, RX1, "back", "I", tw_709, Or.inr tw_708, by decide +kernel, by decide +kernel, fun z => by cases z⟩
theorem fa_X0_21 : ab_FA RX0 21 4 10 1 false false := ⟨by decide, rfl, RX0, RX1, "keeps", "Z", tw_711, Or.inr tw_710, by decide +kernel, by decide +kernel, fun z => by cases z⟩
theorem fa_X0_25 : ab_FA RX0 25 4 11 0 false false := ⟨by decide, rfl, RX0, RX1, "care", "I", tw_713, Or.inr tw_712, by decide +kernel, by decide +kernel, fun z => by cases z⟩
theorem fa_X0_28 : ab_FA RX0 28 4 12 0 false false := ⟨by decide, rfl, RX0, RX1, "failure", "I", tw_715, Or.inr tw_714, by decide +kernel, by decide +kernel, fun z => by cases z⟩
theorem fa_X0_9 : ab_FA RX0 9 4 5 0 false false := ⟨by decide, rfl, RX0, RX1, "kind", "I", tw_717, Or.inr tw_716, by decide +kernel, by decide +kernel, fun z => by cases z⟩
theorem fa_X10_11 : ab_FA RX10 11 2 0 11 true true := ⟨by decide, rfl, RX10, RX10, "deeds", "[LBackwardYears$Deed;", tw_718, Or.inl rfl, by decide +kernel, by decide +kernel, fun _ => rfl⟩
theorem fa_X10_124 : ab_FA RX10 124 4 1 0 true false := ⟨by decide, rfl, RX1, RX1, "needs", "I", tw_719, Or.inl rfl, by decide +kernel, by decide +kernel, fun z => by cases z⟩
theorem fa_X10_130 : ab_FA RX10 130 4 7 0 false false := ⟨by decide, rfl, RX1, RX1, "back", "I", tw_720, Or.inl rfl, by decide +kernel, by decide +kernel, fun z => by cases z⟩
theorem fa_X10_17 : ab_FA RX10 17 2 1 9 true true := ⟨by decide, rfl, RX10, RX10, "made", "[I", tw_721, Or.inl rfl, by decide +kernel, by decide +kernel, fun _ => rfl⟩
theorem fa_X10_21 : ab_FA RX10 21 2 2 9 true true := ⟨by decide, rfl, RX10, RX10, "lost", "[I", tw_722, Or.inl rfl, by decide +kernel, by decide +kernel, fun _ => rfl⟩
theorem fa_X10_24 : ab_FA RX10 24 2 3 4 false false := ⟨by decide, rfl, RX10, RX10, "town", "LBackwardYears$Town;", tw_723, Or.inl rfl, by decide +kernel, by decide +kernel, fun z => by cases z⟩
theorem fa_X10_28 : ab_FA RX10 28 1 4 0 false false := ⟨by decide, rfl, RX9, RX9, "law", "I", tw_724, Or.inl rfl, by decide +kernel, by decide +kernel, fun z => by cases z⟩
theorem fa_X10_34 : ab_FA RX10 34 2 4 0 false false := ⟨by decide, rfl, RX10, RX10, "law", "I", tw_725, Or.inl rfl, by decide +kernel, by decide +kernel, fun z => by cases z⟩
theorem fa_X10_35 : ab_FA RX10 35 2 5 0 false false := ⟨by decide, rfl, RX10, RX10, "size", "I", tw_726, Or.inl rfl, by decide +kernel, by decide +kernel, fun z => by cases z⟩
theorem fa_X10_38 : ab_FA RX10 38 2 6 0 false false := ⟨by decide, rfl, RX10, RX10, "marks", "I", tw_727, Or.inl rfl, by decide +kernel, by decide +kernel, fun z => by cases z⟩
theorem fa_X10_41 : ab_FA RX10 41 2 7 0 false false := ⟨by decide, rfl, RX10, RX10, "coins", "I", tw_728, Or.inl rfl, by decide +kernel, by decide +kernel, fun z => by cases z⟩
theorem fa_X10_44 : ab_FA RX10 44 2 8 0 false false := ⟨by decide, rfl, RX10, RX10, "paid", "I", tw_729, Or.inl rfl, by decide +kernel, by decide +kernel, fun z => by cases z⟩
theorem fa_X10_47 : ab_FA RX10 47 2 9 0 false false := ⟨by decide, rfl, RX10, RX10, "done", "I", tw_730, Or.inl rfl, by decide +kernel, by decide +kernel, fun z => by cases z⟩
theorem fa_X10_50 : ab_FA RX10 50 2 10 0 false false := ⟨by decide, rfl, RX10, RX10, "undone", "I", tw_731, Or.inl rfl, by decide +kernel, by decide +kernel, fun z => by cases z⟩
theorem fa_X10_53 : ab_FA RX10 53 2 11 0 false false := ⟨by decide, rfl, RX10, RX10, "nailed", "I", tw_732, Or.inl rfl, by decide +kernel, by decide +kernel, fun z => by cases z⟩
theorem fa_X10_56 : ab_FA RX10 56 2 12 0 false false := ⟨by decide, rfl, RX10, RX10, "firm", "I", tw_733, Or.inl rfl, by decide +kernel, by decide +kernel, fun z => by cases z⟩
theorem fa_X10_59 : ab_FA RX10 59 2 13 0 false false := ⟨by decide, rfl, RX10, RX10, "fallen", "I", tw_734, Or.inl rfl, by decide +kernel, by decide +kernel, fun z => by cases z⟩
theorem fa_X10_62 : ab_FA RX10 62 1 2 0 false false := ⟨by decide, rfl, RX9, RX9, "marks", "I", tw_735, Or.inl rfl, by decide +kernel, by decide +kernel, fun z => by cases z⟩
theorem fa_X10_63 : ab_FA RX10 63 1 3 0 false false := ⟨by decide, rfl, RX9, RX9, "coins", "I", tw_736, Or.inl rfl, by decide +kernel, by decide +kernel, fun z => by cases z⟩
theorem fa_X10_94 : ab_FA RX10 94 4 6 0 false false := ⟨by decide, rfl, RX1, RX1, "cost", "I", tw_737, Or.inl rfl, by decide +kernel, by decide +kernel, fun z => by cases z⟩
theorem fa_X10_97 : ab_FA RX10 97 4 10 1 false false := ⟨by decide, rfl, RX1, RX1, "keeps", "Z", tw_738, Or.inl rfl, by decide +kernel, by decide +kernel, fun z => by cases z⟩
theorem fa_X11_10 : ab_FA RX11 10 0 0 4 true true := ⟨by decide, rfl, RX11, RX11, "now", "LBackwardYears$Town;", tw_739, Or.inl rfl, by decide +kernel, by decide +kernel, fun _ => rfl⟩
theorem fa_X11_100 : ab_FA RX11 100 1 7 0 false false := ⟨by decide, rfl, RX9, RX9, "year", "I", tw_740, Or.inl rfl, by decide +kernel, by decide +kernel, fun z => by cases z⟩
theorem fa_X11_103 : ab_FA RX11 103 1 4 0 false false := ⟨by decide, rfl, RX9, RX9, "law", "I", tw_741, Or.inl rfl, by decide +kernel, by decide +kernel, fun z => by cases z⟩
theorem fa_X11_106 : ab_FA RX11 106 1 5 0 false false := ⟨by decide, rfl, RX9, RX9, "nail", "I", tw_742, Or.inl rfl, by decide +kernel, by decide +kernel, fun z => by cases z⟩
theorem fa_X11_109 : ab_FA RX11 109 1 6 0 false false := ⟨by decide, rfl, RX9, RX9, "rise", "I", tw_743, Or.inl rfl, by decide +kernel, by decide +kernel, fun z => by cases z⟩
theorem fa_X11_152 : ab_FA RX11 152 2 9 0 false false := ⟨by decide, rfl, RX10, RX10, "done", "I", tw_744, Or.inl rfl, by decide +kernel, by decide +kernel, fun z => by cases z⟩
theorem fa_X11_155 : ab_FA RX11 155 2 6 0 false false := ⟨by decide, rfl, RX10, RX10, "marks", "I", tw_745, Or.inl rfl, by decide +kernel, by decide +kernel, fun z => by cases z⟩
theorem fa_X11_156 : ab_FA RX11 156 2 5 0 false false := ⟨by decide, rfl, RX10, RX10, "size", "I", tw_746, Or.inl rfl, by decide +kernel, by decide +kernel, fun z => by cases z⟩
theorem fa_X11_16 : ab_FA RX11 16 0 1 4 true true := ⟨by decide, rfl, RX11, RX11, "then", "LBackwardYears$Town;", tw_747, Or.inl rfl, by decide +kernel, by decide +kernel, fun _ => rfl⟩
theorem fa_X11_162 : ab_FA RX11 162 2 7 0 false false := ⟨by decide, rfl, RX10, RX10, "coins", "I", tw_748, Or.inl rfl, by decide +kernel, by decide +kernel, fun z => by cases z⟩
theorem fa_X11_163 : ab_FA RX11 163 2 10 0 false false := ⟨by decide, rfl, RX10, RX10, "undone", "I", tw_749, Or.inl rfl, by decide +kernel, by decide +kernel, fun z => by cases z⟩
theorem fa_X11_166 : ab_FA RX11 166 2 8 0 false false := ⟨by decide, rfl, RX10, RX10, "paid", "I", tw_750, Or.inl rfl, by decide +kernel, by decide +kernel, fun z => by cases z⟩
theorem fa_X11_182 : ab_FA RX11 182 3 3 0 false false := ⟨by decide, rfl, RX6, RX6, "size", "I", tw_751, Or.inl rfl, by decide +kernel, by decide +kernel, fun z => by cases z⟩
theorem fa_X11_19 : ab_FA RX11 19 0 2 4 true true := ⟨by decide, rfl, RX11, RX11, "draft", "LBackwardYears$Town;", tw_752, Or.inl rfl, by decide +kernel, by decide +kernel, fun _ => rfl⟩
theorem fa_X11_207 : ab_FA RX11 207 1 1 0 false false := ⟨by decide, rfl, RX9, RX9, "deedCount", "I", tw_753, Or.inl rfl, by decide +kernel, by decide +kernel, fun z => by cases z⟩
theorem fa_X11_213 : ab_FA RX11 213 4 8 0 false false := ⟨by decide, rfl, RX1, RX1, "sets", "I", tw_754, Or.inl rfl, by decide +kernel, by decide +kernel, fun z => by cases z⟩
theorem fa_X11_216 : ab_FA RX11 216 4 9 0 false false := ⟨by decide, rfl, RX1, RX1, "clears", "I", tw_755, Or.inl rfl, by decide +kernel, by decide +kernel, fun z => by cases z⟩
theorem fa_X11_229 : ab_FA RX11 229 2 4 0 false false := ⟨by decide, rfl, RX10, RX10, "law", "I", tw_756, Or.inl rfl, by decide +kernel, by decide +kernel, fun z => by cases z⟩
theorem fa_X11_237 : ab_FA RX11 237 0 9 1 false false := ⟨by decide, rfl, RX11, RX11, "imageTaken", "Z", tw_757, Or.inl rfl, by decide +kernel, by decide +kernel, fun z => by cases z⟩
theorem fa_X11_25 : ab_FA RX11 25 0 3 5 true true := ⟨by decide, rfl, RX11, RX11, "years", "LBackwardYears$Years;", tw_758, Or.inl rfl, by decide +kernel, by decide +kernel, fun _ => rfl⟩
theorem fa_X11_275 : ab_FA RX11 275 3 2 0 false false := ⟨by decide, rfl, RX6, RX6, "sort", "I", tw_759, Or.inl rfl, by decide +kernel, by decide +kernel, fun z => by cases z⟩
theorem fa_X11_281 : ab_FA RX11 281 3 0 9 true false := ⟨by decide, rfl, RX6, RX6, "elements", "[I", tw_760, Or.inl rfl, by decide +kernel, by decide +kernel, fun z => by cases z⟩
theorem fa_X11_290 : ab_FA RX11 290 3 1 7 false false := ⟨by decide, rfl, RX6, RX6, "deed", "LBackwardYears$Deed;", tw_761, Or.inl rfl, by decide +kernel, by decide +kernel, fun z => by cases z⟩
theorem fa_X11_297 : ab_FA RX11 297 4 11 0 false false := ⟨by decide, rfl, RX1, RX1, "care", "I", tw_762, Or.inl rfl, by decide +kernel, by decide +kernel, fun z => by cases z⟩
theorem fa_X11_31 : ab_FA RX11 31 0 4 12 true true := ⟨by decide, rfl, RX11, RX11, "shelves", "[LBackwardYears$Shelf;", tw_763, Or.inl rfl, by decide +kernel, by decide +kernel, fun _ => rfl⟩
theorem fa_X11_333 : ab_FA RX11 333 0 8 0 false false := ⟨by decide, rfl, RX11, RX11, "moveCount", "I", tw_764, Or.inl rfl, by decide +kernel, by decide +kernel, fun z => by cases z⟩
theorem fa_X11_35 : ab_FA RX11 35 0 5 9 true true := ⟨by decide, rfl, RX11, RX11, "order", "[I", tw_765, Or.inl rfl, by decide +kernel, by decide +kernel, fun _ => rfl⟩
theorem fa_X11_39 : ab_FA RX11 39 0 6 9 true true := ⟨by decide, rfl, RX11, RX11, "moves", "[I", tw_766, Or.inl rfl, by decide +kernel, by decide +kernel, fun _ => rfl⟩
theorem fa_X11_42 : ab_FA RX11 42 0 7 9 true true := ⟨by decide, rfl, RX11, RX11, "ends", "[I", tw_767, Or.inl rfl, by decide +kernel, by decide +kernel, fun _ => rfl⟩
theorem fa_X11_66 : ab_FA RX11 66 4 5 0 false false := ⟨by decide, rfl, RX1, RX1, "kind", "I", tw_768, Or.inl rfl, by decide +kernel, by decide +kernel, fun z => by cases z⟩
theorem fa_X11_72 : ab_FA RX11 72 4 1 0 true false := ⟨by decide, rfl, RX1, RX1, "needs", "I", tw_769, Or.inl rfl, by decide +kernel, by decide +kernel, fun z => by cases z⟩
theorem fa_X11_75 : ab_FA RX11 75 4 2 0 true false := ⟨by decide, rfl, RX1, RX1, "makes", "I", tw_770, Or.inl rfl, by decide +kernel, by decide +kernel, fun z => by cases z⟩
theorem fa_X11_78 : ab_FA RX11 78 4 3 0 true false := ⟨by decide, rfl, RX1, RX1, "pays", "I", tw_771, Or.inl rfl, by decide +kernel, by decide +kernel, fun z => by cases z⟩
theorem fa_X11_81 : ab_FA RX11 81 4 4 0 true false := ⟨by decide, rfl, RX1, RX1, "figure", "I", tw_772, Or.inl rfl, by decide +kernel, by decide +kernel, fun z => by cases z⟩
theorem fa_X11_84 : ab_FA RX11 84 4 6 0 false false := ⟨by decide, rfl, RX1, RX1, "cost", "I", tw_773, Or.inl rfl, by decide +kernel, by decide +kernel, fun z => by cases z⟩
theorem fa_X11_87 : ab_FA RX11 87 4 7 0 false false := ⟨by decide, rfl, RX1, RX1, "back", "I", tw_774, Or.inl rfl, by decide +kernel, by decide +kernel, fun z => by cases z⟩
theorem fa_X11_90 : ab_FA RX11 90 4 10 1 false false := ⟨by decide, rfl, RX1, RX1, "keeps", "Z", tw_775, Or.inl rfl, by decide +kernel, by decide +kernel, fun z => by cases z⟩
theorem fa_X11_94 : ab_FA RX11 94 1 2 0 false false := ⟨by decide, rfl, RX9, RX9, "marks", "I", tw_776, Or.inl rfl, by decide +kernel, by decide +kernel, fun z => by cases z⟩
theorem fa_X11_97 : ab_FA RX11 97 1 3 0 false false := ⟨by decide, rfl, RX9, RX9, "coins", "I", tw_777, Or.inl rfl, by decide +kernel, by decide +kernel, fun z => by cases z⟩
theorem fa_X12_105 : ab_FA RX12 105 5 17 0 false false := ⟨by decide, rfl, RX12, RX12, "kindRead", "I", tw_778, Or.inl rfl, by decide +kernel, by decide +kernel, fun z => by cases z⟩
theorem fa_X12_108 : ab_FA RX12 108 5 15 0 false false := ⟨by decide, rfl, RX12, RX12, "letters", "I", tw_779, Or.inl rfl, by decide +kernel, by decide +kernel, fun z => by cases z⟩
theorem fa_X12_117 : ab_FA RX12 117 5 18 0 false false := ⟨by decide, rfl, RX12, RX12, "figureRead", "I", tw_780, Or.inl rfl, by decide +kernel, by decide +kernel, fun z => by cases z⟩
theorem fa_X12_13 : ab_FA RX12 13 5 1 9 true true := ⟨by decide, rfl, RX12, RX12, "image", "[I", tw_781, Or.inl rfl, by decide +kernel, by decide +kernel, fun _ => rfl⟩
theorem fa_X12_16 : ab_FA RX12 16 5 2 9 true true := ⟨by decide, rfl, RX12, RX12, "read", "[I", tw_782, Or.inl rfl, by decide +kernel, by decide +kernel, fun _ => rfl⟩
theorem fa_X12_166 : ab_FA RX12 166 5 24 0 false false := ⟨by decide, rfl, RX12, RX12, "listed", "I", tw_783, Or.inl rfl, by decide +kernel, by decide +kernel, fun z => by cases z⟩
theorem fa_X12_169 : ab_FA RX12 169 5 25 0 false false := ⟨by decide, rfl, RX12, RX12, "nails", "I", tw_784, Or.inl rfl, by decide +kernel, by decide +kernel, fun z => by cases z⟩
theorem fa_X12_175 : ab_FA RX12 175 5 26 0 false false := ⟨by decide, rfl, RX12, RX12, "so", "I", tw_785, Or.inl rfl, by decide +kernel, by decide +kernel, fun z => by cases z⟩
theorem fa_X12_178 : ab_FA RX12 178 5 27 0 false false := ⟨by decide, rfl, RX12, RX12, "coins", "I", tw_786, Or.inl rfl, by decide +kernel, by decide +kernel, fun z => by cases z⟩
theorem fa_X12_181 : ab_FA RX12 181 5 28 0 false false := ⟨by decide, rfl, RX12, RX12, "paid", "I", tw_787, Or.inl rfl, by decide +kernel, by decide +kernel, fun z => by cases z⟩
theorem fa_X12_184 : ab_FA RX12 184 5 29 0 false false := ⟨by decide, rfl, RX12, RX12, "undone", "I", tw_788, Or.inl rfl, by decide +kernel, by decide +kernel, fun z => by cases z⟩
theorem fa_X12_19 : ab_FA RX12 19 5 3 9 true true := ⟨by decide, rfl, RX12, RX12, "kept", "[I", tw_789, Or.inl rfl, by decide +kernel, by decide +kernel, fun _ => rfl⟩
theorem fa_X12_22 : ab_FA RX12 22 5 4 9 true true := ⟨by decide, rfl, RX12, RX12, "sort", "[I", tw_790, Or.inl rfl, by decide +kernel, by decide +kernel, fun _ => rfl⟩
theorem fa_X12_232 : ab_FA RX12 232 5 30 0 false false := ⟨by decide, rfl, RX12, RX12, "bestNails", "I", tw_791, Or.inl rfl, by decide +kernel, by decide +kernel, fun z => by cases z⟩
theorem fa_X12_238 : ab_FA RX12 238 5 31 0 false false := ⟨by decide, rfl, RX12, RX12, "bestPaid", "I", tw_792, Or.inl rfl, by decide +kernel, by decide +kernel, fun z => by cases z⟩
theorem fa_X12_246 : ab_FA RX12 246 5 34 0 false false := ⟨by decide, rfl, RX12, RX12, "bestMany", "I", tw_793, Or.inl rfl, by decide +kernel, by decide +kernel, fun z => by cases z⟩
theorem fa_X12_249 : ab_FA RX12 249 5 33 0 false false := ⟨by decide, rfl, RX12, RX12, "bestDigits", "I", tw_794, Or.inl rfl, by decide +kernel, by decide +kernel, fun z => by cases z⟩
theorem fa_X12_25 : ab_FA RX12 25 5 5 9 true true := ⟨by decide, rfl, RX12, RX12, "size", "[I", tw_795, Or.inl rfl, by decide +kernel, by decide +kernel, fun _ => rfl⟩
theorem fa_X12_256 : ab_FA RX12 256 5 38 0 false false := ⟨by decide, rfl, RX12, RX12, "worths", "I", tw_796, Or.inl rfl, by decide +kernel, by decide +kernel, fun z => by cases z⟩
theorem fa_X12_266 : ab_FA RX12 266 5 35 1 false false := ⟨by decide, rfl, RX12, RX12, "isPlanned", "Z", tw_797, Or.inl rfl, by decide +kernel, by decide +kernel, fun z => by cases z⟩
theorem fa_X12_270 : ab_FA RX12 270 5 36 2 false false := ⟨by decide, rfl, RX12, RX12, "bestWorth", "J", tw_798, Or.inl rfl, by decide +kernel, by decide +kernel, fun z => by cases z⟩
theorem fa_X12_274 : ab_FA RX12 274 5 37 0 false false := ⟨by decide, rfl, RX12, RX12, "bestFirst", "I", tw_799, Or.inl rfl, by decide +kernel, by decide +kernel, fun z => by cases z⟩
theorem fa_X12_28 : ab_FA RX12 28 5 6 9 true true := ⟨by decide, rfl, RX12, RX12, "element", "[I", tw_800, Or.inl rfl, by decide +kernel, by decide +kernel, fun _ => rfl⟩
theorem fa_X12_288 : ab_FA RX12 288 5 40 0 false false := ⟨by decide, rfl, RX12, RX12, "seed", "I", tw_801, Or.inl rfl, by decide +kernel, by decide +kernel, fun z => by cases z⟩
theorem fa_X12_303 : ab_FA RX12 303 5 9 1 false false := ⟨by decide, rfl, RX12, RX12, "hasImage", "Z", tw_802, Or.inl rfl, by decide +kernel, by decide +kernel, fun z => by cases z⟩
theorem fa_X12_31 : ab_FA RX12 31 5 7 9 true true := ⟨by decide, rfl, RX12, RX12, "keptCare", "[I", tw_803, Or.inl rfl, by decide +kernel, by decide +kernel, fun _ => rfl⟩
theorem fa_X12_34 : ab_FA RX12 34 5 8 9 true true := ⟨by decide, rfl, RX12, RX12, "keptToss", "[I", tw_804, Or.inl rfl, by decide +kernel, by decide +kernel, fun _ => rfl⟩
theorem fa_X12_37 : ab_FA RX12 37 5 16 9 true true := ⟨by decide, rfl, RX12, RX12, "numbers", "[I", tw_805, Or.inl rfl, by decide +kernel, by decide +kernel, fun _ => rfl⟩
theorem fa_X12_40 : ab_FA RX12 40 5 19 9 true true := ⟨by decide, rfl, RX12, RX12, "list", "[I", tw_806, Or.inl rfl, by decide +kernel, by decide +kernel, fun _ => rfl⟩
theorem fa_X12_43 : ab_FA RX12 43 5 20 9 true true := ⟨by decide, rfl, RX12, RX12, "changed", "[I", tw_807, Or.inl rfl, by decide +kernel, by decide +kernel, fun _ => rfl⟩
theorem fa_X12_46 : ab_FA RX12 46 5 21 9 true true := ⟨by decide, rfl, RX12, RX12, "ahead", "[I", tw_808, Or.inl rfl, by decide +kernel, by decide +kernel, fun _ => rfl⟩
theorem fa_X12_49 : ab_FA RX12 49 5 22 9 true true := ⟨by decide, rfl, RX12, RX12, "fate", "[I", tw_809, Or.inl rfl, by decide +kernel, by decide +kernel, fun _ => rfl⟩
theorem fa_X12_52 : ab_FA RX12 52 5 23 9 true true := ⟨by decide, rfl, RX12, RX12, "behindPlace", "[I", tw_810, Or.inl rfl, by decide +kernel, by decide +kernel, fun _ => rfl⟩
theorem fa_X12_55 : ab_FA RX12 55 5 32 9 true true := ⟨by decide, rfl, RX12, RX12, "line", "[I", tw_811, Or.inl rfl, by decide +kernel, by decide +kernel, fun _ => rfl⟩
theorem fa_X12_58 : ab_FA RX12 58 5 39 9 true true := ⟨by decide, rfl, RX12, RX12, "whose", "[I", tw_812, Or.inl rfl, by decide +kernel, by decide +kernel, fun _ => rfl⟩
theorem fa_X12_61 : ab_FA RX12 61 5 10 0 false false := ⟨by decide, rfl, RX12, RX12, "thrown", "I", tw_813, Or.inl rfl, by decide +kernel, by decide +kernel, fun z => by cases z⟩
theorem fa_X12_73 : ab_FA RX12 73 5 11 0 false false := ⟨by decide, rfl, RX12, RX12, "pos", "I", tw_814, Or.inl rfl, by decide +kernel, by decide +kernel, fun z => by cases z⟩
theorem fa_X12_76 : ab_FA RX12 76 5 13 0 false false := ⟨by decide, rfl, RX12, RX12, "end", "I", tw_815, Or.inl rfl, by decide +kernel, by decide +kernel, fun z => by cases z⟩
theorem fa_X12_79 : ab_FA RX12 79 5 12 0 false false := ⟨by decide, rfl, RX12, RX12, "base", "I", tw_816, Or.inl rfl, by decide +kernel, by decide +kernel, fun z => by cases z⟩
theorem fa_X12_9 : ab_FA RX12 9 5 0 9 true true := ⟨by decide, rfl, RX12, RX12, "s", "[I", tw_817, Or.inl rfl, by decide +kernel, by decide +kernel, fun _ => rfl⟩
theorem fa_X12_94 : ab_FA RX12 94 5 14 0 false false := ⟨by decide, rfl, RX12, RX12, "told", "I", tw_818, Or.inl rfl, by decide +kernel, by decide +kernel, fun z => by cases z⟩
theorem fa_X1_15 : ab_FA RX1 15 4 11 0 false false := ⟨by decide, rfl, RX1, RX1, "care", "I", tw_819, Or.inl rfl, by decide +kernel, by decide +kernel, fun z => by cases z⟩
theorem fa_X1_18 : ab_FA RX1 18 4 0 0 true true := ⟨by decide, rfl, RX1, RX1, "number", "I", tw_820, Or.inl rfl, by decide +kernel, by decide +kernel, fun _ => rfl⟩
theorem fa_X1_21 : ab_FA RX1 21 4 1 0 true true := ⟨by decide, rfl, RX1, RX1, "needs", "I", tw_821, Or.inl rfl, by decide +kernel, by decide +kernel, fun _ => rfl⟩
theorem fa_X1_24 : ab_FA RX1 24 4 2 0 true true := ⟨by decide, rfl, RX1, RX1, "makes", "I", tw_822, Or.inl rfl, by decide +kernel, by decide +kernel, fun _ => rfl⟩
theorem fa_X1_27 : ab_FA RX1 27 4 3 0 true true := ⟨by decide, rfl, RX1, RX1, "pays", "I", tw_823, Or.inl rfl, by decide +kernel, by decide +kernel, fun _ => rfl⟩
theorem fa_X1_30 : ab_FA RX1 30 4 4 0 true true := ⟨by decide, rfl, RX1, RX1, "figure", "I", tw_824, Or.inl rfl, by decide +kernel, by decide +kernel, fun _ => rfl⟩
theorem fa_X1_33 : ab_FA RX1 33 4 6 0 false false := ⟨by decide, rfl, RX1, RX1, "cost", "I", tw_825, Or.inl rfl, by decide +kernel, by decide +kernel, fun z => by cases z⟩
theorem fa_X1_36 : ab_FA RX1 36 4 7 0 false false := ⟨by decide, rfl, RX1, RX1, "back", "I", tw_826, Or.inl rfl, by decide +kernel, by decide +kernel, fun z => by cases z⟩
theorem fa_X1_39 : ab_FA RX1 39 4 8 0 false false := ⟨by decide, rfl, RX1, RX1, "sets", "I", tw_827, Or.inl rfl, by decide +kernel, by decide +kernel, fun z => by cases z⟩
theorem fa_X1_42 : ab_FA RX1 42 4 12 0 false false := ⟨by decide, rfl, RX1, RX1, "failure", "I", tw_828, Or.inl rfl, by decide +kernel, by decide +kernel, fun z => by cases z⟩
theorem fa_X1_45 : ab_FA RX1 45 4 13 1 false false := ⟨by decide, rfl, RX1, RX1, "canFail", "Z", tw_829, Or.inl rfl, by decide +kernel, by decide +kernel, fun z => by cases z⟩
theorem fa_X1_53 : ab_FA RX1 53 4 9 0 false false := ⟨by decide, rfl, RX1, RX1, "clears", "I", tw_830, Or.inl rfl, by decide +kernel, by decide +kernel, fun z => by cases z⟩
theorem fa_X1_9 : ab_FA RX1 9 4 5 0 false false := ⟨by decide, rfl, RX1, RX1, "kind", "I", tw_831, Or.inl rfl, by decide +kernel, by decide +kernel, fun z => by cases z⟩
theorem fa_X2_15 : ab_FA RX2 15 4 6 0 false false := ⟨by decide, rfl, RX2, RX1, "cost", "I", tw_833, Or.inr tw_832, by decide +kernel, by decide +kernel, fun z => by cases z⟩
theorem fa_X2_18 : ab_FA RX2 18 4 7 0 false false := ⟨by decide, rfl, RX2, RX1, "back", "I", tw_835, Or.inr tw_834, by decide +kernel, by decide +kernel, fun z => by cases z⟩
theorem fa_X2_21 : ab_FA RX2 21 4 11 0 false false := ⟨by decide, rfl, RX2, RX1, "care", "I", tw_837, Or.inr tw_836, by decide +kernel, by decide +kernel, fun z => by cases z⟩
theorem fa_X2_24 : ab_FA RX2 24 4 13 1 false false := ⟨by decide, rfl, RX2, RX1, "canFail", "Z", tw_839, Or.inr tw_838, by decide +kernel, by decide +kernel, fun z => by cases z⟩
theorem fa_X2_9 : ab_FA RX2 9 4 5 0 false false := ⟨by decide, rfl, RX2, RX1, "kind", "I", tw_841, Or.inr tw_840, by decide +kernel, by decide +kernel, fun z => by cases z⟩
theorem fa_X3_15 : ab_FA RX3 15 4 8 0 false false := ⟨by decide, rfl, RX3, RX1, "sets", "I", tw_843, Or.inr tw_842, by decide +kernel, by decide +kernel, fun z => by cases z⟩
theorem fa_X3_18 : ab_FA RX3 18 4 9 0 false false := ⟨by decide, rfl, RX3, RX1, "clears", "I", tw_845, Or.inr tw_844, by decide +kernel, by decide +kernel, fun z => by cases z⟩
theorem fa_X3_21 : ab_FA RX3 21 4 11 0 false false := ⟨by decide, rfl, RX3, RX1, "care", "I", tw_847, Or.inr tw_846, by decide +kernel, by decide +kernel, fun z => by cases z⟩
theorem fa_X3_9 : ab_FA RX3 9 4 5 0 false false := ⟨by decide, rfl, RX3, RX1, "kind", "I", tw_849, Or.inr tw_848, by decide +kernel, by decide +kernel, fun z => by cases z⟩
theorem fa_X4_15 : ab_FA RX4 15 4 6 0 false false := ⟨by decide, rfl, RX4, RX1, "cost", "I", tw_851, Or.inr tw_850, by decide +kernel, by decide +kernel, fun z => by cases z⟩
theorem fa_X4_18 : ab_FA RX4 18 4 7 0 false false := ⟨by decide, rfl, RX4, RX1, "back", "I", tw_853, Or.inr tw_852, by decide +kernel, by decide +kernel, fun z => by cases z⟩
theorem fa_X4_21 : ab_FA RX4 21 4 11 0 false false := ⟨by decide, rfl, RX4, RX1, "care", "I", tw_855, Or.inr tw_854, by decide +kernel, by decide +kernel, fun z => by cases z⟩
theorem fa_X4_9 : ab_FA RX4 9 4 5 0 false false := ⟨by decide, rfl, RX4, RX1, "kind", "I", tw_857, Or.inr tw_856, by decide +kernel, by decide +kernel, fun z => by cases z⟩
theorem fa_X5_15 : ab_FA RX5 15 4 6 0 false false := ⟨by decide, rfl, RX5, RX1, "cost", "I", tw_859, Or.inr tw_858, by decide +kernel, by decide +kernel, fun z => by cases z⟩
theorem fa_X5_18 : ab_FA RX5 18 4 7 0 false false := ⟨by decide, rfl, RX5, RX1, "back", "I", tw_861, Or.inr tw_860, by decide +kernel, by decide +kernel, fun z => by cases z⟩
theorem fa_X5_21 : ab_FA RX5 21 4 10 1 false false := ⟨by decide, rfl, RX5, RX1, "keeps", "Z", tw_863, Or.inr tw_862, by decide +kernel, by decide +kernel, fun z => by cases z⟩
theorem fa_X5_25 : ab_FA RX5 25 4 11 0 false false := ⟨by decide, rfl, RX5, RX1, "care", "I", tw_865, Or.inr tw_864, by decide +kernel, by decide +kernel, fun z => by cases z⟩
theorem fa_X5_9 : ab_FA RX5 9 4 5 0 false false := ⟨by decide, rfl, RX5, RX1, "kind", "I", tw_867, Or.inr tw_866, by decide +kernel, by decide +kernel, fun z => by cases z⟩
theorem fa_X6_11 : ab_FA RX6 11 3 0 9 true true := ⟨by decide, rfl, RX6, RX6, "elements", "[I", tw_868, Or.inl rfl, by decide +kernel, by decide +kernel, fun _ => rfl⟩
theorem fa_X6_15 : ab_FA RX6 15 3 2 0 false false := ⟨by decide, rfl, RX6, RX6, "sort", "I", tw_869, Or.inl rfl, by decide +kernel, by decide +kernel, fun z => by cases z⟩
theorem fa_X6_19 : ab_FA RX6 19 3 1 7 false false := ⟨by decide, rfl, RX6, RX6, "deed", "LBackwardYears$Deed;", tw_870, Or.inl rfl, by decide +kernel, by decide +kernel, fun z => by cases z⟩
theorem fa_X6_23 : ab_FA RX6 23 3 3 0 false false := ⟨by decide, rfl, RX6, RX6, "size", "I", tw_871, Or.inl rfl, by decide +kernel, by decide +kernel, fun z => by cases z⟩
theorem fa_X7_15 : ab_FA RX7 15 4 7 0 false false := ⟨by decide, rfl, RX7, RX1, "back", "I", tw_873, Or.inr tw_872, by decide +kernel, by decide +kernel, fun z => by cases z⟩
theorem fa_X7_18 : ab_FA RX7 18 4 11 0 false false := ⟨by decide, rfl, RX7, RX1, "care", "I", tw_875, Or.inr tw_874, by decide +kernel, by decide +kernel, fun z => by cases z⟩
theorem fa_X7_9 : ab_FA RX7 9 4 5 0 false false := ⟨by decide, rfl, RX7, RX1, "kind", "I", tw_877, Or.inr tw_876, by decide +kernel, by decide +kernel, fun z => by cases z⟩
theorem fa_X8_15 : ab_FA RX8 15 4 8 0 false false := ⟨by decide, rfl, RX8, RX1, "sets", "I", tw_879, Or.inr tw_878, by decide +kernel, by decide +kernel, fun z => by cases z⟩
theorem fa_X8_18 : ab_FA RX8 18 4 11 0 false false := ⟨by decide, rfl, RX8, RX1, "care", "I", tw_881, Or.inr tw_880, by decide +kernel, by decide +kernel, fun z => by cases z⟩
theorem fa_X8_21 : ab_FA RX8 21 4 12 0 false false := ⟨by decide, rfl, RX8, RX1, "failure", "I", tw_883, Or.inr tw_882, by decide +kernel, by decide +kernel, fun z => by cases z⟩
theorem fa_X8_9 : ab_FA RX8 9 4 5 0 false false := ⟨by decide, rfl, RX8, RX1, "kind", "I", tw_885, Or.inr tw_884, by decide +kernel, by decide +kernel, fun z => by cases z⟩
theorem fa_X9_11 : ab_FA RX9 11 1 0 11 true true := ⟨by decide, rfl, RX9, RX9, "deeds", "[LBackwardYears$Deed;", tw_886, Or.inl rfl, by decide +kernel, by decide +kernel, fun _ => rfl⟩
theorem fa_X9_17 : ab_FA RX9 17 1 3 0 false false := ⟨by decide, rfl, RX9, RX9, "coins", "I", tw_887, Or.inl rfl, by decide +kernel, by decide +kernel, fun z => by cases z⟩
theorem fa_X9_21 : ab_FA RX9 21 1 5 0 false false := ⟨by decide, rfl, RX9, RX9, "nail", "I", tw_888, Or.inl rfl, by decide +kernel, by decide +kernel, fun z => by cases z⟩
theorem fa_X9_28 : ab_FA RX9 28 1 1 0 false false := ⟨by decide, rfl, RX9, RX9, "deedCount", "I", tw_889, Or.inl rfl, by decide +kernel, by decide +kernel, fun z => by cases z⟩
theorem fa_X9_31 : ab_FA RX9 31 1 2 0 false false := ⟨by decide, rfl, RX9, RX9, "marks", "I", tw_890, Or.inl rfl, by decide +kernel, by decide +kernel, fun z => by cases z⟩
theorem fa_X9_34 : ab_FA RX9 34 1 4 0 false false := ⟨by decide, rfl, RX9, RX9, "law", "I", tw_891, Or.inl rfl, by decide +kernel, by decide +kernel, fun z => by cases z⟩
theorem fa_X9_37 : ab_FA RX9 37 1 6 0 false false := ⟨by decide, rfl, RX9, RX9, "rise", "I", tw_892, Or.inl rfl, by decide +kernel, by decide +kernel, fun z => by cases z⟩
theorem fa_X9_40 : ab_FA RX9 40 1 7 0 false false := ⟨by decide, rfl, RX9, RX9, "year", "I", tw_893, Or.inl rfl, by decide +kernel, by decide +kernel, fun z => by cases z⟩
theorem fa_X9_43 : ab_FA RX9 43 3 3 0 false false := ⟨by decide, rfl, RX6, RX6, "size", "I", tw_894, Or.inl rfl, by decide +kernel, by decide +kernel, fun z => by cases z⟩
theorem nf_L_18 : ab_NF RL 18 5 12 RX12 TX12 41 := ⟨tw_895, tw_896, tw_571, rfl, by decide, by decide, by decide, by decide +kernel⟩
theorem nf_L_8 : ab_NF RL 8 0 11 RX11 TX11 10 := ⟨tw_897, tw_898, tw_509, rfl, by decide, by decide, by decide, by decide +kernel⟩
theorem nf_X11_22 : ab_NF RX11 22 2 10 RX10 TX10 14 := ⟨tw_899, tw_900, tw_491, rfl, by decide, by decide, by decide, by decide +kernel⟩
theorem nf_X11_29 : ab_NF RX11 29 3 6 RX6 TX6 4 := ⟨tw_13, tw_901, tw_663, rfl, by decide, by decide, by decide, by decide +kernel⟩
theorem nf_X11_7 : ab_NF RX11 7 1 9 RX9 TX9 8 := ⟨tw_902, tw_903, tw_680, rfl, by decide, by decide, by decide, by decide +kernel⟩
theorem nf_X9_124 : ab_NF RX9 124 4 4 RX4 TX4 14 := ⟨tw_904, tw_905, tw_659, rfl, by decide, by decide, by decide, by decide +kernel⟩
theorem nf_X9_127 : ab_NF RX9 127 4 7 RX7 TX7 14 := ⟨tw_906, tw_907, tw_676, rfl, by decide, by decide, by decide, by decide +kernel⟩
theorem nf_X9_130 : ab_NF RX9 130 4 2 RX2 TX2 14 := ⟨tw_908, tw_909, tw_655, rfl, by decide, by decide, by decide, by decide +kernel⟩
theorem nf_X9_133 : ab_NF RX9 133 4 5 RX5 TX5 14 := ⟨tw_910, tw_911, tw_661, rfl, by decide, by decide, by decide, by decide +kernel⟩
theorem nf_X9_136 : ab_NF RX9 136 4 0 RX0 TX0 14 := ⟨tw_912, tw_913, tw_489, rfl, by decide, by decide, by decide, by decide +kernel⟩
theorem nf_X9_139 : ab_NF RX9 139 4 3 RX3 TX3 14 := ⟨tw_914, tw_915, tw_657, rfl, by decide, by decide, by decide, by decide +kernel⟩
theorem nf_X9_142 : ab_NF RX9 142 4 8 RX8 TX8 14 := ⟨tw_916, tw_917, tw_678, rfl, by decide, by decide, by decide, by decide +kernel⟩
theorem nf_X9_9 : ab_NF RX9 9 4 1 RX1 TX1 14 := ⟨tw_5, tw_918, tw_649, rfl, by decide, by decide, by decide, by decide +kernel⟩
theorem ts_X10_add : ∀ ci ∈ ab_cls 2, ∃ r : vw_C, vwCl[ci]? = some r ∧ Cond.selects r.1 yX10_add yX10_add ∈ ab_TS := fun ci h => by
  have h : ci = 10 := List.mem_singleton.mp h
  subst h
  exact ⟨_, rfl, tw_919⟩
theorem ts_X10_begin : ∀ ci ∈ ab_cls 2, ∃ r : vw_C, vwCl[ci]? = some r ∧ Cond.selects r.1 yX10_begin yX10_begin ∈ ab_TS := fun ci h => by
  have h : ci = 10 := List.mem_singleton.mp h
  subst h
  exact ⟨_, rfl, tw_920⟩
theorem ts_X10_deedAt : ∀ ci ∈ ab_cls 2, ∃ r : vw_C, vwCl[ci]? = some r ∧ Cond.selects r.1 yX10_deedAt yX10_deedAt ∈ ab_TS := fun ci h => by
  have h : ci = 10 := List.mem_singleton.mp h
  subst h
  exact ⟨_, rfl, tw_921⟩
theorem ts_X10_evenPlace : ∀ ci ∈ ab_cls 2, ∃ r : vw_C, vwCl[ci]? = some r ∧ Cond.selects r.1 yX10_evenPlace yX10_evenPlace ∈ ab_TS := fun ci h => by
  have h : ci = 10 := List.mem_singleton.mp h
  subst h
  exact ⟨_, rfl, tw_922⟩
theorem ts_X10_evenYear : ∀ ci ∈ ab_cls 2, ∃ r : vw_C, vwCl[ci]? = some r ∧ Cond.selects r.1 yX10_evenYear yX10_evenYear ∈ ab_TS := fun ci h => by
  have h : ci = 10 := List.mem_singleton.mp h
  subst h
  exact ⟨_, rfl, tw_923⟩
theorem ts_X10_fate : ∀ ci ∈ ab_cls 2, ∃ r : vw_C, vwCl[ci]? = some r ∧ Cond.selects r.1 yX10_fate yX10_fate ∈ ab_TS := fun ci h => by
  have h : ci = 10 := List.mem_singleton.mp h
  subst h
  exact ⟨_, rfl, tw_924⟩
theorem ts_X10_leastNails : ∀ ci ∈ ab_cls 2, ∃ r : vw_C, vwCl[ci]? = some r ∧ Cond.selects r.1 yX10_leastNails yX10_leastNails ∈ ab_TS := fun ci h => by
  have h : ci = 10 := List.mem_singleton.mp h
  subst h
  exact ⟨_, rfl, tw_925⟩
theorem ts_X10_letFall : ∀ ci ∈ ab_cls 2, ∃ r : vw_C, vwCl[ci]? = some r ∧ Cond.selects r.1 yX10_letFall yX10_letFall ∈ ab_TS := fun ci h => by
  have h : ci = 10 := List.mem_singleton.mp h
  subst h
  exact ⟨_, rfl, tw_926⟩
theorem ts_X10_nailAt : ∀ ci ∈ ab_cls 2, ∃ r : vw_C, vwCl[ci]? = some r ∧ Cond.selects r.1 yX10_nailAt yX10_nailAt ∈ ab_TS := fun ci h => by
  have h : ci = 10 := List.mem_singleton.mp h
  subst h
  exact ⟨_, rfl, tw_927⟩
theorem ts_X10_oddYear : ∀ ci ∈ ab_cls 2, ∃ r : vw_C, vwCl[ci]? = some r ∧ Cond.selects r.1 yX10_oddYear yX10_oddYear ∈ ab_TS := fun ci h => by
  have h : ci = 10 := List.mem_singleton.mp h
  subst h
  exact ⟨_, rfl, tw_928⟩
theorem ts_X10_open : ∀ ci ∈ ab_cls 2, ∃ r : vw_C, vwCl[ci]? = some r ∧ Cond.selects r.1 yX10_open yX10_open ∈ ab_TS := fun ci h => by
  have h : ci = 10 := List.mem_singleton.mp h
  subst h
  exact ⟨_, rfl, tw_929⟩
theorem ts_X10_play : ∀ ci ∈ ab_cls 2, ∃ r : vw_C, vwCl[ci]? = some r ∧ Cond.selects r.1 yX10_play yX10_play ∈ ab_TS := fun ci h => by
  have h : ci = 10 := List.mem_singleton.mp h
  subst h
  exact ⟨_, rfl, tw_930⟩
theorem ts_X10_standing : ∀ ci ∈ ab_cls 2, ∃ r : vw_C, vwCl[ci]? = some r ∧ Cond.selects r.1 yX10_standing yX10_standing ∈ ab_TS := fun ci h => by
  have h : ci = 10 := List.mem_singleton.mp h
  subst h
  exact ⟨_, rfl, tw_931⟩
theorem ts_X10_stays : ∀ ci ∈ ab_cls 2, ∃ r : vw_C, vwCl[ci]? = some r ∧ Cond.selects r.1 yX10_stays yX10_stays ∈ ab_TS := fun ci h => by
  have h : ci = 10 := List.mem_singleton.mp h
  subst h
  exact ⟨_, rfl, tw_932⟩
theorem ts_X10_undo : ∀ ci ∈ ab_cls 2, ∃ r : vw_C, vwCl[ci]? = some r ∧ Cond.selects r.1 yX10_undo yX10_undo ∈ ab_TS := fun ci h => by
  have h : ci = 10 := List.mem_singleton.mp h
  subst h
  exact ⟨_, rfl, tw_933⟩
theorem ts_X11_addMoves : ∀ ci ∈ ab_cls 0, ∃ r : vw_C, vwCl[ci]? = some r ∧ Cond.selects r.1 yX11_addMoves yX11_addMoves ∈ ab_TS := fun ci h => by
  have h : ci = 11 := List.mem_singleton.mp h
  subst h
  exact ⟨_, rfl, tw_934⟩
theorem ts_X11_behind : ∀ ci ∈ ab_cls 0, ∃ r : vw_C, vwCl[ci]? = some r ∧ Cond.selects r.1 yX11_behind yX11_behind ∈ ab_TS := fun ci h => by
  have h : ci = 11 := List.mem_singleton.mp h
  subst h
  exact ⟨_, rfl, tw_935⟩
theorem ts_X11_bestMove : ∀ ci ∈ ab_cls 0, ∃ r : vw_C, vwCl[ci]? = some r ∧ Cond.selects r.1 yX11_bestMove yX11_bestMove ∈ ab_TS := fun ci h => by
  have h : ci = 11 := List.mem_singleton.mp h
  subst h
  exact ⟨_, rfl, tw_936⟩
theorem ts_X11_byLaw : ∀ ci ∈ ab_cls 0, ∃ r : vw_C, vwCl[ci]? = some r ∧ Cond.selects r.1 yX11_byLaw yX11_byLaw ∈ ab_TS := fun ci h => by
  have h : ci = 11 := List.mem_singleton.mp h
  subst h
  exact ⟨_, rfl, tw_937⟩
theorem ts_X11_care : ∀ ci ∈ ab_cls 0, ∃ r : vw_C, vwCl[ci]? = some r ∧ Cond.selects r.1 yX11_care yX11_care ∈ ab_TS := fun ci h => by
  have h : ci = 11 := List.mem_singleton.mp h
  subst h
  exact ⟨_, rfl, tw_938⟩
theorem ts_X11_copy : ∀ ci ∈ ab_cls 0, ∃ r : vw_C, vwCl[ci]? = some r ∧ Cond.selects r.1 yX11_copy yX11_copy ∈ ab_TS := fun ci h => by
  have h : ci = 11 := List.mem_singleton.mp h
  subst h
  exact ⟨_, rfl, tw_939⟩
theorem ts_X11_count : ∀ ci ∈ ab_cls 0, ∃ r : vw_C, vwCl[ci]? = some r ∧ Cond.selects r.1 yX11_count yX11_count ∈ ab_TS := fun ci h => by
  have h : ci = 11 := List.mem_singleton.mp h
  subst h
  exact ⟨_, rfl, tw_940⟩
theorem ts_X11_counted : ∀ ci ∈ ab_cls 0, ∃ r : vw_C, vwCl[ci]? = some r ∧ Cond.selects r.1 yX11_counted yX11_counted ∈ ab_TS := fun ci h => by
  have h : ci = 11 := List.mem_singleton.mp h
  subst h
  exact ⟨_, rfl, tw_941⟩
theorem ts_X11_deed : ∀ ci ∈ ab_cls 0, ∃ r : vw_C, vwCl[ci]? = some r ∧ Cond.selects r.1 yX11_deed yX11_deed ∈ ab_TS := fun ci h => by
  have h : ci = 11 := List.mem_singleton.mp h
  subst h
  exact ⟨_, rfl, tw_942⟩
theorem ts_X11_element : ∀ ci ∈ ab_cls 0, ∃ r : vw_C, vwCl[ci]? = some r ∧ Cond.selects r.1 yX11_element yX11_element ∈ ab_TS := fun ci h => by
  have h : ci = 11 := List.mem_singleton.mp h
  subst h
  exact ⟨_, rfl, tw_943⟩
theorem ts_X11_endYears : ∀ ci ∈ ab_cls 0, ∃ r : vw_C, vwCl[ci]? = some r ∧ Cond.selects r.1 yX11_endYears yX11_endYears ∈ ab_TS := fun ci h => by
  have h : ci = 11 := List.mem_singleton.mp h
  subst h
  exact ⟨_, rfl, tw_944⟩
theorem ts_X11_endedSoBefore : ∀ ci ∈ ab_cls 0, ∃ r : vw_C, vwCl[ci]? = some r ∧ Cond.selects r.1 yX11_endedSoBefore yX11_endedSoBefore ∈ ab_TS := fun ci h => by
  have h : ci = 11 := List.mem_singleton.mp h
  subst h
  exact ⟨_, rfl, tw_945⟩
theorem ts_X11_even : ∀ ci ∈ ab_cls 0, ∃ r : vw_C, vwCl[ci]? = some r ∧ Cond.selects r.1 yX11_even yX11_even ∈ ab_TS := fun ci h => by
  have h : ci = 11 := List.mem_singleton.mp h
  subst h
  exact ⟨_, rfl, tw_946⟩
theorem ts_X11_ever : ∀ ci ∈ ab_cls 0, ∃ r : vw_C, vwCl[ci]? = some r ∧ Cond.selects r.1 yX11_ever yX11_ever ∈ ab_TS := fun ci h => by
  have h : ci = 11 := List.mem_singleton.mp h
  subst h
  exact ⟨_, rfl, tw_947⟩
theorem ts_X11_firstWrong : ∀ ci ∈ ab_cls 0, ∃ r : vw_C, vwCl[ci]? = some r ∧ Cond.selects r.1 yX11_firstWrong yX11_firstWrong ∈ ab_TS := fun ci h => by
  have h : ci = 11 := List.mem_singleton.mp h
  subst h
  exact ⟨_, rfl, tw_948⟩
theorem ts_X11_free : ∀ ci ∈ ab_cls 0, ∃ r : vw_C, vwCl[ci]? = some r ∧ Cond.selects r.1 yX11_free yX11_free ∈ ab_TS := fun ci h => by
  have h : ci = 11 := List.mem_singleton.mp h
  subst h
  exact ⟨_, rfl, tw_949⟩
theorem ts_X11_freest : ∀ ci ∈ ab_cls 0, ∃ r : vw_C, vwCl[ci]? = some r ∧ Cond.selects r.1 yX11_freest yX11_freest ∈ ab_TS := fun ci h => by
  have h : ci = 11 := List.mem_singleton.mp h
  subst h
  exact ⟨_, rfl, tw_950⟩
theorem ts_X11_help : ∀ ci ∈ ab_cls 0, ∃ r : vw_C, vwCl[ci]? = some r ∧ Cond.selects r.1 yX11_help yX11_help ∈ ab_TS := fun ci h => by
  have h : ci = 11 := List.mem_singleton.mp h
  subst h
  exact ⟨_, rfl, tw_951⟩
theorem ts_X11_image : ∀ ci ∈ ab_cls 0, ∃ r : vw_C, vwCl[ci]? = some r ∧ Cond.selects r.1 yX11_image yX11_image ∈ ab_TS := fun ci h => by
  have h : ci = 11 := List.mem_singleton.mp h
  subst h
  exact ⟨_, rfl, tw_952⟩
theorem ts_X11_judge : ∀ ci ∈ ab_cls 0, ∃ r : vw_C, vwCl[ci]? = some r ∧ Cond.selects r.1 yX11_judge yX11_judge ∈ ab_TS := fun ci h => by
  have h : ci = 11 := List.mem_singleton.mp h
  subst h
  exact ⟨_, rfl, tw_953⟩
theorem ts_X11_keep : ∀ ci ∈ ab_cls 0, ∃ r : vw_C, vwCl[ci]? = some r ∧ Cond.selects r.1 yX11_keep yX11_keep ∈ ab_TS := fun ci h => by
  have h : ci = 11 := List.mem_singleton.mp h
  subst h
  exact ⟨_, rfl, tw_954⟩
theorem ts_X11_lasts : ∀ ci ∈ ab_cls 0, ∃ r : vw_C, vwCl[ci]? = some r ∧ Cond.selects r.1 yX11_lasts yX11_lasts ∈ ab_TS := fun ci h => by
  have h : ci = 11 := List.mem_singleton.mp h
  subst h
  exact ⟨_, rfl, tw_955⟩
theorem ts_X11_least : ∀ ci ∈ ab_cls 0, ∃ r : vw_C, vwCl[ci]? = some r ∧ Cond.selects r.1 yX11_least yX11_least ∈ ab_TS := fun ci h => by
  have h : ci = 11 := List.mem_singleton.mp h
  subst h
  exact ⟨_, rfl, tw_956⟩
theorem ts_X11_listMoves : ∀ ci ∈ ab_cls 0, ∃ r : vw_C, vwCl[ci]? = some r ∧ Cond.selects r.1 yX11_listMoves yX11_listMoves ∈ ab_TS := fun ci h => by
  have h : ci = 11 := List.mem_singleton.mp h
  subst h
  exact ⟨_, rfl, tw_957⟩
theorem ts_X11_listRefusal : ∀ ci ∈ ab_cls 0, ∃ r : vw_C, vwCl[ci]? = some r ∧ Cond.selects r.1 yX11_listRefusal yX11_listRefusal ∈ ab_TS := fun ci h => by
  have h : ci = 11 := List.mem_singleton.mp h
  subst h
  exact ⟨_, rfl, tw_958⟩
theorem ts_X11_marks : ∀ ci ∈ ab_cls 0, ∃ r : vw_C, vwCl[ci]? = some r ∧ Cond.selects r.1 yX11_marks yX11_marks ∈ ab_TS := fun ci h => by
  have h : ci = 11 := List.mem_singleton.mp h
  subst h
  exact ⟨_, rfl, tw_959⟩
theorem ts_X11_may : ∀ ci ∈ ab_cls 0, ∃ r : vw_C, vwCl[ci]? = some r ∧ Cond.selects r.1 yX11_may yX11_may ∈ ab_TS := fun ci h => by
  have h : ci = 11 := List.mem_singleton.mp h
  subst h
  exact ⟨_, rfl, tw_960⟩
theorem ts_X11_month : ∀ ci ∈ ab_cls 0, ∃ r : vw_C, vwCl[ci]? = some r ∧ Cond.selects r.1 yX11_month yX11_month ∈ ab_TS := fun ci h => by
  have h : ci = 11 := List.mem_singleton.mp h
  subst h
  exact ⟨_, rfl, tw_961⟩
theorem ts_X11_nail : ∀ ci ∈ ab_cls 0, ∃ r : vw_C, vwCl[ci]? = some r ∧ Cond.selects r.1 yX11_nail yX11_nail ∈ ab_TS := fun ci h => by
  have h : ci = 11 := List.mem_singleton.mp h
  subst h
  exact ⟨_, rfl, tw_962⟩
theorem ts_X11_nextOrder : ∀ ci ∈ ab_cls 0, ∃ r : vw_C, vwCl[ci]? = some r ∧ Cond.selects r.1 yX11_nextOrder yX11_nextOrder ∈ ab_TS := fun ci h => by
  have h : ci = 11 := List.mem_singleton.mp h
  subst h
  exact ⟨_, rfl, tw_963⟩
theorem ts_X11_orderDigits : ∀ ci ∈ ab_cls 0, ∃ r : vw_C, vwCl[ci]? = some r ∧ Cond.selects r.1 yX11_orderDigits yX11_orderDigits ∈ ab_TS := fun ci h => by
  have h : ci = 11 := List.mem_singleton.mp h
  subst h
  exact ⟨_, rfl, tw_964⟩
theorem ts_X11_pair : ∀ ci ∈ ab_cls 0, ∃ r : vw_C, vwCl[ci]? = some r ∧ Cond.selects r.1 yX11_pair yX11_pair ∈ ab_TS := fun ci h => by
  have h : ci = 11 := List.mem_singleton.mp h
  subst h
  exact ⟨_, rfl, tw_965⟩
theorem ts_X11_plan : ∀ ci ∈ ab_cls 0, ∃ r : vw_C, vwCl[ci]? = some r ∧ Cond.selects r.1 yX11_plan yX11_plan ∈ ab_TS := fun ci h => by
  have h : ci = 11 := List.mem_singleton.mp h
  subst h
  exact ⟨_, rfl, tw_966⟩
theorem ts_X11_playList : ∀ ci ∈ ab_cls 0, ∃ r : vw_C, vwCl[ci]? = some r ∧ Cond.selects r.1 yX11_playList yX11_playList ∈ ab_TS := fun ci h => by
  have h : ci = 11 := List.mem_singleton.mp h
  subst h
  exact ⟨_, rfl, tw_967⟩
theorem ts_X11_playMove : ∀ ci ∈ ab_cls 0, ∃ r : vw_C, vwCl[ci]? = some r ∧ Cond.selects r.1 yX11_playMove yX11_playMove ∈ ab_TS := fun ci h => by
  have h : ci = 11 := List.mem_singleton.mp h
  subst h
  exact ⟨_, rfl, tw_968⟩
theorem ts_X11_playSeeds : ∀ ci ∈ ab_cls 0, ∃ r : vw_C, vwCl[ci]? = some r ∧ Cond.selects r.1 yX11_playSeeds yX11_playSeeds ∈ ab_TS := fun ci h => by
  have h : ci = 11 := List.mem_singleton.mp h
  subst h
  exact ⟨_, rfl, tw_969⟩
theorem ts_X11_playTwo : ∀ ci ∈ ab_cls 0, ∃ r : vw_C, vwCl[ci]? = some r ∧ Cond.selects r.1 yX11_playTwo yX11_playTwo ∈ ab_TS := fun ci h => by
  have h : ci = 11 := List.mem_singleton.mp h
  subst h
  exact ⟨_, rfl, tw_970⟩
theorem ts_X11_put : ∀ ci ∈ ab_cls 0, ∃ r : vw_C, vwCl[ci]? = some r ∧ Cond.selects r.1 yX11_put yX11_put ∈ ab_TS := fun ci h => by
  have h : ci = 11 := List.mem_singleton.mp h
  subst h
  exact ⟨_, rfl, tw_971⟩
theorem ts_X11_restore : ∀ ci ∈ ab_cls 0, ∃ r : vw_C, vwCl[ci]? = some r ∧ Cond.selects r.1 yX11_restore yX11_restore ∈ ab_TS := fun ci h => by
  have h : ci = 11 := List.mem_singleton.mp h
  subst h
  exact ⟨_, rfl, tw_972⟩
theorem ts_X11_rise : ∀ ci ∈ ab_cls 0, ∃ r : vw_C, vwCl[ci]? = some r ∧ Cond.selects r.1 yX11_rise yX11_rise ∈ ab_TS := fun ci h => by
  have h : ci = 11 := List.mem_singleton.mp h
  subst h
  exact ⟨_, rfl, tw_973⟩
theorem ts_X11_row : ∀ ci ∈ ab_cls 0, ∃ r : vw_C, vwCl[ci]? = some r ∧ Cond.selects r.1 yX11_row yX11_row ∈ ab_TS := fun ci h => by
  have h : ci = 11 := List.mem_singleton.mp h
  subst h
  exact ⟨_, rfl, tw_974⟩
theorem ts_X11_seeded : ∀ ci ∈ ab_cls 0, ∃ r : vw_C, vwCl[ci]? = some r ∧ Cond.selects r.1 yX11_seeded yX11_seeded ∈ ab_TS := fun ci h => by
  have h : ci = 11 := List.mem_singleton.mp h
  subst h
  exact ⟨_, rfl, tw_975⟩
theorem ts_X11_set : ∀ ci ∈ ab_cls 0, ∃ r : vw_C, vwCl[ci]? = some r ∧ Cond.selects r.1 yX11_set yX11_set ∈ ab_TS := fun ci h => by
  have h : ci = 11 := List.mem_singleton.mp h
  subst h
  exact ⟨_, rfl, tw_976⟩
theorem ts_X11_shelfAt : ∀ ci ∈ ab_cls 0, ∃ r : vw_C, vwCl[ci]? = some r ∧ Cond.selects r.1 yX11_shelfAt yX11_shelfAt ∈ ab_TS := fun ci h => by
  have h : ci = 11 := List.mem_singleton.mp h
  subst h
  exact ⟨_, rfl, tw_977⟩
theorem ts_X11_state : ∀ ci ∈ ab_cls 0, ∃ r : vw_C, vwCl[ci]? = some r ∧ Cond.selects r.1 yX11_state yX11_state ∈ ab_TS := fun ci h => by
  have h : ci = 11 := List.mem_singleton.mp h
  subst h
  exact ⟨_, rfl, tw_978⟩
theorem ts_X11_swapPlaces : ∀ ci ∈ ab_cls 0, ∃ r : vw_C, vwCl[ci]? = some r ∧ Cond.selects r.1 yX11_swapPlaces yX11_swapPlaces ∈ ab_TS := fun ci h => by
  have h : ci = 11 := List.mem_singleton.mp h
  subst h
  exact ⟨_, rfl, tw_979⟩
theorem ts_X11_takeList : ∀ ci ∈ ab_cls 0, ∃ r : vw_C, vwCl[ci]? = some r ∧ Cond.selects r.1 yX11_takeList yX11_takeList ∈ ab_TS := fun ci h => by
  have h : ci = 11 := List.mem_singleton.mp h
  subst h
  exact ⟨_, rfl, tw_980⟩
theorem ts_X11_takeOrder : ∀ ci ∈ ab_cls 0, ∃ r : vw_C, vwCl[ci]? = some r ∧ Cond.selects r.1 yX11_takeOrder yX11_takeOrder ∈ ab_TS := fun ci h => by
  have h : ci = 11 := List.mem_singleton.mp h
  subst h
  exact ⟨_, rfl, tw_981⟩
theorem ts_X11_toss : ∀ ci ∈ ab_cls 0, ∃ r : vw_C, vwCl[ci]? = some r ∧ Cond.selects r.1 yX11_toss yX11_toss ∈ ab_TS := fun ci h => by
  have h : ci = 11 := List.mem_singleton.mp h
  subst h
  exact ⟨_, rfl, tw_982⟩
theorem ts_X11_town : ∀ ci ∈ ab_cls 0, ∃ r : vw_C, vwCl[ci]? = some r ∧ Cond.selects r.1 yX11_town yX11_town ∈ ab_TS := fun ci h => by
  have h : ci = 11 := List.mem_singleton.mp h
  subst h
  exact ⟨_, rfl, tw_983⟩
theorem ts_X11_two : ∀ ci ∈ ab_cls 0, ∃ r : vw_C, vwCl[ci]? = some r ∧ Cond.selects r.1 yX11_two yX11_two ∈ ab_TS := fun ci h => by
  have h : ci = 11 := List.mem_singleton.mp h
  subst h
  exact ⟨_, rfl, tw_984⟩
theorem ts_X11_why : ∀ ci ∈ ab_cls 0, ∃ r : vw_C, vwCl[ci]? = some r ∧ Cond.selects r.1 yX11_why yX11_why ∈ ab_TS := fun ci h => by
  have h : ci = 11 := List.mem_singleton.mp h
  subst h
  exact ⟨_, rfl, tw_985⟩
theorem ts_X11_worthOfMove : ∀ ci ∈ ab_cls 0, ∃ r : vw_C, vwCl[ci]? = some r ∧ Cond.selects r.1 yX11_worthOfMove yX11_worthOfMove ∈ ab_TS := fun ci h => by
  have h : ci = 11 := List.mem_singleton.mp h
  subst h
  exact ⟨_, rfl, tw_986⟩
theorem ts_X12_backOf : ∀ ci ∈ ab_cls 5, ∃ r : vw_C, vwCl[ci]? = some r ∧ Cond.selects r.1 yX12_backOf yX12_backOf ∈ ab_TS := fun ci h => by
  have h : ci = 12 := List.mem_singleton.mp h
  subst h
  exact ⟨_, rfl, tw_987⟩
theorem ts_X12_begins : ∀ ci ∈ ab_cls 5, ∃ r : vw_C, vwCl[ci]? = some r ∧ Cond.selects r.1 yX12_begins yX12_begins ∈ ab_TS := fun ci h => by
  have h : ci = 12 := List.mem_singleton.mp h
  subst h
  exact ⟨_, rfl, tw_988⟩
theorem ts_X12_behind : ∀ ci ∈ ab_cls 5, ∃ r : vw_C, vwCl[ci]? = some r ∧ Cond.selects r.1 yX12_behind yX12_behind ∈ ab_TS := fun ci h => by
  have h : ci = 12 := List.mem_singleton.mp h
  subst h
  exact ⟨_, rfl, tw_989⟩
theorem ts_X12_byLaw : ∀ ci ∈ ab_cls 5, ∃ r : vw_C, vwCl[ci]? = some r ∧ Cond.selects r.1 yX12_byLaw yX12_byLaw ∈ ab_TS := fun ci h => by
  have h : ci = 12 := List.mem_singleton.mp h
  subst h
  exact ⟨_, rfl, tw_990⟩
theorem ts_X12_care : ∀ ci ∈ ab_cls 5, ∃ r : vw_C, vwCl[ci]? = some r ∧ Cond.selects r.1 yX12_care yX12_care ∈ ab_TS := fun ci h => by
  have h : ci = 12 := List.mem_singleton.mp h
  subst h
  exact ⟨_, rfl, tw_991⟩
theorem ts_X12_careOf : ∀ ci ∈ ab_cls 5, ∃ r : vw_C, vwCl[ci]? = some r ∧ Cond.selects r.1 yX12_careOf yX12_careOf ∈ ab_TS := fun ci h => by
  have h : ci = 12 := List.mem_singleton.mp h
  subst h
  exact ⟨_, rfl, tw_992⟩
theorem ts_X12_comes : ∀ ci ∈ ab_cls 5, ∃ r : vw_C, vwCl[ci]? = some r ∧ Cond.selects r.1 yX12_comes yX12_comes ∈ ab_TS := fun ci h => by
  have h : ci = 12 := List.mem_singleton.mp h
  subst h
  exact ⟨_, rfl, tw_993⟩
theorem ts_X12_copy : ∀ ci ∈ ab_cls 5, ∃ r : vw_C, vwCl[ci]? = some r ∧ Cond.selects r.1 yX12_copy yX12_copy ∈ ab_TS := fun ci h => by
  have h : ci = 12 := List.mem_singleton.mp h
  subst h
  exact ⟨_, rfl, tw_994⟩
theorem ts_X12_costOf : ∀ ci ∈ ab_cls 5, ∃ r : vw_C, vwCl[ci]? = some r ∧ Cond.selects r.1 yX12_costOf yX12_costOf ∈ ab_TS := fun ci h => by
  have h : ci = 12 := List.mem_singleton.mp h
  subst h
  exact ⟨_, rfl, tw_995⟩
theorem ts_X12_count : ∀ ci ∈ ab_cls 5, ∃ r : vw_C, vwCl[ci]? = some r ∧ Cond.selects r.1 yX12_count yX12_count ∈ ab_TS := fun ci h => by
  have h : ci = 12 := List.mem_singleton.mp h
  subst h
  exact ⟨_, rfl, tw_996⟩
theorem ts_X12_deed : ∀ ci ∈ ab_cls 5, ∃ r : vw_C, vwCl[ci]? = some r ∧ Cond.selects r.1 yX12_deed yX12_deed ∈ ab_TS := fun ci h => by
  have h : ci = 12 := List.mem_singleton.mp h
  subst h
  exact ⟨_, rfl, tw_997⟩
theorem ts_X12_drawn : ∀ ci ∈ ab_cls 5, ∃ r : vw_C, vwCl[ci]? = some r ∧ Cond.selects r.1 yX12_drawn yX12_drawn ∈ ab_TS := fun ci h => by
  have h : ci = 12 := List.mem_singleton.mp h
  subst h
  exact ⟨_, rfl, tw_998⟩
theorem ts_X12_element : ∀ ci ∈ ab_cls 5, ∃ r : vw_C, vwCl[ci]? = some r ∧ Cond.selects r.1 yX12_element yX12_element ∈ ab_TS := fun ci h => by
  have h : ci = 12 := List.mem_singleton.mp h
  subst h
  exact ⟨_, rfl, tw_999⟩
theorem ts_X12_even : ∀ ci ∈ ab_cls 5, ∃ r : vw_C, vwCl[ci]? = some r ∧ Cond.selects r.1 yX12_even yX12_even ∈ ab_TS := fun ci h => by
  have h : ci = 12 := List.mem_singleton.mp h
  subst h
  exact ⟨_, rfl, tw_1000⟩
theorem ts_X12_evenYear : ∀ ci ∈ ab_cls 5, ∃ r : vw_C, vwCl[ci]? = some r ∧ Cond.selects r.1 yX12_evenYear yX12_evenYear ∈ ab_TS := fun ci h => by
  have h : ci = 12 := List.mem_singleton.mp h
  subst h
  exact ⟨_, rfl, tw_1001⟩
theorem ts_X12_ever : ∀ ci ∈ ab_cls 5, ∃ r : vw_C, vwCl[ci]? = some r ∧ Cond.selects r.1 yX12_ever yX12_ever ∈ ab_TS := fun ci h => by
  have h : ci = 12 := List.mem_singleton.mp h
  subst h
  exact ⟨_, rfl, tw_1002⟩
theorem ts_X12_falls : ∀ ci ∈ ab_cls 5, ∃ r : vw_C, vwCl[ci]? = some r ∧ Cond.selects r.1 yX12_falls yX12_falls ∈ ab_TS := fun ci h => by
  have h : ci = 12 := List.mem_singleton.mp h
  subst h
  exact ⟨_, rfl, tw_1003⟩
theorem ts_X12_finds : ∀ ci ∈ ab_cls 5, ∃ r : vw_C, vwCl[ci]? = some r ∧ Cond.selects r.1 yX12_finds yX12_finds ∈ ab_TS := fun ci h => by
  have h : ci = 12 := List.mem_singleton.mp h
  subst h
  exact ⟨_, rfl, tw_1004⟩
theorem ts_X12_free : ∀ ci ∈ ab_cls 5, ∃ r : vw_C, vwCl[ci]? = some r ∧ Cond.selects r.1 yX12_free yX12_free ∈ ab_TS := fun ci h => by
  have h : ci = 12 := List.mem_singleton.mp h
  subst h
  exact ⟨_, rfl, tw_1005⟩
theorem ts_X12_get : ∀ ci ∈ ab_cls 5, ∃ r : vw_C, vwCl[ci]? = some r ∧ Cond.selects r.1 yX12_get yX12_get ∈ ab_TS := fun ci h => by
  have h : ci = 12 := List.mem_singleton.mp h
  subst h
  exact ⟨_, rfl, tw_1006⟩
theorem ts_X12_help : ∀ ci ∈ ab_cls 5, ∃ r : vw_C, vwCl[ci]? = some r ∧ Cond.selects r.1 yX12_help yX12_help ∈ ab_TS := fun ci h => by
  have h : ci = 12 := List.mem_singleton.mp h
  subst h
  exact ⟨_, rfl, tw_1007⟩
theorem ts_X12_here : ∀ ci ∈ ab_cls 5, ∃ r : vw_C, vwCl[ci]? = some r ∧ Cond.selects r.1 yX12_here yX12_here ∈ ab_TS := fun ci h => by
  have h : ci = 12 := List.mem_singleton.mp h
  subst h
  exact ⟨_, rfl, tw_1008⟩
theorem ts_X12_holds : ∀ ci ∈ ab_cls 5, ∃ r : vw_C, vwCl[ci]? = some r ∧ Cond.selects r.1 yX12_holds yX12_holds ∈ ab_TS := fun ci h => by
  have h : ci = 12 := List.mem_singleton.mp h
  subst h
  exact ⟨_, rfl, tw_1009⟩
theorem ts_X12_image : ∀ ci ∈ ab_cls 5, ∃ r : vw_C, vwCl[ci]? = some r ∧ Cond.selects r.1 yX12_image yX12_image ∈ ab_TS := fun ci h => by
  have h : ci = 12 := List.mem_singleton.mp h
  subst h
  exact ⟨_, rfl, tw_1010⟩
theorem ts_X12_isDeed : ∀ ci ∈ ab_cls 5, ∃ r : vw_C, vwCl[ci]? = some r ∧ Cond.selects r.1 yX12_isDeed yX12_isDeed ∈ ab_TS := fun ci h => by
  have h : ci = 12 := List.mem_singleton.mp h
  subst h
  exact ⟨_, rfl, tw_1011⟩
theorem ts_X12_isDigit : ∀ ci ∈ ab_cls 5, ∃ r : vw_C, vwCl[ci]? = some r ∧ Cond.selects r.1 yX12_isDigit yX12_isDigit ∈ ab_TS := fun ci h => by
  have h : ci = 12 := List.mem_singleton.mp h
  subst h
  exact ⟨_, rfl, tw_1012⟩
theorem ts_X12_isHeld : ∀ ci ∈ ab_cls 5, ∃ r : vw_C, vwCl[ci]? = some r ∧ Cond.selects r.1 yX12_isHeld yX12_isHeld ∈ ab_TS := fun ci h => by
  have h : ci = 12 := List.mem_singleton.mp h
  subst h
  exact ⟨_, rfl, tw_1013⟩
theorem ts_X12_isKept : ∀ ci ∈ ab_cls 5, ∃ r : vw_C, vwCl[ci]? = some r ∧ Cond.selects r.1 yX12_isKept yX12_isKept ∈ ab_TS := fun ci h => by
  have h : ci = 12 := List.mem_singleton.mp h
  subst h
  exact ⟨_, rfl, tw_1014⟩
theorem ts_X12_judge : ∀ ci ∈ ab_cls 5, ∃ r : vw_C, vwCl[ci]? = some r ∧ Cond.selects r.1 yX12_judge yX12_judge ∈ ab_TS := fun ci h => by
  have h : ci = 12 := List.mem_singleton.mp h
  subst h
  exact ⟨_, rfl, tw_1015⟩
theorem ts_X12_keep : ∀ ci ∈ ab_cls 5, ∃ r : vw_C, vwCl[ci]? = some r ∧ Cond.selects r.1 yX12_keep yX12_keep ∈ ab_TS := fun ci h => by
  have h : ci = 12 := List.mem_singleton.mp h
  subst h
  exact ⟨_, rfl, tw_1016⟩
theorem ts_X12_lasts : ∀ ci ∈ ab_cls 5, ∃ r : vw_C, vwCl[ci]? = some r ∧ Cond.selects r.1 yX12_lasts yX12_lasts ∈ ab_TS := fun ci h => by
  have h : ci = 12 := List.mem_singleton.mp h
  subst h
  exact ⟨_, rfl, tw_1017⟩
theorem ts_X12_lays : ∀ ci ∈ ab_cls 5, ∃ r : vw_C, vwCl[ci]? = some r ∧ Cond.selects r.1 yX12_lays yX12_lays ∈ ab_TS := fun ci h => by
  have h : ci = 12 := List.mem_singleton.mp h
  subst h
  exact ⟨_, rfl, tw_1018⟩
theorem ts_X12_least : ∀ ci ∈ ab_cls 5, ∃ r : vw_C, vwCl[ci]? = some r ∧ Cond.selects r.1 yX12_least yX12_least ∈ ab_TS := fun ci h => by
  have h : ci = 12 := List.mem_singleton.mp h
  subst h
  exact ⟨_, rfl, tw_1019⟩
theorem ts_X12_leastOf : ∀ ci ∈ ab_cls 5, ∃ r : vw_C, vwCl[ci]? = some r ∧ Cond.selects r.1 yX12_leastOf yX12_leastOf ∈ ab_TS := fun ci h => by
  have h : ci = 12 := List.mem_singleton.mp h
  subst h
  exact ⟨_, rfl, tw_1020⟩
theorem ts_X12_lines : ∀ ci ∈ ab_cls 5, ∃ r : vw_C, vwCl[ci]? = some r ∧ Cond.selects r.1 yX12_lines yX12_lines ∈ ab_TS := fun ci h => by
  have h : ci = 12 := List.mem_singleton.mp h
  subst h
  exact ⟨_, rfl, tw_1021⟩
theorem ts_X12_marks : ∀ ci ∈ ab_cls 5, ∃ r : vw_C, vwCl[ci]? = some r ∧ Cond.selects r.1 yX12_marks yX12_marks ∈ ab_TS := fun ci h => by
  have h : ci = 12 := List.mem_singleton.mp h
  subst h
  exact ⟨_, rfl, tw_1022⟩
theorem ts_X12_marksBy : ∀ ci ∈ ab_cls 5, ∃ r : vw_C, vwCl[ci]? = some r ∧ Cond.selects r.1 yX12_marksBy yX12_marksBy ∈ ab_TS := fun ci h => by
  have h : ci = 12 := List.mem_singleton.mp h
  subst h
  exact ⟨_, rfl, tw_1023⟩
theorem ts_X12_may : ∀ ci ∈ ab_cls 5, ∃ r : vw_C, vwCl[ci]? = some r ∧ Cond.selects r.1 yX12_may yX12_may ∈ ab_TS := fun ci h => by
  have h : ci = 12 := List.mem_singleton.mp h
  subst h
  exact ⟨_, rfl, tw_1024⟩
theorem ts_X12_mayBy : ∀ ci ∈ ab_cls 5, ∃ r : vw_C, vwCl[ci]? = some r ∧ Cond.selects r.1 yX12_mayBy yX12_mayBy ∈ ab_TS := fun ci h => by
  have h : ci = 12 := List.mem_singleton.mp h
  subst h
  exact ⟨_, rfl, tw_1025⟩
theorem ts_X12_month : ∀ ci ∈ ab_cls 5, ∃ r : vw_C, vwCl[ci]? = some r ∧ Cond.selects r.1 yX12_month yX12_month ∈ ab_TS := fun ci h => by
  have h : ci = 12 := List.mem_singleton.mp h
  subst h
  exact ⟨_, rfl, tw_1026⟩
theorem ts_X12_nail : ∀ ci ∈ ab_cls 5, ∃ r : vw_C, vwCl[ci]? = some r ∧ Cond.selects r.1 yX12_nail yX12_nail ∈ ab_TS := fun ci h => by
  have h : ci = 12 := List.mem_singleton.mp h
  subst h
  exact ⟨_, rfl, tw_1027⟩
theorem ts_X12_oddYear : ∀ ci ∈ ab_cls 5, ∃ r : vw_C, vwCl[ci]? = some r ∧ Cond.selects r.1 yX12_oddYear yX12_oddYear ∈ ab_TS := fun ci h => by
  have h : ci = 12 := List.mem_singleton.mp h
  subst h
  exact ⟨_, rfl, tw_1028⟩
theorem ts_X12_pair : ∀ ci ∈ ab_cls 5, ∃ r : vw_C, vwCl[ci]? = some r ∧ Cond.selects r.1 yX12_pair yX12_pair ∈ ab_TS := fun ci h => by
  have h : ci = 12 := List.mem_singleton.mp h
  subst h
  exact ⟨_, rfl, tw_1029⟩
theorem ts_X12_pairOf : ∀ ci ∈ ab_cls 5, ∃ r : vw_C, vwCl[ci]? = some r ∧ Cond.selects r.1 yX12_pairOf yX12_pairOf ∈ ab_TS := fun ci h => by
  have h : ci = 12 := List.mem_singleton.mp h
  subst h
  exact ⟨_, rfl, tw_1030⟩
theorem ts_X12_plan : ∀ ci ∈ ab_cls 5, ∃ r : vw_C, vwCl[ci]? = some r ∧ Cond.selects r.1 yX12_plan yX12_plan ∈ ab_TS := fun ci h => by
  have h : ci = 12 := List.mem_singleton.mp h
  subst h
  exact ⟨_, rfl, tw_1031⟩
theorem ts_X12_plans : ∀ ci ∈ ab_cls 5, ∃ r : vw_C, vwCl[ci]? = some r ∧ Cond.selects r.1 yX12_plans yX12_plans ∈ ab_TS := fun ci h => by
  have h : ci = 12 := List.mem_singleton.mp h
  subst h
  exact ⟨_, rfl, tw_1032⟩
theorem ts_X12_priceOf : ∀ ci ∈ ab_cls 5, ∃ r : vw_C, vwCl[ci]? = some r ∧ Cond.selects r.1 yX12_priceOf yX12_priceOf ∈ ab_TS := fun ci h => by
  have h : ci = 12 := List.mem_singleton.mp h
  subst h
  exact ⟨_, rfl, tw_1033⟩
theorem ts_X12_put : ∀ ci ∈ ab_cls 5, ∃ r : vw_C, vwCl[ci]? = some r ∧ Cond.selects r.1 yX12_put yX12_put ∈ ab_TS := fun ci h => by
  have h : ci = 12 := List.mem_singleton.mp h
  subst h
  exact ⟨_, rfl, tw_1034⟩
theorem ts_X12_readsDeed : ∀ ci ∈ ab_cls 5, ∃ r : vw_C, vwCl[ci]? = some r ∧ Cond.selects r.1 yX12_readsDeed yX12_readsDeed ∈ ab_TS := fun ci h => by
  have h : ci = 12 := List.mem_singleton.mp h
  subst h
  exact ⟨_, rfl, tw_1035⟩
theorem ts_X12_readsMark : ∀ ci ∈ ab_cls 5, ∃ r : vw_C, vwCl[ci]? = some r ∧ Cond.selects r.1 yX12_readsMark yX12_readsMark ∈ ab_TS := fun ci h => by
  have h : ci = 12 := List.mem_singleton.mp h
  subst h
  exact ⟨_, rfl, tw_1036⟩
theorem ts_X12_readsNumber : ∀ ci ∈ ab_cls 5, ∃ r : vw_C, vwCl[ci]? = some r ∧ Cond.selects r.1 yX12_readsNumber yX12_readsNumber ∈ ab_TS := fun ci h => by
  have h : ci = 12 := List.mem_singleton.mp h
  subst h
  exact ⟨_, rfl, tw_1037⟩
theorem ts_X12_readsStatement : ∀ ci ∈ ab_cls 5, ∃ r : vw_C, vwCl[ci]? = some r ∧ Cond.selects r.1 yX12_readsStatement yX12_readsStatement ∈ ab_TS := fun ci h => by
  have h : ci = 12 := List.mem_singleton.mp h
  subst h
  exact ⟨_, rfl, tw_1038⟩
theorem ts_X12_restore : ∀ ci ∈ ab_cls 5, ∃ r : vw_C, vwCl[ci]? = some r ∧ Cond.selects r.1 yX12_restore yX12_restore ∈ ab_TS := fun ci h => by
  have h : ci = 12 := List.mem_singleton.mp h
  subst h
  exact ⟨_, rfl, tw_1039⟩
theorem ts_X12_rise : ∀ ci ∈ ab_cls 5, ∃ r : vw_C, vwCl[ci]? = some r ∧ Cond.selects r.1 yX12_rise yX12_rise ∈ ab_TS := fun ci h => by
  have h : ci = 12 := List.mem_singleton.mp h
  subst h
  exact ⟨_, rfl, tw_1040⟩
theorem ts_X12_row : ∀ ci ∈ ab_cls 5, ∃ r : vw_C, vwCl[ci]? = some r ∧ Cond.selects r.1 yX12_row yX12_row ∈ ab_TS := fun ci h => by
  have h : ci = 12 := List.mem_singleton.mp h
  subst h
  exact ⟨_, rfl, tw_1041⟩
theorem ts_X12_seeded : ∀ ci ∈ ab_cls 5, ∃ r : vw_C, vwCl[ci]? = some r ∧ Cond.selects r.1 yX12_seeded yX12_seeded ∈ ab_TS := fun ci h => by
  have h : ci = 12 := List.mem_singleton.mp h
  subst h
  exact ⟨_, rfl, tw_1042⟩
theorem ts_X12_set : ∀ ci ∈ ab_cls 5, ∃ r : vw_C, vwCl[ci]? = some r ∧ Cond.selects r.1 yX12_set yX12_set ∈ ab_TS := fun ci h => by
  have h : ci = 12 := List.mem_singleton.mp h
  subst h
  exact ⟨_, rfl, tw_1043⟩
theorem ts_X12_standing : ∀ ci ∈ ab_cls 5, ∃ r : vw_C, vwCl[ci]? = some r ∧ Cond.selects r.1 yX12_standing yX12_standing ∈ ab_TS := fun ci h => by
  have h : ci = 12 := List.mem_singleton.mp h
  subst h
  exact ⟨_, rfl, tw_1044⟩
theorem ts_X12_state : ∀ ci ∈ ab_cls 5, ∃ r : vw_C, vwCl[ci]? = some r ∧ Cond.selects r.1 yX12_state yX12_state ∈ ab_TS := fun ci h => by
  have h : ci = 12 := List.mem_singleton.mp h
  subst h
  exact ⟨_, rfl, tw_1045⟩
theorem ts_X12_takes : ∀ ci ∈ ab_cls 5, ∃ r : vw_C, vwCl[ci]? = some r ∧ Cond.selects r.1 yX12_takes yX12_takes ∈ ab_TS := fun ci h => by
  have h : ci = 12 := List.mem_singleton.mp h
  subst h
  exact ⟨_, rfl, tw_1046⟩
theorem ts_X12_thrown : ∀ ci ∈ ab_cls 5, ∃ r : vw_C, vwCl[ci]? = some r ∧ Cond.selects r.1 yX12_thrown yX12_thrown ∈ ab_TS := fun ci h => by
  have h : ci = 12 := List.mem_singleton.mp h
  subst h
  exact ⟨_, rfl, tw_1047⟩
theorem ts_X12_toss : ∀ ci ∈ ab_cls 5, ∃ r : vw_C, vwCl[ci]? = some r ∧ Cond.selects r.1 yX12_toss yX12_toss ∈ ab_TS := fun ci h => by
  have h : ci = 12 := List.mem_singleton.mp h
  subst h
  exact ⟨_, rfl, tw_1048⟩
theorem ts_X12_town : ∀ ci ∈ ab_cls 5, ∃ r : vw_C, vwCl[ci]? = some r ∧ Cond.selects r.1 yX12_town yX12_town ∈ ab_TS := fun ci h => by
  have h : ci = 12 := List.mem_singleton.mp h
  subst h
  exact ⟨_, rfl, tw_1049⟩
theorem ts_X12_tries : ∀ ci ∈ ab_cls 5, ∃ r : vw_C, vwCl[ci]? = some r ∧ Cond.selects r.1 yX12_tries yX12_tries ∈ ab_TS := fun ci h => by
  have h : ci = 12 := List.mem_singleton.mp h
  subst h
  exact ⟨_, rfl, tw_1050⟩
theorem ts_X12_two : ∀ ci ∈ ab_cls 5, ∃ r : vw_C, vwCl[ci]? = some r ∧ Cond.selects r.1 yX12_two yX12_two ∈ ab_TS := fun ci h => by
  have h : ci = 12 := List.mem_singleton.mp h
  subst h
  exact ⟨_, rfl, tw_1051⟩
theorem ts_X12_undoes : ∀ ci ∈ ab_cls 5, ∃ r : vw_C, vwCl[ci]? = some r ∧ Cond.selects r.1 yX12_undoes yX12_undoes ∈ ab_TS := fun ci h => by
  have h : ci = 12 := List.mem_singleton.mp h
  subst h
  exact ⟨_, rfl, tw_1052⟩
theorem ts_X12_why : ∀ ci ∈ ab_cls 5, ∃ r : vw_C, vwCl[ci]? = some r ∧ Cond.selects r.1 yX12_why yX12_why ∈ ab_TS := fun ci h => by
  have h : ci = 12 := List.mem_singleton.mp h
  subst h
  exact ⟨_, rfl, tw_1053⟩
theorem ts_X12_worthOf : ∀ ci ∈ ab_cls 5, ∃ r : vw_C, vwCl[ci]? = some r ∧ Cond.selects r.1 yX12_worthOf yX12_worthOf ∈ ab_TS := fun ci h => by
  have h : ci = 12 := List.mem_singleton.mp h
  subst h
  exact ⟨_, rfl, tw_1054⟩
theorem ts_X12_wrongKept : ∀ ci ∈ ab_cls 5, ∃ r : vw_C, vwCl[ci]? = some r ∧ Cond.selects r.1 yX12_wrongKept yX12_wrongKept ∈ ab_TS := fun ci h => by
  have h : ci = 12 := List.mem_singleton.mp h
  subst h
  exact ⟨_, rfl, tw_1055⟩
theorem ts_X12_wrongList : ∀ ci ∈ ab_cls 5, ∃ r : vw_C, vwCl[ci]? = some r ∧ Cond.selects r.1 yX12_wrongList yX12_wrongList ∈ ab_TS := fun ci h => by
  have h : ci = 12 := List.mem_singleton.mp h
  subst h
  exact ⟨_, rfl, tw_1056⟩
theorem ts_X12_wrongRow : ∀ ci ∈ ab_cls 5, ∃ r : vw_C, vwCl[ci]? = some r ∧ Cond.selects r.1 yX12_wrongRow yX12_wrongRow ∈ ab_TS := fun ci h => by
  have h : ci = 12 := List.mem_singleton.mp h
  subst h
  exact ⟨_, rfl, tw_1057⟩
theorem ts_X1_fail : ∀ ci ∈ ab_cls 4, ∃ r : vw_C, vwCl[ci]? = some r ∧ Cond.selects r.1 yX1_fail yX1_fail ∈ ab_TS := fun ci h => by
  have h : ci ∈ [0, 1, 2, 3, 4, 5, 7, 8] := h
  simp only [List.mem_cons, List.not_mem_nil, or_false] at h
  rcases h with rfl | rfl | rfl | rfl | rfl | rfl | rfl | rfl
  · exact ⟨_, rfl, tw_1058⟩
  · exact ⟨_, rfl, tw_1059⟩
  · exact ⟨_, rfl, tw_1060⟩
  · exact ⟨_, rfl, tw_1061⟩
  · exact ⟨_, rfl, tw_1062⟩
  · exact ⟨_, rfl, tw_1063⟩
  · exact ⟨_, rfl, tw_1064⟩
  · exact ⟨_, rfl, tw_1065⟩
theorem ts_X1_hasGround : ∀ ci ∈ ab_cls 4, ∃ r : vw_C, vwCl[ci]? = some r ∧ Cond.selects r.1 yX1_hasGround yX1_hasGround ∈ ab_TS := fun ci h => by
  have h : ci ∈ [0, 1, 2, 3, 4, 5, 7, 8] := h
  simp only [List.mem_cons, List.not_mem_nil, or_false] at h
  rcases h with rfl | rfl | rfl | rfl | rfl | rfl | rfl | rfl
  · exact ⟨_, rfl, tw_1066⟩
  · exact ⟨_, rfl, tw_1067⟩
  · exact ⟨_, rfl, tw_1068⟩
  · exact ⟨_, rfl, tw_1069⟩
  · exact ⟨_, rfl, tw_1070⟩
  · exact ⟨_, rfl, tw_1071⟩
  · exact ⟨_, rfl, tw_1072⟩
  · exact ⟨_, rfl, tw_1073⟩
theorem ts_X1_marksBehind : ∀ ci ∈ ab_cls 4, ∃ r : vw_C, vwCl[ci]? = some r ∧ Cond.selects r.1 yX1_marksBehind yX1_marksBehind ∈ ab_TS := fun ci h => by
  have h : ci ∈ [0, 1, 2, 3, 4, 5, 7, 8] := h
  simp only [List.mem_cons, List.not_mem_nil, or_false] at h
  rcases h with rfl | rfl | rfl | rfl | rfl | rfl | rfl | rfl
  · exact ⟨_, rfl, tw_1074⟩
  · exact ⟨_, rfl, tw_1075⟩
  · exact ⟨_, rfl, tw_1076⟩
  · exact ⟨_, rfl, tw_1077⟩
  · exact ⟨_, rfl, tw_1078⟩
  · exact ⟨_, rfl, tw_1079⟩
  · exact ⟨_, rfl, tw_1080⟩
  · exact ⟨_, rfl, tw_1081⟩
theorem ts_X1_mayBeDone : ∀ ci ∈ ab_cls 4, ∃ r : vw_C, vwCl[ci]? = some r ∧ Cond.selects r.1 yX1_mayBeDone yX1_mayBeDone ∈ ab_TS := fun ci h => by
  have h : ci ∈ [0, 1, 2, 3, 4, 5, 7, 8] := h
  simp only [List.mem_cons, List.not_mem_nil, or_false] at h
  rcases h with rfl | rfl | rfl | rfl | rfl | rfl | rfl | rfl
  · exact ⟨_, rfl, tw_1082⟩
  · exact ⟨_, rfl, tw_1083⟩
  · exact ⟨_, rfl, tw_1084⟩
  · exact ⟨_, rfl, tw_1085⟩
  · exact ⟨_, rfl, tw_1086⟩
  · exact ⟨_, rfl, tw_1087⟩
  · exact ⟨_, rfl, tw_1088⟩
  · exact ⟨_, rfl, tw_1089⟩
theorem ts_X6_bytesRefusal : ∀ ci ∈ ab_cls 3, ∃ r : vw_C, vwCl[ci]? = some r ∧ Cond.selects r.1 yX6_bytesRefusal yX6_bytesRefusal ∈ ab_TS := fun ci h => by
  have h : ci = 6 := List.mem_singleton.mp h
  subst h
  exact ⟨_, rfl, tw_1090⟩
theorem ts_X6_deedRefusal : ∀ ci ∈ ab_cls 3, ∃ r : vw_C, vwCl[ci]? = some r ∧ Cond.selects r.1 yX6_deedRefusal yX6_deedRefusal ∈ ab_TS := fun ci h => by
  have h : ci = 6 := List.mem_singleton.mp h
  subst h
  exact ⟨_, rfl, tw_1091⟩
theorem ts_X6_hasPlace : ∀ ci ∈ ab_cls 3, ∃ r : vw_C, vwCl[ci]? = some r ∧ Cond.selects r.1 yX6_hasPlace yX6_hasPlace ∈ ab_TS := fun ci h => by
  have h : ci = 6 := List.mem_singleton.mp h
  subst h
  exact ⟨_, rfl, tw_1092⟩
theorem ts_X6_hasPlaces : ∀ ci ∈ ab_cls 3, ∃ r : vw_C, vwCl[ci]? = some r ∧ Cond.selects r.1 yX6_hasPlaces yX6_hasPlaces ∈ ab_TS := fun ci h => by
  have h : ci = 6 := List.mem_singleton.mp h
  subst h
  exact ⟨_, rfl, tw_1093⟩
theorem ts_X6_hold : ∀ ci ∈ ab_cls 3, ∃ r : vw_C, vwCl[ci]? = some r ∧ Cond.selects r.1 yX6_hold yX6_hold ∈ ab_TS := fun ci h => by
  have h : ci = 6 := List.mem_singleton.mp h
  subst h
  exact ⟨_, rfl, tw_1094⟩
theorem ts_X6_holdRow : ∀ ci ∈ ab_cls 3, ∃ r : vw_C, vwCl[ci]? = some r ∧ Cond.selects r.1 yX6_holdRow yX6_holdRow ∈ ab_TS := fun ci h => by
  have h : ci = 6 := List.mem_singleton.mp h
  subst h
  exact ⟨_, rfl, tw_1095⟩
theorem ts_X6_isEmpty : ∀ ci ∈ ab_cls 3, ∃ r : vw_C, vwCl[ci]? = some r ∧ Cond.selects r.1 yX6_isEmpty yX6_isEmpty ∈ ab_TS := fun ci h => by
  have h : ci = 6 := List.mem_singleton.mp h
  subst h
  exact ⟨_, rfl, tw_1096⟩
theorem ts_X6_leastNumber : ∀ ci ∈ ab_cls 3, ∃ r : vw_C, vwCl[ci]? = some r ∧ Cond.selects r.1 yX6_leastNumber yX6_leastNumber ∈ ab_TS := fun ci h => by
  have h : ci = 6 := List.mem_singleton.mp h
  subst h
  exact ⟨_, rfl, tw_1097⟩
theorem ts_X6_read : ∀ ci ∈ ab_cls 3, ∃ r : vw_C, vwCl[ci]? = some r ∧ Cond.selects r.1 yX6_read yX6_read ∈ ab_TS := fun ci h => by
  have h : ci = 6 := List.mem_singleton.mp h
  subst h
  exact ⟨_, rfl, tw_1098⟩
theorem ts_X6_rowRefusal : ∀ ci ∈ ab_cls 3, ∃ r : vw_C, vwCl[ci]? = some r ∧ Cond.selects r.1 yX6_rowRefusal yX6_rowRefusal ∈ ab_TS := fun ci h => by
  have h : ci = 6 := List.mem_singleton.mp h
  subst h
  exact ⟨_, rfl, tw_1099⟩
theorem ts_X6_write : ∀ ci ∈ ab_cls 3, ∃ r : vw_C, vwCl[ci]? = some r ∧ Cond.selects r.1 yX6_write yX6_write ∈ ab_TS := fun ci h => by
  have h : ci = 6 := List.mem_singleton.mp h
  subst h
  exact ⟨_, rfl, tw_1100⟩
theorem ts_X9_become : ∀ ci ∈ ab_cls 1, ∃ r : vw_C, vwCl[ci]? = some r ∧ Cond.selects r.1 yX9_become yX9_become ∈ ab_TS := fun ci h => by
  have h : ci = 9 := List.mem_singleton.mp h
  subst h
  exact ⟨_, rfl, tw_1101⟩
theorem ts_X9_changeCoins : ∀ ci ∈ ab_cls 1, ∃ r : vw_C, vwCl[ci]? = some r ∧ Cond.selects r.1 yX9_changeCoins yX9_changeCoins ∈ ab_TS := fun ci h => by
  have h : ci = 9 := List.mem_singleton.mp h
  subst h
  exact ⟨_, rfl, tw_1102⟩
theorem ts_X9_changeLaw : ∀ ci ∈ ab_cls 1, ∃ r : vw_C, vwCl[ci]? = some r ∧ Cond.selects r.1 yX9_changeLaw yX9_changeLaw ∈ ab_TS := fun ci h => by
  have h : ci = 9 := List.mem_singleton.mp h
  subst h
  exact ⟨_, rfl, tw_1103⟩
theorem ts_X9_changeNail : ∀ ci ∈ ab_cls 1, ∃ r : vw_C, vwCl[ci]? = some r ∧ Cond.selects r.1 yX9_changeNail yX9_changeNail ∈ ab_TS := fun ci h => by
  have h : ci = 9 := List.mem_singleton.mp h
  subst h
  exact ⟨_, rfl, tw_1104⟩
theorem ts_X9_deedAt : ∀ ci ∈ ab_cls 1, ∃ r : vw_C, vwCl[ci]? = some r ∧ Cond.selects r.1 yX9_deedAt yX9_deedAt ∈ ab_TS := fun ci h => by
  have h : ci = 9 := List.mem_singleton.mp h
  subst h
  exact ⟨_, rfl, tw_1105⟩
theorem ts_X9_nailCost : ∀ ci ∈ ab_cls 1, ∃ r : vw_C, vwCl[ci]? = some r ∧ Cond.selects r.1 yX9_nailCost yX9_nailCost ∈ ab_TS := fun ci h => by
  have h : ci = 9 := List.mem_singleton.mp h
  subst h
  exact ⟨_, rfl, tw_1106⟩
theorem ts_X9_newDeed : ∀ ci ∈ ab_cls 1, ∃ r : vw_C, vwCl[ci]? = some r ∧ Cond.selects r.1 yX9_newDeed yX9_newDeed ∈ ab_TS := fun ci h => by
  have h : ci = 9 := List.mem_singleton.mp h
  subst h
  exact ⟨_, rfl, tw_1107⟩
theorem ts_X9_read : ∀ ci ∈ ab_cls 1, ∃ r : vw_C, vwCl[ci]? = some r ∧ Cond.selects r.1 yX9_read yX9_read ∈ ab_TS := fun ci h => by
  have h : ci = 9 := List.mem_singleton.mp h
  subst h
  exact ⟨_, rfl, tw_1108⟩
theorem ts_X9_take : ∀ ci ∈ ab_cls 1, ∃ r : vw_C, vwCl[ci]? = some r ∧ Cond.selects r.1 yX9_take yX9_take ∈ ab_TS := fun ci h => by
  have h : ci = 9 := List.mem_singleton.mp h
  subst h
  exact ⟨_, rfl, tw_1109⟩
theorem ts_X9_takeDeed : ∀ ci ∈ ab_cls 1, ∃ r : vw_C, vwCl[ci]? = some r ∧ Cond.selects r.1 yX9_takeDeed yX9_takeDeed ∈ ab_TS := fun ci h => by
  have h : ci = 9 := List.mem_singleton.mp h
  subst h
  exact ⟨_, rfl, tw_1110⟩
theorem ts_X9_takeMark : ∀ ci ∈ ab_cls 1, ∃ r : vw_C, vwCl[ci]? = some r ∧ Cond.selects r.1 yX9_takeMark yX9_takeMark ∈ ab_TS := fun ci h => by
  have h : ci = 9 := List.mem_singleton.mp h
  subst h
  exact ⟨_, rfl, tw_1111⟩
theorem ts_X9_takeNail : ∀ ci ∈ ab_cls 1, ∃ r : vw_C, vwCl[ci]? = some r ∧ Cond.selects r.1 yX9_takeNail yX9_takeNail ∈ ab_TS := fun ci h => by
  have h : ci = 9 := List.mem_singleton.mp h
  subst h
  exact ⟨_, rfl, tw_1112⟩
theorem tn_X11_9 : (RX11, 9, yX9_init, "BackwardYears") ∈ ab_nests := List.mem_of_getElem? (i := 0) rfl
theorem tn_X11_24 : (RX11, 24, yX10_init, "BackwardYears") ∈ ab_nests := List.mem_of_getElem? (i := 1) rfl
theorem tn_X11_45 : (RX11, 45, yX6_init, "BackwardYears") ∈ ab_nests := List.mem_of_getElem? (i := 2) rfl
theorem tn_X6_34 : (RX6, 34, yX11_at, "BackwardYears") ∈ ab_nests := List.mem_of_getElem? (i := 3) rfl
theorem tn_X10_90 : (RX10, 90, yX11_store, "BackwardYears") ∈ ab_nests := List.mem_of_getElem? (i := 4) rfl
theorem tn_X10_120 : (RX10, 120, yX11_at, "BackwardYears") ∈ ab_nests := List.mem_of_getElem? (i := 5) rfl
theorem tn_X6_39 : (RX6, 39, yX11_store, "BackwardYears") ∈ ab_nests := List.mem_of_getElem? (i := 6) rfl
