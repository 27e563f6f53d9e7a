theorem tsm {w : Cond} (h : w ∈ lw_tbl) (g : goodWord w = true) : w ∈ TS := List.mem_filter.mpr ⟨h, g⟩
theorem inP {w : Cond} (h : w ∈ k2_sels lw_privs) : w ∈ lw_tbl := List.mem_append_left _ h
theorem inT1 {w : Cond} (h : w ∈ tables_1_1) : w ∈ lw_tbl := List.mem_append_right _ (by show w ∈ tables_1; exact (List.mem_append_left _ h))
theorem inT2 {w : Cond} (h : w ∈ tables_1_2) : w ∈ lw_tbl := List.mem_append_right _ (by show w ∈ tables_1; exact (List.mem_append_right _ (List.mem_append_left _ h)))
theorem inT3 {w : Cond} (h : w ∈ tables_1_3) : w ∈ lw_tbl := List.mem_append_right _ (by show w ∈ tables_1; exact (List.mem_append_right _ (List.mem_append_right _ (List.mem_append_left _ h))))
theorem inT4 {w : Cond} (h : w ∈ tables_1_4) : w ∈ lw_tbl := List.mem_append_right _ (by show w ∈ tables_1; exact (List.mem_append_right _ (List.mem_append_right _ (List.mem_append_right _ (List.mem_append_left _ h)))))
theorem inT5 {w : Cond} (h : w ∈ tables_1_5) : w ∈ lw_tbl := List.mem_append_right _ (by show w ∈ tables_1; exact (List.mem_append_right _ (List.mem_append_right _ (List.mem_append_right _ (List.mem_append_right _ (List.mem_append_left _ h))))))
theorem inT6 {w : Cond} (h : w ∈ tables_1_6) : w ∈ lw_tbl := List.mem_append_right _ (by show w ∈ tables_1; exact (List.mem_append_right _ (List.mem_append_right _ (List.mem_append_right _ (List.mem_append_right _ (List.mem_append_right _ (List.mem_append_left _ h)))))))
theorem inT7 {w : Cond} (h : w ∈ tables_1_7) : w ∈ lw_tbl := List.mem_append_right _ (by show w ∈ tables_1; exact (List.mem_append_right _ (List.mem_append_right _ (List.mem_append_right _ (List.mem_append_right _ (List.mem_append_right _ (List.mem_append_right _ (List.mem_append_left _ h))))))))
theorem inT8 {w : Cond} (h : w ∈ tables_1_8) : w ∈ lw_tbl := List.mem_append_right _ (by show w ∈ tables_1; exact (List.mem_append_right _ (List.mem_append_right _ (List.mem_append_right _ (List.mem_append_right _ (List.mem_append_right _ (List.mem_append_right _ (List.mem_append_right _ (List.mem_append_left _ h)))))))))
theorem inT9 {w : Cond} (h : w ∈ tables_1_9) : w ∈ lw_tbl := List.mem_append_right _ (by show w ∈ tables_1; exact (List.mem_append_right _ (List.mem_append_right _ (List.mem_append_right _ (List.mem_append_right _ (List.mem_append_right _ (List.mem_append_right _ (List.mem_append_right _ (List.mem_append_right _ h)))))))))
abbrev MX0_init : MT := (RX0, yX0_init, cX0_init, 1, none)
abbrev NX0_init : NT := (MX0_init, 1)
abbrev MX0_copyFrom : MT := (RX0, yX0_copyFrom, cX0_copyFrom, 2, none)
abbrev NX0_copyFrom : NT := (MX0_copyFrom, 1)
abbrev MX0_readFrom : MT := (RX0, yX0_readFrom, cX0_readFrom, 5, some .boolean)
abbrev NX0_readFrom : NT := (MX0_readFrom, 6)
abbrev MX0_actTold : MT := (RX0, yX0_actTold, cX0_actTold, 1, some .int)
abbrev NX0_actTold : NT := (MX0_actTold, 1)
abbrev MX0_readRest : MT := (RX0, yX0_readRest, cX0_readRest, 4, some .boolean)
abbrev NX0_readRest : NT := (MX0_readRest, 5)
abbrev MX0_readTwoBodies : MT := (RX0, yX0_readTwoBodies, cX0_readTwoBodies, 3, some .boolean)
abbrev NX0_readTwoBodies : NT := (MX0_readTwoBodies, 4)
abbrev MX0_readSumAndKind : MT := (RX0, yX0_readSumAndKind, cX0_readSumAndKind, 3, some .boolean)
abbrev NX0_readSumAndKind : NT := (MX0_readSumAndKind, 4)
abbrev MX0_readDeal : MT := (RX0, yX0_readDeal, cX0_readDeal, 2, some .boolean)
abbrev NX0_readDeal : NT := (MX0_readDeal, 4)
abbrev MX0_readSide : MT := (RX0, yX0_readSide, cX0_readSide, 2, some .boolean)
abbrev NX0_readSide : NT := (MX0_readSide, 3)
abbrev MX0_tryLine : MT := (RX0, yX0_tryLine, cX0_tryLine, 4, some .int)
abbrev NX0_tryLine : NT := (MX0_tryLine, 14)
abbrev MX1_init : MT := (RX1, yX1_init, cX1_init, 1, none)
abbrev NX1_init : NT := (MX1_init, 1)
abbrev MX1_take : MT := (RX1, yX1_take, cX1_take, 6, some .boolean)
abbrev NX1_take : NT := (MX1_take, 6)
abbrev MX1_findLost : MT := (RX1, yX1_findLost, cX1_findLost, 2, some .boolean)
abbrev NX1_findLost : NT := (MX1_findLost, 5)
abbrev MX1_findNeeded : MT := (RX1, yX1_findNeeded, cX1_findNeeded, 5, none)
abbrev NX1_findNeeded : NT := (MX1_findNeeded, 3)
abbrev MX1_search : MT := (RX1, yX1_search, cX1_search, 2, some .int)
abbrev NX1_search : NT := (MX1_search, 11)
abbrev MX1_tryFrom : MT := (RX1, yX1_tryFrom, cX1_tryFrom, 9, none)
abbrev NX1_tryFrom : NT := (MX1_tryFrom, 10)
abbrev MX1_aboutSum : MT := (RX1, yX1_aboutSum, cX1_aboutSum, 3, some .int)
abbrev NX1_aboutSum : NT := (MX1_aboutSum, 0)
abbrev MX1_noteWay : MT := (RX1, yX1_noteWay, cX1_noteWay, 2, none)
abbrev NX1_noteWay : NT := (MX1_noteWay, 1)
abbrev MX1_told : MT := (RX1, yX1_told, cX1_told, 3, some .int)
abbrev NX1_told : NT := (MX1_told, 0)
abbrev MX2_init : MT := (RX2, yX2_init, cX2_init, 3, none)
abbrev NX2_init : NT := (MX2_init, 2)
abbrev MX2_forget : MT := (RX2, yX2_forget, cX2_forget, 1, none)
abbrev NX2_forget : NT := (MX2_forget, 0)
abbrev MX2_note : MT := (RX2, yX2_note, cX2_note, 2, none)
abbrev NX2_note : NT := (MX2_note, 2)
abbrev MX2_keepNoted : MT := (RX2, yX2_keepNoted, cX2_keepNoted, 1, none)
abbrev NX2_keepNoted : NT := (MX2_keepNoted, 1)
abbrev MX2_takeBack : MT := (RX2, yX2_takeBack, cX2_takeBack, 2, some .int)
abbrev NX2_takeBack : NT := (MX2_takeBack, 2)
abbrev MX3_init : MT := (RX3, yX3_init, cX3_init, 1, none)
abbrev NX3_init : NT := (MX3_init, 2)
abbrev MX3_keep : MT := (RX3, yX3_keep, cX3_keep, 4, none)
abbrev NX3_keep : NT := (MX3_keep, 2)
abbrev MX3_bringBack : MT := (RX3, yX3_bringBack, cX3_bringBack, 4, none)
abbrev NX3_bringBack : NT := (MX3_bringBack, 2)
abbrev MX4_init : MT := (RX4, yX4_init, cX4_init, 2, none)
abbrev NX4_init : NT := (MX4_init, 1)
abbrev MX4_begin : MT := (RX4, yX4_begin, cX4_begin, 2, none)
abbrev NX4_begin : NT := (MX4_begin, 0)
abbrev MX4_copyFrom : MT := (RX4, yX4_copyFrom, cX4_copyFrom, 3, none)
abbrev NX4_copyFrom : NT := (MX4_copyFrom, 1)
abbrev MX4_hasDeal : MT := (RX4, yX4_hasDeal, cX4_hasDeal, 2, some .boolean)
abbrev NX4_hasDeal : NT := (MX4_hasDeal, 0)
abbrev MX4_isOpen : MT := (RX4, yX4_isOpen, cX4_isOpen, 2, some .boolean)
abbrev NX4_isOpen : NT := (MX4_isOpen, 1)
abbrev MX4_lives : MT := (RX4, yX4_lives, cX4_lives, 2, some .boolean)
abbrev NX4_lives : NT := (MX4_lives, 0)
abbrev MX4_bearer : MT := (RX4, yX4_bearer, cX4_bearer, 3, some .int)
abbrev NX4_bearer : NT := (MX4_bearer, 0)
abbrev MX4_isScarred : MT := (RX4, yX4_isScarred, cX4_isScarred, 3, some .boolean)
abbrev NX4_isScarred : NT := (MX4_isScarred, 1)
abbrev MX4_unscarredBearer : MT := (RX4, yX4_unscarredBearer, cX4_unscarredBearer, 3, some .int)
abbrev NX4_unscarredBearer : NT := (MX4_unscarredBearer, 1)
abbrev MX4_isReadable : MT := (RX4, yX4_isReadable, cX4_isReadable, 4, some .boolean)
abbrev NX4_isReadable : NT := (MX4_isReadable, 2)
abbrev MX4_isKnown : MT := (RX4, yX4_isKnown, cX4_isKnown, 4, some .boolean)
abbrev NX4_isKnown : NT := (MX4_isKnown, 3)
abbrev MX4_isLost : MT := (RX4, yX4_isLost, cX4_isLost, 2, some .boolean)
abbrev NX4_isLost : NT := (MX4_isLost, 4)
abbrev MX4_valueOf : MT := (RX4, yX4_valueOf, cX4_valueOf, 2, some .int)
abbrev NX4_valueOf : NT := (MX4_valueOf, 1)
abbrev MX4_netOf : MT := (RX4, yX4_netOf, cX4_netOf, 4, some .int)
abbrev NX4_netOf : NT := (MX4_netOf, 2)
abbrev MX4_marksOn : MT := (RX4, yX4_marksOn, cX4_marksOn, 5, some .int)
abbrev NX4_marksOn : NT := (MX4_marksOn, 0)
abbrev MX4_openDeals : MT := (RX4, yX4_openDeals, cX4_openDeals, 3, some .int)
abbrev NX4_openDeals : NT := (MX4_openDeals, 2)
abbrev MX4_leftOfLiving : MT := (RX4, yX4_leftOfLiving, cX4_leftOfLiving, 3, some .int)
abbrev NX4_leftOfLiving : NT := (MX4_leftOfLiving, 1)
abbrev MX4_leastLeft : MT := (RX4, yX4_leastLeft, cX4_leastLeft, 4, some .int)
abbrev NX4_leastLeft : NT := (MX4_leastLeft, 1)
abbrev MX4_lendersTo : MT := (RX4, yX4_lendersTo, cX4_lendersTo, 4, some .int)
abbrev NX4_lendersTo : NT := (MX4_lendersTo, 2)
abbrev MX4_openAhead : MT := (RX4, yX4_openAhead, cX4_openAhead, 4, some .int)
abbrev NX4_openAhead : NT := (MX4_openAhead, 2)
abbrev MX4_latestOpen : MT := (RX4, yX4_latestOpen, cX4_latestOpen, 3, some .int)
abbrev NX4_latestOpen : NT := (MX4_latestOpen, 2)
abbrev MX4_openFor : MT := (RX4, yX4_openFor, cX4_openFor, 7, some .int)
abbrev NX4_openFor : NT := (MX4_openFor, 2)
abbrev MX4_isToldBy : MT := (RX4, yX4_isToldBy, cX4_isToldBy, 5, some .boolean)
abbrev NX4_isToldBy : NT := (MX4_isToldBy, 2)
abbrev MX4_isKnownBy : MT := (RX4, yX4_isKnownBy, cX4_isKnownBy, 5, some .boolean)
abbrev NX4_isKnownBy : NT := (MX4_isKnownBy, 3)
abbrev MX4_isOnAny : MT := (RX4, yX4_isOnAny, cX4_isOnAny, 5, some .boolean)
abbrev NX4_isOnAny : NT := (MX4_isOnAny, 1)
abbrev MX4_owedSurely : MT := (RX4, yX4_owedSurely, cX4_owedSurely, 5, some .int)
abbrev NX4_owedSurely : NT := (MX4_owedSurely, 4)
abbrev MX4_owedAtMost : MT := (RX4, yX4_owedAtMost, cX4_owedAtMost, 5, some .int)
abbrev NX4_owedAtMost : NT := (MX4_owedAtMost, 5)
abbrev MX4_bearerFor : MT := (RX4, yX4_bearerFor, cX4_bearerFor, 4, some .int)
abbrev NX4_bearerFor : NT := (MX4_bearerFor, 1)
abbrev MX4_debtBearerFor : MT := (RX4, yX4_debtBearerFor, cX4_debtBearerFor, 5, some .int)
abbrev NX4_debtBearerFor : NT := (MX4_debtBearerFor, 2)
abbrev MX4_wrongToWrite : MT := (RX4, yX4_wrongToWrite, cX4_wrongToWrite, 5, some .int)
abbrev NX4_wrongToWrite : NT := (MX4_wrongToWrite, 3)
abbrev MX4_tryWrite : MT := (RX4, yX4_tryWrite, cX4_tryWrite, 8, some .int)
abbrev NX4_tryWrite : NT := (MX4_tryWrite, 4)
abbrev MX4_isBuried : MT := (RX4, yX4_isBuried, cX4_isBuried, 2, some .boolean)
abbrev NX4_isBuried : NT := (MX4_isBuried, 1)
abbrev MX4_hasRoomForLines : MT := (RX4, yX4_hasRoomForLines, cX4_hasRoomForLines, 4, some .boolean)
abbrev NX4_hasRoomForLines : NT := (MX4_hasRoomForLines, 2)
abbrev MX4_scratch : MT := (RX4, yX4_scratch, cX4_scratch, 3, none)
abbrev NX4_scratch : NT := (MX4_scratch, 0)
abbrev MX4_tryStrike : MT := (RX4, yX4_tryStrike, cX4_tryStrike, 3, some .int)
abbrev NX4_tryStrike : NT := (MX4_tryStrike, 3)
abbrev MX4_tryScar : MT := (RX4, yX4_tryScar, cX4_tryScar, 3, some .int)
abbrev NX4_tryScar : NT := (MX4_tryScar, 3)
abbrev MX4_freedBy : MT := (RX4, yX4_freedBy, cX4_freedBy, 4, some .int)
abbrev NX4_freedBy : NT := (MX4_freedBy, 2)
abbrev MX4_tryCut : MT := (RX4, yX4_tryCut, cX4_tryCut, 3, some .int)
abbrev NX4_tryCut : NT := (MX4_tryCut, 13)
abbrev MX4_lessen : MT := (RX4, yX4_lessen, cX4_lessen, 3, none)
abbrev NX4_lessen : NT := (MX4_lessen, 3)
abbrev MX4_takeOff : MT := (RX4, yX4_takeOff, cX4_takeOff, 3, none)
abbrev NX4_takeOff : NT := (MX4_takeOff, 2)
abbrev MX4_tryBury : MT := (RX4, yX4_tryBury, cX4_tryBury, 4, some .int)
abbrev NX4_tryBury : NT := (MX4_tryBury, 2)
abbrev MX4_tryYear : MT := (RX4, yX4_tryYear, cX4_tryYear, 1, some .int)
abbrev NX4_tryYear : NT := (MX4_tryYear, 0)
abbrev MX5_init : MT := (RX5, yX5_init, cX5_init, 1, none)
abbrev NX5_init : NT := (MX5_init, 1)
abbrev MX5_isTold : MT := (RX5, yX5_isTold, cX5_isTold, 4, some .boolean)
abbrev NX5_isTold : NT := (MX5_isTold, 2)
abbrev MX5_take : MT := (RX5, yX5_take, cX5_take, 4, some .boolean)
abbrev NX5_take : NT := (MX5_take, 3)
abbrev MX5_isPackedIn : MT := (RX5, yX5_isPackedIn, cX5_isPackedIn, 2, some .boolean)
abbrev NX5_isPackedIn : NT := (MX5_isPackedIn, 0)
abbrev MX5_keepTold : MT := (RX5, yX5_keepTold, cX5_keepTold, 1, none)
abbrev NX5_keepTold : NT := (MX5_keepTold, 1)
abbrev MX5_told : MT := (RX5, yX5_told, cX5_told, 2, some .int)
abbrev NX5_told : NT := (MX5_told, 0)
abbrev MX5_search : MT := (RX5, yX5_search, cX5_search, 4, some .int)
abbrev NX5_search : NT := (MX5_search, 21)
abbrev MX5_place : MT := (RX5, yX5_place, cX5_place, 4, none)
abbrev NX5_place : NT := (MX5_place, 20)
abbrev MX5_placeBy : MT := (RX5, yX5_placeBy, cX5_placeBy, 7, none)
abbrev NX5_placeBy : NT := (MX5_placeBy, 19)
abbrev MX6_init : MT := (RX6, yX6_init, cX6_init, 1, none)
abbrev NX6_init : NT := (MX6_init, 1)
abbrev MX6_forget : MT := (RX6, yX6_forget, cX6_forget, 1, none)
abbrev NX6_forget : NT := (MX6_forget, 0)
abbrev MX6_copyFrom : MT := (RX6, yX6_copyFrom, cX6_copyFrom, 2, none)
abbrev NX6_copyFrom : NT := (MX6_copyFrom, 1)
abbrev MX6_hasBody : MT := (RX6, yX6_hasBody, cX6_hasBody, 2, some .boolean)
abbrev NX6_hasBody : NT := (MX6_hasBody, 0)
abbrev MX6_hasKind : MT := (RX6, yX6_hasKind, cX6_hasKind, 2, some .boolean)
abbrev NX6_hasKind : NT := (MX6_hasKind, 0)
abbrev MX6_hasDealers : MT := (RX6, yX6_hasDealers, cX6_hasDealers, 4, some .boolean)
abbrev NX6_hasDealers : NT := (MX6_hasDealers, 1)
abbrev MX6_bodyNamed : MT := (RX6, yX6_bodyNamed, cX6_bodyNamed, 4, some .int)
abbrev NX6_bodyNamed : NT := (MX6_bodyNamed, 0)
abbrev MX6_kindNamed : MT := (RX6, yX6_kindNamed, cX6_kindNamed, 4, some .int)
abbrev NX6_kindNamed : NT := (MX6_kindNamed, 0)
abbrev MX6_valueOf : MT := (RX6, yX6_valueOf, cX6_valueOf, 3, some .int)
abbrev NX6_valueOf : NT := (MX6_valueOf, 0)
abbrev MX6_dotOn : MT := (RX6, yX6_dotOn, cX6_dotOn, 2, some .int)
abbrev NX6_dotOn : NT := (MX6_dotOn, 1)
abbrev MX6_isForRings : MT := (RX6, yX6_isForRings, cX6_isForRings, 2, some .boolean)
abbrev NX6_isForRings : NT := (MX6_isForRings, 0)
abbrev MX6_readFrom : MT := (RX6, yX6_readFrom, cX6_readFrom, 3, some .boolean)
abbrev NX6_readFrom : NT := (MX6_readFrom, 6)
abbrev MX6_readLine : MT := (RX6, yX6_readLine, cX6_readLine, 2, some .boolean)
abbrev NX6_readLine : NT := (MX6_readLine, 5)
abbrev MX6_readBody : MT := (RX6, yX6_readBody, cX6_readBody, 2, some .boolean)
abbrev NX6_readBody : NT := (MX6_readBody, 4)
abbrev MX6_readKind : MT := (RX6, yX6_readKind, cX6_readKind, 2, some .boolean)
abbrev NX6_readKind : NT := (MX6_readKind, 4)
abbrev MX6_sortTold : MT := (RX6, yX6_sortTold, cX6_sortTold, 1, some .int)
abbrev NX6_sortTold : NT := (MX6_sortTold, 1)
abbrev MX6_readLineRoom : MT := (RX6, yX6_readLineRoom, cX6_readLineRoom, 2, some .boolean)
abbrev NX6_readLineRoom : NT := (MX6_readLineRoom, 4)
abbrev MX6_readDotRoom : MT := (RX6, yX6_readDotRoom, cX6_readDotRoom, 2, some .boolean)
abbrev NX6_readDotRoom : NT := (MX6_readDotRoom, 4)
abbrev MX7_init : MT := (RX7, yX7_init, cX7_init, 1, none)
abbrev NX7_init : NT := (MX7_init, 1)
abbrev MX7_findBest : MT := (RX7, yX7_findBest, cX7_findBest, 3, some .boolean)
abbrev NX7_findBest : NT := (MX7_findBest, 12)
abbrev MX7_findBestWith : MT := (RX7, yX7_findBestWith, cX7_findBestWith, 3, some .boolean)
abbrev NX7_findBestWith : NT := (MX7_findBestWith, 12)
abbrev MX7_mayBeIn : MT := (RX7, yX7_mayBeIn, cX7_mayBeIn, 2, some .boolean)
abbrev NX7_mayBeIn : NT := (MX7_mayBeIn, 2)
abbrev MX7_prepare : MT := (RX7, yX7_prepare, cX7_prepare, 5, none)
abbrev NX7_prepare : NT := (MX7_prepare, 3)
abbrev MX7_start : MT := (RX7, yX7_start, cX7_start, 3, none)
abbrev NX7_start : NT := (MX7_start, 11)
abbrev MX7_extend : MT := (RX7, yX7_extend, cX7_extend, 11, none)
abbrev NX7_extend : NT := (MX7_extend, 10)
abbrev MX7_isBetter : MT := (RX7, yX7_isBetter, cX7_isBetter, 3, some .boolean)
abbrev NX7_isBetter : NT := (MX7_isBetter, 0)
abbrev MX7_offer : MT := (RX7, yX7_offer, cX7_offer, 4, none)
abbrev NX7_offer : NT := (MX7_offer, 1)
abbrev MX8_init : MT := (RX8, yX8_init, cX8_init, 1, none)
abbrev NX8_init : NT := (MX8_init, 1)
abbrev MX8_payments : MT := (RX8, yX8_payments, cX8_payments, 6, some .int)
abbrev NX8_payments : NT := (MX8_payments, 3)
abbrev MX9_init : MT := (RX9, yX9_init, cX9_init, 1, none)
abbrev NX9_init : NT := (MX9_init, 1)
abbrev MX9_add : MT := (RX9, yX9_add, cX9_add, 3, none)
abbrev NX9_add : NT := (MX9_add, 0)
abbrev MX9_byteOr : MT := (RX9, yX9_byteOr, cX9_byteOr, 3, some .int)
abbrev NX9_byteOr : NT := (MX9_byteOr, 0)
abbrev MX9_begin : MT := (RX9, yX9_begin, cX9_begin, 1, none)
abbrev NX9_begin : NT := (MX9_begin, 0)
abbrev MX9_refuse : MT := (RX9, yX9_refuse, cX9_refuse, 2, some .boolean)
abbrev NX9_refuse : NT := (MX9_refuse, 0)
abbrev MX9_nextToken : MT := (RX9, yX9_nextToken, cX9_nextToken, 2, none)
abbrev NX9_nextToken : NT := (MX9_nextToken, 2)
abbrev MX9_readRun : MT := (RX9, yX9_readRun, cX9_readRun, 4, none)
abbrev NX9_readRun : NT := (MX9_readRun, 1)
abbrev MX9_isBlank : MT := (RX9, yX9_isBlank, cX9_isBlank, 1, some .boolean)
abbrev NX9_isBlank : NT := (MX9_isBlank, 0)
abbrev MX9_isLetter : MT := (RX9, yX9_isLetter, cX9_isLetter, 1, some .boolean)
abbrev NX9_isLetter : NT := (MX9_isLetter, 0)
abbrev MX9_isDigit : MT := (RX9, yX9_isDigit, cX9_isDigit, 1, some .boolean)
abbrev NX9_isDigit : NT := (MX9_isDigit, 0)
abbrev MX9_isEnd : MT := (RX9, yX9_isEnd, cX9_isEnd, 1, some .boolean)
abbrev NX9_isEnd : NT := (MX9_isEnd, 0)
abbrev MX9_isAllRead : MT := (RX9, yX9_isAllRead, cX9_isAllRead, 1, some .boolean)
abbrev NX9_isAllRead : NT := (MX9_isAllRead, 1)
abbrev MX9_isStop : MT := (RX9, yX9_isStop, cX9_isStop, 1, some .boolean)
abbrev NX9_isStop : NT := (MX9_isStop, 1)
abbrev MX9_says : MT := (RX9, yX9_says, cX9_says, 3, some .boolean)
abbrev NX9_says : NT := (MX9_says, 0)
abbrev MX9_isName : MT := (RX9, yX9_isName, cX9_isName, 2, some .boolean)
abbrev NX9_isName : NT := (MX9_isName, 0)
abbrev MX9_takeNewName : MT := (RX9, yX9_takeNewName, cX9_takeNewName, 3, some .boolean)
abbrev NX9_takeNewName : NT := (MX9_takeNewName, 3)
abbrev MX9_takeBody : MT := (RX9, yX9_takeBody, cX9_takeBody, 2, some .boolean)
abbrev NX9_takeBody : NT := (MX9_takeBody, 3)
abbrev MX9_takeKind : MT := (RX9, yX9_takeKind, cX9_takeKind, 2, some .boolean)
abbrev NX9_takeKind : NT := (MX9_takeKind, 3)
abbrev MX9_takeNumber : MT := (RX9, yX9_takeNumber, cX9_takeNumber, 3, some .boolean)
abbrev NX9_takeNumber : NT := (MX9_takeNumber, 3)
abbrev MX9_takeStop : MT := (RX9, yX9_takeStop, cX9_takeStop, 1, some .boolean)
abbrev NX9_takeStop : NT := (MX9_takeStop, 3)
abbrev MX10_init : MT := (RX10, yX10_init, cX10_init, 1, none)
abbrev NX10_init : NT := (MX10_init, 1)
abbrev MX10_add : MT := (RX10, yX10_add, cX10_add, 2, none)
abbrev NX10_add : NT := (MX10_add, 0)
abbrev MX10_addName : MT := (RX10, yX10_addName, cX10_addName, 5, none)
abbrev NX10_addName : NT := (MX10_addName, 1)
abbrev MX10_addNumber : MT := (RX10, yX10_addNumber, cX10_addNumber, 2, none)
abbrev NX10_addNumber : NT := (MX10_addNumber, 1)
abbrev MX10_at : MT := (RX10, yX10_at, cX10_at, 2, some .int)
abbrev NX10_at : NT := (MX10_at, 0)
abbrev MX11_init : MT := (RX11, yX11_init, cX11_init, 1, none)
abbrev NX11_init : NT := (MX11_init, 3)
abbrev MX11_feed : MT := (RX11, yX11_feed, cX11_feed, 6, some .int)
abbrev NX11_feed : NT := (MX11_feed, 1)
abbrev MX11_end : MT := (RX11, yX11_end, cX11_end, 2, some .boolean)
abbrev NX11_end : NT := (MX11_end, 0)
abbrev MX11_port : MT := (RX11, yX11_port, cX11_port, 2, some .int)
abbrev NX11_port : NT := (MX11_port, 7)
abbrev MX11_fault : MT := (RX11, yX11_fault, cX11_fault, 1, some .int)
abbrev NX11_fault : NT := (MX11_fault, 0)
abbrev MX11_book : MT := (RX11, yX11_book, cX11_book, 2, some .int)
abbrev NX11_book : NT := (MX11_book, 7)
abbrev MX11_count : MT := (RX11, yX11_count, cX11_count, 2, some .int)
abbrev NX11_count : NT := (MX11_count, 3)
abbrev MX11_body : MT := (RX11, yX11_body, cX11_body, 3, some .int)
abbrev NX11_body : NT := (MX11_body, 3)
abbrev MX11_kind : MT := (RX11, yX11_kind, cX11_kind, 3, some .int)
abbrev NX11_kind : NT := (MX11_kind, 1)
abbrev MX11_deal : MT := (RX11, yX11_deal, cX11_deal, 3, some .int)
abbrev NX11_deal : NT := (MX11_deal, 4)
abbrev MX11_read : MT := (RX11, yX11_read, cX11_read, 3, some .int)
abbrev NX11_read : NT := (MX11_read, 3)
abbrev MX11_mark : MT := (RX11, yX11_mark, cX11_mark, 6, some .int)
abbrev NX11_mark : NT := (MX11_mark, 1)
abbrev MX11_aged : MT := (RX11, yX11_aged, cX11_aged, 3, some .int)
abbrev NX11_aged : NT := (MX11_aged, 1)
abbrev MX11_owes : MT := (RX11, yX11_owes, cX11_owes, 7, some .int)
abbrev NX11_owes : NT := (MX11_owes, 2)
abbrev MX11_chain : MT := (RX11, yX11_chain, cX11_chain, 5, some .int)
abbrev NX11_chain : NT := (MX11_chain, 3)
abbrev MX11_fullest : MT := (RX11, yX11_fullest, cX11_fullest, 5, some .int)
abbrev NX11_fullest : NT := (MX11_fullest, 2)
abbrev MX11_trade : MT := (RX11, yX11_trade, cX11_trade, 5, some .int)
abbrev NX11_trade : NT := (MX11_trade, 2)
abbrev MX11_settled : MT := (RX11, yX11_settled, cX11_settled, 1, some .int)
abbrev NX11_settled : NT := (MX11_settled, 4)
abbrev MX11_between : MT := (RX11, yX11_between, cX11_between, 6, some .int)
abbrev NX11_between : NT := (MX11_between, 2)
abbrev MX11_greatest : MT := (RX11, yX11_greatest, cX11_greatest, 3, some .int)
abbrev NX11_greatest : NT := (MX11_greatest, 3)
abbrev MX11_skin : MT := (RX11, yX11_skin, cX11_skin, 4, some .int)
abbrev NX11_skin : NT := (MX11_skin, 3)
abbrev MX11_addMark : MT := (RX11, yX11_addMark, cX11_addMark, 4, none)
abbrev NX11_addMark : NT := (MX11_addMark, 2)
abbrev MX11_byteAt : MT := (RX11, yX11_byteAt, cX11_byteAt, 2, some .int)
abbrev NX11_byteAt : NT := (MX11_byteAt, 1)
abbrev MX11_write : MT := (RX11, yX11_write, cX11_write, 6, some .int)
abbrev NX11_write : NT := (MX11_write, 5)
abbrev MX11_strike : MT := (RX11, yX11_strike, cX11_strike, 3, some .int)
abbrev NX11_strike : NT := (MX11_strike, 4)
abbrev MX11_scar : MT := (RX11, yX11_scar, cX11_scar, 4, some .int)
abbrev NX11_scar : NT := (MX11_scar, 4)
abbrev MX11_cut : MT := (RX11, yX11_cut, cX11_cut, 1, some .int)
abbrev NX11_cut : NT := (MX11_cut, 14)
abbrev MX11_dies : MT := (RX11, yX11_dies, cX11_dies, 5, some .int)
abbrev NX11_dies : NT := (MX11_dies, 3)
abbrev MX11_year : MT := (RX11, yX11_year, cX11_year, 1, some .int)
abbrev NX11_year : NT := (MX11_year, 3)
abbrev MX11_undo : MT := (RX11, yX11_undo, cX11_undo, 1, some .int)
abbrev NX11_undo : NT := (MX11_undo, 3)
abbrev MX11_ring : MT := (RX11, yX11_ring, cX11_ring, 2, some .int)
abbrev NX11_ring : NT := (MX11_ring, 13)
abbrev MX11_ringAt : MT := (RX11, yX11_ringAt, cX11_ringAt, 2, some .int)
abbrev NX11_ringAt : NT := (MX11_ringAt, 0)
abbrev MX11_ringOf : MT := (RX11, yX11_ringOf, cX11_ringOf, 2, some .int)
abbrev NX11_ringOf : NT := (MX11_ringOf, 13)
abbrev MX11_can : MT := (RX11, yX11_can, cX11_can, 5, some .int)
abbrev NX11_can : NT := (MX11_can, 4)
abbrev MX11_ringsFor : MT := (RX11, yX11_ringsFor, cX11_ringsFor, 6, some .int)
abbrev NX11_ringsFor : NT := (MX11_ringsFor, 14)
abbrev MX11_judge : MT := (RX11, yX11_judge, cX11_judge, 5, some .int)
abbrev NX11_judge : NT := (MX11_judge, 15)
abbrev MX11_judged : MT := (RX11, yX11_judged, cX11_judged, 2, some .int)
abbrev NX11_judged : NT := (MX11_judged, 0)
abbrev MX11_lasts : MT := (RX11, yX11_lasts, cX11_lasts, 12, some .int)
abbrev NX11_lasts : NT := (MX11_lasts, 14)
abbrev MX11_nextSeed : MT := (RX11, yX11_nextSeed, cX11_nextSeed, 1, some .int)
abbrev NX11_nextSeed : NT := (MX11_nextSeed, 0)
abbrev MX11_drawn : MT := (RX11, yX11_drawn, cX11_drawn, 2, some .int)
abbrev NX11_drawn : NT := (MX11_drawn, 0)
abbrev MX11_pack : MT := (RX11, yX11_pack, cX11_pack, 3, some .int)
abbrev NX11_pack : NT := (MX11_pack, 22)
abbrev MX11_packed : MT := (RX11, yX11_packed, cX11_packed, 2, some .int)
abbrev NX11_packed : NT := (MX11_packed, 1)
abbrev MX11_price : MT := (RX11, yX11_price, cX11_price, 3, some .int)
abbrev NX11_price : NT := (MX11_price, 22)
abbrev MX11_lost : MT := (RX11, yX11_lost, cX11_lost, 4, some .int)
abbrev NX11_lost : NT := (MX11_lost, 5)
abbrev MX11_fits : MT := (RX11, yX11_fits, cX11_fits, 3, some .int)
abbrev NX11_fits : NT := (MX11_fits, 12)
abbrev MX11_fit : MT := (RX11, yX11_fit, cX11_fit, 3, some .int)
abbrev NX11_fit : NT := (MX11_fit, 1)
abbrev MX11_owed : MT := (RX11, yX11_owed, cX11_owed, 4, some .int)
abbrev NX11_owed : NT := (MX11_owed, 6)
abbrev MX11_proof : MT := (RX11, yX11_proof, cX11_proof, 6, some .int)
abbrev NX11_proof : NT := (MX11_proof, 5)
abbrev MX11_witness : MT := (RX11, yX11_witness, cX11_witness, 5, some .int)
abbrev NX11_witness : NT := (MX11_witness, 2)
abbrev MX11_image : MT := (RX11, yX11_image, cX11_image, 2, some .boolean)
abbrev NX11_image : NT := (MX11_image, 3)
abbrev MX11_restore : MT := (RX11, yX11_restore, cX11_restore, 2, some .boolean)
abbrev NX11_restore : NT := (MX11_restore, 3)
abbrev MX11_isSide : MT := (RX11, yX11_isSide, cX11_isSide, 1, some .boolean)
abbrev NX11_isSide : NT := (MX11_isSide, 0)
abbrev MX11_isYear : MT := (RX11, yX11_isYear, cX11_isYear, 1, some .boolean)
abbrev NX11_isYear : NT := (MX11_isYear, 0)
abbrev MX11_isIn : MT := (RX11, yX11_isIn, cX11_isIn, 2, some .boolean)
abbrev NX11_isIn : NT := (MX11_isIn, 0)
abbrev MX12_thrown : MT := (RX12, yX12_thrown, cX12_thrown, 1, some .int)
abbrev NX12_thrown : NT := (MX12_thrown, 0)
abbrev MX12_throwsIf : MT := (RX12, yX12_throwsIf, cX12_throwsIf, 2, some .boolean)
abbrev NX12_throwsIf : NT := (MX12_throwsIf, 0)
abbrev MX12_feed : MT := (RX12, yX12_feed, cX12_feed, 6, some .int)
abbrev NX12_feed : NT := (MX12_feed, 1)
abbrev MX12_four : MT := (RX12, yX12_four, cX12_four, 3, none)
abbrev NX12_four : NT := (MX12_four, 0)
abbrev MX12_end : MT := (RX12, yX12_end, cX12_end, 2, some .boolean)
abbrev NX12_end : NT := (MX12_end, 0)
abbrev MX12_taken : MT := (RX12, yX12_taken, cX12_taken, 2, none)
abbrev NX12_taken : NT := (MX12_taken, 0)
abbrev MX12_isIn : MT := (RX12, yX12_isIn, cX12_isIn, 3, some .boolean)
abbrev NX12_isIn : NT := (MX12_isIn, 0)
abbrev MX12_has : MT := (RX12, yX12_has, cX12_has, 2, some .boolean)
abbrev NX12_has : NT := (MX12_has, 0)
abbrev MX12_bits : MT := (RX12, yX12_bits, cX12_bits, 3, some .int)
abbrev NX12_bits : NT := (MX12_bits, 0)
abbrev MX12_octet : MT := (RX12, yX12_octet, cX12_octet, 2, some .int)
abbrev NX12_octet : NT := (MX12_octet, 0)
abbrev MX12_init : MT := (RX12, yX12_init, cX12_init, 1, none)
abbrev NX12_init : NT := (MX12_init, 1)
abbrev MX12_peek : MT := (RX12, yX12_peek, cX12_peek, 1, some .int)
abbrev NX12_peek : NT := (MX12_peek, 0)
abbrev MX12_isSmall : MT := (RX12, yX12_isSmall, cX12_isSmall, 1, some .boolean)
abbrev NX12_isSmall : NT := (MX12_isSmall, 0)
abbrev MX12_isDigit : MT := (RX12, yX12_isDigit, cX12_isDigit, 1, some .boolean)
abbrev NX12_isDigit : NT := (MX12_isDigit, 0)
abbrev MX12_next : MT := (RX12, yX12_next, cX12_next, 4, none)
abbrev NX12_next : NT := (MX12_next, 1)
abbrev MX12_bad : MT := (RX12, yX12_bad, cX12_bad, 2, some .boolean)
abbrev NX12_bad : NT := (MX12_bad, 0)
abbrev MX12_isWord : MT := (RX12, yX12_isWord, cX12_isWord, 3, some .boolean)
abbrev NX12_isWord : NT := (MX12_isWord, 0)
abbrev MX12_isSign : MT := (RX12, yX12_isSign, cX12_isSign, 2, some .boolean)
abbrev NX12_isSign : NT := (MX12_isSign, 0)
abbrev MX12_sign : MT := (RX12, yX12_sign, cX12_sign, 2, some .boolean)
abbrev NX12_sign : NT := (MX12_sign, 2)
abbrev MX12_isName : MT := (RX12, yX12_isName, cX12_isName, 3, some .boolean)
abbrev NX12_isName : NT := (MX12_isName, 0)
abbrev MX12_takes : MT := (RX12, yX12_takes, cX12_takes, 3, some .boolean)
abbrev NX12_takes : NT := (MX12_takes, 2)
abbrev MX12_find : MT := (RX12, yX12_find, cX12_find, 4, some .int)
abbrev NX12_find : NT := (MX12_find, 0)
abbrev MX12_takesName : MT := (RX12, yX12_takesName, cX12_takesName, 3, some .boolean)
abbrev NX12_takesName : NT := (MX12_takesName, 2)
abbrev MX12_fresh : MT := (RX12, yX12_fresh, cX12_fresh, 2, some .boolean)
abbrev NX12_fresh : NT := (MX12_fresh, 2)
abbrev MX12_portLine : MT := (RX12, yX12_portLine, cX12_portLine, 2, some .boolean)
abbrev NX12_portLine : NT := (MX12_portLine, 3)
abbrev MX12_port : MT := (RX12, yX12_port, cX12_port, 2, some .int)
abbrev NX12_port : NT := (MX12_port, 4)
abbrev MX12_fault : MT := (RX12, yX12_fault, cX12_fault, 1, some .int)
abbrev NX12_fault : NT := (MX12_fault, 0)
abbrev MX12_isBody : MT := (RX12, yX12_isBody, cX12_isBody, 2, some .boolean)
abbrev NX12_isBody : NT := (MX12_isBody, 1)
abbrev MX12_isKind : MT := (RX12, yX12_isKind, cX12_isKind, 2, some .boolean)
abbrev NX12_isKind : NT := (MX12_isKind, 1)
abbrev MX12_isDeal : MT := (RX12, yX12_isDeal, cX12_isDeal, 2, some .boolean)
abbrev NX12_isDeal : NT := (MX12_isDeal, 1)
abbrev MX12_isLiving : MT := (RX12, yX12_isLiving, cX12_isLiving, 2, some .boolean)
abbrev NX12_isLiving : NT := (MX12_isLiving, 1)
abbrev MX12_of : MT := (RX12, yX12_of, cX12_of, 3, some .int)
abbrev NX12_of : NT := (MX12_of, 0)
abbrev MX12_set : MT := (RX12, yX12_set, cX12_set, 4, none)
abbrev NX12_set : NT := (MX12_set, 0)
abbrev MX12_isOpen : MT := (RX12, yX12_isOpen, cX12_isOpen, 2, some .boolean)
abbrev NX12_isOpen : NT := (MX12_isOpen, 2)
abbrev MX12_sizeOf : MT := (RX12, yX12_sizeOf, cX12_sizeOf, 2, some .int)
abbrev NX12_sizeOf : NT := (MX12_sizeOf, 1)
abbrev MX12_sortOf : MT := (RX12, yX12_sortOf, cX12_sortOf, 2, some .int)
abbrev NX12_sortOf : NT := (MX12_sortOf, 1)
abbrev MX12_marksOn : MT := (RX12, yX12_marksOn, cX12_marksOn, 6, some .int)
abbrev NX12_marksOn : NT := (MX12_marksOn, 1)
abbrev MX12_leftOf : MT := (RX12, yX12_leftOf, cX12_leftOf, 5, some .int)
abbrev NX12_leftOf : NT := (MX12_leftOf, 2)
abbrev MX12_valueBy : MT := (RX12, yX12_valueBy, cX12_valueBy, 3, some .int)
abbrev NX12_valueBy : NT := (MX12_valueBy, 0)
abbrev MX12_valueOf : MT := (RX12, yX12_valueOf, cX12_valueOf, 2, some .int)
abbrev NX12_valueOf : NT := (MX12_valueOf, 2)
abbrev MX12_netOf : MT := (RX12, yX12_netOf, cX12_netOf, 4, some .int)
abbrev NX12_netOf : NT := (MX12_netOf, 3)
abbrev MX12_isRead : MT := (RX12, yX12_isRead, cX12_isRead, 5, some .boolean)
abbrev NX12_isRead : NT := (MX12_isRead, 1)
abbrev MX12_isKnown : MT := (RX12, yX12_isKnown, cX12_isKnown, 5, some .boolean)
abbrev NX12_isKnown : NT := (MX12_isKnown, 2)
abbrev MX12_living : MT := (RX12, yX12_living, cX12_living, 1, some .int)
abbrev NX12_living : NT := (MX12_living, 0)
abbrev MX12_body : MT := (RX12, yX12_body, cX12_body, 3, some .int)
abbrev NX12_body : NT := (MX12_body, 4)
abbrev MX12_kind : MT := (RX12, yX12_kind, cX12_kind, 3, some .int)
abbrev NX12_kind : NT := (MX12_kind, 2)
abbrev MX12_deal : MT := (RX12, yX12_deal, cX12_deal, 3, some .int)
abbrev NX12_deal : NT := (MX12_deal, 3)
abbrev MX12_read : MT := (RX12, yX12_read, cX12_read, 3, some .int)
abbrev NX12_read : NT := (MX12_read, 2)
abbrev MX12_markOf : MT := (RX12, yX12_markOf, cX12_markOf, 5, some .int)
abbrev NX12_markOf : NT := (MX12_markOf, 1)
abbrev MX12_mark : MT := (RX12, yX12_mark, cX12_mark, 3, some .int)
abbrev NX12_mark : NT := (MX12_mark, 2)
abbrev MX12_keep : MT := (RX12, yX12_keep, cX12_keep, 2, none)
abbrev NX12_keep : NT := (MX12_keep, 0)
abbrev MX12_undo : MT := (RX12, yX12_undo, cX12_undo, 2, some .int)
abbrev NX12_undo : NT := (MX12_undo, 0)
abbrev MX12_bearerOf : MT := (RX12, yX12_bearerOf, cX12_bearerOf, 5, some .int)
abbrev NX12_bearerOf : NT := (MX12_bearerOf, 3)
abbrev MX12_whyWrite : MT := (RX12, yX12_whyWrite, cX12_whyWrite, 5, some .int)
abbrev NX12_whyWrite : NT := (MX12_whyWrite, 4)
abbrev MX12_writes : MT := (RX12, yX12_writes, cX12_writes, 8, none)
abbrev NX12_writes : NT := (MX12_writes, 4)
abbrev MX12_write : MT := (RX12, yX12_write, cX12_write, 6, some .int)
abbrev NX12_write : NT := (MX12_write, 5)
abbrev MX12_whyStrike : MT := (RX12, yX12_whyStrike, cX12_whyStrike, 5, some .int)
abbrev NX12_whyStrike : NT := (MX12_whyStrike, 3)
abbrev MX12_strikes : MT := (RX12, yX12_strikes, cX12_strikes, 3, none)
abbrev NX12_strikes : NT := (MX12_strikes, 2)
abbrev MX12_strike : MT := (RX12, yX12_strike, cX12_strike, 3, some .int)
abbrev NX12_strike : NT := (MX12_strike, 4)
abbrev MX12_whyScar : MT := (RX12, yX12_whyScar, cX12_whyScar, 3, some .int)
abbrev NX12_whyScar : NT := (MX12_whyScar, 3)
abbrev MX12_scar : MT := (RX12, yX12_scar, cX12_scar, 4, some .int)
abbrev NX12_scar : NT := (MX12_scar, 4)
abbrev MX12_isRingDeal : MT := (RX12, yX12_isRingDeal, cX12_isRingDeal, 2, some .boolean)
abbrev NX12_isRingDeal : NT := (MX12_isRingDeal, 3)
abbrev MX12_leastOf : MT := (RX12, yX12_leastOf, cX12_leastOf, 5, some .int)
abbrev NX12_leastOf : NT := (MX12_leastOf, 1)
abbrev MX12_dotOf : MT := (RX12, yX12_dotOf, cX12_dotOf, 2, some .int)
abbrev NX12_dotOf : NT := (MX12_dotOf, 2)
abbrev MX12_freesOf : MT := (RX12, yX12_freesOf, cX12_freesOf, 6, some .int)
abbrev NX12_freesOf : NT := (MX12_freesOf, 3)
abbrev MX12_canRing : MT := (RX12, yX12_canRing, cX12_canRing, 3, some .boolean)
abbrev NX12_canRing : NT := (MX12_canRing, 4)
abbrev MX12_bestOf : MT := (RX12, yX12_bestOf, cX12_bestOf, 8, some .int)
abbrev NX12_bestOf : NT := (MX12_bestOf, 5)
abbrev MX12_ring : MT := (RX12, yX12_ring, cX12_ring, 3, some .int)
abbrev NX12_ring : NT := (MX12_ring, 6)
abbrev MX12_ringAt : MT := (RX12, yX12_ringAt, cX12_ringAt, 2, some .int)
abbrev NX12_ringAt : NT := (MX12_ringAt, 1)
abbrev MX12_ringOf : MT := (RX12, yX12_ringOf, cX12_ringOf, 2, some .int)
abbrev NX12_ringOf : NT := (MX12_ringOf, 6)
abbrev MX12_cuts : MT := (RX12, yX12_cuts, cX12_cuts, 6, some .int)
abbrev NX12_cuts : NT := (MX12_cuts, 3)
abbrev MX12_cut : MT := (RX12, yX12_cut, cX12_cut, 1, some .int)
abbrev NX12_cut : NT := (MX12_cut, 6)
abbrev MX12_whyDies : MT := (RX12, yX12_whyDies, cX12_whyDies, 3, some .int)
abbrev NX12_whyDies : NT := (MX12_whyDies, 2)
abbrev MX12_buries : MT := (RX12, yX12_buries, cX12_buries, 5, some .int)
abbrev NX12_buries : NT := (MX12_buries, 3)
abbrev MX12_dies : MT := (RX12, yX12_dies, cX12_dies, 4, some .int)
abbrev NX12_dies : NT := (MX12_dies, 4)
abbrev MX12_year : MT := (RX12, yX12_year, cX12_year, 1, some .int)
abbrev NX12_year : NT := (MX12_year, 1)
abbrev MX12_can : MT := (RX12, yX12_can, cX12_can, 5, some .int)
abbrev NX12_can : NT := (MX12_can, 5)
abbrev MX12_keepsAll : MT := (RX12, yX12_keepsAll, cX12_keepsAll, 2, none)
abbrev NX12_keepsAll : NT := (MX12_keepsAll, 0)
abbrev MX12_backAll : MT := (RX12, yX12_backAll, cX12_backAll, 2, none)
abbrev NX12_backAll : NT := (MX12_backAll, 0)
abbrev MX12_ringsFor : MT := (RX12, yX12_ringsFor, cX12_ringsFor, 6, some .int)
abbrev NX12_ringsFor : NT := (MX12_ringsFor, 6)
abbrev MX12_aged : MT := (RX12, yX12_aged, cX12_aged, 3, some .int)
abbrev NX12_aged : NT := (MX12_aged, 2)
abbrev MX12_owes : MT := (RX12, yX12_owes, cX12_owes, 5, some .int)
abbrev NX12_owes : NT := (MX12_owes, 3)
abbrev MX12_chain : MT := (RX12, yX12_chain, cX12_chain, 7, some .int)
abbrev NX12_chain : NT := (MX12_chain, 3)
abbrev MX12_fullest : MT := (RX12, yX12_fullest, cX12_fullest, 6, some .int)
abbrev NX12_fullest : NT := (MX12_fullest, 3)
abbrev MX12_trade : MT := (RX12, yX12_trade, cX12_trade, 5, some .int)
abbrev NX12_trade : NT := (MX12_trade, 3)
abbrev MX12_settled : MT := (RX12, yX12_settled, cX12_settled, 7, some .int)
abbrev NX12_settled : NT := (MX12_settled, 4)
abbrev MX12_put : MT := (RX12, yX12_put, cX12_put, 2, none)
abbrev NX12_put : NT := (MX12_put, 0)
abbrev MX12_putName : MT := (RX12, yX12_putName, cX12_putName, 4, none)
abbrev NX12_putName : NT := (MX12_putName, 1)
abbrev MX12_putNumber : MT := (RX12, yX12_putNumber, cX12_putNumber, 2, none)
abbrev NX12_putNumber : NT := (MX12_putNumber, 1)
abbrev MX12_skin : MT := (RX12, yX12_skin, cX12_skin, 6, some .int)
abbrev NX12_skin : NT := (MX12_skin, 2)
abbrev MX12_byteAt : MT := (RX12, yX12_byteAt, cX12_byteAt, 2, some .int)
abbrev NX12_byteAt : NT := (MX12_byteAt, 1)
abbrev MX12_between : MT := (RX12, yX12_between, cX12_between, 6, some .int)
abbrev NX12_between : NT := (MX12_between, 3)
abbrev MX12_greatest : MT := (RX12, yX12_greatest, cX12_greatest, 5, some .int)
abbrev NX12_greatest : NT := (MX12_greatest, 3)
abbrev MX12_bookLine : MT := (RX12, yX12_bookLine, cX12_bookLine, 4, some .boolean)
abbrev NX12_bookLine : NT := (MX12_bookLine, 3)
abbrev MX12_book : MT := (RX12, yX12_book, cX12_book, 2, some .int)
abbrev NX12_book : NT := (MX12_book, 4)
abbrev MX12_does : MT := (RX12, yX12_does, cX12_does, 5, some .int)
abbrev NX12_does : NT := (MX12_does, 6)
abbrev MX12_openMany : MT := (RX12, yX12_openMany, cX12_openMany, 3, some .int)
abbrev NX12_openMany : NT := (MX12_openMany, 3)
abbrev MX12_judge : MT := (RX12, yX12_judge, cX12_judge, 4, some .int)
abbrev NX12_judge : NT := (MX12_judge, 7)
abbrev MX12_keepsBefore : MT := (RX12, yX12_keepsBefore, cX12_keepsBefore, 2, none)
abbrev NX12_keepsBefore : NT := (MX12_keepsBefore, 1)
abbrev MX12_judged : MT := (RX12, yX12_judged, cX12_judged, 2, some .int)
abbrev NX12_judged : NT := (MX12_judged, 1)
abbrev MX12_packs : MT := (RX12, yX12_packs, cX12_packs, 7, some .boolean)
abbrev NX12_packs : NT := (MX12_packs, 2)
abbrev MX12_arePacked : MT := (RX12, yX12_arePacked, cX12_arePacked, 4, some .boolean)
abbrev NX12_arePacked : NT := (MX12_arePacked, 3)
abbrev MX12_bestPack : MT := (RX12, yX12_bestPack, cX12_bestPack, 7, some .int)
abbrev NX12_bestPack : NT := (MX12_bestPack, 4)
abbrev MX12_pack : MT := (RX12, yX12_pack, cX12_pack, 3, some .int)
abbrev NX12_pack : NT := (MX12_pack, 5)
abbrev MX12_packed : MT := (RX12, yX12_packed, cX12_packed, 2, some .int)
abbrev NX12_packed : NT := (MX12_packed, 1)
abbrev MX12_price : MT := (RX12, yX12_price, cX12_price, 4, some .int)
abbrev NX12_price : NT := (MX12_price, 5)
abbrev MX12_isLost : MT := (RX12, yX12_isLost, cX12_isLost, 2, some .boolean)
abbrev NX12_isLost : NT := (MX12_isLost, 3)
abbrev MX12_lostOf : MT := (RX12, yX12_lostOf, cX12_lostOf, 4, some .int)
abbrev NX12_lostOf : NT := (MX12_lostOf, 4)
abbrev MX12_lost : MT := (RX12, yX12_lost, cX12_lost, 2, some .int)
abbrev NX12_lost : NT := (MX12_lost, 5)
abbrev MX12_fits : MT := (RX12, yX12_fits, cX12_fits, 6, some .int)
abbrev NX12_fits : NT := (MX12_fits, 6)
abbrev MX12_isFit : MT := (RX12, yX12_isFit, cX12_isFit, 5, some .boolean)
abbrev NX12_isFit : NT := (MX12_isFit, 5)
abbrev MX12_fit : MT := (RX12, yX12_fit, cX12_fit, 3, some .int)
abbrev NX12_fit : NT := (MX12_fit, 1)
abbrev MX12_owedBy : MT := (RX12, yX12_owedBy, cX12_owedBy, 7, some .int)
abbrev NX12_owedBy : NT := (MX12_owedBy, 3)
abbrev MX12_isFound : MT := (RX12, yX12_isFound, cX12_isFound, 2, some .boolean)
abbrev NX12_isFound : NT := (MX12_isFound, 1)
abbrev MX12_owed : MT := (RX12, yX12_owed, cX12_owed, 4, some .int)
abbrev NX12_owed : NT := (MX12_owed, 4)
abbrev MX12_proof : MT := (RX12, yX12_proof, cX12_proof, 6, some .int)
abbrev NX12_proof : NT := (MX12_proof, 4)
abbrev MX12_witness : MT := (RX12, yX12_witness, cX12_witness, 4, some .int)
abbrev NX12_witness : NT := (MX12_witness, 3)
abbrev MX12_draw : MT := (RX12, yX12_draw, cX12_draw, 2, some .int)
abbrev NX12_draw : NT := (MX12_draw, 0)
abbrev MX12_latestFrom : MT := (RX12, yX12_latestFrom, cX12_latestFrom, 4, some .int)
abbrev NX12_latestFrom : NT := (MX12_latestFrom, 3)
abbrev MX12_lasts : MT := (RX12, yX12_lasts, cX12_lasts, 12, some .int)
abbrev NX12_lasts : NT := (MX12_lasts, 6)
abbrev MX12_image : MT := (RX12, yX12_image, cX12_image, 3, some .boolean)
abbrev NX12_image : NT := (MX12_image, 1)
abbrev MX12_restore : MT := (RX12, yX12_restore, cX12_restore, 3, some .boolean)
abbrev NX12_restore : NT := (MX12_restore, 1)
abbrev MX12_count : MT := (RX12, yX12_count, cX12_count, 2, some .int)
abbrev NX12_count : NT := (MX12_count, 4)
abbrev ML_law : MT := (RL, yL_law, cL_law, 7, some .boolean)
abbrev NL_law : NT := (ML_law, 23)
theorem okX0_init : jOK MX0_init 0 := ⟨by decide, rfl, tsm (inT1 (List.mem_of_getElem? (i := 155) (by decide +kernel))) rfl, tsm (inT1 (List.mem_of_getElem? (i := 4) (by decide +kernel))) rfl, ⟨by decide +kernel, by decide +kernel, by decide +kernel⟩, by decide⟩
theorem okX0_copyFrom : jOK MX0_copyFrom 1 := ⟨by decide, rfl, tsm (inT4 (List.mem_of_getElem? (i := 14) (by decide +kernel))) rfl, tsm (inT1 (List.mem_of_getElem? (i := 4) (by decide +kernel))) rfl, ⟨by decide +kernel, by decide +kernel, by decide +kernel⟩, by decide⟩
theorem okX0_readFrom : jOK MX0_readFrom 2 := ⟨by decide, rfl, tsm (inT3 (List.mem_of_getElem? (i := 206) (by decide +kernel))) rfl, tsm (inT1 (List.mem_of_getElem? (i := 4) (by decide +kernel))) rfl, ⟨by decide +kernel, by decide +kernel, by decide +kernel⟩, by decide⟩
theorem okX0_actTold : jOK MX0_actTold 1 := ⟨by decide, rfl, tsm (inT3 (List.mem_of_getElem? (i := 213) (by decide +kernel))) rfl, tsm (inT1 (List.mem_of_getElem? (i := 4) (by decide +kernel))) rfl, ⟨by decide +kernel, by decide +kernel, by decide +kernel⟩, by decide⟩
theorem okX0_readRest : jOK MX0_readRest 3 := ⟨by decide, rfl, tsm (inT3 (List.mem_of_getElem? (i := 225) (by decide +kernel))) rfl, tsm (inT1 (List.mem_of_getElem? (i := 4) (by decide +kernel))) rfl, ⟨by decide +kernel, by decide +kernel, by decide +kernel⟩, by decide⟩
theorem okX0_readTwoBodies : jOK MX0_readTwoBodies 2 := ⟨by decide, rfl, tsm (inT3 (List.mem_of_getElem? (i := 229) (by decide +kernel))) rfl, tsm (inT1 (List.mem_of_getElem? (i := 4) (by decide +kernel))) rfl, ⟨by decide +kernel, by decide +kernel, by decide +kernel⟩, by decide⟩
theorem okX0_readSumAndKind : jOK MX0_readSumAndKind 2 := ⟨by decide, rfl, tsm (inT3 (List.mem_of_getElem? (i := 234) (by decide +kernel))) rfl, tsm (inT1 (List.mem_of_getElem? (i := 4) (by decide +kernel))) rfl, ⟨by decide +kernel, by decide +kernel, by decide +kernel⟩, by decide⟩
theorem okX0_readDeal : jOK MX0_readDeal 1 := ⟨by decide, rfl, tsm (inT4 (List.mem_of_getElem? (i := 3) (by decide +kernel))) rfl, tsm (inT1 (List.mem_of_getElem? (i := 4) (by decide +kernel))) rfl, ⟨by decide +kernel, by decide +kernel, by decide +kernel⟩, by decide⟩
theorem okX0_readSide : jOK MX0_readSide 1 := ⟨by decide, rfl, tsm (inT4 (List.mem_of_getElem? (i := 7) (by decide +kernel))) rfl, tsm (inT1 (List.mem_of_getElem? (i := 4) (by decide +kernel))) rfl, ⟨by decide +kernel, by decide +kernel, by decide +kernel⟩, by decide⟩
theorem okX0_tryLine : jOK MX0_tryLine 3 := ⟨by decide, rfl, tsm (inT5 (List.mem_of_getElem? (i := 133) (by decide +kernel))) rfl, tsm (inT1 (List.mem_of_getElem? (i := 4) (by decide +kernel))) rfl, ⟨by decide +kernel, by decide +kernel, by decide +kernel⟩, by decide⟩
theorem okX1_init : jOK MX1_init 0 := ⟨by decide, rfl, tsm (inT2 (List.mem_of_getElem? (i := 153) (by decide +kernel))) rfl, tsm (inT1 (List.mem_of_getElem? (i := 10) (by decide +kernel))) rfl, ⟨by decide +kernel, by decide +kernel, by decide +kernel⟩, by decide⟩
theorem okX1_take : jOK MX1_take 2 := ⟨by decide, rfl, tsm (inT5 (List.mem_of_getElem? (i := 230) (by decide +kernel))) rfl, tsm (inT1 (List.mem_of_getElem? (i := 10) (by decide +kernel))) rfl, ⟨by decide +kernel, by decide +kernel, by decide +kernel⟩, by decide⟩
theorem okX1_findLost : jOK MX1_findLost 0 := ⟨by decide, rfl, tsm (inT5 (List.mem_of_getElem? (i := 234) (by decide +kernel))) rfl, tsm (inT1 (List.mem_of_getElem? (i := 10) (by decide +kernel))) rfl, ⟨by decide +kernel, by decide +kernel, by decide +kernel⟩, by decide⟩
theorem okX1_findNeeded : jOK MX1_findNeeded 2 := ⟨by decide, rfl, tsm (inT6 (List.mem_of_getElem? (i := 0) (by decide +kernel))) rfl, tsm (inT1 (List.mem_of_getElem? (i := 10) (by decide +kernel))) rfl, ⟨by decide +kernel, by decide +kernel, by decide +kernel⟩, by decide⟩
theorem okX1_search : jOK MX1_search 1 := ⟨by decide, rfl, tsm (inT6 (List.mem_of_getElem? (i := 7) (by decide +kernel))) rfl, tsm (inT1 (List.mem_of_getElem? (i := 10) (by decide +kernel))) rfl, ⟨by decide +kernel, by decide +kernel, by decide +kernel⟩, by decide⟩
theorem okX1_tryFrom : jOK MX1_tryFrom 1 := ⟨by decide, rfl, tsm (inT6 (List.mem_of_getElem? (i := 11) (by decide +kernel))) rfl, tsm (inT1 (List.mem_of_getElem? (i := 10) (by decide +kernel))) rfl, ⟨by decide +kernel, by decide +kernel, by decide +kernel⟩, by decide⟩
theorem okX1_aboutSum : jOK MX1_aboutSum 2 := ⟨by decide, rfl, tsm (inT6 (List.mem_of_getElem? (i := 21) (by decide +kernel))) rfl, tsm (inT1 (List.mem_of_getElem? (i := 10) (by decide +kernel))) rfl, ⟨by decide +kernel, by decide +kernel, by decide +kernel⟩, by decide⟩
theorem okX1_noteWay : jOK MX1_noteWay 0 := ⟨by decide, rfl, tsm (inT6 (List.mem_of_getElem? (i := 15) (by decide +kernel))) rfl, tsm (inT1 (List.mem_of_getElem? (i := 10) (by decide +kernel))) rfl, ⟨by decide +kernel, by decide +kernel, by decide +kernel⟩, by decide⟩
theorem okX1_told : jOK MX1_told 2 := ⟨by decide, rfl, tsm (inT6 (List.mem_of_getElem? (i := 30) (by decide +kernel))) rfl, tsm (inT1 (List.mem_of_getElem? (i := 10) (by decide +kernel))) rfl, ⟨by decide +kernel, by decide +kernel, by decide +kernel⟩, by decide⟩
theorem okX2_init : jOK MX2_init 1 := ⟨by decide, rfl, tsm (inT2 (List.mem_of_getElem? (i := 17) (by decide +kernel))) rfl, tsm (inT1 (List.mem_of_getElem? (i := 6) (by decide +kernel))) rfl, ⟨by decide +kernel, by decide +kernel, by decide +kernel⟩, by decide⟩
theorem okX2_forget : jOK MX2_forget 0 := ⟨by decide, rfl, tsm (inT3 (List.mem_of_getElem? (i := 194) (by decide +kernel))) rfl, tsm (inT1 (List.mem_of_getElem? (i := 6) (by decide +kernel))) rfl, ⟨by decide +kernel, by decide +kernel, by decide +kernel⟩, by decide⟩
theorem okX2_note : jOK MX2_note 1 := ⟨by decide, rfl, tsm (inT4 (List.mem_of_getElem? (i := 192) (by decide +kernel))) rfl, tsm (inT1 (List.mem_of_getElem? (i := 6) (by decide +kernel))) rfl, ⟨by decide +kernel, by decide +kernel, by decide +kernel⟩, by decide⟩
theorem okX2_keepNoted : jOK MX2_keepNoted 0 := ⟨by decide, rfl, tsm (inT4 (List.mem_of_getElem? (i := 217) (by decide +kernel))) rfl, tsm (inT1 (List.mem_of_getElem? (i := 6) (by decide +kernel))) rfl, ⟨by decide +kernel, by decide +kernel, by decide +kernel⟩, by decide⟩
theorem okX2_takeBack : jOK MX2_takeBack 1 := ⟨by decide, rfl, tsm (inT5 (List.mem_of_getElem? (i := 97) (by decide +kernel))) rfl, tsm (inT1 (List.mem_of_getElem? (i := 6) (by decide +kernel))) rfl, ⟨by decide +kernel, by decide +kernel, by decide +kernel⟩, by decide⟩
theorem okX3_init : jOK MX3_init 0 := ⟨by decide, rfl, tsm (inT2 (List.mem_of_getElem? (i := 37) (by decide +kernel))) rfl, tsm (inT1 (List.mem_of_getElem? (i := 7) (by decide +kernel))) rfl, ⟨by decide +kernel, by decide +kernel, by decide +kernel⟩, by decide⟩
theorem okX3_keep : jOK MX3_keep 3 := ⟨by decide, rfl, tsm (inT6 (List.mem_of_getElem? (i := 79) (by decide +kernel))) rfl, tsm (inT1 (List.mem_of_getElem? (i := 7) (by decide +kernel))) rfl, ⟨by decide +kernel, by decide +kernel, by decide +kernel⟩, by decide⟩
theorem okX3_bringBack : jOK MX3_bringBack 3 := ⟨by decide, rfl, tsm (inT6 (List.mem_of_getElem? (i := 90) (by decide +kernel))) rfl, tsm (inT1 (List.mem_of_getElem? (i := 7) (by decide +kernel))) rfl, ⟨by decide +kernel, by decide +kernel, by decide +kernel⟩, by decide⟩
theorem okX4_init : jOK MX4_init 1 := ⟨by decide, rfl, tsm (inT1 (List.mem_of_getElem? (i := 181) (by decide +kernel))) rfl, tsm (inT1 (List.mem_of_getElem? (i := 5) (by decide +kernel))) rfl, ⟨by decide +kernel, by decide +kernel, by decide +kernel⟩, by decide⟩
theorem okX4_begin : jOK MX4_begin 0 := ⟨by decide, rfl, tsm (inT3 (List.mem_of_getElem? (i := 190) (by decide +kernel))) rfl, tsm (inT1 (List.mem_of_getElem? (i := 5) (by decide +kernel))) rfl, ⟨by decide +kernel, by decide +kernel, by decide +kernel⟩, by decide⟩
theorem okX4_copyFrom : jOK MX4_copyFrom 1 := ⟨by decide, rfl, tsm (inT4 (List.mem_of_getElem? (i := 196) (by decide +kernel))) rfl, tsm (inT1 (List.mem_of_getElem? (i := 5) (by decide +kernel))) rfl, ⟨by decide +kernel, by decide +kernel, by decide +kernel⟩, by decide⟩
theorem okX4_hasDeal : jOK MX4_hasDeal 1 := ⟨by decide, rfl, tsm (inT4 (List.mem_of_getElem? (i := 31) (by decide +kernel))) rfl, tsm (inT1 (List.mem_of_getElem? (i := 5) (by decide +kernel))) rfl, ⟨by decide +kernel, by decide +kernel, by decide +kernel⟩, by decide⟩
theorem okX4_isOpen : jOK MX4_isOpen 1 := ⟨by decide, rfl, tsm (inT4 (List.mem_of_getElem? (i := 27) (by decide +kernel))) rfl, tsm (inT1 (List.mem_of_getElem? (i := 5) (by decide +kernel))) rfl, ⟨by decide +kernel, by decide +kernel, by decide +kernel⟩, by decide⟩
theorem okX4_lives : jOK MX4_lives 1 := ⟨by decide, rfl, tsm (inT4 (List.mem_of_getElem? (i := 56) (by decide +kernel))) rfl, tsm (inT1 (List.mem_of_getElem? (i := 5) (by decide +kernel))) rfl, ⟨by decide +kernel, by decide +kernel, by decide +kernel⟩, by decide⟩
theorem okX4_bearer : jOK MX4_bearer 2 := ⟨by decide, rfl, tsm (inT4 (List.mem_of_getElem? (i := 43) (by decide +kernel))) rfl, tsm (inT1 (List.mem_of_getElem? (i := 5) (by decide +kernel))) rfl, ⟨by decide +kernel, by decide +kernel, by decide +kernel⟩, by decide⟩
theorem okX4_isScarred : jOK MX4_isScarred 2 := ⟨by decide, rfl, tsm (inT4 (List.mem_of_getElem? (i := 163) (by decide +kernel))) rfl, tsm (inT1 (List.mem_of_getElem? (i := 5) (by decide +kernel))) rfl, ⟨by decide +kernel, by decide +kernel, by decide +kernel⟩, by decide⟩
theorem okX4_unscarredBearer : jOK MX4_unscarredBearer 2 := ⟨by decide, rfl, tsm (inT4 (List.mem_of_getElem? (i := 51) (by decide +kernel))) rfl, tsm (inT1 (List.mem_of_getElem? (i := 5) (by decide +kernel))) rfl, ⟨by decide +kernel, by decide +kernel, by decide +kernel⟩, by decide⟩
theorem okX4_isReadable : jOK MX4_isReadable 2 := ⟨by decide, rfl, tsm (inT4 (List.mem_of_getElem? (i := 47) (by decide +kernel))) rfl, tsm (inT1 (List.mem_of_getElem? (i := 5) (by decide +kernel))) rfl, ⟨by decide +kernel, by decide +kernel, by decide +kernel⟩, by decide⟩
theorem okX4_isKnown : jOK MX4_isKnown 1 := ⟨by decide, rfl, tsm (inT5 (List.mem_of_getElem? (i := 222) (by decide +kernel))) rfl, tsm (inT1 (List.mem_of_getElem? (i := 5) (by decide +kernel))) rfl, ⟨by decide +kernel, by decide +kernel, by decide +kernel⟩, by decide⟩
theorem okX4_isLost : jOK MX4_isLost 1 := ⟨by decide, rfl, tsm (inT5 (List.mem_of_getElem? (i := 218) (by decide +kernel))) rfl, tsm (inT1 (List.mem_of_getElem? (i := 5) (by decide +kernel))) rfl, ⟨by decide +kernel, by decide +kernel, by decide +kernel⟩, by decide⟩
theorem okX4_valueOf : jOK MX4_valueOf 1 := ⟨by decide, rfl, tsm (inT4 (List.mem_of_getElem? (i := 108) (by decide +kernel))) rfl, tsm (inT1 (List.mem_of_getElem? (i := 5) (by decide +kernel))) rfl, ⟨by decide +kernel, by decide +kernel, by decide +kernel⟩, by decide⟩
theorem okX4_netOf : jOK MX4_netOf 1 := ⟨by decide, rfl, tsm (inT4 (List.mem_of_getElem? (i := 124) (by decide +kernel))) rfl, tsm (inT1 (List.mem_of_getElem? (i := 5) (by decide +kernel))) rfl, ⟨by decide +kernel, by decide +kernel, by decide +kernel⟩, by decide⟩
theorem okX4_marksOn : jOK MX4_marksOn 2 := ⟨by decide, rfl, tsm (inT4 (List.mem_of_getElem? (i := 68) (by decide +kernel))) rfl, tsm (inT1 (List.mem_of_getElem? (i := 5) (by decide +kernel))) rfl, ⟨by decide +kernel, by decide +kernel, by decide +kernel⟩, by decide⟩
theorem okX4_openDeals : jOK MX4_openDeals 0 := ⟨by decide, rfl, tsm (inT4 (List.mem_of_getElem? (i := 23) (by decide +kernel))) rfl, tsm (inT1 (List.mem_of_getElem? (i := 5) (by decide +kernel))) rfl, ⟨by decide +kernel, by decide +kernel, by decide +kernel⟩, by decide⟩
theorem okX4_leftOfLiving : jOK MX4_leftOfLiving 0 := ⟨by decide, rfl, tsm (inT5 (List.mem_of_getElem? (i := 143) (by decide +kernel))) rfl, tsm (inT1 (List.mem_of_getElem? (i := 5) (by decide +kernel))) rfl, ⟨by decide +kernel, by decide +kernel, by decide +kernel⟩, by decide⟩
theorem okX4_leastLeft : jOK MX4_leastLeft 1 := ⟨by decide, rfl, tsm (inT4 (List.mem_of_getElem? (i := 100) (by decide +kernel))) rfl, tsm (inT1 (List.mem_of_getElem? (i := 5) (by decide +kernel))) rfl, ⟨by decide +kernel, by decide +kernel, by decide +kernel⟩, by decide⟩
theorem okX4_lendersTo : jOK MX4_lendersTo 1 := ⟨by decide, rfl, tsm (inT4 (List.mem_of_getElem? (i := 91) (by decide +kernel))) rfl, tsm (inT1 (List.mem_of_getElem? (i := 5) (by decide +kernel))) rfl, ⟨by decide +kernel, by decide +kernel, by decide +kernel⟩, by decide⟩
theorem okX4_openAhead : jOK MX4_openAhead 1 := ⟨by decide, rfl, tsm (inT4 (List.mem_of_getElem? (i := 141) (by decide +kernel))) rfl, tsm (inT1 (List.mem_of_getElem? (i := 5) (by decide +kernel))) rfl, ⟨by decide +kernel, by decide +kernel, by decide +kernel⟩, by decide⟩
theorem okX4_latestOpen : jOK MX4_latestOpen 1 := ⟨by decide, rfl, tsm (inT5 (List.mem_of_getElem? (i := 162) (by decide +kernel))) rfl, tsm (inT1 (List.mem_of_getElem? (i := 5) (by decide +kernel))) rfl, ⟨by decide +kernel, by decide +kernel, by decide +kernel⟩, by decide⟩
theorem okX4_openFor : jOK MX4_openFor 2 := ⟨by decide, rfl, tsm (inT5 (List.mem_of_getElem? (i := 77) (by decide +kernel))) rfl, tsm (inT1 (List.mem_of_getElem? (i := 5) (by decide +kernel))) rfl, ⟨by decide +kernel, by decide +kernel, by decide +kernel⟩, by decide⟩
theorem okX4_isToldBy : jOK MX4_isToldBy 3 := ⟨by decide, rfl, tsm (inT6 (List.mem_of_getElem? (i := 46) (by decide +kernel))) rfl, tsm (inT1 (List.mem_of_getElem? (i := 5) (by decide +kernel))) rfl, ⟨by decide +kernel, by decide +kernel, by decide +kernel⟩, by decide⟩
theorem okX4_isKnownBy : jOK MX4_isKnownBy 2 := ⟨by decide, rfl, tsm (inT6 (List.mem_of_getElem? (i := 42) (by decide +kernel))) rfl, tsm (inT1 (List.mem_of_getElem? (i := 5) (by decide +kernel))) rfl, ⟨by decide +kernel, by decide +kernel, by decide +kernel⟩, by decide⟩
theorem okX4_isOnAny : jOK MX4_isOnAny 2 := ⟨by decide, rfl, tsm (inT6 (List.mem_of_getElem? (i := 55) (by decide +kernel))) rfl, tsm (inT1 (List.mem_of_getElem? (i := 5) (by decide +kernel))) rfl, ⟨by decide +kernel, by decide +kernel, by decide +kernel⟩, by decide⟩
theorem okX4_owedSurely : jOK MX4_owedSurely 2 := ⟨by decide, rfl, tsm (inT6 (List.mem_of_getElem? (i := 38) (by decide +kernel))) rfl, tsm (inT1 (List.mem_of_getElem? (i := 5) (by decide +kernel))) rfl, ⟨by decide +kernel, by decide +kernel, by decide +kernel⟩, by decide⟩
theorem okX4_owedAtMost : jOK MX4_owedAtMost 2 := ⟨by decide, rfl, tsm (inT6 (List.mem_of_getElem? (i := 50) (by decide +kernel))) rfl, tsm (inT1 (List.mem_of_getElem? (i := 5) (by decide +kernel))) rfl, ⟨by decide +kernel, by decide +kernel, by decide +kernel⟩, by decide⟩
theorem okX4_bearerFor : jOK MX4_bearerFor 2 := ⟨by decide, rfl, tsm (inT4 (List.mem_of_getElem? (i := 209) (by decide +kernel))) rfl, tsm (inT1 (List.mem_of_getElem? (i := 5) (by decide +kernel))) rfl, ⟨by decide +kernel, by decide +kernel, by decide +kernel⟩, by decide⟩
theorem okX4_debtBearerFor : jOK MX4_debtBearerFor 3 := ⟨by decide, rfl, tsm (inT4 (List.mem_of_getElem? (i := 213) (by decide +kernel))) rfl, tsm (inT1 (List.mem_of_getElem? (i := 5) (by decide +kernel))) rfl, ⟨by decide +kernel, by decide +kernel, by decide +kernel⟩, by decide⟩
theorem okX4_wrongToWrite : jOK MX4_wrongToWrite 3 := ⟨by decide, rfl, tsm (inT4 (List.mem_of_getElem? (i := 205) (by decide +kernel))) rfl, tsm (inT1 (List.mem_of_getElem? (i := 5) (by decide +kernel))) rfl, ⟨by decide +kernel, by decide +kernel, by decide +kernel⟩, by decide⟩
theorem okX4_tryWrite : jOK MX4_tryWrite 4 := ⟨by decide, rfl, tsm (inT4 (List.mem_of_getElem? (i := 201) (by decide +kernel))) rfl, tsm (inT1 (List.mem_of_getElem? (i := 5) (by decide +kernel))) rfl, ⟨by decide +kernel, by decide +kernel, by decide +kernel⟩, by decide⟩
theorem okX4_isBuried : jOK MX4_isBuried 1 := ⟨by decide, rfl, tsm (inT4 (List.mem_of_getElem? (i := 234) (by decide +kernel))) rfl, tsm (inT1 (List.mem_of_getElem? (i := 5) (by decide +kernel))) rfl, ⟨by decide +kernel, by decide +kernel, by decide +kernel⟩, by decide⟩
theorem okX4_hasRoomForLines : jOK MX4_hasRoomForLines 2 := ⟨by decide, rfl, tsm (inT4 (List.mem_of_getElem? (i := 230) (by decide +kernel))) rfl, tsm (inT1 (List.mem_of_getElem? (i := 5) (by decide +kernel))) rfl, ⟨by decide +kernel, by decide +kernel, by decide +kernel⟩, by decide⟩
theorem okX4_scratch : jOK MX4_scratch 2 := ⟨by decide, rfl, tsm (inT4 (List.mem_of_getElem? (i := 238) (by decide +kernel))) rfl, tsm (inT1 (List.mem_of_getElem? (i := 5) (by decide +kernel))) rfl, ⟨by decide +kernel, by decide +kernel, by decide +kernel⟩, by decide⟩
theorem okX4_tryStrike : jOK MX4_tryStrike 1 := ⟨by decide, rfl, tsm (inT4 (List.mem_of_getElem? (i := 226) (by decide +kernel))) rfl, tsm (inT1 (List.mem_of_getElem? (i := 5) (by decide +kernel))) rfl, ⟨by decide +kernel, by decide +kernel, by decide +kernel⟩, by decide⟩
theorem okX4_tryScar : jOK MX4_tryScar 2 := ⟨by decide, rfl, tsm (inT5 (List.mem_of_getElem? (i := 6) (by decide +kernel))) rfl, tsm (inT1 (List.mem_of_getElem? (i := 5) (by decide +kernel))) rfl, ⟨by decide +kernel, by decide +kernel, by decide +kernel⟩, by decide⟩
theorem okX4_freedBy : jOK MX4_freedBy 1 := ⟨by decide, rfl, tsm (inT5 (List.mem_of_getElem? (i := 36) (by decide +kernel))) rfl, tsm (inT1 (List.mem_of_getElem? (i := 5) (by decide +kernel))) rfl, ⟨by decide +kernel, by decide +kernel, by decide +kernel⟩, by decide⟩
theorem okX4_tryCut : jOK MX4_tryCut 1 := ⟨by decide, rfl, tsm (inT5 (List.mem_of_getElem? (i := 15) (by decide +kernel))) rfl, tsm (inT1 (List.mem_of_getElem? (i := 5) (by decide +kernel))) rfl, ⟨by decide +kernel, by decide +kernel, by decide +kernel⟩, by decide⟩
theorem okX4_lessen : jOK MX4_lessen 2 := ⟨by decide, rfl, tsm (inT5 (List.mem_of_getElem? (i := 65) (by decide +kernel))) rfl, tsm (inT1 (List.mem_of_getElem? (i := 5) (by decide +kernel))) rfl, ⟨by decide +kernel, by decide +kernel, by decide +kernel⟩, by decide⟩
theorem okX4_takeOff : jOK MX4_takeOff 2 := ⟨by decide, rfl, tsm (inT5 (List.mem_of_getElem? (i := 69) (by decide +kernel))) rfl, tsm (inT1 (List.mem_of_getElem? (i := 5) (by decide +kernel))) rfl, ⟨by decide +kernel, by decide +kernel, by decide +kernel⟩, by decide⟩
theorem okX4_tryBury : jOK MX4_tryBury 2 := ⟨by decide, rfl, tsm (inT5 (List.mem_of_getElem? (i := 81) (by decide +kernel))) rfl, tsm (inT1 (List.mem_of_getElem? (i := 5) (by decide +kernel))) rfl, ⟨by decide +kernel, by decide +kernel, by decide +kernel⟩, by decide⟩
theorem okX4_tryYear : jOK MX4_tryYear 0 := ⟨by decide, rfl, tsm (inT5 (List.mem_of_getElem? (i := 89) (by decide +kernel))) rfl, tsm (inT1 (List.mem_of_getElem? (i := 5) (by decide +kernel))) rfl, ⟨by decide +kernel, by decide +kernel, by decide +kernel⟩, by decide⟩
theorem okX5_init : jOK MX5_init 0 := ⟨by decide, rfl, tsm (inT2 (List.mem_of_getElem? (i := 113) (by decide +kernel))) rfl, tsm (inT1 (List.mem_of_getElem? (i := 9) (by decide +kernel))) rfl, ⟨by decide +kernel, by decide +kernel, by decide +kernel⟩, by decide⟩
theorem okX5_isTold : jOK MX5_isTold 2 := ⟨by decide, rfl, tsm (inT5 (List.mem_of_getElem? (i := 173) (by decide +kernel))) rfl, tsm (inT1 (List.mem_of_getElem? (i := 9) (by decide +kernel))) rfl, ⟨by decide +kernel, by decide +kernel, by decide +kernel⟩, by decide⟩
theorem okX5_take : jOK MX5_take 2 := ⟨by decide, rfl, tsm (inT5 (List.mem_of_getElem? (i := 170) (by decide +kernel))) rfl, tsm (inT1 (List.mem_of_getElem? (i := 9) (by decide +kernel))) rfl, ⟨by decide +kernel, by decide +kernel, by decide +kernel⟩, by decide⟩
theorem okX5_isPackedIn : jOK MX5_isPackedIn 1 := ⟨by decide, rfl, tsm (inT5 (List.mem_of_getElem? (i := 210) (by decide +kernel))) rfl, tsm (inT1 (List.mem_of_getElem? (i := 9) (by decide +kernel))) rfl, ⟨by decide +kernel, by decide +kernel, by decide +kernel⟩, by decide⟩
theorem okX5_keepTold : jOK MX5_keepTold 0 := ⟨by decide, rfl, tsm (inT5 (List.mem_of_getElem? (i := 194) (by decide +kernel))) rfl, tsm (inT1 (List.mem_of_getElem? (i := 9) (by decide +kernel))) rfl, ⟨by decide +kernel, by decide +kernel, by decide +kernel⟩, by decide⟩
theorem okX5_told : jOK MX5_told 1 := ⟨by decide, rfl, tsm (inT5 (List.mem_of_getElem? (i := 202) (by decide +kernel))) rfl, tsm (inT1 (List.mem_of_getElem? (i := 9) (by decide +kernel))) rfl, ⟨by decide +kernel, by decide +kernel, by decide +kernel⟩, by decide⟩
theorem okX5_search : jOK MX5_search 3 := ⟨by decide, rfl, tsm (inT5 (List.mem_of_getElem? (i := 180) (by decide +kernel))) rfl, tsm (inT1 (List.mem_of_getElem? (i := 9) (by decide +kernel))) rfl, ⟨by decide +kernel, by decide +kernel, by decide +kernel⟩, by decide⟩
theorem okX5_place : jOK MX5_place 2 := ⟨by decide, rfl, tsm (inT5 (List.mem_of_getElem? (i := 185) (by decide +kernel))) rfl, tsm (inT1 (List.mem_of_getElem? (i := 9) (by decide +kernel))) rfl, ⟨by decide +kernel, by decide +kernel, by decide +kernel⟩, by decide⟩
theorem okX5_placeBy : jOK MX5_placeBy 3 := ⟨by decide, rfl, tsm (inT5 (List.mem_of_getElem? (i := 190) (by decide +kernel))) rfl, tsm (inT1 (List.mem_of_getElem? (i := 9) (by decide +kernel))) rfl, ⟨by decide +kernel, by decide +kernel, by decide +kernel⟩, by decide⟩
theorem okX6_init : jOK MX6_init 0 := ⟨by decide, rfl, tsm (inT1 (List.mem_of_getElem? (i := 81) (by decide +kernel))) rfl, tsm (inT1 (List.mem_of_getElem? (i := 3) (by decide +kernel))) rfl, ⟨by decide +kernel, by decide +kernel, by decide +kernel⟩, by decide⟩
theorem okX6_forget : jOK MX6_forget 0 := ⟨by decide, rfl, tsm (inT3 (List.mem_of_getElem? (i := 66) (by decide +kernel))) rfl, tsm (inT1 (List.mem_of_getElem? (i := 3) (by decide +kernel))) rfl, ⟨by decide +kernel, by decide +kernel, by decide +kernel⟩, by decide⟩
theorem okX6_copyFrom : jOK MX6_copyFrom 1 := ⟨by decide, rfl, tsm (inT3 (List.mem_of_getElem? (i := 183) (by decide +kernel))) rfl, tsm (inT1 (List.mem_of_getElem? (i := 3) (by decide +kernel))) rfl, ⟨by decide +kernel, by decide +kernel, by decide +kernel⟩, by decide⟩
theorem okX6_hasBody : jOK MX6_hasBody 1 := ⟨by decide, rfl, tsm (inT4 (List.mem_of_getElem? (i := 64) (by decide +kernel))) rfl, tsm (inT1 (List.mem_of_getElem? (i := 3) (by decide +kernel))) rfl, ⟨by decide +kernel, by decide +kernel, by decide +kernel⟩, by decide⟩
theorem okX6_hasKind : jOK MX6_hasKind 1 := ⟨by decide, rfl, tsm (inT4 (List.mem_of_getElem? (i := 188) (by decide +kernel))) rfl, tsm (inT1 (List.mem_of_getElem? (i := 3) (by decide +kernel))) rfl, ⟨by decide +kernel, by decide +kernel, by decide +kernel⟩, by decide⟩
theorem okX6_hasDealers : jOK MX6_hasDealers 3 := ⟨by decide, rfl, tsm (inT4 (List.mem_of_getElem? (i := 183) (by decide +kernel))) rfl, tsm (inT1 (List.mem_of_getElem? (i := 3) (by decide +kernel))) rfl, ⟨by decide +kernel, by decide +kernel, by decide +kernel⟩, by decide⟩
theorem okX6_bodyNamed : jOK MX6_bodyNamed 1 := ⟨by decide, rfl, tsm (inT3 (List.mem_of_getElem? (i := 135) (by decide +kernel))) rfl, tsm (inT1 (List.mem_of_getElem? (i := 3) (by decide +kernel))) rfl, ⟨by decide +kernel, by decide +kernel, by decide +kernel⟩, by decide⟩
theorem okX6_kindNamed : jOK MX6_kindNamed 1 := ⟨by decide, rfl, tsm (inT3 (List.mem_of_getElem? (i := 139) (by decide +kernel))) rfl, tsm (inT1 (List.mem_of_getElem? (i := 3) (by decide +kernel))) rfl, ⟨by decide +kernel, by decide +kernel, by decide +kernel⟩, by decide⟩
theorem okX6_valueOf : jOK MX6_valueOf 2 := ⟨by decide, rfl, tsm (inT4 (List.mem_of_getElem? (i := 112) (by decide +kernel))) rfl, tsm (inT1 (List.mem_of_getElem? (i := 3) (by decide +kernel))) rfl, ⟨by decide +kernel, by decide +kernel, by decide +kernel⟩, by decide⟩
theorem okX6_dotOn : jOK MX6_dotOn 1 := ⟨by decide, rfl, tsm (inT5 (List.mem_of_getElem? (i := 40) (by decide +kernel))) rfl, tsm (inT1 (List.mem_of_getElem? (i := 3) (by decide +kernel))) rfl, ⟨by decide +kernel, by decide +kernel, by decide +kernel⟩, by decide⟩
theorem okX6_isForRings : jOK MX6_isForRings 1 := ⟨by decide, rfl, tsm (inT5 (List.mem_of_getElem? (i := 32) (by decide +kernel))) rfl, tsm (inT1 (List.mem_of_getElem? (i := 3) (by decide +kernel))) rfl, ⟨by decide +kernel, by decide +kernel, by decide +kernel⟩, by decide⟩
theorem okX6_readFrom : jOK MX6_readFrom 1 := ⟨by decide, rfl, tsm (inT3 (List.mem_of_getElem? (i := 62) (by decide +kernel))) rfl, tsm (inT1 (List.mem_of_getElem? (i := 3) (by decide +kernel))) rfl, ⟨by decide +kernel, by decide +kernel, by decide +kernel⟩, by decide⟩
theorem okX6_readLine : jOK MX6_readLine 1 := ⟨by decide, rfl, tsm (inT3 (List.mem_of_getElem? (i := 110) (by decide +kernel))) rfl, tsm (inT1 (List.mem_of_getElem? (i := 3) (by decide +kernel))) rfl, ⟨by decide +kernel, by decide +kernel, by decide +kernel⟩, by decide⟩
theorem okX6_readBody : jOK MX6_readBody 1 := ⟨by decide, rfl, tsm (inT3 (List.mem_of_getElem? (i := 119) (by decide +kernel))) rfl, tsm (inT1 (List.mem_of_getElem? (i := 3) (by decide +kernel))) rfl, ⟨by decide +kernel, by decide +kernel, by decide +kernel⟩, by decide⟩
theorem okX6_readKind : jOK MX6_readKind 1 := ⟨by decide, rfl, tsm (inT3 (List.mem_of_getElem? (i := 157) (by decide +kernel))) rfl, tsm (inT1 (List.mem_of_getElem? (i := 3) (by decide +kernel))) rfl, ⟨by decide +kernel, by decide +kernel, by decide +kernel⟩, by decide⟩
theorem okX6_sortTold : jOK MX6_sortTold 1 := ⟨by decide, rfl, tsm (inT3 (List.mem_of_getElem? (i := 160) (by decide +kernel))) rfl, tsm (inT1 (List.mem_of_getElem? (i := 3) (by decide +kernel))) rfl, ⟨by decide +kernel, by decide +kernel, by decide +kernel⟩, by decide⟩
theorem okX6_readLineRoom : jOK MX6_readLineRoom 1 := ⟨by decide, rfl, tsm (inT3 (List.mem_of_getElem? (i := 169) (by decide +kernel))) rfl, tsm (inT1 (List.mem_of_getElem? (i := 3) (by decide +kernel))) rfl, ⟨by decide +kernel, by decide +kernel, by decide +kernel⟩, by decide⟩
theorem okX6_readDotRoom : jOK MX6_readDotRoom 1 := ⟨by decide, rfl, tsm (inT3 (List.mem_of_getElem? (i := 179) (by decide +kernel))) rfl, tsm (inT1 (List.mem_of_getElem? (i := 3) (by decide +kernel))) rfl, ⟨by decide +kernel, by decide +kernel, by decide +kernel⟩, by decide⟩
theorem okX7_init : jOK MX7_init 0 := ⟨by decide, rfl, tsm (inT2 (List.mem_of_getElem? (i := 63) (by decide +kernel))) rfl, tsm (inT1 (List.mem_of_getElem? (i := 8) (by decide +kernel))) rfl, ⟨by decide +kernel, by decide +kernel, by decide +kernel⟩, by decide⟩
theorem okX7_findBest : jOK MX7_findBest 1 := ⟨by decide, rfl, tsm (inT5 (List.mem_of_getElem? (i := 19) (by decide +kernel))) rfl, tsm (inT1 (List.mem_of_getElem? (i := 8) (by decide +kernel))) rfl, ⟨by decide +kernel, by decide +kernel, by decide +kernel⟩, by decide⟩
theorem okX7_findBestWith : jOK MX7_findBestWith 2 := ⟨by decide, rfl, tsm (inT5 (List.mem_of_getElem? (i := 114) (by decide +kernel))) rfl, tsm (inT1 (List.mem_of_getElem? (i := 8) (by decide +kernel))) rfl, ⟨by decide +kernel, by decide +kernel, by decide +kernel⟩, by decide⟩
theorem okX7_mayBeIn : jOK MX7_mayBeIn 1 := ⟨by decide, rfl, tsm (inT5 (List.mem_of_getElem? (i := 27) (by decide +kernel))) rfl, tsm (inT1 (List.mem_of_getElem? (i := 8) (by decide +kernel))) rfl, ⟨by decide +kernel, by decide +kernel, by decide +kernel⟩, by decide⟩
theorem okX7_prepare : jOK MX7_prepare 1 := ⟨by decide, rfl, tsm (inT5 (List.mem_of_getElem? (i := 23) (by decide +kernel))) rfl, tsm (inT1 (List.mem_of_getElem? (i := 8) (by decide +kernel))) rfl, ⟨by decide +kernel, by decide +kernel, by decide +kernel⟩, by decide⟩
theorem okX7_start : jOK MX7_start 1 := ⟨by decide, rfl, tsm (inT5 (List.mem_of_getElem? (i := 47) (by decide +kernel))) rfl, tsm (inT1 (List.mem_of_getElem? (i := 8) (by decide +kernel))) rfl, ⟨by decide +kernel, by decide +kernel, by decide +kernel⟩, by decide⟩
theorem okX7_extend : jOK MX7_extend 5 := ⟨by decide, rfl, tsm (inT5 (List.mem_of_getElem? (i := 51) (by decide +kernel))) rfl, tsm (inT1 (List.mem_of_getElem? (i := 8) (by decide +kernel))) rfl, ⟨by decide +kernel, by decide +kernel, by decide +kernel⟩, by decide⟩
theorem okX7_isBetter : jOK MX7_isBetter 2 := ⟨by decide, rfl, tsm (inT5 (List.mem_of_getElem? (i := 55) (by decide +kernel))) rfl, tsm (inT1 (List.mem_of_getElem? (i := 8) (by decide +kernel))) rfl, ⟨by decide +kernel, by decide +kernel, by decide +kernel⟩, by decide⟩
theorem okX7_offer : jOK MX7_offer 3 := ⟨by decide, rfl, tsm (inT5 (List.mem_of_getElem? (i := 60) (by decide +kernel))) rfl, tsm (inT1 (List.mem_of_getElem? (i := 8) (by decide +kernel))) rfl, ⟨by decide +kernel, by decide +kernel, by decide +kernel⟩, by decide⟩
theorem okX8_init : jOK MX8_init 0 := ⟨by decide, rfl, tsm (inT2 (List.mem_of_getElem? (i := 196) (by decide +kernel))) rfl, tsm (inT1 (List.mem_of_getElem? (i := 11) (by decide +kernel))) rfl, ⟨by decide +kernel, by decide +kernel, by decide +kernel⟩, by decide⟩
theorem okX8_payments : jOK MX8_payments 1 := ⟨by decide, rfl, tsm (inT4 (List.mem_of_getElem? (i := 120) (by decide +kernel))) rfl, tsm (inT1 (List.mem_of_getElem? (i := 11) (by decide +kernel))) rfl, ⟨by decide +kernel, by decide +kernel, by decide +kernel⟩, by decide⟩
theorem okX9_init : jOK MX9_init 0 := ⟨by decide, rfl, tsm (inT1 (List.mem_of_getElem? (i := 33) (by decide +kernel))) rfl, tsm (inT1 (List.mem_of_getElem? (i := 2) (by decide +kernel))) rfl, ⟨by decide +kernel, by decide +kernel, by decide +kernel⟩, by decide⟩
theorem okX9_add : jOK MX9_add 1 := ⟨by decide, rfl, tsm (inT3 (List.mem_of_getElem? (i := 50) (by decide +kernel))) rfl, tsm (inT1 (List.mem_of_getElem? (i := 2) (by decide +kernel))) rfl, ⟨by decide +kernel, by decide +kernel, by decide +kernel⟩, by decide⟩
theorem okX9_byteOr : jOK MX9_byteOr 2 := ⟨by decide, rfl, tsm (inT3 (List.mem_of_getElem? (i := 78) (by decide +kernel))) rfl, tsm (inT1 (List.mem_of_getElem? (i := 2) (by decide +kernel))) rfl, ⟨by decide +kernel, by decide +kernel, by decide +kernel⟩, by decide⟩
theorem okX9_begin : jOK MX9_begin 0 := ⟨by decide, rfl, tsm (inT3 (List.mem_of_getElem? (i := 70) (by decide +kernel))) rfl, tsm (inT1 (List.mem_of_getElem? (i := 2) (by decide +kernel))) rfl, ⟨by decide +kernel, by decide +kernel, by decide +kernel⟩, by decide⟩
theorem okX9_refuse : jOK MX9_refuse 1 := ⟨by decide, rfl, tsm (inT3 (List.mem_of_getElem? (i := 106) (by decide +kernel))) rfl, tsm (inT1 (List.mem_of_getElem? (i := 2) (by decide +kernel))) rfl, ⟨by decide +kernel, by decide +kernel, by decide +kernel⟩, by decide⟩
theorem okX9_nextToken : jOK MX9_nextToken 0 := ⟨by decide, rfl, tsm (inT3 (List.mem_of_getElem? (i := 74) (by decide +kernel))) rfl, tsm (inT1 (List.mem_of_getElem? (i := 2) (by decide +kernel))) rfl, ⟨by decide +kernel, by decide +kernel, by decide +kernel⟩, by decide⟩
theorem okX9_readRun : jOK MX9_readRun 0 := ⟨by decide, rfl, tsm (inT3 (List.mem_of_getElem? (i := 94) (by decide +kernel))) rfl, tsm (inT1 (List.mem_of_getElem? (i := 2) (by decide +kernel))) rfl, ⟨by decide +kernel, by decide +kernel, by decide +kernel⟩, by decide⟩
theorem okX9_isBlank : jOK MX9_isBlank 1 := ⟨by decide, rfl, tsm (inT3 (List.mem_of_getElem? (i := 81) (by decide +kernel))) rfl, tsm (inT1 (List.mem_of_getElem? (i := 2) (by decide +kernel))) rfl, ⟨by decide +kernel, by decide +kernel, by decide +kernel⟩, by decide⟩
theorem okX9_isLetter : jOK MX9_isLetter 1 := ⟨by decide, rfl, tsm (inT3 (List.mem_of_getElem? (i := 87) (by decide +kernel))) rfl, tsm (inT1 (List.mem_of_getElem? (i := 2) (by decide +kernel))) rfl, ⟨by decide +kernel, by decide +kernel, by decide +kernel⟩, by decide⟩
theorem okX9_isDigit : jOK MX9_isDigit 1 := ⟨by decide, rfl, tsm (inT3 (List.mem_of_getElem? (i := 90) (by decide +kernel))) rfl, tsm (inT1 (List.mem_of_getElem? (i := 2) (by decide +kernel))) rfl, ⟨by decide +kernel, by decide +kernel, by decide +kernel⟩, by decide⟩
theorem okX9_isEnd : jOK MX9_isEnd 0 := ⟨by decide, rfl, tsm (inT3 (List.mem_of_getElem? (i := 98) (by decide +kernel))) rfl, tsm (inT1 (List.mem_of_getElem? (i := 2) (by decide +kernel))) rfl, ⟨by decide +kernel, by decide +kernel, by decide +kernel⟩, by decide⟩
theorem okX9_isAllRead : jOK MX9_isAllRead 0 := ⟨by decide, rfl, tsm (inT3 (List.mem_of_getElem? (i := 102) (by decide +kernel))) rfl, tsm (inT1 (List.mem_of_getElem? (i := 2) (by decide +kernel))) rfl, ⟨by decide +kernel, by decide +kernel, by decide +kernel⟩, by decide⟩
theorem okX9_isStop : jOK MX9_isStop 0 := ⟨by decide, rfl, tsm (inT3 (List.mem_of_getElem? (i := 152) (by decide +kernel))) rfl, tsm (inT1 (List.mem_of_getElem? (i := 2) (by decide +kernel))) rfl, ⟨by decide +kernel, by decide +kernel, by decide +kernel⟩, by decide⟩
theorem okX9_says : jOK MX9_says 1 := ⟨by decide, rfl, tsm (inT3 (List.mem_of_getElem? (i := 115) (by decide +kernel))) rfl, tsm (inT1 (List.mem_of_getElem? (i := 2) (by decide +kernel))) rfl, ⟨by decide +kernel, by decide +kernel, by decide +kernel⟩, by decide⟩
theorem okX9_isName : jOK MX9_isName 0 := ⟨by decide, rfl, tsm (inT3 (List.mem_of_getElem? (i := 129) (by decide +kernel))) rfl, tsm (inT1 (List.mem_of_getElem? (i := 2) (by decide +kernel))) rfl, ⟨by decide +kernel, by decide +kernel, by decide +kernel⟩, by decide⟩
theorem okX9_takeNewName : jOK MX9_takeNewName 1 := ⟨by decide, rfl, tsm (inT3 (List.mem_of_getElem? (i := 124) (by decide +kernel))) rfl, tsm (inT1 (List.mem_of_getElem? (i := 2) (by decide +kernel))) rfl, ⟨by decide +kernel, by decide +kernel, by decide +kernel⟩, by decide⟩
theorem okX9_takeBody : jOK MX9_takeBody 1 := ⟨by decide, rfl, tsm (inT3 (List.mem_of_getElem? (i := 148) (by decide +kernel))) rfl, tsm (inT1 (List.mem_of_getElem? (i := 2) (by decide +kernel))) rfl, ⟨by decide +kernel, by decide +kernel, by decide +kernel⟩, by decide⟩
theorem okX9_takeKind : jOK MX9_takeKind 1 := ⟨by decide, rfl, tsm (inT3 (List.mem_of_getElem? (i := 239) (by decide +kernel))) rfl, tsm (inT1 (List.mem_of_getElem? (i := 2) (by decide +kernel))) rfl, ⟨by decide +kernel, by decide +kernel, by decide +kernel⟩, by decide⟩
theorem okX9_takeNumber : jOK MX9_takeNumber 2 := ⟨by decide, rfl, tsm (inT3 (List.mem_of_getElem? (i := 143) (by decide +kernel))) rfl, tsm (inT1 (List.mem_of_getElem? (i := 2) (by decide +kernel))) rfl, ⟨by decide +kernel, by decide +kernel, by decide +kernel⟩, by decide⟩
theorem okX9_takeStop : jOK MX9_takeStop 0 := ⟨by decide, rfl, tsm (inT3 (List.mem_of_getElem? (i := 173) (by decide +kernel))) rfl, tsm (inT1 (List.mem_of_getElem? (i := 2) (by decide +kernel))) rfl, ⟨by decide +kernel, by decide +kernel, by decide +kernel⟩, by decide⟩
theorem okX10_init : jOK MX10_init 0 := ⟨by decide, rfl, tsm (inT2 (List.mem_of_getElem? (i := 212) (by decide +kernel))) rfl, tsm (inT1 (List.mem_of_getElem? (i := 12) (by decide +kernel))) rfl, ⟨by decide +kernel, by decide +kernel, by decide +kernel⟩, by decide⟩
theorem okX10_add : jOK MX10_add 1 := ⟨by decide, rfl, tsm (inT4 (List.mem_of_getElem? (i := 153) (by decide +kernel))) rfl, tsm (inT1 (List.mem_of_getElem? (i := 12) (by decide +kernel))) rfl, ⟨by decide +kernel, by decide +kernel, by decide +kernel⟩, by decide⟩
theorem okX10_addName : jOK MX10_addName 1 := ⟨by decide, rfl, tsm (inT4 (List.mem_of_getElem? (i := 157) (by decide +kernel))) rfl, tsm (inT1 (List.mem_of_getElem? (i := 12) (by decide +kernel))) rfl, ⟨by decide +kernel, by decide +kernel, by decide +kernel⟩, by decide⟩
theorem okX10_addNumber : jOK MX10_addNumber 1 := ⟨by decide, rfl, tsm (inT4 (List.mem_of_getElem? (i := 167) (by decide +kernel))) rfl, tsm (inT1 (List.mem_of_getElem? (i := 12) (by decide +kernel))) rfl, ⟨by decide +kernel, by decide +kernel, by decide +kernel⟩, by decide⟩
theorem okX10_at : jOK MX10_at 1 := ⟨by decide, rfl, tsm (inT4 (List.mem_of_getElem? (i := 175) (by decide +kernel))) rfl, tsm (inT1 (List.mem_of_getElem? (i := 12) (by decide +kernel))) rfl, ⟨by decide +kernel, by decide +kernel, by decide +kernel⟩, by decide⟩
theorem okX11_init : jOK MX11_init 0 := ⟨by decide, rfl, tsm (inT1 (List.mem_of_getElem? (i := 25) (by decide +kernel))) rfl, tsm (inT1 (List.mem_of_getElem? (i := 1) (by decide +kernel))) rfl, ⟨by decide +kernel, by decide +kernel, by decide +kernel⟩, by decide⟩
theorem okX11_feed : jOK MX11_feed 5 := ⟨by decide, rfl, tsm (inT3 (List.mem_of_getElem? (i := 46) (by decide +kernel))) rfl, tsm (inT1 (List.mem_of_getElem? (i := 1) (by decide +kernel))) rfl, ⟨by decide +kernel, by decide +kernel, by decide +kernel⟩, by decide⟩
theorem okX11_end : jOK MX11_end 1 := ⟨by decide, rfl, tsm (inT3 (List.mem_of_getElem? (i := 54) (by decide +kernel))) rfl, tsm (inT1 (List.mem_of_getElem? (i := 1) (by decide +kernel))) rfl, ⟨by decide +kernel, by decide +kernel, by decide +kernel⟩, by decide⟩
theorem okX11_port : jOK MX11_port 0 := ⟨by decide, rfl, tsm (inT3 (List.mem_of_getElem? (i := 58) (by decide +kernel))) rfl, tsm (inT1 (List.mem_of_getElem? (i := 1) (by decide +kernel))) rfl, ⟨by decide +kernel, by decide +kernel, by decide +kernel⟩, by decide⟩
theorem okX11_fault : jOK MX11_fault 0 := ⟨by decide, rfl, tsm (inT3 (List.mem_of_getElem? (i := 198) (by decide +kernel))) rfl, tsm (inT1 (List.mem_of_getElem? (i := 1) (by decide +kernel))) rfl, ⟨by decide +kernel, by decide +kernel, by decide +kernel⟩, by decide⟩
theorem okX11_book : jOK MX11_book 0 := ⟨by decide, rfl, tsm (inT3 (List.mem_of_getElem? (i := 202) (by decide +kernel))) rfl, tsm (inT1 (List.mem_of_getElem? (i := 1) (by decide +kernel))) rfl, ⟨by decide +kernel, by decide +kernel, by decide +kernel⟩, by decide⟩
theorem okX11_count : jOK MX11_count 1 := ⟨by decide, rfl, tsm (inT4 (List.mem_of_getElem? (i := 19) (by decide +kernel))) rfl, tsm (inT1 (List.mem_of_getElem? (i := 1) (by decide +kernel))) rfl, ⟨by decide +kernel, by decide +kernel, by decide +kernel⟩, by decide⟩
theorem okX11_body : jOK MX11_body 2 := ⟨by decide, rfl, tsm (inT6 (List.mem_of_getElem? (i := 98) (by decide +kernel))) rfl, tsm (inT1 (List.mem_of_getElem? (i := 1) (by decide +kernel))) rfl, ⟨by decide +kernel, by decide +kernel, by decide +kernel⟩, by decide⟩
theorem okX11_kind : jOK MX11_kind 2 := ⟨by decide, rfl, tsm (inT6 (List.mem_of_getElem? (i := 168) (by decide +kernel))) rfl, tsm (inT1 (List.mem_of_getElem? (i := 1) (by decide +kernel))) rfl, ⟨by decide +kernel, by decide +kernel, by decide +kernel⟩, by decide⟩
theorem okX11_deal : jOK MX11_deal 2 := ⟨by decide, rfl, tsm (inT6 (List.mem_of_getElem? (i := 175) (by decide +kernel))) rfl, tsm (inT1 (List.mem_of_getElem? (i := 1) (by decide +kernel))) rfl, ⟨by decide +kernel, by decide +kernel, by decide +kernel⟩, by decide⟩
theorem okX11_read : jOK MX11_read 2 := ⟨by decide, rfl, tsm (inT4 (List.mem_of_getElem? (i := 35) (by decide +kernel))) rfl, tsm (inT1 (List.mem_of_getElem? (i := 1) (by decide +kernel))) rfl, ⟨by decide +kernel, by decide +kernel, by decide +kernel⟩, by decide⟩
theorem okX11_mark : jOK MX11_mark 2 := ⟨by decide, rfl, tsm (inT4 (List.mem_of_getElem? (i := 60) (by decide +kernel))) rfl, tsm (inT1 (List.mem_of_getElem? (i := 1) (by decide +kernel))) rfl, ⟨by decide +kernel, by decide +kernel, by decide +kernel⟩, by decide⟩
theorem okX11_aged : jOK MX11_aged 2 := ⟨by decide, rfl, tsm (inT4 (List.mem_of_getElem? (i := 72) (by decide +kernel))) rfl, tsm (inT1 (List.mem_of_getElem? (i := 1) (by decide +kernel))) rfl, ⟨by decide +kernel, by decide +kernel, by decide +kernel⟩, by decide⟩
theorem okX11_owes : jOK MX11_owes 2 := ⟨by decide, rfl, tsm (inT4 (List.mem_of_getElem? (i := 79) (by decide +kernel))) rfl, tsm (inT1 (List.mem_of_getElem? (i := 1) (by decide +kernel))) rfl, ⟨by decide +kernel, by decide +kernel, by decide +kernel⟩, by decide⟩
theorem okX11_chain : jOK MX11_chain 2 := ⟨by decide, rfl, tsm (inT4 (List.mem_of_getElem? (i := 84) (by decide +kernel))) rfl, tsm (inT1 (List.mem_of_getElem? (i := 1) (by decide +kernel))) rfl, ⟨by decide +kernel, by decide +kernel, by decide +kernel⟩, by decide⟩
theorem okX11_fullest : jOK MX11_fullest 1 := ⟨by decide, rfl, tsm (inT4 (List.mem_of_getElem? (i := 96) (by decide +kernel))) rfl, tsm (inT1 (List.mem_of_getElem? (i := 1) (by decide +kernel))) rfl, ⟨by decide +kernel, by decide +kernel, by decide +kernel⟩, by decide⟩
theorem okX11_trade : jOK MX11_trade 2 := ⟨by decide, rfl, tsm (inT4 (List.mem_of_getElem? (i := 104) (by decide +kernel))) rfl, tsm (inT1 (List.mem_of_getElem? (i := 1) (by decide +kernel))) rfl, ⟨by decide +kernel, by decide +kernel, by decide +kernel⟩, by decide⟩
theorem okX11_settled : jOK MX11_settled 0 := ⟨by decide, rfl, tsm (inT4 (List.mem_of_getElem? (i := 116) (by decide +kernel))) rfl, tsm (inT1 (List.mem_of_getElem? (i := 1) (by decide +kernel))) rfl, ⟨by decide +kernel, by decide +kernel, by decide +kernel⟩, by decide⟩
theorem okX11_between : jOK MX11_between 3 := ⟨by decide, rfl, tsm (inT4 (List.mem_of_getElem? (i := 133) (by decide +kernel))) rfl, tsm (inT1 (List.mem_of_getElem? (i := 1) (by decide +kernel))) rfl, ⟨by decide +kernel, by decide +kernel, by decide +kernel⟩, by decide⟩
theorem okX11_greatest : jOK MX11_greatest 1 := ⟨by decide, rfl, tsm (inT4 (List.mem_of_getElem? (i := 137) (by decide +kernel))) rfl, tsm (inT1 (List.mem_of_getElem? (i := 1) (by decide +kernel))) rfl, ⟨by decide +kernel, by decide +kernel, by decide +kernel⟩, by decide⟩
theorem okX11_skin : jOK MX11_skin 1 := ⟨by decide, rfl, tsm (inT4 (List.mem_of_getElem? (i := 145) (by decide +kernel))) rfl, tsm (inT1 (List.mem_of_getElem? (i := 1) (by decide +kernel))) rfl, ⟨by decide +kernel, by decide +kernel, by decide +kernel⟩, by decide⟩
theorem okX11_addMark : jOK MX11_addMark 2 := ⟨by decide, rfl, tsm (inT4 (List.mem_of_getElem? (i := 149) (by decide +kernel))) rfl, tsm (inT1 (List.mem_of_getElem? (i := 1) (by decide +kernel))) rfl, ⟨by decide +kernel, by decide +kernel, by decide +kernel⟩, by decide⟩
theorem okX11_byteAt : jOK MX11_byteAt 1 := ⟨by decide, rfl, tsm (inT4 (List.mem_of_getElem? (i := 171) (by decide +kernel))) rfl, tsm (inT1 (List.mem_of_getElem? (i := 1) (by decide +kernel))) rfl, ⟨by decide +kernel, by decide +kernel, by decide +kernel⟩, by decide⟩
theorem okX11_write : jOK MX11_write 4 := ⟨by decide, rfl, tsm (inT4 (List.mem_of_getElem? (i := 179) (by decide +kernel))) rfl, tsm (inT1 (List.mem_of_getElem? (i := 1) (by decide +kernel))) rfl, ⟨by decide +kernel, by decide +kernel, by decide +kernel⟩, by decide⟩
theorem okX11_strike : jOK MX11_strike 1 := ⟨by decide, rfl, tsm (inT4 (List.mem_of_getElem? (i := 222) (by decide +kernel))) rfl, tsm (inT1 (List.mem_of_getElem? (i := 1) (by decide +kernel))) rfl, ⟨by decide +kernel, by decide +kernel, by decide +kernel⟩, by decide⟩
theorem okX11_scar : jOK MX11_scar 2 := ⟨by decide, rfl, tsm (inT5 (List.mem_of_getElem? (i := 2) (by decide +kernel))) rfl, tsm (inT1 (List.mem_of_getElem? (i := 1) (by decide +kernel))) rfl, ⟨by decide +kernel, by decide +kernel, by decide +kernel⟩, by decide⟩
theorem okX11_cut : jOK MX11_cut 0 := ⟨by decide, rfl, tsm (inT5 (List.mem_of_getElem? (i := 11) (by decide +kernel))) rfl, tsm (inT1 (List.mem_of_getElem? (i := 1) (by decide +kernel))) rfl, ⟨by decide +kernel, by decide +kernel, by decide +kernel⟩, by decide⟩
theorem okX11_dies : jOK MX11_dies 2 := ⟨by decide, rfl, tsm (inT5 (List.mem_of_getElem? (i := 73) (by decide +kernel))) rfl, tsm (inT1 (List.mem_of_getElem? (i := 1) (by decide +kernel))) rfl, ⟨by decide +kernel, by decide +kernel, by decide +kernel⟩, by decide⟩
theorem okX11_year : jOK MX11_year 0 := ⟨by decide, rfl, tsm (inT5 (List.mem_of_getElem? (i := 85) (by decide +kernel))) rfl, tsm (inT1 (List.mem_of_getElem? (i := 1) (by decide +kernel))) rfl, ⟨by decide +kernel, by decide +kernel, by decide +kernel⟩, by decide⟩
theorem okX11_undo : jOK MX11_undo 0 := ⟨by decide, rfl, tsm (inT5 (List.mem_of_getElem? (i := 93) (by decide +kernel))) rfl, tsm (inT1 (List.mem_of_getElem? (i := 1) (by decide +kernel))) rfl, ⟨by decide +kernel, by decide +kernel, by decide +kernel⟩, by decide⟩
theorem okX11_ring : jOK MX11_ring 0 := ⟨by decide, rfl, tsm (inT5 (List.mem_of_getElem? (i := 101) (by decide +kernel))) rfl, tsm (inT1 (List.mem_of_getElem? (i := 1) (by decide +kernel))) rfl, ⟨by decide +kernel, by decide +kernel, by decide +kernel⟩, by decide⟩
theorem okX11_ringAt : jOK MX11_ringAt 1 := ⟨by decide, rfl, tsm (inT5 (List.mem_of_getElem? (i := 106) (by decide +kernel))) rfl, tsm (inT1 (List.mem_of_getElem? (i := 1) (by decide +kernel))) rfl, ⟨by decide +kernel, by decide +kernel, by decide +kernel⟩, by decide⟩
theorem okX11_ringOf : jOK MX11_ringOf 1 := ⟨by decide, rfl, tsm (inT5 (List.mem_of_getElem? (i := 110) (by decide +kernel))) rfl, tsm (inT1 (List.mem_of_getElem? (i := 1) (by decide +kernel))) rfl, ⟨by decide +kernel, by decide +kernel, by decide +kernel⟩, by decide⟩
theorem okX11_can : jOK MX11_can 2 := ⟨by decide, rfl, tsm (inT5 (List.mem_of_getElem? (i := 118) (by decide +kernel))) rfl, tsm (inT1 (List.mem_of_getElem? (i := 1) (by decide +kernel))) rfl, ⟨by decide +kernel, by decide +kernel, by decide +kernel⟩, by decide⟩
theorem okX11_ringsFor : jOK MX11_ringsFor 3 := ⟨by decide, rfl, tsm (inT5 (List.mem_of_getElem? (i := 124) (by decide +kernel))) rfl, tsm (inT1 (List.mem_of_getElem? (i := 1) (by decide +kernel))) rfl, ⟨by decide +kernel, by decide +kernel, by decide +kernel⟩, by decide⟩
theorem okX11_judge : jOK MX11_judge 1 := ⟨by decide, rfl, tsm (inT5 (List.mem_of_getElem? (i := 129) (by decide +kernel))) rfl, tsm (inT1 (List.mem_of_getElem? (i := 1) (by decide +kernel))) rfl, ⟨by decide +kernel, by decide +kernel, by decide +kernel⟩, by decide⟩
theorem okX11_judged : jOK MX11_judged 1 := ⟨by decide, rfl, tsm (inT5 (List.mem_of_getElem? (i := 147) (by decide +kernel))) rfl, tsm (inT1 (List.mem_of_getElem? (i := 1) (by decide +kernel))) rfl, ⟨by decide +kernel, by decide +kernel, by decide +kernel⟩, by decide⟩
theorem okX11_lasts : jOK MX11_lasts 2 := ⟨by decide, rfl, tsm (inT5 (List.mem_of_getElem? (i := 151) (by decide +kernel))) rfl, tsm (inT1 (List.mem_of_getElem? (i := 1) (by decide +kernel))) rfl, ⟨by decide +kernel, by decide +kernel, by decide +kernel⟩, by decide⟩
theorem okX11_nextSeed : jOK MX11_nextSeed 1 := ⟨by decide, rfl, tsm (inT5 (List.mem_of_getElem? (i := 154) (by decide +kernel))) rfl, tsm (inT1 (List.mem_of_getElem? (i := 1) (by decide +kernel))) rfl, ⟨by decide +kernel, by decide +kernel, by decide +kernel⟩, by decide⟩
theorem okX11_drawn : jOK MX11_drawn 2 := ⟨by decide, rfl, tsm (inT5 (List.mem_of_getElem? (i := 158) (by decide +kernel))) rfl, tsm (inT1 (List.mem_of_getElem? (i := 1) (by decide +kernel))) rfl, ⟨by decide +kernel, by decide +kernel, by decide +kernel⟩, by decide⟩
theorem okX11_pack : jOK MX11_pack 0 := ⟨by decide, rfl, tsm (inT5 (List.mem_of_getElem? (i := 166) (by decide +kernel))) rfl, tsm (inT1 (List.mem_of_getElem? (i := 1) (by decide +kernel))) rfl, ⟨by decide +kernel, by decide +kernel, by decide +kernel⟩, by decide⟩
theorem okX11_packed : jOK MX11_packed 1 := ⟨by decide, rfl, tsm (inT5 (List.mem_of_getElem? (i := 198) (by decide +kernel))) rfl, tsm (inT1 (List.mem_of_getElem? (i := 1) (by decide +kernel))) rfl, ⟨by decide +kernel, by decide +kernel, by decide +kernel⟩, by decide⟩
theorem okX11_price : jOK MX11_price 2 := ⟨by decide, rfl, tsm (inT5 (List.mem_of_getElem? (i := 206) (by decide +kernel))) rfl, tsm (inT1 (List.mem_of_getElem? (i := 1) (by decide +kernel))) rfl, ⟨by decide +kernel, by decide +kernel, by decide +kernel⟩, by decide⟩
theorem okX11_lost : jOK MX11_lost 1 := ⟨by decide, rfl, tsm (inT5 (List.mem_of_getElem? (i := 214) (by decide +kernel))) rfl, tsm (inT1 (List.mem_of_getElem? (i := 1) (by decide +kernel))) rfl, ⟨by decide +kernel, by decide +kernel, by decide +kernel⟩, by decide⟩
theorem okX11_fits : jOK MX11_fits 1 := ⟨by decide, rfl, tsm (inT5 (List.mem_of_getElem? (i := 226) (by decide +kernel))) rfl, tsm (inT1 (List.mem_of_getElem? (i := 1) (by decide +kernel))) rfl, ⟨by decide +kernel, by decide +kernel, by decide +kernel⟩, by decide⟩
theorem okX11_fit : jOK MX11_fit 2 := ⟨by decide, rfl, tsm (inT6 (List.mem_of_getElem? (i := 26) (by decide +kernel))) rfl, tsm (inT1 (List.mem_of_getElem? (i := 1) (by decide +kernel))) rfl, ⟨by decide +kernel, by decide +kernel, by decide +kernel⟩, by decide⟩
theorem okX11_owed : jOK MX11_owed 3 := ⟨by decide, rfl, tsm (inT6 (List.mem_of_getElem? (i := 34) (by decide +kernel))) rfl, tsm (inT1 (List.mem_of_getElem? (i := 1) (by decide +kernel))) rfl, ⟨by decide +kernel, by decide +kernel, by decide +kernel⟩, by decide⟩
theorem okX11_proof : jOK MX11_proof 1 := ⟨by decide, rfl, tsm (inT6 (List.mem_of_getElem? (i := 59) (by decide +kernel))) rfl, tsm (inT1 (List.mem_of_getElem? (i := 1) (by decide +kernel))) rfl, ⟨by decide +kernel, by decide +kernel, by decide +kernel⟩, by decide⟩
theorem okX11_witness : jOK MX11_witness 1 := ⟨by decide, rfl, tsm (inT6 (List.mem_of_getElem? (i := 69) (by decide +kernel))) rfl, tsm (inT1 (List.mem_of_getElem? (i := 1) (by decide +kernel))) rfl, ⟨by decide +kernel, by decide +kernel, by decide +kernel⟩, by decide⟩
theorem okX11_image : jOK MX11_image 1 := ⟨by decide, rfl, tsm (inT6 (List.mem_of_getElem? (i := 75) (by decide +kernel))) rfl, tsm (inT1 (List.mem_of_getElem? (i := 1) (by decide +kernel))) rfl, ⟨by decide +kernel, by decide +kernel, by decide +kernel⟩, by decide⟩
theorem okX11_restore : jOK MX11_restore 1 := ⟨by decide, rfl, tsm (inT6 (List.mem_of_getElem? (i := 86) (by decide +kernel))) rfl, tsm (inT1 (List.mem_of_getElem? (i := 1) (by decide +kernel))) rfl, ⟨by decide +kernel, by decide +kernel, by decide +kernel⟩, by decide⟩
theorem okX11_isSide : jOK MX11_isSide 1 := ⟨by decide, rfl, tsm (inT4 (List.mem_of_getElem? (i := 39) (by decide +kernel))) rfl, tsm (inT1 (List.mem_of_getElem? (i := 1) (by decide +kernel))) rfl, ⟨by decide +kernel, by decide +kernel, by decide +kernel⟩, by decide⟩
theorem okX11_isYear : jOK MX11_isYear 1 := ⟨by decide, rfl, tsm (inT4 (List.mem_of_getElem? (i := 75) (by decide +kernel))) rfl, tsm (inT1 (List.mem_of_getElem? (i := 1) (by decide +kernel))) rfl, ⟨by decide +kernel, by decide +kernel, by decide +kernel⟩, by decide⟩
theorem okX11_isIn : jOK MX11_isIn 2 := ⟨by decide, rfl, tsm (inT4 (List.mem_of_getElem? (i := 87) (by decide +kernel))) rfl, tsm (inT1 (List.mem_of_getElem? (i := 1) (by decide +kernel))) rfl, ⟨by decide +kernel, by decide +kernel, by decide +kernel⟩, by decide⟩
theorem okX12_thrown : jOK MX12_thrown 0 := ⟨by decide, rfl, tsm (inT6 (List.mem_of_getElem? (i := 180) (by decide +kernel))) rfl, tsm (inT1 (List.mem_of_getElem? (i := 13) (by decide +kernel))) rfl, ⟨by decide +kernel, by decide +kernel, by decide +kernel⟩, by decide⟩
theorem okX12_throwsIf : jOK MX12_throwsIf 1 := ⟨by decide, rfl, tsm (inT7 (List.mem_of_getElem? (i := 233) (by decide +kernel))) rfl, tsm (inT1 (List.mem_of_getElem? (i := 13) (by decide +kernel))) rfl, ⟨by decide +kernel, by decide +kernel, by decide +kernel⟩, by decide⟩
theorem okX12_feed : jOK MX12_feed 5 := ⟨by decide, rfl, tsm (inT6 (List.mem_of_getElem? (i := 184) (by decide +kernel))) rfl, tsm (inT1 (List.mem_of_getElem? (i := 13) (by decide +kernel))) rfl, ⟨by decide +kernel, by decide +kernel, by decide +kernel⟩, by decide⟩
theorem okX12_four : jOK MX12_four 1 := ⟨by decide, rfl, tsm (inT6 (List.mem_of_getElem? (i := 189) (by decide +kernel))) rfl, tsm (inT1 (List.mem_of_getElem? (i := 13) (by decide +kernel))) rfl, ⟨by decide +kernel, by decide +kernel, by decide +kernel⟩, by decide⟩
theorem okX12_end : jOK MX12_end 1 := ⟨by decide, rfl, tsm (inT6 (List.mem_of_getElem? (i := 193) (by decide +kernel))) rfl, tsm (inT1 (List.mem_of_getElem? (i := 13) (by decide +kernel))) rfl, ⟨by decide +kernel, by decide +kernel, by decide +kernel⟩, by decide⟩
theorem okX12_taken : jOK MX12_taken 1 := ⟨by decide, rfl, tsm (inT7 (List.mem_of_getElem? (i := 160) (by decide +kernel))) rfl, tsm (inT1 (List.mem_of_getElem? (i := 13) (by decide +kernel))) rfl, ⟨by decide +kernel, by decide +kernel, by decide +kernel⟩, by decide⟩
theorem okX12_isIn : jOK MX12_isIn 3 := ⟨by decide, rfl, tsm (inT7 (List.mem_of_getElem? (i := 205) (by decide +kernel))) rfl, tsm (inT1 (List.mem_of_getElem? (i := 13) (by decide +kernel))) rfl, ⟨by decide +kernel, by decide +kernel, by decide +kernel⟩, by decide⟩
theorem okX12_has : jOK MX12_has 2 := ⟨by decide, rfl, tsm (inT8 (List.mem_of_getElem? (i := 0) (by decide +kernel))) rfl, tsm (inT1 (List.mem_of_getElem? (i := 13) (by decide +kernel))) rfl, ⟨by decide +kernel, by decide +kernel, by decide +kernel⟩, by decide⟩
theorem okX12_bits : jOK MX12_bits 1 := ⟨by decide, rfl, tsm (inT9 (List.mem_of_getElem? (i := 113) (by decide +kernel))) rfl, tsm (inT1 (List.mem_of_getElem? (i := 13) (by decide +kernel))) rfl, ⟨by decide +kernel, by decide +kernel, by decide +kernel⟩, by decide⟩
theorem okX12_octet : jOK MX12_octet 1 := ⟨by decide, rfl, tsm (inT9 (List.mem_of_getElem? (i := 50) (by decide +kernel))) rfl, tsm (inT1 (List.mem_of_getElem? (i := 13) (by decide +kernel))) rfl, ⟨by decide +kernel, by decide +kernel, by decide +kernel⟩, by decide⟩
theorem okX12_init : jOK MX12_init 0 := ⟨by decide, rfl, tsm (inT6 (List.mem_of_getElem? (i := 197) (by decide +kernel))) rfl, tsm (inT1 (List.mem_of_getElem? (i := 13) (by decide +kernel))) rfl, ⟨by decide +kernel, by decide +kernel, by decide +kernel⟩, by decide⟩
theorem okX12_peek : jOK MX12_peek 0 := ⟨by decide, rfl, tsm (inT7 (List.mem_of_getElem? (i := 168) (by decide +kernel))) rfl, tsm (inT1 (List.mem_of_getElem? (i := 13) (by decide +kernel))) rfl, ⟨by decide +kernel, by decide +kernel, by decide +kernel⟩, by decide⟩
theorem okX12_isSmall : jOK MX12_isSmall 1 := ⟨by decide, rfl, tsm (inT7 (List.mem_of_getElem? (i := 171) (by decide +kernel))) rfl, tsm (inT1 (List.mem_of_getElem? (i := 13) (by decide +kernel))) rfl, ⟨by decide +kernel, by decide +kernel, by decide +kernel⟩, by decide⟩
theorem okX12_isDigit : jOK MX12_isDigit 1 := ⟨by decide, rfl, tsm (inT7 (List.mem_of_getElem? (i := 174) (by decide +kernel))) rfl, tsm (inT1 (List.mem_of_getElem? (i := 13) (by decide +kernel))) rfl, ⟨by decide +kernel, by decide +kernel, by decide +kernel⟩, by decide⟩
