theorem tsm {w : Cond} (h : w ∈ lw_tbl) (g : goodWord w = true) : w ∈ TS := List.mem_filter.mpr ⟨h, g⟩
theorem inP {w : Cond} (h : w ∈ k2_sels lw_privs) : w ∈ lw_tbl := List.mem_append_left _ h
theorem inT1 {w : Cond} (h : w ∈ tables_1_1) : w ∈ lw_tbl := List.mem_append_right _ (by show w ∈ tables_1; exact (List.mem_append_left _ h))
theorem inT2 {w : Cond} (h : w ∈ tables_1_2) : w ∈ lw_tbl := List.mem_append_right _ (by show w ∈ tables_1; exact (List.mem_append_right _ (List.mem_append_left _ h)))
theorem inT3 {w : Cond} (h : w ∈ tables_1_3) : w ∈ lw_tbl := List.mem_append_right _ (by show w ∈ tables_1; exact (List.mem_append_right _ (List.mem_append_right _ (List.mem_append_left _ h))))
theorem inT4 {w : Cond} (h : w ∈ tables_1_4) : w ∈ lw_tbl := List.mem_append_right _ (by show w ∈ tables_1; exact (List.mem_append_right _ (List.mem_append_right _ (List.mem_append_right _ (List.mem_append_left _ h)))))
theorem inT5 {w : Cond} (h : w ∈ tables_1_5) : w ∈ lw_tbl := List.mem_append_right _ (by show w ∈ tables_1; exact (List.mem_append_right _ (List.mem_append_right _ (List.mem_append_right _ (List.mem_append_right _ (List.mem_append_left _ h))))))
theorem inT6 {w : Cond} (h : w ∈ tables_1_6) : w ∈ lw_tbl := List.mem_append_right _ (by show w ∈ tables_1; exact (List.mem_append_right _ (List.mem_append_right _ (List.mem_append_right _ (List.mem_append_right _ (List.mem_append_right _ (List.mem_append_left _ h)))))))
theorem inT7 {w : Cond} (h : w ∈ tables_1_7) : w ∈ lw_tbl := List.mem_append_right _ (by show w ∈ tables_1; exact (List.mem_append_right _ (List.mem_append_right _ (List.mem_append_right _ (List.mem_append_right _ (List.mem_append_right _ (List.mem_append_right _ (List.mem_append_left _ h))))))))
theorem inT8 {w : Cond} (h : w ∈ tables_1_8) : w ∈ lw_tbl := List.mem_append_right _ (by show w ∈ tables_1; exact (List.mem_append_right _ (List.mem_append_right _ (List.mem_append_right _ (List.mem_append_right _ (List.mem_append_right _ (List.mem_append_right _ (List.mem_append_right _ (List.mem_append_left _ h)))))))))
theorem inT9 {w : Cond} (h : w ∈ tables_1_9) : w ∈ lw_tbl := List.mem_append_right _ (by show w ∈ tables_1; exact (List.mem_append_right _ (List.mem_append_right _ (List.mem_append_right _ (List.mem_append_right _ (List.mem_append_right _ (List.mem_append_right _ (List.mem_append_right _ (List.mem_append_right _ h)))))))))
abbrev MX0_init : MT := (RX0, yX0_init, cX0_init, 1, none)
theorem okX0_init : jOK MX0_init 0 := ⟨by decide, rfl, tsm (inT1 (List.mem_of_getElem? (i := 155) rfl)) rfl, tsm (inT1 (List.mem_of_getElem? (i := 4) rfl)) rfl, ⟨by decide +kernel, by decide +kernel, by decide +kernel⟩, by decide⟩
abbrev MX0_copyFrom : MT := (RX0, yX0_copyFrom, cX0_copyFrom, 2, none)
theorem okX0_copyFrom : jOK MX0_copyFrom 1 := ⟨by decide, rfl, tsm (inT4 (List.mem_of_getElem? (i := 14) rfl)) rfl, tsm (inT1 (List.mem_of_getElem? (i := 4) rfl)) rfl, ⟨by decide +kernel, by decide +kernel, by decide +kernel⟩, by decide⟩
abbrev MX0_readFrom : MT := (RX0, yX0_readFrom, cX0_readFrom, 5, some .boolean)
theorem okX0_readFrom : jOK MX0_readFrom 2 := ⟨by decide, rfl, tsm (inT3 (List.mem_of_getElem? (i := 206) rfl)) rfl, tsm (inT1 (List.mem_of_getElem? (i := 4) rfl)) rfl, ⟨by decide +kernel, by decide +kernel, by decide +kernel⟩, by decide⟩
abbrev MX0_actTold : MT := (RX0, yX0_actTold, cX0_actTold, 1, some .int)
theorem okX0_actTold : jOK MX0_actTold 1 := ⟨by decide, rfl, tsm (inT3 (List.mem_of_getElem? (i := 213) rfl)) rfl, tsm (inT1 (List.mem_of_getElem? (i := 4) rfl)) rfl, ⟨by decide +kernel, by decide +kernel, by decide +kernel⟩, by decide⟩
abbrev MX0_readRest : MT := (RX0, yX0_readRest, cX0_readRest, 4, some .boolean)
theorem okX0_readRest : jOK MX0_readRest 3 := ⟨by decide, rfl, tsm (inT3 (List.mem_of_getElem? (i := 225) rfl)) rfl, tsm (inT1 (List.mem_of_getElem? (i := 4) rfl)) rfl, ⟨by decide +kernel, by decide +kernel, by decide +kernel⟩, by decide⟩
abbrev MX0_readTwoBodies : MT := (RX0, yX0_readTwoBodies, cX0_readTwoBodies, 3, some .boolean)
theorem okX0_readTwoBodies : jOK MX0_readTwoBodies 2 := ⟨by decide, rfl, tsm (inT3 (List.mem_of_getElem? (i := 229) rfl)) rfl, tsm (inT1 (List.mem_of_getElem? (i := 4) rfl)) rfl, ⟨by decide +kernel, by decide +kernel, by decide +kernel⟩, by decide⟩
abbrev MX0_readSumAndKind : MT := (RX0, yX0_readSumAndKind, cX0_readSumAndKind, 3, some .boolean)
theorem okX0_readSumAndKind : jOK MX0_readSumAndKind 2 := ⟨by decide, rfl, tsm (inT3 (List.mem_of_getElem? (i := 234) rfl)) rfl, tsm (inT1 (List.mem_of_getElem? (i := 4) rfl)) rfl, ⟨by decide +kernel, by decide +kernel, by decide +kernel⟩, by decide⟩
abbrev MX0_readDeal : MT := (RX0, yX0_readDeal, cX0_readDeal, 2, some .boolean)
theorem okX0_readDeal : jOK MX0_readDeal 1 := ⟨by decide, rfl, tsm (inT4 (List.mem_of_getElem? (i := 3) rfl)) rfl, tsm (inT1 (List.mem_of_getElem? (i := 4) rfl)) rfl, ⟨by decide +kernel, by decide +kernel, by decide +kernel⟩, by decide⟩
abbrev MX0_readSide : MT := (RX0, yX0_readSide, cX0_readSide, 2, some .boolean)
theorem okX0_readSide : jOK MX0_readSide 1 := ⟨by decide, rfl, tsm (inT4 (List.mem_of_getElem? (i := 7) rfl)) rfl, tsm (inT1 (List.mem_of_getElem? (i := 4) rfl)) rfl, ⟨by decide +kernel, by decide +kernel, by decide +kernel⟩, by decide⟩
abbrev MX0_tryLine : MT := (RX0, yX0_tryLine, cX0_tryLine, 4, some .int)
theorem okX0_tryLine : jOK MX0_tryLine 3 := ⟨by decide, rfl, tsm (inT5 (List.mem_of_getElem? (i := 133) rfl)) rfl, tsm (inT1 (List.mem_of_getElem? (i := 4) rfl)) rfl, ⟨by decide +kernel, by decide +kernel, by decide +kernel⟩, by decide⟩
abbrev MX1_init : MT := (RX1, yX1_init, cX1_init, 1, none)
theorem okX1_init : jOK MX1_init 0 := ⟨by decide, rfl, tsm (inT2 (List.mem_of_getElem? (i := 153) rfl)) rfl, tsm (inT1 (List.mem_of_getElem? (i := 10) rfl)) rfl, ⟨by decide +kernel, by decide +kernel, by decide +kernel⟩, by decide⟩
abbrev MX1_take : MT := (RX1, yX1_take, cX1_take, 6, some .boolean)
theorem okX1_take : jOK MX1_take 2 := ⟨by decide, rfl, tsm (inT5 (List.mem_of_getElem? (i := 230) rfl)) rfl, tsm (inT1 (List.mem_of_getElem? (i := 10) rfl)) rfl, ⟨by decide +kernel, by decide +kernel, by decide +kernel⟩, by decide⟩
abbrev MX1_findLost : MT := (RX1, yX1_findLost, cX1_findLost, 2, some .boolean)
theorem okX1_findLost : jOK MX1_findLost 0 := ⟨by decide, rfl, tsm (inT5 (List.mem_of_getElem? (i := 234) rfl)) rfl, tsm (inT1 (List.mem_of_getElem? (i := 10) rfl)) rfl, ⟨by decide +kernel, by decide +kernel, by decide +kernel⟩, by decide⟩
abbrev MX1_findNeeded : MT := (RX1, yX1_findNeeded, cX1_findNeeded, 5, none)
theorem okX1_findNeeded : jOK MX1_findNeeded 2 := ⟨by decide, rfl, tsm (inT6 (List.mem_of_getElem? (i := 0) rfl)) rfl, tsm (inT1 (List.mem_of_getElem? (i := 10) rfl)) rfl, ⟨by decide +kernel, by decide +kernel, by decide +kernel⟩, by decide⟩
abbrev MX1_search : MT := (RX1, yX1_search, cX1_search, 2, some .int)
theorem okX1_search : jOK MX1_search 1 := ⟨by decide, rfl, tsm (inT6 (List.mem_of_getElem? (i := 7) rfl)) rfl, tsm (inT1 (List.mem_of_getElem? (i := 10) rfl)) rfl, ⟨by decide +kernel, by decide +kernel, by decide +kernel⟩, by decide⟩
abbrev MX1_tryFrom : MT := (RX1, yX1_tryFrom, cX1_tryFrom, 9, none)
theorem okX1_tryFrom : jOK MX1_tryFrom 1 := ⟨by decide, rfl, tsm (inT6 (List.mem_of_getElem? (i := 11) rfl)) rfl, tsm (inT1 (List.mem_of_getElem? (i := 10) rfl)) rfl, ⟨by decide +kernel, by decide +kernel, by decide +kernel⟩, by decide⟩
abbrev MX1_aboutSum : MT := (RX1, yX1_aboutSum, cX1_aboutSum, 3, some .int)
theorem okX1_aboutSum : jOK MX1_aboutSum 2 := ⟨by decide, rfl, tsm (inT6 (List.mem_of_getElem? (i := 21) rfl)) rfl, tsm (inT1 (List.mem_of_getElem? (i := 10) rfl)) rfl, ⟨by decide +kernel, by decide +kernel, by decide +kernel⟩, by decide⟩
abbrev MX1_noteWay : MT := (RX1, yX1_noteWay, cX1_noteWay, 2, none)
theorem okX1_noteWay : jOK MX1_noteWay 0 := ⟨by decide, rfl, tsm (inT6 (List.mem_of_getElem? (i := 15) rfl)) rfl, tsm (inT1 (List.mem_of_getElem? (i := 10) rfl)) rfl, ⟨by decide +kernel, by decide +kernel, by decide +kernel⟩, by decide⟩
abbrev MX1_told : MT := (RX1, yX1_told, cX1_told, 3, some .int)
theorem okX1_told : jOK MX1_told 2 := ⟨by decide, rfl, tsm (inT6 (List.mem_of_getElem? (i := 30) rfl)) rfl, tsm (inT1 (List.mem_of_getElem? (i := 10) rfl)) rfl, ⟨by decide +kernel, by decide +kernel, by decide +kernel⟩, by decide⟩
abbrev MX2_init : MT := (RX2, yX2_init, cX2_init, 3, none)
theorem okX2_init : jOK MX2_init 1 := ⟨by decide, rfl, tsm (inT2 (List.mem_of_getElem? (i := 17) rfl)) rfl, tsm (inT1 (List.mem_of_getElem? (i := 6) rfl)) rfl, ⟨by decide +kernel, by decide +kernel, by decide +kernel⟩, by decide⟩
abbrev MX2_forget : MT := (RX2, yX2_forget, cX2_forget, 1, none)
theorem okX2_forget : jOK MX2_forget 0 := ⟨by decide, rfl, tsm (inT3 (List.mem_of_getElem? (i := 194) rfl)) rfl, tsm (inT1 (List.mem_of_getElem? (i := 6) rfl)) rfl, ⟨by decide +kernel, by decide +kernel, by decide +kernel⟩, by decide⟩
abbrev MX2_note : MT := (RX2, yX2_note, cX2_note, 2, none)
theorem okX2_note : jOK MX2_note 1 := ⟨by decide, rfl, tsm (inT4 (List.mem_of_getElem? (i := 192) rfl)) rfl, tsm (inT1 (List.mem_of_getElem? (i := 6) rfl)) rfl, ⟨by decide +kernel, by decide +kernel, by decide +kernel⟩, by decide⟩
abbrev MX2_keepNoted : MT := (RX2, yX2_keepNoted, cX2_keepNoted, 1, none)
theorem okX2_keepNoted : jOK MX2_keepNoted 0 := ⟨by decide, rfl, tsm (inT4 (List.mem_of_getElem? (i := 217) rfl)) rfl, tsm (inT1 (List.mem_of_getElem? (i := 6) rfl)) rfl, ⟨by decide +kernel, by decide +kernel, by decide +kernel⟩, by decide⟩
abbrev MX2_takeBack : MT := (RX2, yX2_takeBack, cX2_takeBack, 2, some .int)
theorem okX2_takeBack : jOK MX2_takeBack 1 := ⟨by decide, rfl, tsm (inT5 (List.mem_of_getElem? (i := 97) rfl)) rfl, tsm (inT1 (List.mem_of_getElem? (i := 6) rfl)) rfl, ⟨by decide +kernel, by decide +kernel, by decide +kernel⟩, by decide⟩
abbrev MX3_init : MT := (RX3, yX3_init, cX3_init, 1, none)
theorem okX3_init : jOK MX3_init 0 := ⟨by decide, rfl, tsm (inT2 (List.mem_of_getElem? (i := 37) rfl)) rfl, tsm (inT1 (List.mem_of_getElem? (i := 7) rfl)) rfl, ⟨by decide +kernel, by decide +kernel, by decide +kernel⟩, by decide⟩
abbrev MX3_keep : MT := (RX3, yX3_keep, cX3_keep, 4, none)
theorem okX3_keep : jOK MX3_keep 3 := ⟨by decide, rfl, tsm (inT6 (List.mem_of_getElem? (i := 79) rfl)) rfl, tsm (inT1 (List.mem_of_getElem? (i := 7) rfl)) rfl, ⟨by decide +kernel, by decide +kernel, by decide +kernel⟩, by decide⟩
abbrev MX3_bringBack : MT := (RX3, yX3_bringBack, cX3_bringBack, 4, none)
theorem okX3_bringBack : jOK MX3_bringBack 3 := ⟨by decide, rfl, tsm (inT6 (List.mem_of_getElem? (i := 90) rfl)) rfl, tsm (inT1 (List.mem_of_getElem? (i := 7) rfl)) rfl, ⟨by decide +kernel, by decide +kernel, by decide +kernel⟩, by decide⟩
abbrev MX4_init : MT := (RX4, yX4_init, cX4_init, 2, none)
theorem okX4_init : jOK MX4_init 1 := ⟨by decide, rfl, tsm (inT1 (List.mem_of_getElem? (i := 181) rfl)) rfl, tsm (inT1 (List.mem_of_getElem? (i := 5) rfl)) rfl, ⟨by decide +kernel, by decide +kernel, by decide +kernel⟩, by decide⟩
abbrev MX4_begin : MT := (RX4, yX4_begin, cX4_begin, 2, none)
theorem okX4_begin : jOK MX4_begin 0 := ⟨by decide, rfl, tsm (inT3 (List.mem_of_getElem? (i := 190) rfl)) rfl, tsm (inT1 (List.mem_of_getElem? (i := 5) rfl)) rfl, ⟨by decide +kernel, by decide +kernel, by decide +kernel⟩, by decide⟩
abbrev MX4_copyFrom : MT := (RX4, yX4_copyFrom, cX4_copyFrom, 3, none)
theorem okX4_copyFrom : jOK MX4_copyFrom 1 := ⟨by decide, rfl, tsm (inT4 (List.mem_of_getElem? (i := 196) rfl)) rfl, tsm (inT1 (List.mem_of_getElem? (i := 5) rfl)) rfl, ⟨by decide +kernel, by decide +kernel, by decide +kernel⟩, by decide⟩
abbrev MX4_hasDeal : MT := (RX4, yX4_hasDeal, cX4_hasDeal, 2, some .boolean)
theorem okX4_hasDeal : jOK MX4_hasDeal 1 := ⟨by decide, rfl, tsm (inT4 (List.mem_of_getElem? (i := 31) rfl)) rfl, tsm (inT1 (List.mem_of_getElem? (i := 5) rfl)) rfl, ⟨by decide +kernel, by decide +kernel, by decide +kernel⟩, by decide⟩
abbrev MX4_isOpen : MT := (RX4, yX4_isOpen, cX4_isOpen, 2, some .boolean)
theorem okX4_isOpen : jOK MX4_isOpen 1 := ⟨by decide, rfl, tsm (inT4 (List.mem_of_getElem? (i := 27) rfl)) rfl, tsm (inT1 (List.mem_of_getElem? (i := 5) rfl)) rfl, ⟨by decide +kernel, by decide +kernel, by decide +kernel⟩, by decide⟩
abbrev MX4_lives : MT := (RX4, yX4_lives, cX4_lives, 2, some .boolean)
theorem okX4_lives : jOK MX4_lives 1 := ⟨by decide, rfl, tsm (inT4 (List.mem_of_getElem? (i := 56) rfl)) rfl, tsm (inT1 (List.mem_of_getElem? (i := 5) rfl)) rfl, ⟨by decide +kernel, by decide +kernel, by decide +kernel⟩, by decide⟩
abbrev MX4_bearer : MT := (RX4, yX4_bearer, cX4_bearer, 3, some .int)
theorem okX4_bearer : jOK MX4_bearer 2 := ⟨by decide, rfl, tsm (inT4 (List.mem_of_getElem? (i := 43) rfl)) rfl, tsm (inT1 (List.mem_of_getElem? (i := 5) rfl)) rfl, ⟨by decide +kernel, by decide +kernel, by decide +kernel⟩, by decide⟩
abbrev MX4_isScarred : MT := (RX4, yX4_isScarred, cX4_isScarred, 3, some .boolean)
theorem okX4_isScarred : jOK MX4_isScarred 2 := ⟨by decide, rfl, tsm (inT4 (List.mem_of_getElem? (i := 163) rfl)) rfl, tsm (inT1 (List.mem_of_getElem? (i := 5) rfl)) rfl, ⟨by decide +kernel, by decide +kernel, by decide +kernel⟩, by decide⟩
abbrev MX4_unscarredBearer : MT := (RX4, yX4_unscarredBearer, cX4_unscarredBearer, 3, some .int)
theorem okX4_unscarredBearer : jOK MX4_unscarredBearer 2 := ⟨by decide, rfl, tsm (inT4 (List.mem_of_getElem? (i := 51) rfl)) rfl, tsm (inT1 (List.mem_of_getElem? (i := 5) rfl)) rfl, ⟨by decide +kernel, by decide +kernel, by decide +kernel⟩, by decide⟩
abbrev MX4_isReadable : MT := (RX4, yX4_isReadable, cX4_isReadable, 4, some .boolean)
theorem okX4_isReadable : jOK MX4_isReadable 2 := ⟨by decide, rfl, tsm (inT4 (List.mem_of_getElem? (i := 47) rfl)) rfl, tsm (inT1 (List.mem_of_getElem? (i := 5) rfl)) rfl, ⟨by decide +kernel, by decide +kernel, by decide +kernel⟩, by decide⟩
abbrev MX4_isKnown : MT := (RX4, yX4_isKnown, cX4_isKnown, 4, some .boolean)
theorem okX4_isKnown : jOK MX4_isKnown 1 := ⟨by decide, rfl, tsm (inT5 (List.mem_of_getElem? (i := 222) rfl)) rfl, tsm (inT1 (List.mem_of_getElem? (i := 5) rfl)) rfl, ⟨by decide +kernel, by decide +kernel, by decide +kernel⟩, by decide⟩
abbrev MX4_isLost : MT := (RX4, yX4_isLost, cX4_isLost, 2, some .boolean)
theorem okX4_isLost : jOK MX4_isLost 1 := ⟨by decide, rfl, tsm (inT5 (List.mem_of_getElem? (i := 218) rfl)) rfl, tsm (inT1 (List.mem_of_getElem? (i := 5) rfl)) rfl, ⟨by decide +kernel, by decide +kernel, by decide +kernel⟩, by decide⟩
abbrev MX4_valueOf : MT := (RX4, yX4_valueOf, cX4_valueOf, 2, some .int)
theorem okX4_valueOf : jOK MX4_valueOf 1 := ⟨by decide, rfl, tsm (inT4 (List.mem_of_getElem? (i := 108) rfl)) rfl, tsm (inT1 (List.mem_of_getElem? (i := 5) rfl)) rfl, ⟨by decide +kernel, by decide +kernel, by decide +kernel⟩, by decide⟩
abbrev MX4_netOf : MT := (RX4, yX4_netOf, cX4_netOf, 4, some .int)
theorem okX4_netOf : jOK MX4_netOf 1 := ⟨by decide, rfl, tsm (inT4 (List.mem_of_getElem? (i := 124) rfl)) rfl, tsm (inT1 (List.mem_of_getElem? (i := 5) rfl)) rfl, ⟨by decide +kernel, by decide +kernel, by decide +kernel⟩, by decide⟩
abbrev MX4_marksOn : MT := (RX4, yX4_marksOn, cX4_marksOn, 5, some .int)
theorem okX4_marksOn : jOK MX4_marksOn 2 := ⟨by decide, rfl, tsm (inT4 (List.mem_of_getElem? (i := 68) rfl)) rfl, tsm (inT1 (List.mem_of_getElem? (i := 5) rfl)) rfl, ⟨by decide +kernel, by decide +kernel, by decide +kernel⟩, by decide⟩
abbrev MX4_openDeals : MT := (RX4, yX4_openDeals, cX4_openDeals, 3, some .int)
theorem okX4_openDeals : jOK MX4_openDeals 0 := ⟨by decide, rfl, tsm (inT4 (List.mem_of_getElem? (i := 23) rfl)) rfl, tsm (inT1 (List.mem_of_getElem? (i := 5) rfl)) rfl, ⟨by decide +kernel, by decide +kernel, by decide +kernel⟩, by decide⟩
abbrev MX4_leftOfLiving : MT := (RX4, yX4_leftOfLiving, cX4_leftOfLiving, 3, some .int)
theorem okX4_leftOfLiving : jOK MX4_leftOfLiving 0 := ⟨by decide, rfl, tsm (inT5 (List.mem_of_getElem? (i := 143) rfl)) rfl, tsm (inT1 (List.mem_of_getElem? (i := 5) rfl)) rfl, ⟨by decide +kernel, by decide +kernel, by decide +kernel⟩, by decide⟩
abbrev MX4_leastLeft : MT := (RX4, yX4_leastLeft, cX4_leastLeft, 4, some .int)
theorem okX4_leastLeft : jOK MX4_leastLeft 1 := ⟨by decide, rfl, tsm (inT4 (List.mem_of_getElem? (i := 100) rfl)) rfl, tsm (inT1 (List.mem_of_getElem? (i := 5) rfl)) rfl, ⟨by decide +kernel, by decide +kernel, by decide +kernel⟩, by decide⟩
abbrev MX4_lendersTo : MT := (RX4, yX4_lendersTo, cX4_lendersTo, 4, some .int)
theorem okX4_lendersTo : jOK MX4_lendersTo 1 := ⟨by decide, rfl, tsm (inT4 (List.mem_of_getElem? (i := 91) rfl)) rfl, tsm (inT1 (List.mem_of_getElem? (i := 5) rfl)) rfl, ⟨by decide +kernel, by decide +kernel, by decide +kernel⟩, by decide⟩
abbrev MX4_openAhead : MT := (RX4, yX4_openAhead, cX4_openAhead, 4, some .int)
theorem okX4_openAhead : jOK MX4_openAhead 1 := ⟨by decide, rfl, tsm (inT4 (List.mem_of_getElem? (i := 141) rfl)) rfl, tsm (inT1 (List.mem_of_getElem? (i := 5) rfl)) rfl, ⟨by decide +kernel, by decide +kernel, by decide +kernel⟩, by decide⟩
abbrev MX4_latestOpen : MT := (RX4, yX4_latestOpen, cX4_latestOpen, 3, some .int)
theorem okX4_latestOpen : jOK MX4_latestOpen 1 := ⟨by decide, rfl, tsm (inT5 (List.mem_of_getElem? (i := 162) rfl)) rfl, tsm (inT1 (List.mem_of_getElem? (i := 5) rfl)) rfl, ⟨by decide +kernel, by decide +kernel, by decide +kernel⟩, by decide⟩
abbrev MX4_openFor : MT := (RX4, yX4_openFor, cX4_openFor, 7, some .int)
theorem okX4_openFor : jOK MX4_openFor 2 := ⟨by decide, rfl, tsm (inT5 (List.mem_of_getElem? (i := 77) rfl)) rfl, tsm (inT1 (List.mem_of_getElem? (i := 5) rfl)) rfl, ⟨by decide +kernel, by decide +kernel, by decide +kernel⟩, by decide⟩
abbrev MX4_isToldBy : MT := (RX4, yX4_isToldBy, cX4_isToldBy, 5, some .boolean)
theorem okX4_isToldBy : jOK MX4_isToldBy 3 := ⟨by decide, rfl, tsm (inT6 (List.mem_of_getElem? (i := 46) rfl)) rfl, tsm (inT1 (List.mem_of_getElem? (i := 5) rfl)) rfl, ⟨by decide +kernel, by decide +kernel, by decide +kernel⟩, by decide⟩
abbrev MX4_isKnownBy : MT := (RX4, yX4_isKnownBy, cX4_isKnownBy, 5, some .boolean)
theorem okX4_isKnownBy : jOK MX4_isKnownBy 2 := ⟨by decide, rfl, tsm (inT6 (List.mem_of_getElem? (i := 42) rfl)) rfl, tsm (inT1 (List.mem_of_getElem? (i := 5) rfl)) rfl, ⟨by decide +kernel, by decide +kernel, by decide +kernel⟩, by decide⟩
abbrev MX4_isOnAny : MT := (RX4, yX4_isOnAny, cX4_isOnAny, 5, some .boolean)
theorem okX4_isOnAny : jOK MX4_isOnAny 2 := ⟨by decide, rfl, tsm (inT6 (List.mem_of_getElem? (i := 55) rfl)) rfl, tsm (inT1 (List.mem_of_getElem? (i := 5) rfl)) rfl, ⟨by decide +kernel, by decide +kernel, by decide +kernel⟩, by decide⟩
abbrev MX4_owedSurely : MT := (RX4, yX4_owedSurely, cX4_owedSurely, 5, some .int)
theorem okX4_owedSurely : jOK MX4_owedSurely 2 := ⟨by decide, rfl, tsm (inT6 (List.mem_of_getElem? (i := 38) rfl)) rfl, tsm (inT1 (List.mem_of_getElem? (i := 5) rfl)) rfl, ⟨by decide +kernel, by decide +kernel, by decide +kernel⟩, by decide⟩
abbrev MX4_owedAtMost : MT := (RX4, yX4_owedAtMost, cX4_owedAtMost, 5, some .int)
theorem okX4_owedAtMost : jOK MX4_owedAtMost 2 := ⟨by decide, rfl, tsm (inT6 (List.mem_of_getElem? (i := 50) rfl)) rfl, tsm (inT1 (List.mem_of_getElem? (i := 5) rfl)) rfl, ⟨by decide +kernel, by decide +kernel, by decide +kernel⟩, by decide⟩
abbrev MX4_bearerFor : MT := (RX4, yX4_bearerFor, cX4_bearerFor, 4, some .int)
theorem okX4_bearerFor : jOK MX4_bearerFor 2 := ⟨by decide, rfl, tsm (inT4 (List.mem_of_getElem? (i := 209) rfl)) rfl, tsm (inT1 (List.mem_of_getElem? (i := 5) rfl)) rfl, ⟨by decide +kernel, by decide +kernel, by decide +kernel⟩, by decide⟩
abbrev MX4_debtBearerFor : MT := (RX4, yX4_debtBearerFor, cX4_debtBearerFor, 5, some .int)
theorem okX4_debtBearerFor : jOK MX4_debtBearerFor 3 := ⟨by decide, rfl, tsm (inT4 (List.mem_of_getElem? (i := 213) rfl)) rfl, tsm (inT1 (List.mem_of_getElem? (i := 5) rfl)) rfl, ⟨by decide +kernel, by decide +kernel, by decide +kernel⟩, by decide⟩
abbrev MX4_wrongToWrite : MT := (RX4, yX4_wrongToWrite, cX4_wrongToWrite, 5, some .int)
theorem okX4_wrongToWrite : jOK MX4_wrongToWrite 3 := ⟨by decide, rfl, tsm (inT4 (List.mem_of_getElem? (i := 205) rfl)) rfl, tsm (inT1 (List.mem_of_getElem? (i := 5) rfl)) rfl, ⟨by decide +kernel, by decide +kernel, by decide +kernel⟩, by decide⟩
abbrev MX4_tryWrite : MT := (RX4, yX4_tryWrite, cX4_tryWrite, 8, some .int)
theorem okX4_tryWrite : jOK MX4_tryWrite 4 := ⟨by decide, rfl, tsm (inT4 (List.mem_of_getElem? (i := 201) rfl)) rfl, tsm (inT1 (List.mem_of_getElem? (i := 5) rfl)) rfl, ⟨by decide +kernel, by decide +kernel, by decide +kernel⟩, by decide⟩
abbrev MX4_isBuried : MT := (RX4, yX4_isBuried, cX4_isBuried, 2, some .boolean)
theorem okX4_isBuried : jOK MX4_isBuried 1 := ⟨by decide, rfl, tsm (inT4 (List.mem_of_getElem? (i := 234) rfl)) rfl, tsm (inT1 (List.mem_of_getElem? (i := 5) rfl)) rfl, ⟨by decide +kernel, by decide +kernel, by decide +kernel⟩, by decide⟩
abbrev MX4_hasRoomForLines : MT := (RX4, yX4_hasRoomForLines, cX4_hasRoomForLines, 4, some .boolean)
theorem okX4_hasRoomForLines : jOK MX4_hasRoomForLines 2 := ⟨by decide, rfl, tsm (inT4 (List.mem_of_getElem? (i := 230) rfl)) rfl, tsm (inT1 (List.mem_of_getElem? (i := 5) rfl)) rfl, ⟨by decide +kernel, by decide +kernel, by decide +kernel⟩, by decide⟩
abbrev MX4_scratch : MT := (RX4, yX4_scratch, cX4_scratch, 3, none)
theorem okX4_scratch : jOK MX4_scratch 2 := ⟨by decide, rfl, tsm (inT4 (List.mem_of_getElem? (i := 238) rfl)) rfl, tsm (inT1 (List.mem_of_getElem? (i := 5) rfl)) rfl, ⟨by decide +kernel, by decide +kernel, by decide +kernel⟩, by decide⟩
abbrev MX4_tryStrike : MT := (RX4, yX4_tryStrike, cX4_tryStrike, 3, some .int)
theorem okX4_tryStrike : jOK MX4_tryStrike 1 := ⟨by decide, rfl, tsm (inT4 (List.mem_of_getElem? (i := 226) rfl)) rfl, tsm (inT1 (List.mem_of_getElem? (i := 5) rfl)) rfl, ⟨by decide +kernel, by decide +kernel, by decide +kernel⟩, by decide⟩
abbrev MX4_tryScar : MT := (RX4, yX4_tryScar, cX4_tryScar, 3, some .int)
theorem okX4_tryScar : jOK MX4_tryScar 2 := ⟨by decide, rfl, tsm (inT5 (List.mem_of_getElem? (i := 6) rfl)) rfl, tsm (inT1 (List.mem_of_getElem? (i := 5) rfl)) rfl, ⟨by decide +kernel, by decide +kernel, by decide +kernel⟩, by decide⟩
abbrev MX4_freedBy : MT := (RX4, yX4_freedBy, cX4_freedBy, 4, some .int)
theorem okX4_freedBy : jOK MX4_freedBy 1 := ⟨by decide, rfl, tsm (inT5 (List.mem_of_getElem? (i := 36) rfl)) rfl, tsm (inT1 (List.mem_of_getElem? (i := 5) rfl)) rfl, ⟨by decide +kernel, by decide +kernel, by decide +kernel⟩, by decide⟩
abbrev MX4_tryCut : MT := (RX4, yX4_tryCut, cX4_tryCut, 3, some .int)
theorem okX4_tryCut : jOK MX4_tryCut 1 := ⟨by decide, rfl, tsm (inT5 (List.mem_of_getElem? (i := 15) rfl)) rfl, tsm (inT1 (List.mem_of_getElem? (i := 5) rfl)) rfl, ⟨by decide +kernel, by decide +kernel, by decide +kernel⟩, by decide⟩
abbrev MX4_lessen : MT := (RX4, yX4_lessen, cX4_lessen, 3, none)
theorem okX4_lessen : jOK MX4_lessen 2 := ⟨by decide, rfl, tsm (inT5 (List.mem_of_getElem? (i := 65) rfl)) rfl, tsm (inT1 (List.mem_of_getElem? (i := 5) rfl)) rfl, ⟨by decide +kernel, by decide +kernel, by decide +kernel⟩, by decide⟩
abbrev MX4_takeOff : MT := (RX4, yX4_takeOff, cX4_takeOff, 3, none)
theorem okX4_takeOff : jOK MX4_takeOff 2 := ⟨by decide, rfl, tsm (inT5 (List.mem_of_getElem? (i := 69) rfl)) rfl, tsm (inT1 (List.mem_of_getElem? (i := 5) rfl)) rfl, ⟨by decide +kernel, by decide +kernel, by decide +kernel⟩, by decide⟩
abbrev MX4_tryBury : MT := (RX4, yX4_tryBury, cX4_tryBury, 4, some .int)
theorem okX4_tryBury : jOK MX4_tryBury 2 := ⟨by decide, rfl, tsm (inT5 (List.mem_of_getElem? (i := 81) rfl)) rfl, tsm (inT1 (List.mem_of_getElem? (i := 5) rfl)) rfl, ⟨by decide +kernel, by decide +kernel, by decide +kernel⟩, by decide⟩
abbrev MX4_tryYear : MT := (RX4, yX4_tryYear, cX4_tryYear, 1, some .int)
theorem okX4_tryYear : jOK MX4_tryYear 0 := ⟨by decide, rfl, tsm (inT5 (List.mem_of_getElem? (i := 89) rfl)) rfl, tsm (inT1 (List.mem_of_getElem? (i := 5) rfl)) rfl, ⟨by decide +kernel, by decide +kernel, by decide +kernel⟩, by decide⟩
abbrev MX5_init : MT := (RX5, yX5_init, cX5_init, 1, none)
theorem okX5_init : jOK MX5_init 0 := ⟨by decide, rfl, tsm (inT2 (List.mem_of_getElem? (i := 113) rfl)) rfl, tsm (inT1 (List.mem_of_getElem? (i := 9) rfl)) rfl, ⟨by decide +kernel, by decide +kernel, by decide +kernel⟩, by decide⟩
abbrev MX5_isTold : MT := (RX5, yX5_isTold, cX5_isTold, 4, some .boolean)
theorem okX5_isTold : jOK MX5_isTold 2 := ⟨by decide, rfl, tsm (inT5 (List.mem_of_getElem? (i := 173) rfl)) rfl, tsm (inT1 (List.mem_of_getElem? (i := 9) rfl)) rfl, ⟨by decide +kernel, by decide +kernel, by decide +kernel⟩, by decide⟩
abbrev MX5_take : MT := (RX5, yX5_take, cX5_take, 4, some .boolean)
theorem okX5_take : jOK MX5_take 2 := ⟨by decide, rfl, tsm (inT5 (List.mem_of_getElem? (i := 170) rfl)) rfl, tsm (inT1 (List.mem_of_getElem? (i := 9) rfl)) rfl, ⟨by decide +kernel, by decide +kernel, by decide +kernel⟩, by decide⟩
abbrev MX5_isPackedIn : MT := (RX5, yX5_isPackedIn, cX5_isPackedIn, 2, some .boolean)
theorem okX5_isPackedIn : jOK MX5_isPackedIn 1 := ⟨by decide, rfl, tsm (inT5 (List.mem_of_getElem? (i := 210) rfl)) rfl, tsm (inT1 (List.mem_of_getElem? (i := 9) rfl)) rfl, ⟨by decide +kernel, by decide +kernel, by decide +kernel⟩, by decide⟩
abbrev MX5_keepTold : MT := (RX5, yX5_keepTold, cX5_keepTold, 1, none)
theorem okX5_keepTold : jOK MX5_keepTold 0 := ⟨by decide, rfl, tsm (inT5 (List.mem_of_getElem? (i := 194) rfl)) rfl, tsm (inT1 (List.mem_of_getElem? (i := 9) rfl)) rfl, ⟨by decide +kernel, by decide +kernel, by decide +kernel⟩, by decide⟩
abbrev MX5_told : MT := (RX5, yX5_told, cX5_told, 2, some .int)
theorem okX5_told : jOK MX5_told 1 := ⟨by decide, rfl, tsm (inT5 (List.mem_of_getElem? (i := 202) rfl)) rfl, tsm (inT1 (List.mem_of_getElem? (i := 9) rfl)) rfl, ⟨by decide +kernel, by decide +kernel, by decide +kernel⟩, by decide⟩
abbrev MX5_search : MT := (RX5, yX5_search, cX5_search, 4, some .int)
theorem okX5_search : jOK MX5_search 3 := ⟨by decide, rfl, tsm (inT5 (List.mem_of_getElem? (i := 180) rfl)) rfl, tsm (inT1 (List.mem_of_getElem? (i := 9) rfl)) rfl, ⟨by decide +kernel, by decide +kernel, by decide +kernel⟩, by decide⟩
abbrev MX5_place : MT := (RX5, yX5_place, cX5_place, 4, none)
theorem okX5_place : jOK MX5_place 2 := ⟨by decide, rfl, tsm (inT5 (List.mem_of_getElem? (i := 185) rfl)) rfl, tsm (inT1 (List.mem_of_getElem? (i := 9) rfl)) rfl, ⟨by decide +kernel, by decide +kernel, by decide +kernel⟩, by decide⟩
abbrev MX5_placeBy : MT := (RX5, yX5_placeBy, cX5_placeBy, 7, none)
theorem okX5_placeBy : jOK MX5_placeBy 3 := ⟨by decide, rfl, tsm (inT5 (List.mem_of_getElem? (i := 190) rfl)) rfl, tsm (inT1 (List.mem_of_getElem? (i := 9) rfl)) rfl, ⟨by decide +kernel, by decide +kernel, by decide +kernel⟩, by decide⟩
abbrev MX6_init : MT := (RX6, yX6_init, cX6_init, 1, none)
theorem okX6_init : jOK MX6_init 0 := ⟨by decide, rfl, tsm (inT1 (List.mem_of_getElem? (i := 81) rfl)) rfl, tsm (inT1 (List.mem_of_getElem? (i := 3) rfl)) rfl, ⟨by decide +kernel, by decide +kernel, by decide +kernel⟩, by decide⟩
abbrev MX6_forget : MT := (RX6, yX6_forget, cX6_forget, 1, none)
theorem okX6_forget : jOK MX6_forget 0 := ⟨by decide, rfl, tsm (inT3 (List.mem_of_getElem? (i := 66) rfl)) rfl, tsm (inT1 (List.mem_of_getElem? (i := 3) rfl)) rfl, ⟨by decide +kernel, by decide +kernel, by decide +kernel⟩, by decide⟩
abbrev MX6_copyFrom : MT := (RX6, yX6_copyFrom, cX6_copyFrom, 2, none)
theorem okX6_copyFrom : jOK MX6_copyFrom 1 := ⟨by decide, rfl, tsm (inT3 (List.mem_of_getElem? (i := 183) rfl)) rfl, tsm (inT1 (List.mem_of_getElem? (i := 3) rfl)) rfl, ⟨by decide +kernel, by decide +kernel, by decide +kernel⟩, by decide⟩
abbrev MX6_hasBody : MT := (RX6, yX6_hasBody, cX6_hasBody, 2, some .boolean)
theorem okX6_hasBody : jOK MX6_hasBody 1 := ⟨by decide, rfl, tsm (inT4 (List.mem_of_getElem? (i := 64) rfl)) rfl, tsm (inT1 (List.mem_of_getElem? (i := 3) rfl)) rfl, ⟨by decide +kernel, by decide +kernel, by decide +kernel⟩, by decide⟩
abbrev MX6_hasKind : MT := (RX6, yX6_hasKind, cX6_hasKind, 2, some .boolean)
theorem okX6_hasKind : jOK MX6_hasKind 1 := ⟨by decide, rfl, tsm (inT4 (List.mem_of_getElem? (i := 188) rfl)) rfl, tsm (inT1 (List.mem_of_getElem? (i := 3) rfl)) rfl, ⟨by decide +kernel, by decide +kernel, by decide +kernel⟩, by decide⟩
abbrev MX6_hasDealers : MT := (RX6, yX6_hasDealers, cX6_hasDealers, 4, some .boolean)
theorem okX6_hasDealers : jOK MX6_hasDealers 3 := ⟨by decide, rfl, tsm (inT4 (List.mem_of_getElem? (i := 183) rfl)) rfl, tsm (inT1 (List.mem_of_getElem? (i := 3) rfl)) rfl, ⟨by decide +kernel, by decide +kernel, by decide +kernel⟩, by decide⟩
abbrev MX6_bodyNamed : MT := (RX6, yX6_bodyNamed, cX6_bodyNamed, 4, some .int)
theorem okX6_bodyNamed : jOK MX6_bodyNamed 1 := ⟨by decide, rfl, tsm (inT3 (List.mem_of_getElem? (i := 135) rfl)) rfl, tsm (inT1 (List.mem_of_getElem? (i := 3) rfl)) rfl, ⟨by decide +kernel, by decide +kernel, by decide +kernel⟩, by decide⟩
abbrev MX6_kindNamed : MT := (RX6, yX6_kindNamed, cX6_kindNamed, 4, some .int)
theorem okX6_kindNamed : jOK MX6_kindNamed 1 := ⟨by decide, rfl, tsm (inT3 (List.mem_of_getElem? (i := 139) rfl)) rfl, tsm (inT1 (List.mem_of_getElem? (i := 3) rfl)) rfl, ⟨by decide +kernel, by decide +kernel, by decide +kernel⟩, by decide⟩
abbrev MX6_valueOf : MT := (RX6, yX6_valueOf, cX6_valueOf, 3, some .int)
theorem okX6_valueOf : jOK MX6_valueOf 2 := ⟨by decide, rfl, tsm (inT4 (List.mem_of_getElem? (i := 112) rfl)) rfl, tsm (inT1 (List.mem_of_getElem? (i := 3) rfl)) rfl, ⟨by decide +kernel, by decide +kernel, by decide +kernel⟩, by decide⟩
abbrev MX6_dotOn : MT := (RX6, yX6_dotOn, cX6_dotOn, 2, some .int)
theorem okX6_dotOn : jOK MX6_dotOn 1 := ⟨by decide, rfl, tsm (inT5 (List.mem_of_getElem? (i := 40) rfl)) rfl, tsm (inT1 (List.mem_of_getElem? (i := 3) rfl)) rfl, ⟨by decide +kernel, by decide +kernel, by decide +kernel⟩, by decide⟩
abbrev MX6_isForRings : MT := (RX6, yX6_isForRings, cX6_isForRings, 2, some .boolean)
theorem okX6_isForRings : jOK MX6_isForRings 1 := ⟨by decide, rfl, tsm (inT5 (List.mem_of_getElem? (i := 32) rfl)) rfl, tsm (inT1 (List.mem_of_getElem? (i := 3) rfl)) rfl, ⟨by decide +kernel, by decide +kernel, by decide +kernel⟩, by decide⟩
abbrev MX6_readFrom : MT := (RX6, yX6_readFrom, cX6_readFrom, 3, some .boolean)
theorem okX6_readFrom : jOK MX6_readFrom 1 := ⟨by decide, rfl, tsm (inT3 (List.mem_of_getElem? (i := 62) rfl)) rfl, tsm (inT1 (List.mem_of_getElem? (i := 3) rfl)) rfl, ⟨by decide +kernel, by decide +kernel, by decide +kernel⟩, by decide⟩
abbrev MX6_readLine : MT := (RX6, yX6_readLine, cX6_readLine, 2, some .boolean)
theorem okX6_readLine : jOK MX6_readLine 1 := ⟨by decide, rfl, tsm (inT3 (List.mem_of_getElem? (i := 110) rfl)) rfl, tsm (inT1 (List.mem_of_getElem? (i := 3) rfl)) rfl, ⟨by decide +kernel, by decide +kernel, by decide +kernel⟩, by decide⟩
abbrev MX6_readBody : MT := (RX6, yX6_readBody, cX6_readBody, 2, some .boolean)
theorem okX6_readBody : jOK MX6_readBody 1 := ⟨by decide, rfl, tsm (inT3 (List.mem_of_getElem? (i := 119) rfl)) rfl, tsm (inT1 (List.mem_of_getElem? (i := 3) rfl)) rfl, ⟨by decide +kernel, by decide +kernel, by decide +kernel⟩, by decide⟩
abbrev MX6_readKind : MT := (RX6, yX6_readKind, cX6_readKind, 2, some .boolean)
theorem okX6_readKind : jOK MX6_readKind 1 := ⟨by decide, rfl, tsm (inT3 (List.mem_of_getElem? (i := 157) rfl)) rfl, tsm (inT1 (List.mem_of_getElem? (i := 3) rfl)) rfl, ⟨by decide +kernel, by decide +kernel, by decide +kernel⟩, by decide⟩
abbrev MX6_sortTold : MT := (RX6, yX6_sortTold, cX6_sortTold, 1, some .int)
theorem okX6_sortTold : jOK MX6_sortTold 1 := ⟨by decide, rfl, tsm (inT3 (List.mem_of_getElem? (i := 160) rfl)) rfl, tsm (inT1 (List.mem_of_getElem? (i := 3) rfl)) rfl, ⟨by decide +kernel, by decide +kernel, by decide +kernel⟩, by decide⟩
abbrev MX6_readLineRoom : MT := (RX6, yX6_readLineRoom, cX6_readLineRoom, 2, some .boolean)
theorem okX6_readLineRoom : jOK MX6_readLineRoom 1 := ⟨by decide, rfl, tsm (inT3 (List.mem_of_getElem? (i := 169) rfl)) rfl, tsm (inT1 (List.mem_of_getElem? (i := 3) rfl)) rfl, ⟨by decide +kernel, by decide +kernel, by decide +kernel⟩, by decide⟩
abbrev MX6_readDotRoom : MT := (RX6, yX6_readDotRoom, cX6_readDotRoom, 2, some .boolean)
theorem okX6_readDotRoom : jOK MX6_readDotRoom 1 := ⟨by decide, rfl, tsm (inT3 (List.mem_of_getElem? (i := 179) rfl)) rfl, tsm (inT1 (List.mem_of_getElem? (i := 3) rfl)) rfl, ⟨by decide +kernel, by decide +kernel, by decide +kernel⟩, by decide⟩
abbrev MX7_init : MT := (RX7, yX7_init, cX7_init, 1, none)
theorem okX7_init : jOK MX7_init 0 := ⟨by decide, rfl, tsm (inT2 (List.mem_of_getElem? (i := 63) rfl)) rfl, tsm (inT1 (List.mem_of_getElem? (i := 8) rfl)) rfl, ⟨by decide +kernel, by decide +kernel, by decide +kernel⟩, by decide⟩
abbrev MX7_findBest : MT := (RX7, yX7_findBest, cX7_findBest, 3, some .boolean)
theorem okX7_findBest : jOK MX7_findBest 1 := ⟨by decide, rfl, tsm (inT5 (List.mem_of_getElem? (i := 19) rfl)) rfl, tsm (inT1 (List.mem_of_getElem? (i := 8) rfl)) rfl, ⟨by decide +kernel, by decide +kernel, by decide +kernel⟩, by decide⟩
abbrev MX7_findBestWith : MT := (RX7, yX7_findBestWith, cX7_findBestWith, 3, some .boolean)
theorem okX7_findBestWith : jOK MX7_findBestWith 2 := ⟨by decide, rfl, tsm (inT5 (List.mem_of_getElem? (i := 114) rfl)) rfl, tsm (inT1 (List.mem_of_getElem? (i := 8) rfl)) rfl, ⟨by decide +kernel, by decide +kernel, by decide +kernel⟩, by decide⟩
abbrev MX7_mayBeIn : MT := (RX7, yX7_mayBeIn, cX7_mayBeIn, 2, some .boolean)
theorem okX7_mayBeIn : jOK MX7_mayBeIn 1 := ⟨by decide, rfl, tsm (inT5 (List.mem_of_getElem? (i := 27) rfl)) rfl, tsm (inT1 (List.mem_of_getElem? (i := 8) rfl)) rfl, ⟨by decide +kernel, by decide +kernel, by decide +kernel⟩, by decide⟩
abbrev MX7_prepare : MT := (RX7, yX7_prepare, cX7_prepare, 5, none)
theorem okX7_prepare : jOK MX7_prepare 1 := ⟨by decide, rfl, tsm (inT5 (List.mem_of_getElem? (i := 23) rfl)) rfl, tsm (inT1 (List.mem_of_getElem? (i := 8) rfl)) rfl, ⟨by decide +kernel, by decide +kernel, by decide +kernel⟩, by decide⟩
abbrev MX7_start : MT := (RX7, yX7_start, cX7_start, 3, none)
theorem okX7_start : jOK MX7_start 1 := ⟨by decide, rfl, tsm (inT5 (List.mem_of_getElem? (i := 47) rfl)) rfl, tsm (inT1 (List.mem_of_getElem? (i := 8) rfl)) rfl, ⟨by decide +kernel, by decide +kernel, by decide +kernel⟩, by decide⟩
abbrev MX7_extend : MT := (RX7, yX7_extend, cX7_extend, 11, none)
theorem okX7_extend : jOK MX7_extend 5 := ⟨by decide, rfl, tsm (inT5 (List.mem_of_getElem? (i := 51) rfl)) rfl, tsm (inT1 (List.mem_of_getElem? (i := 8) rfl)) rfl, ⟨by decide +kernel, by decide +kernel, by decide +kernel⟩, by decide⟩
abbrev MX7_isBetter : MT := (RX7, yX7_isBetter, cX7_isBetter, 3, some .boolean)
theorem okX7_isBetter : jOK MX7_isBetter 2 := ⟨by decide, rfl, tsm (inT5 (List.mem_of_getElem? (i := 55) rfl)) rfl, tsm (inT1 (List.mem_of_getElem? (i := 8) rfl)) rfl, ⟨by decide +kernel, by decide +kernel, by decide +kernel⟩, by decide⟩
abbrev MX7_offer : MT := (RX7, yX7_offer, cX7_offer, 4, none)
theorem okX7_offer : jOK MX7_offer 3 := ⟨by decide, rfl, tsm (inT5 (List.mem_of_getElem? (i := 60) rfl)) rfl, tsm (inT1 (List.mem_of_getElem? (i := 8) rfl)) rfl, ⟨by decide +kernel, by decide +kernel, by decide +kernel⟩, by decide⟩
abbrev MX8_init : MT := (RX8, yX8_init, cX8_init, 1, none)
theorem okX8_init : jOK MX8_init 0 := ⟨by decide, rfl, tsm (inT2 (List.mem_of_getElem? (i := 196) rfl)) rfl, tsm (inT1 (List.mem_of_getElem? (i := 11) rfl)) rfl, ⟨by decide +kernel, by decide +kernel, by decide +kernel⟩, by decide⟩
abbrev MX8_payments : MT := (RX8, yX8_payments, cX8_payments, 6, some .int)
theorem okX8_payments : jOK MX8_payments 1 := ⟨by decide, rfl, tsm (inT4 (List.mem_of_getElem? (i := 120) rfl)) rfl, tsm (inT1 (List.mem_of_getElem? (i := 11) rfl)) rfl, ⟨by decide +kernel, by decide +kernel, by decide +kernel⟩, by decide⟩
abbrev MX9_init : MT := (RX9, yX9_init, cX9_init, 1, none)
theorem okX9_init : jOK MX9_init 0 := ⟨by decide, rfl, tsm (inT1 (List.mem_of_getElem? (i := 33) rfl)) rfl, tsm (inT1 (List.mem_of_getElem? (i := 2) rfl)) rfl, ⟨by decide +kernel, by decide +kernel, by decide +kernel⟩, by decide⟩
abbrev MX9_add : MT := (RX9, yX9_add, cX9_add, 3, none)
theorem okX9_add : jOK MX9_add 1 := ⟨by decide, rfl, tsm (inT3 (List.mem_of_getElem? (i := 50) rfl)) rfl, tsm (inT1 (List.mem_of_getElem? (i := 2) rfl)) rfl, ⟨by decide +kernel, by decide +kernel, by decide +kernel⟩, by decide⟩
abbrev MX9_byteOr : MT := (RX9, yX9_byteOr, cX9_byteOr, 3, some .int)
theorem okX9_byteOr : jOK MX9_byteOr 2 := ⟨by decide, rfl, tsm (inT3 (List.mem_of_getElem? (i := 78) rfl)) rfl, tsm (inT1 (List.mem_of_getElem? (i := 2) rfl)) rfl, ⟨by decide +kernel, by decide +kernel, by decide +kernel⟩, by decide⟩
abbrev MX9_begin : MT := (RX9, yX9_begin, cX9_begin, 1, none)
theorem okX9_begin : jOK MX9_begin 0 := ⟨by decide, rfl, tsm (inT3 (List.mem_of_getElem? (i := 70) rfl)) rfl, tsm (inT1 (List.mem_of_getElem? (i := 2) rfl)) rfl, ⟨by decide +kernel, by decide +kernel, by decide +kernel⟩, by decide⟩
abbrev MX9_refuse : MT := (RX9, yX9_refuse, cX9_refuse, 2, some .boolean)
theorem okX9_refuse : jOK MX9_refuse 1 := ⟨by decide, rfl, tsm (inT3 (List.mem_of_getElem? (i := 106) rfl)) rfl, tsm (inT1 (List.mem_of_getElem? (i := 2) rfl)) rfl, ⟨by decide +kernel, by decide +kernel, by decide +kernel⟩, by decide⟩
abbrev MX9_nextToken : MT := (RX9, yX9_nextToken, cX9_nextToken, 2, none)
theorem okX9_nextToken : jOK MX9_nextToken 0 := ⟨by decide, rfl, tsm (inT3 (List.mem_of_getElem? (i := 74) rfl)) rfl, tsm (inT1 (List.mem_of_getElem? (i := 2) rfl)) rfl, ⟨by decide +kernel, by decide +kernel, by decide +kernel⟩, by decide⟩
abbrev MX9_readRun : MT := (RX9, yX9_readRun, cX9_readRun, 4, none)
theorem okX9_readRun : jOK MX9_readRun 0 := ⟨by decide, rfl, tsm (inT3 (List.mem_of_getElem? (i := 94) rfl)) rfl, tsm (inT1 (List.mem_of_getElem? (i := 2) rfl)) rfl, ⟨by decide +kernel, by decide +kernel, by decide +kernel⟩, by decide⟩
abbrev MX9_isBlank : MT := (RX9, yX9_isBlank, cX9_isBlank, 1, some .boolean)
theorem okX9_isBlank : jOK MX9_isBlank 1 := ⟨by decide, rfl, tsm (inT3 (List.mem_of_getElem? (i := 81) rfl)) rfl, tsm (inT1 (List.mem_of_getElem? (i := 2) rfl)) rfl, ⟨by decide +kernel, by decide +kernel, by decide +kernel⟩, by decide⟩
abbrev MX9_isLetter : MT := (RX9, yX9_isLetter, cX9_isLetter, 1, some .boolean)
theorem okX9_isLetter : jOK MX9_isLetter 1 := ⟨by decide, rfl, tsm (inT3 (List.mem_of_getElem? (i := 87) rfl)) rfl, tsm (inT1 (List.mem_of_getElem? (i := 2) rfl)) rfl, ⟨by decide +kernel, by decide +kernel, by decide +kernel⟩, by decide⟩
abbrev MX9_isDigit : MT := (RX9, yX9_isDigit, cX9_isDigit, 1, some .boolean)
theorem okX9_isDigit : jOK MX9_isDigit 1 := ⟨by decide, rfl, tsm (inT3 (List.mem_of_getElem? (i := 90) rfl)) rfl, tsm (inT1 (List.mem_of_getElem? (i := 2) rfl)) rfl, ⟨by decide +kernel, by decide +kernel, by decide +kernel⟩, by decide⟩
abbrev MX9_isEnd : MT := (RX9, yX9_isEnd, cX9_isEnd, 1, some .boolean)
theorem okX9_isEnd : jOK MX9_isEnd 0 := ⟨by decide, rfl, tsm (inT3 (List.mem_of_getElem? (i := 98) rfl)) rfl, tsm (inT1 (List.mem_of_getElem? (i := 2) rfl)) rfl, ⟨by decide +kernel, by decide +kernel, by decide +kernel⟩, by decide⟩
abbrev MX9_isAllRead : MT := (RX9, yX9_isAllRead, cX9_isAllRead, 1, some .boolean)
theorem okX9_isAllRead : jOK MX9_isAllRead 0 := ⟨by decide, rfl, tsm (inT3 (List.mem_of_getElem? (i := 102) rfl)) rfl, tsm (inT1 (List.mem_of_getElem? (i := 2) rfl)) rfl, ⟨by decide +kernel, by decide +kernel, by decide +kernel⟩, by decide⟩
abbrev MX9_isStop : MT := (RX9, yX9_isStop, cX9_isStop, 1, some .boolean)
theorem okX9_isStop : jOK MX9_isStop 0 := ⟨by decide, rfl, tsm (inT3 (List.mem_of_getElem? (i := 152) rfl)) rfl, tsm (inT1 (List.mem_of_getElem? (i := 2) rfl)) rfl, ⟨by decide +kernel, by decide +kernel, by decide +kernel⟩, by decide⟩
abbrev MX9_says : MT := (RX9, yX9_says, cX9_says, 3, some .boolean)
theorem okX9_says : jOK MX9_says 1 := ⟨by decide, rfl, tsm (inT3 (List.mem_of_getElem? (i := 115) rfl)) rfl, tsm (inT1 (List.mem_of_getElem? (i := 2) rfl)) rfl, ⟨by decide +kernel, by decide +kernel, by decide +kernel⟩, by decide⟩
abbrev MX9_isName : MT := (RX9, yX9_isName, cX9_isName, 2, some .boolean)
theorem okX9_isName : jOK MX9_isName 0 := ⟨by decide, rfl, tsm (inT3 (List.mem_of_getElem? (i := 129) rfl)) rfl, tsm (inT1 (List.mem_of_getElem? (i := 2) rfl)) rfl, ⟨by decide +kernel, by decide +kernel, by decide +kernel⟩, by decide⟩
abbrev MX9_takeNewName : MT := (RX9, yX9_takeNewName, cX9_takeNewName, 3, some .boolean)
theorem okX9_takeNewName : jOK MX9_takeNewName 1 := ⟨by decide, rfl, tsm (inT3 (List.mem_of_getElem? (i := 124) rfl)) rfl, tsm (inT1 (List.mem_of_getElem? (i := 2) rfl)) rfl, ⟨by decide +kernel, by decide +kernel, by decide +kernel⟩, by decide⟩
abbrev MX9_takeBody : MT := (RX9, yX9_takeBody, cX9_takeBody, 2, some .boolean)
theorem okX9_takeBody : jOK MX9_takeBody 1 := ⟨by decide, rfl, tsm (inT3 (List.mem_of_getElem? (i := 148) rfl)) rfl, tsm (inT1 (List.mem_of_getElem? (i := 2) rfl)) rfl, ⟨by decide +kernel, by decide +kernel, by decide +kernel⟩, by decide⟩
abbrev MX9_takeKind : MT := (RX9, yX9_takeKind, cX9_takeKind, 2, some .boolean)
theorem okX9_takeKind : jOK MX9_takeKind 1 := ⟨by decide, rfl, tsm (inT3 (List.mem_of_getElem? (i := 239) rfl)) rfl, tsm (inT1 (List.mem_of_getElem? (i := 2) rfl)) rfl, ⟨by decide +kernel, by decide +kernel, by decide +kernel⟩, by decide⟩
abbrev MX9_takeNumber : MT := (RX9, yX9_takeNumber, cX9_takeNumber, 3, some .boolean)
theorem okX9_takeNumber : jOK MX9_takeNumber 2 := ⟨by decide, rfl, tsm (inT3 (List.mem_of_getElem? (i := 143) rfl)) rfl, tsm (inT1 (List.mem_of_getElem? (i := 2) rfl)) rfl, ⟨by decide +kernel, by decide +kernel, by decide +kernel⟩, by decide⟩
abbrev MX9_takeStop : MT := (RX9, yX9_takeStop, cX9_takeStop, 1, some .boolean)
theorem okX9_takeStop : jOK MX9_takeStop 0 := ⟨by decide, rfl, tsm (inT3 (List.mem_of_getElem? (i := 173) rfl)) rfl, tsm (inT1 (List.mem_of_getElem? (i := 2) rfl)) rfl, ⟨by decide +kernel, by decide +kernel, by decide +kernel⟩, by decide⟩
abbrev MX10_init : MT := (RX10, yX10_init, cX10_init, 1, none)
theorem okX10_init : jOK MX10_init 0 := ⟨by decide, rfl, tsm (inT2 (List.mem_of_getElem? (i := 212) rfl)) rfl, tsm (inT1 (List.mem_of_getElem? (i := 12) rfl)) rfl, ⟨by decide +kernel, by decide +kernel, by decide +kernel⟩, by decide⟩
abbrev MX10_add : MT := (RX10, yX10_add, cX10_add, 2, none)
theorem okX10_add : jOK MX10_add 1 := ⟨by decide, rfl, tsm (inT4 (List.mem_of_getElem? (i := 153) rfl)) rfl, tsm (inT1 (List.mem_of_getElem? (i := 12) rfl)) rfl, ⟨by decide +kernel, by decide +kernel, by decide +kernel⟩, by decide⟩
abbrev MX10_addName : MT := (RX10, yX10_addName, cX10_addName, 5, none)
theorem okX10_addName : jOK MX10_addName 1 := ⟨by decide, rfl, tsm (inT4 (List.mem_of_getElem? (i := 157) rfl)) rfl, tsm (inT1 (List.mem_of_getElem? (i := 12) rfl)) rfl, ⟨by decide +kernel, by decide +kernel, by decide +kernel⟩, by decide⟩
abbrev MX10_addNumber : MT := (RX10, yX10_addNumber, cX10_addNumber, 2, none)
theorem okX10_addNumber : jOK MX10_addNumber 1 := ⟨by decide, rfl, tsm (inT4 (List.mem_of_getElem? (i := 167) rfl)) rfl, tsm (inT1 (List.mem_of_getElem? (i := 12) rfl)) rfl, ⟨by decide +kernel, by decide +kernel, by decide +kernel⟩, by decide⟩
abbrev MX10_at : MT := (RX10, yX10_at, cX10_at, 2, some .int)
theorem okX10_at : jOK MX10_at 1 := ⟨by decide, rfl, tsm (inT4 (List.mem_of_getElem? (i := 175) rfl)) rfl, tsm (inT1 (List.mem_of_getElem? (i := 12) rfl)) rfl, ⟨by decide +kernel, by decide +kernel, by decide +kernel⟩, by decide⟩
abbrev MX11_init : MT := (RX11, yX11_init, cX11_init, 1, none)
theorem okX11_init : jOK MX11_init 0 := ⟨by decide, rfl, tsm (inT1 (List.mem_of_getElem? (i := 25) rfl)) rfl, tsm (inT1 (List.mem_of_getElem? (i := 1) rfl)) rfl, ⟨by decide +kernel, by decide +kernel, by decide +kernel⟩, by decide⟩
abbrev MX11_feed : MT := (RX11, yX11_feed, cX11_feed, 6, some .int)
theorem okX11_feed : jOK MX11_feed 5 := ⟨by decide, rfl, tsm (inT3 (List.mem_of_getElem? (i := 46) rfl)) rfl, tsm (inT1 (List.mem_of_getElem? (i := 1) rfl)) rfl, ⟨by decide +kernel, by decide +kernel, by decide +kernel⟩, by decide⟩
abbrev MX11_end : MT := (RX11, yX11_end, cX11_end, 2, some .boolean)
theorem okX11_end : jOK MX11_end 1 := ⟨by decide, rfl, tsm (inT3 (List.mem_of_getElem? (i := 54) rfl)) rfl, tsm (inT1 (List.mem_of_getElem? (i := 1) rfl)) rfl, ⟨by decide +kernel, by decide +kernel, by decide +kernel⟩, by decide⟩
abbrev MX11_port : MT := (RX11, yX11_port, cX11_port, 2, some .int)
theorem okX11_port : jOK MX11_port 0 := ⟨by decide, rfl, tsm (inT3 (List.mem_of_getElem? (i := 58) rfl)) rfl, tsm (inT1 (List.mem_of_getElem? (i := 1) rfl)) rfl, ⟨by decide +kernel, by decide +kernel, by decide +kernel⟩, by decide⟩
abbrev MX11_fault : MT := (RX11, yX11_fault, cX11_fault, 1, some .int)
theorem okX11_fault : jOK MX11_fault 0 := ⟨by decide, rfl, tsm (inT3 (List.mem_of_getElem? (i := 198) rfl)) rfl, tsm (inT1 (List.mem_of_getElem? (i := 1) rfl)) rfl, ⟨by decide +kernel, by decide +kernel, by decide +kernel⟩, by decide⟩
abbrev MX11_book : MT := (RX11, yX11_book, cX11_book, 2, some .int)
theorem okX11_book : jOK MX11_book 0 := ⟨by decide, rfl, tsm (inT3 (List.mem_of_getElem? (i := 202) rfl)) rfl, tsm (inT1 (List.mem_of_getElem? (i := 1) rfl)) rfl, ⟨by decide +kernel, by decide +kernel, by decide +kernel⟩, by decide⟩
abbrev MX11_count : MT := (RX11, yX11_count, cX11_count, 2, some .int)
theorem okX11_count : jOK MX11_count 1 := ⟨by decide, rfl, tsm (inT4 (List.mem_of_getElem? (i := 19) rfl)) rfl, tsm (inT1 (List.mem_of_getElem? (i := 1) rfl)) rfl, ⟨by decide +kernel, by decide +kernel, by decide +kernel⟩, by decide⟩
abbrev MX11_body : MT := (RX11, yX11_body, cX11_body, 3, some .int)
theorem okX11_body : jOK MX11_body 2 := ⟨by decide, rfl, tsm (inT6 (List.mem_of_getElem? (i := 98) rfl)) rfl, tsm (inT1 (List.mem_of_getElem? (i := 1) rfl)) rfl, ⟨by decide +kernel, by decide +kernel, by decide +kernel⟩, by decide⟩
abbrev MX11_kind : MT := (RX11, yX11_kind, cX11_kind, 3, some .int)
theorem okX11_kind : jOK MX11_kind 2 := ⟨by decide, rfl, tsm (inT6 (List.mem_of_getElem? (i := 168) rfl)) rfl, tsm (inT1 (List.mem_of_getElem? (i := 1) rfl)) rfl, ⟨by decide +kernel, by decide +kernel, by decide +kernel⟩, by decide⟩
abbrev MX11_deal : MT := (RX11, yX11_deal, cX11_deal, 3, some .int)
theorem okX11_deal : jOK MX11_deal 2 := ⟨by decide, rfl, tsm (inT6 (List.mem_of_getElem? (i := 175) rfl)) rfl, tsm (inT1 (List.mem_of_getElem? (i := 1) rfl)) rfl, ⟨by decide +kernel, by decide +kernel, by decide +kernel⟩, by decide⟩
abbrev MX11_read : MT := (RX11, yX11_read, cX11_read, 3, some .int)
theorem okX11_read : jOK MX11_read 2 := ⟨by decide, rfl, tsm (inT4 (List.mem_of_getElem? (i := 35) rfl)) rfl, tsm (inT1 (List.mem_of_getElem? (i := 1) rfl)) rfl, ⟨by decide +kernel, by decide +kernel, by decide +kernel⟩, by decide⟩
abbrev MX11_mark : MT := (RX11, yX11_mark, cX11_mark, 6, some .int)
theorem okX11_mark : jOK MX11_mark 2 := ⟨by decide, rfl, tsm (inT4 (List.mem_of_getElem? (i := 60) rfl)) rfl, tsm (inT1 (List.mem_of_getElem? (i := 1) rfl)) rfl, ⟨by decide +kernel, by decide +kernel, by decide +kernel⟩, by decide⟩
abbrev MX11_aged : MT := (RX11, yX11_aged, cX11_aged, 3, some .int)
theorem okX11_aged : jOK MX11_aged 2 := ⟨by decide, rfl, tsm (inT4 (List.mem_of_getElem? (i := 72) rfl)) rfl, tsm (inT1 (List.mem_of_getElem? (i := 1) rfl)) rfl, ⟨by decide +kernel, by decide +kernel, by decide +kernel⟩, by decide⟩
abbrev MX11_owes : MT := (RX11, yX11_owes, cX11_owes, 7, some .int)
theorem okX11_owes : jOK MX11_owes 2 := ⟨by decide, rfl, tsm (inT4 (List.mem_of_getElem? (i := 79) rfl)) rfl, tsm (inT1 (List.mem_of_getElem? (i := 1) rfl)) rfl, ⟨by decide +kernel, by decide +kernel, by decide +kernel⟩, by decide⟩
abbrev MX11_chain : MT := (RX11, yX11_chain, cX11_chain, 5, some .int)
theorem okX11_chain : jOK MX11_chain 2 := ⟨by decide, rfl, tsm (inT4 (List.mem_of_getElem? (i := 84) rfl)) rfl, tsm (inT1 (List.mem_of_getElem? (i := 1) rfl)) rfl, ⟨by decide +kernel, by decide +kernel, by decide +kernel⟩, by decide⟩
abbrev MX11_fullest : MT := (RX11, yX11_fullest, cX11_fullest, 5, some .int)
theorem okX11_fullest : jOK MX11_fullest 1 := ⟨by decide, rfl, tsm (inT4 (List.mem_of_getElem? (i := 96) rfl)) rfl, tsm (inT1 (List.mem_of_getElem? (i := 1) rfl)) rfl, ⟨by decide +kernel, by decide +kernel, by decide +kernel⟩, by decide⟩
abbrev MX11_trade : MT := (RX11, yX11_trade, cX11_trade, 5, some .int)
theorem okX11_trade : jOK MX11_trade 2 := ⟨by decide, rfl, tsm (inT4 (List.mem_of_getElem? (i := 104) rfl)) rfl, tsm (inT1 (List.mem_of_getElem? (i := 1) rfl)) rfl, ⟨by decide +kernel, by decide +kernel, by decide +kernel⟩, by decide⟩
abbrev MX11_settled : MT := (RX11, yX11_settled, cX11_settled, 1, some .int)
theorem okX11_settled : jOK MX11_settled 0 := ⟨by decide, rfl, tsm (inT4 (List.mem_of_getElem? (i := 116) rfl)) rfl, tsm (inT1 (List.mem_of_getElem? (i := 1) rfl)) rfl, ⟨by decide +kernel, by decide +kernel, by decide +kernel⟩, by decide⟩
abbrev MX11_between : MT := (RX11, yX11_between, cX11_between, 6, some .int)
theorem okX11_between : jOK MX11_between 3 := ⟨by decide, rfl, tsm (inT4 (List.mem_of_getElem? (i := 133) rfl)) rfl, tsm (inT1 (List.mem_of_getElem? (i := 1) rfl)) rfl, ⟨by decide +kernel, by decide +kernel, by decide +kernel⟩, by decide⟩
abbrev MX11_greatest : MT := (RX11, yX11_greatest, cX11_greatest, 3, some .int)
theorem okX11_greatest : jOK MX11_greatest 1 := ⟨by decide, rfl, tsm (inT4 (List.mem_of_getElem? (i := 137) rfl)) rfl, tsm (inT1 (List.mem_of_getElem? (i := 1) rfl)) rfl, ⟨by decide +kernel, by decide +kernel, by decide +kernel⟩, by decide⟩
abbrev MX11_skin : MT := (RX11, yX11_skin, cX11_skin, 4, some .int)
theorem okX11_skin : jOK MX11_skin 1 := ⟨by decide, rfl, tsm (inT4 (List.mem_of_getElem? (i := 145) rfl)) rfl, tsm (inT1 (List.mem_of_getElem? (i := 1) rfl)) rfl, ⟨by decide +kernel, by decide +kernel, by decide +kernel⟩, by decide⟩
abbrev MX11_addMark : MT := (RX11, yX11_addMark, cX11_addMark, 4, none)
theorem okX11_addMark : jOK MX11_addMark 2 := ⟨by decide, rfl, tsm (inT4 (List.mem_of_getElem? (i := 149) rfl)) rfl, tsm (inT1 (List.mem_of_getElem? (i := 1) rfl)) rfl, ⟨by decide +kernel, by decide +kernel, by decide +kernel⟩, by decide⟩
abbrev MX11_byteAt : MT := (RX11, yX11_byteAt, cX11_byteAt, 2, some .int)
theorem okX11_byteAt : jOK MX11_byteAt 1 := ⟨by decide, rfl, tsm (inT4 (List.mem_of_getElem? (i := 171) rfl)) rfl, tsm (inT1 (List.mem_of_getElem? (i := 1) rfl)) rfl, ⟨by decide +kernel, by decide +kernel, by decide +kernel⟩, by decide⟩
abbrev MX11_write : MT := (RX11, yX11_write, cX11_write, 6, some .int)
theorem okX11_write : jOK MX11_write 4 := ⟨by decide, rfl, tsm (inT4 (List.mem_of_getElem? (i := 179) rfl)) rfl, tsm (inT1 (List.mem_of_getElem? (i := 1) rfl)) rfl, ⟨by decide +kernel, by decide +kernel, by decide +kernel⟩, by decide⟩
abbrev MX11_strike : MT := (RX11, yX11_strike, cX11_strike, 3, some .int)
theorem okX11_strike : jOK MX11_strike 1 := ⟨by decide, rfl, tsm (inT4 (List.mem_of_getElem? (i := 222) rfl)) rfl, tsm (inT1 (List.mem_of_getElem? (i := 1) rfl)) rfl, ⟨by decide +kernel, by decide +kernel, by decide +kernel⟩, by decide⟩
abbrev MX11_scar : MT := (RX11, yX11_scar, cX11_scar, 4, some .int)
theorem okX11_scar : jOK MX11_scar 2 := ⟨by decide, rfl, tsm (inT5 (List.mem_of_getElem? (i := 2) rfl)) rfl, tsm (inT1 (List.mem_of_getElem? (i := 1) rfl)) rfl, ⟨by decide +kernel, by decide +kernel, by decide +kernel⟩, by decide⟩
abbrev MX11_cut : MT := (RX11, yX11_cut, cX11_cut, 1, some .int)
theorem okX11_cut : jOK MX11_cut 0 := ⟨by decide, rfl, tsm (inT5 (List.mem_of_getElem? (i := 11) rfl)) rfl, tsm (inT1 (List.mem_of_getElem? (i := 1) rfl)) rfl, ⟨by decide +kernel, by decide +kernel, by decide +kernel⟩, by decide⟩
abbrev MX11_dies : MT := (RX11, yX11_dies, cX11_dies, 5, some .int)
theorem okX11_dies : jOK MX11_dies 2 := ⟨by decide, rfl, tsm (inT5 (List.mem_of_getElem? (i := 73) rfl)) rfl, tsm (inT1 (List.mem_of_getElem? (i := 1) rfl)) rfl, ⟨by decide +kernel, by decide +kernel, by decide +kernel⟩, by decide⟩
abbrev MX11_year : MT := (RX11, yX11_year, cX11_year, 1, some .int)
theorem okX11_year : jOK MX11_year 0 := ⟨by decide, rfl, tsm (inT5 (List.mem_of_getElem? (i := 85) rfl)) rfl, tsm (inT1 (List.mem_of_getElem? (i := 1) rfl)) rfl, ⟨by decide +kernel, by decide +kernel, by decide +kernel⟩, by decide⟩
abbrev MX11_undo : MT := (RX11, yX11_undo, cX11_undo, 1, some .int)
theorem okX11_undo : jOK MX11_undo 0 := ⟨by decide, rfl, tsm (inT5 (List.mem_of_getElem? (i := 93) rfl)) rfl, tsm (inT1 (List.mem_of_getElem? (i := 1) rfl)) rfl, ⟨by decide +kernel, by decide +kernel, by decide +kernel⟩, by decide⟩
abbrev MX11_ring : MT := (RX11, yX11_ring, cX11_ring, 2, some .int)
theorem okX11_ring : jOK MX11_ring 0 := ⟨by decide, rfl, tsm (inT5 (List.mem_of_getElem? (i := 101) rfl)) rfl, tsm (inT1 (List.mem_of_getElem? (i := 1) rfl)) rfl, ⟨by decide +kernel, by decide +kernel, by decide +kernel⟩, by decide⟩
abbrev MX11_ringAt : MT := (RX11, yX11_ringAt, cX11_ringAt, 2, some .int)
theorem okX11_ringAt : jOK MX11_ringAt 1 := ⟨by decide, rfl, tsm (inT5 (List.mem_of_getElem? (i := 106) rfl)) rfl, tsm (inT1 (List.mem_of_getElem? (i := 1) rfl)) rfl, ⟨by decide +kernel, by decide +kernel, by decide +kernel⟩, by decide⟩
abbrev MX11_ringOf : MT := (RX11, yX11_ringOf, cX11_ringOf, 2, some .int)
theorem okX11_ringOf : jOK MX11_ringOf 1 := ⟨by decide, rfl, tsm (inT5 (List.mem_of_getElem? (i := 110) rfl)) rfl, tsm (inT1 (List.mem_of_getElem? (i := 1) rfl)) rfl, ⟨by decide +kernel, by decide +kernel, by decide +kernel⟩, by decide⟩
abbrev MX11_can : MT := (RX11, yX11_can, cX11_can, 5, some .int)
theorem okX11_can : jOK MX11_can 2 := ⟨by decide, rfl, tsm (inT5 (List.mem_of_getElem? (i := 118) rfl)) rfl, tsm (inT1 (List.mem_of_getElem? (i := 1) rfl)) rfl, ⟨by decide +kernel, by decide +kernel, by decide +kernel⟩, by decide⟩
abbrev MX11_ringsFor : MT := (RX11, yX11_ringsFor, cX11_ringsFor, 6, some .int)
theorem okX11_ringsFor : jOK MX11_ringsFor 3 := ⟨by decide, rfl, tsm (inT5 (List.mem_of_getElem? (i := 124) rfl)) rfl, tsm (inT1 (List.mem_of_getElem? (i := 1) rfl)) rfl, ⟨by decide +kernel, by decide +kernel, by decide +kernel⟩, by decide⟩
abbrev MX11_judge : MT := (RX11, yX11_judge, cX11_judge, 5, some .int)
theorem okX11_judge : jOK MX11_judge 1 := ⟨by decide, rfl, tsm (inT5 (List.mem_of_getElem? (i := 129) rfl)) rfl, tsm (inT1 (List.mem_of_getElem? (i := 1) rfl)) rfl, ⟨by decide +kernel, by decide +kernel, by decide +kernel⟩, by decide⟩
abbrev MX11_judged : MT := (RX11, yX11_judged, cX11_judged, 2, some .int)
theorem okX11_judged : jOK MX11_judged 1 := ⟨by decide, rfl, tsm (inT5 (List.mem_of_getElem? (i := 147) rfl)) rfl, tsm (inT1 (List.mem_of_getElem? (i := 1) rfl)) rfl, ⟨by decide +kernel, by decide +kernel, by decide +kernel⟩, by decide⟩
abbrev MX11_lasts : MT := (RX11, yX11_lasts, cX11_lasts, 12, some .int)
theorem okX11_lasts : jOK MX11_lasts 2 := ⟨by decide, rfl, tsm (inT5 (List.mem_of_getElem? (i := 151) rfl)) rfl, tsm (inT1 (List.mem_of_getElem? (i := 1) rfl)) rfl, ⟨by decide +kernel, by decide +kernel, by decide +kernel⟩, by decide⟩
abbrev MX11_nextSeed : MT := (RX11, yX11_nextSeed, cX11_nextSeed, 1, some .int)
theorem okX11_nextSeed : jOK MX11_nextSeed 1 := ⟨by decide, rfl, tsm (inT5 (List.mem_of_getElem? (i := 154) rfl)) rfl, tsm (inT1 (List.mem_of_getElem? (i := 1) rfl)) rfl, ⟨by decide +kernel, by decide +kernel, by decide +kernel⟩, by decide⟩
abbrev MX11_drawn : MT := (RX11, yX11_drawn, cX11_drawn, 2, some .int)
theorem okX11_drawn : jOK MX11_drawn 2 := ⟨by decide, rfl, tsm (inT5 (List.mem_of_getElem? (i := 158) rfl)) rfl, tsm (inT1 (List.mem_of_getElem? (i := 1) rfl)) rfl, ⟨by decide +kernel, by decide +kernel, by decide +kernel⟩, by decide⟩
abbrev MX11_pack : MT := (RX11, yX11_pack, cX11_pack, 3, some .int)
theorem okX11_pack : jOK MX11_pack 0 := ⟨by decide, rfl, tsm (inT5 (List.mem_of_getElem? (i := 166) rfl)) rfl, tsm (inT1 (List.mem_of_getElem? (i := 1) rfl)) rfl, ⟨by decide +kernel, by decide +kernel, by decide +kernel⟩, by decide⟩
abbrev MX11_packed : MT := (RX11, yX11_packed, cX11_packed, 2, some .int)
theorem okX11_packed : jOK MX11_packed 1 := ⟨by decide, rfl, tsm (inT5 (List.mem_of_getElem? (i := 198) rfl)) rfl, tsm (inT1 (List.mem_of_getElem? (i := 1) rfl)) rfl, ⟨by decide +kernel, by decide +kernel, by decide +kernel⟩, by decide⟩
abbrev MX11_price : MT := (RX11, yX11_price, cX11_price, 3, some .int)
theorem okX11_price : jOK MX11_price 2 := ⟨by decide, rfl, tsm (inT5 (List.mem_of_getElem? (i := 206) rfl)) rfl, tsm (inT1 (List.mem_of_getElem? (i := 1) rfl)) rfl, ⟨by decide +kernel, by decide +kernel, by decide +kernel⟩, by decide⟩
abbrev MX11_lost : MT := (RX11, yX11_lost, cX11_lost, 4, some .int)
theorem okX11_lost : jOK MX11_lost 1 := ⟨by decide, rfl, tsm (inT5 (List.mem_of_getElem? (i := 214) rfl)) rfl, tsm (inT1 (List.mem_of_getElem? (i := 1) rfl)) rfl, ⟨by decide +kernel, by decide +kernel, by decide +kernel⟩, by decide⟩
abbrev MX11_fits : MT := (RX11, yX11_fits, cX11_fits, 3, some .int)
theorem okX11_fits : jOK MX11_fits 1 := ⟨by decide, rfl, tsm (inT5 (List.mem_of_getElem? (i := 226) rfl)) rfl, tsm (inT1 (List.mem_of_getElem? (i := 1) rfl)) rfl, ⟨by decide +kernel, by decide +kernel, by decide +kernel⟩, by decide⟩
abbrev MX11_fit : MT := (RX11, yX11_fit, cX11_fit, 3, some .int)
theorem okX11_fit : jOK MX11_fit 2 := ⟨by decide, rfl, tsm (inT6 (List.mem_of_getElem? (i := 26) rfl)) rfl, tsm (inT1 (List.mem_of_getElem? (i := 1) rfl)) rfl, ⟨by decide +kernel, by decide +kernel, by decide +kernel⟩, by decide⟩
abbrev MX11_owed : MT := (RX11, yX11_owed, cX11_owed, 4, some .int)
theorem okX11_owed : jOK MX11_owed 3 := ⟨by decide, rfl, tsm (inT6 (List.mem_of_getElem? (i := 34) rfl)) rfl, tsm (inT1 (List.mem_of_getElem? (i := 1) rfl)) rfl, ⟨by decide +kernel, by decide +kernel, by decide +kernel⟩, by decide⟩
abbrev MX11_proof : MT := (RX11, yX11_proof, cX11_proof, 6, some .int)
theorem okX11_proof : jOK MX11_proof 1 := ⟨by decide, rfl, tsm (inT6 (List.mem_of_getElem? (i := 59) rfl)) rfl, tsm (inT1 (List.mem_of_getElem? (i := 1) rfl)) rfl, ⟨by decide +kernel, by decide +kernel, by decide +kernel⟩, by decide⟩
abbrev MX11_witness : MT := (RX11, yX11_witness, cX11_witness, 5, some .int)
theorem okX11_witness : jOK MX11_witness 1 := ⟨by decide, rfl, tsm (inT6 (List.mem_of_getElem? (i := 69) rfl)) rfl, tsm (inT1 (List.mem_of_getElem? (i := 1) rfl)) rfl, ⟨by decide +kernel, by decide +kernel, by decide +kernel⟩, by decide⟩
abbrev MX11_image : MT := (RX11, yX11_image, cX11_image, 2, some .boolean)
theorem okX11_image : jOK MX11_image 1 := ⟨by decide, rfl, tsm (inT6 (List.mem_of_getElem? (i := 75) rfl)) rfl, tsm (inT1 (List.mem_of_getElem? (i := 1) rfl)) rfl, ⟨by decide +kernel, by decide +kernel, by decide +kernel⟩, by decide⟩
abbrev MX11_restore : MT := (RX11, yX11_restore, cX11_restore, 2, some .boolean)
theorem okX11_restore : jOK MX11_restore 1 := ⟨by decide, rfl, tsm (inT6 (List.mem_of_getElem? (i := 86) rfl)) rfl, tsm (inT1 (List.mem_of_getElem? (i := 1) rfl)) rfl, ⟨by decide +kernel, by decide +kernel, by decide +kernel⟩, by decide⟩
abbrev MX11_isSide : MT := (RX11, yX11_isSide, cX11_isSide, 1, some .boolean)
theorem okX11_isSide : jOK MX11_isSide 1 := ⟨by decide, rfl, tsm (inT4 (List.mem_of_getElem? (i := 39) rfl)) rfl, tsm (inT1 (List.mem_of_getElem? (i := 1) rfl)) rfl, ⟨by decide +kernel, by decide +kernel, by decide +kernel⟩, by decide⟩
abbrev MX11_isYear : MT := (RX11, yX11_isYear, cX11_isYear, 1, some .boolean)
theorem okX11_isYear : jOK MX11_isYear 1 := ⟨by decide, rfl, tsm (inT4 (List.mem_of_getElem? (i := 75) rfl)) rfl, tsm (inT1 (List.mem_of_getElem? (i := 1) rfl)) rfl, ⟨by decide +kernel, by decide +kernel, by decide +kernel⟩, by decide⟩
abbrev MX11_isIn : MT := (RX11, yX11_isIn, cX11_isIn, 2, some .boolean)
theorem okX11_isIn : jOK MX11_isIn 2 := ⟨by decide, rfl, tsm (inT4 (List.mem_of_getElem? (i := 87) rfl)) rfl, tsm (inT1 (List.mem_of_getElem? (i := 1) rfl)) rfl, ⟨by decide +kernel, by decide +kernel, by decide +kernel⟩, by decide⟩
abbrev MX12_thrown : MT := (RX12, yX12_thrown, cX12_thrown, 1, some .int)
theorem okX12_thrown : jOK MX12_thrown 0 := ⟨by decide, rfl, tsm (inT6 (List.mem_of_getElem? (i := 180) rfl)) rfl, tsm (inT1 (List.mem_of_getElem? (i := 13) rfl)) rfl, ⟨by decide +kernel, by decide +kernel, by decide +kernel⟩, by decide⟩
abbrev MX12_throwsIf : MT := (RX12, yX12_throwsIf, cX12_throwsIf, 2, some .boolean)
theorem okX12_throwsIf : jOK MX12_throwsIf 1 := ⟨by decide, rfl, tsm (inT7 (List.mem_of_getElem? (i := 233) rfl)) rfl, tsm (inT1 (List.mem_of_getElem? (i := 13) rfl)) rfl, ⟨by decide +kernel, by decide +kernel, by decide +kernel⟩, by decide⟩
abbrev MX12_feed : MT := (RX12, yX12_feed, cX12_feed, 6, some .int)
theorem okX12_feed : jOK MX12_feed 5 := ⟨by decide, rfl, tsm (inT6 (List.mem_of_getElem? (i := 184) rfl)) rfl, tsm (inT1 (List.mem_of_getElem? (i := 13) rfl)) rfl, ⟨by decide +kernel, by decide +kernel, by decide +kernel⟩, by decide⟩
abbrev MX12_four : MT := (RX12, yX12_four, cX12_four, 3, none)
theorem okX12_four : jOK MX12_four 1 := ⟨by decide, rfl, tsm (inT6 (List.mem_of_getElem? (i := 189) rfl)) rfl, tsm (inT1 (List.mem_of_getElem? (i := 13) rfl)) rfl, ⟨by decide +kernel, by decide +kernel, by decide +kernel⟩, by decide⟩
abbrev MX12_end : MT := (RX12, yX12_end, cX12_end, 2, some .boolean)
theorem okX12_end : jOK MX12_end 1 := ⟨by decide, rfl, tsm (inT6 (List.mem_of_getElem? (i := 193) rfl)) rfl, tsm (inT1 (List.mem_of_getElem? (i := 13) rfl)) rfl, ⟨by decide +kernel, by decide +kernel, by decide +kernel⟩, by decide⟩
abbrev MX12_taken : MT := (RX12, yX12_taken, cX12_taken, 2, none)
theorem okX12_taken : jOK MX12_taken 1 := ⟨by decide, rfl, tsm (inT7 (List.mem_of_getElem? (i := 160) rfl)) rfl, tsm (inT1 (List.mem_of_getElem? (i := 13) rfl)) rfl, ⟨by decide +kernel, by decide +kernel, by decide +kernel⟩, by decide⟩
abbrev MX12_isIn : MT := (RX12, yX12_isIn, cX12_isIn, 3, some .boolean)
theorem okX12_isIn : jOK MX12_isIn 3 := ⟨by decide, rfl, tsm (inT7 (List.mem_of_getElem? (i := 205) rfl)) rfl, tsm (inT1 (List.mem_of_getElem? (i := 13) rfl)) rfl, ⟨by decide +kernel, by decide +kernel, by decide +kernel⟩, by decide⟩
abbrev MX12_has : MT := (RX12, yX12_has, cX12_has, 2, some .boolean)
theorem okX12_has : jOK MX12_has 2 := ⟨by decide, rfl, tsm (inT8 (List.mem_of_getElem? (i := 0) rfl)) rfl, tsm (inT1 (List.mem_of_getElem? (i := 13) rfl)) rfl, ⟨by decide +kernel, by decide +kernel, by decide +kernel⟩, by decide⟩
abbrev MX12_bits : MT := (RX12, yX12_bits, cX12_bits, 3, some .int)
theorem okX12_bits : jOK MX12_bits 1 := ⟨by decide, rfl, tsm (inT9 (List.mem_of_getElem? (i := 113) rfl)) rfl, tsm (inT1 (List.mem_of_getElem? (i := 13) rfl)) rfl, ⟨by decide +kernel, by decide +kernel, by decide +kernel⟩, by decide⟩
abbrev MX12_octet : MT := (RX12, yX12_octet, cX12_octet, 2, some .int)
theorem okX12_octet : jOK MX12_octet 1 := ⟨by decide, rfl, tsm (inT9 (List.mem_of_getElem? (i := 50) rfl)) rfl, tsm (inT1 (List.mem_of_getElem? (i := 13) rfl)) rfl, ⟨by decide +kernel, by decide +kernel, by decide +kernel⟩, by decide⟩
abbrev MX12_init : MT := (RX12, yX12_init, cX12_init, 1, none)
theorem okX12_init : jOK MX12_init 0 := ⟨by decide, rfl, tsm (inT6 (List.mem_of_getElem? (i := 197) rfl)) rfl, tsm (inT1 (List.mem_of_getElem? (i := 13) rfl)) rfl, ⟨by decide +kernel, by decide +kernel, by decide +kernel⟩, by decide⟩
abbrev MX12_peek : MT := (RX12, yX12_peek, cX12_peek, 1, some .int)
theorem okX12_peek : jOK MX12_peek 0 := ⟨by decide, rfl, tsm (inT7 (List.mem_of_getElem? (i := 168) rfl)) rfl, tsm (inT1 (List.mem_of_getElem? (i := 13) rfl)) rfl, ⟨by decide +kernel, by decide +kernel, by decide +kernel⟩, by decide⟩
abbrev MX12_isSmall : MT := (RX12, yX12_isSmall, cX12_isSmall, 1, some .boolean)
theorem okX12_isSmall : jOK MX12_isSmall 1 := ⟨by decide, rfl, tsm (inT7 (List.mem_of_getElem? (i := 171) rfl)) rfl, tsm (inT1 (List.mem_of_getElem? (i := 13) rfl)) rfl, ⟨by decide +kernel, by decide +kernel, by decide +kernel⟩, by decide⟩
abbrev MX12_isDigit : MT := (RX12, yX12_isDigit, cX12_isDigit, 1, some .boolean)
theorem okX12_isDigit : jOK MX12_isDigit 1 := ⟨by decide, rfl, tsm (inT7 (List.mem_of_getElem? (i := 174) rfl)) rfl, tsm (inT1 (List.mem_of_getElem? (i := 13) rfl)) rfl, ⟨by decide +kernel, by decide +kernel, by decide +kernel⟩, by decide⟩
abbrev MX12_next : MT := (RX12, yX12_next, cX12_next, 4, none)
theorem okX12_next : jOK MX12_next 0 := ⟨by decide, rfl, tsm (inT7 (List.mem_of_getElem? (i := 164) rfl)) rfl, tsm (inT1 (List.mem_of_getElem? (i := 13) rfl)) rfl, ⟨by decide +kernel, by decide +kernel, by decide +kernel⟩, by decide⟩
abbrev MX12_bad : MT := (RX12, yX12_bad, cX12_bad, 2, some .boolean)
theorem okX12_bad : jOK MX12_bad 1 := ⟨by decide, rfl, tsm (inT7 (List.mem_of_getElem? (i := 186) rfl)) rfl, tsm (inT1 (List.mem_of_getElem? (i := 13) rfl)) rfl, ⟨by decide +kernel, by decide +kernel, by decide +kernel⟩, by decide⟩
abbrev MX12_isWord : MT := (RX12, yX12_isWord, cX12_isWord, 3, some .boolean)
theorem okX12_isWord : jOK MX12_isWord 1 := ⟨by decide, rfl, tsm (inT7 (List.mem_of_getElem? (i := 182) rfl)) rfl, tsm (inT1 (List.mem_of_getElem? (i := 13) rfl)) rfl, ⟨by decide +kernel, by decide +kernel, by decide +kernel⟩, by decide⟩
abbrev MX12_isSign : MT := (RX12, yX12_isSign, cX12_isSign, 2, some .boolean)
theorem okX12_isSign : jOK MX12_isSign 1 := ⟨by decide, rfl, tsm (inT7 (List.mem_of_getElem? (i := 217) rfl)) rfl, tsm (inT1 (List.mem_of_getElem? (i := 13) rfl)) rfl, ⟨by decide +kernel, by decide +kernel, by decide +kernel⟩, by decide⟩
abbrev MX12_sign : MT := (RX12, yX12_sign, cX12_sign, 2, some .boolean)
theorem okX12_sign : jOK MX12_sign 1 := ⟨by decide, rfl, tsm (inT7 (List.mem_of_getElem? (i := 213) rfl)) rfl, tsm (inT1 (List.mem_of_getElem? (i := 13) rfl)) rfl, ⟨by decide +kernel, by decide +kernel, by decide +kernel⟩, by decide⟩
abbrev MX12_isName : MT := (RX12, yX12_isName, cX12_isName, 3, some .boolean)
theorem okX12_isName : jOK MX12_isName 0 := ⟨by decide, rfl, tsm (inT7 (List.mem_of_getElem? (i := 194) rfl)) rfl, tsm (inT1 (List.mem_of_getElem? (i := 13) rfl)) rfl, ⟨by decide +kernel, by decide +kernel, by decide +kernel⟩, by decide⟩
abbrev MX12_takes : MT := (RX12, yX12_takes, cX12_takes, 3, some .boolean)
theorem okX12_takes : jOK MX12_takes 2 := ⟨by decide, rfl, tsm (inT7 (List.mem_of_getElem? (i := 202) rfl)) rfl, tsm (inT1 (List.mem_of_getElem? (i := 13) rfl)) rfl, ⟨by decide +kernel, by decide +kernel, by decide +kernel⟩, by decide⟩
abbrev MX12_find : MT := (RX12, yX12_find, cX12_find, 4, some .int)
theorem okX12_find : jOK MX12_find 2 := ⟨by decide, rfl, tsm (inT7 (List.mem_of_getElem? (i := 198) rfl)) rfl, tsm (inT1 (List.mem_of_getElem? (i := 13) rfl)) rfl, ⟨by decide +kernel, by decide +kernel, by decide +kernel⟩, by decide⟩
abbrev MX12_takesName : MT := (RX12, yX12_takesName, cX12_takesName, 3, some .boolean)
theorem okX12_takesName : jOK MX12_takesName 2 := ⟨by decide, rfl, tsm (inT7 (List.mem_of_getElem? (i := 209) rfl)) rfl, tsm (inT1 (List.mem_of_getElem? (i := 13) rfl)) rfl, ⟨by decide +kernel, by decide +kernel, by decide +kernel⟩, by decide⟩
abbrev MX12_fresh : MT := (RX12, yX12_fresh, cX12_fresh, 2, some .boolean)
theorem okX12_fresh : jOK MX12_fresh 1 := ⟨by decide, rfl, tsm (inT7 (List.mem_of_getElem? (i := 190) rfl)) rfl, tsm (inT1 (List.mem_of_getElem? (i := 13) rfl)) rfl, ⟨by decide +kernel, by decide +kernel, by decide +kernel⟩, by decide⟩
abbrev MX12_portLine : MT := (RX12, yX12_portLine, cX12_portLine, 2, some .boolean)
theorem okX12_portLine : jOK MX12_portLine 0 := ⟨by decide, rfl, tsm (inT7 (List.mem_of_getElem? (i := 178) rfl)) rfl, tsm (inT1 (List.mem_of_getElem? (i := 13) rfl)) rfl, ⟨by decide +kernel, by decide +kernel, by decide +kernel⟩, by decide⟩
abbrev MX12_port : MT := (RX12, yX12_port, cX12_port, 2, some .int)
theorem okX12_port : jOK MX12_port 0 := ⟨by decide, rfl, tsm (inT7 (List.mem_of_getElem? (i := 156) rfl)) rfl, tsm (inT1 (List.mem_of_getElem? (i := 13) rfl)) rfl, ⟨by decide +kernel, by decide +kernel, by decide +kernel⟩, by decide⟩
abbrev MX12_fault : MT := (RX12, yX12_fault, cX12_fault, 1, some .int)
theorem okX12_fault : jOK MX12_fault 0 := ⟨by decide, rfl, tsm (inT7 (List.mem_of_getElem? (i := 221) rfl)) rfl, tsm (inT1 (List.mem_of_getElem? (i := 13) rfl)) rfl, ⟨by decide +kernel, by decide +kernel, by decide +kernel⟩, by decide⟩
abbrev MX12_isBody : MT := (RX12, yX12_isBody, cX12_isBody, 2, some .boolean)
theorem okX12_isBody : jOK MX12_isBody 1 := ⟨by decide, rfl, tsm (inT7 (List.mem_of_getElem? (i := 229) rfl)) rfl, tsm (inT1 (List.mem_of_getElem? (i := 13) rfl)) rfl, ⟨by decide +kernel, by decide +kernel, by decide +kernel⟩, by decide⟩
abbrev MX12_isKind : MT := (RX12, yX12_isKind, cX12_isKind, 2, some .boolean)
theorem okX12_isKind : jOK MX12_isKind 1 := ⟨by decide, rfl, tsm (inT8 (List.mem_of_getElem? (i := 48) rfl)) rfl, tsm (inT1 (List.mem_of_getElem? (i := 13) rfl)) rfl, ⟨by decide +kernel, by decide +kernel, by decide +kernel⟩, by decide⟩
abbrev MX12_isDeal : MT := (RX12, yX12_isDeal, cX12_isDeal, 2, some .boolean)
theorem okX12_isDeal : jOK MX12_isDeal 1 := ⟨by decide, rfl, tsm (inT8 (List.mem_of_getElem? (i := 24) rfl)) rfl, tsm (inT1 (List.mem_of_getElem? (i := 13) rfl)) rfl, ⟨by decide +kernel, by decide +kernel, by decide +kernel⟩, by decide⟩
abbrev MX12_isLiving : MT := (RX12, yX12_isLiving, cX12_isLiving, 2, some .boolean)
theorem okX12_isLiving : jOK MX12_isLiving 1 := ⟨by decide, rfl, tsm (inT7 (List.mem_of_getElem? (i := 237) rfl)) rfl, tsm (inT1 (List.mem_of_getElem? (i := 13) rfl)) rfl, ⟨by decide +kernel, by decide +kernel, by decide +kernel⟩, by decide⟩
abbrev MX12_of : MT := (RX12, yX12_of, cX12_of, 3, some .int)
theorem okX12_of : jOK MX12_of 2 := ⟨by decide, rfl, tsm (inT8 (List.mem_of_getElem? (i := 8) rfl)) rfl, tsm (inT1 (List.mem_of_getElem? (i := 13) rfl)) rfl, ⟨by decide +kernel, by decide +kernel, by decide +kernel⟩, by decide⟩
abbrev MX12_set : MT := (RX12, yX12_set, cX12_set, 4, none)
theorem okX12_set : jOK MX12_set 3 := ⟨by decide, rfl, tsm (inT8 (List.mem_of_getElem? (i := 104) rfl)) rfl, tsm (inT1 (List.mem_of_getElem? (i := 13) rfl)) rfl, ⟨by decide +kernel, by decide +kernel, by decide +kernel⟩, by decide⟩
abbrev MX12_isOpen : MT := (RX12, yX12_isOpen, cX12_isOpen, 2, some .boolean)
theorem okX12_isOpen : jOK MX12_isOpen 1 := ⟨by decide, rfl, tsm (inT8 (List.mem_of_getElem? (i := 20) rfl)) rfl, tsm (inT1 (List.mem_of_getElem? (i := 13) rfl)) rfl, ⟨by decide +kernel, by decide +kernel, by decide +kernel⟩, by decide⟩
abbrev MX12_sizeOf : MT := (RX12, yX12_sizeOf, cX12_sizeOf, 2, some .int)
theorem okX12_sizeOf : jOK MX12_sizeOf 1 := ⟨by decide, rfl, tsm (inT8 (List.mem_of_getElem? (i := 12) rfl)) rfl, tsm (inT1 (List.mem_of_getElem? (i := 13) rfl)) rfl, ⟨by decide +kernel, by decide +kernel, by decide +kernel⟩, by decide⟩
abbrev MX12_sortOf : MT := (RX12, yX12_sortOf, cX12_sortOf, 2, some .int)
theorem okX12_sortOf : jOK MX12_sortOf 1 := ⟨by decide, rfl, tsm (inT8 (List.mem_of_getElem? (i := 32) rfl)) rfl, tsm (inT1 (List.mem_of_getElem? (i := 13) rfl)) rfl, ⟨by decide +kernel, by decide +kernel, by decide +kernel⟩, by decide⟩
abbrev MX12_marksOn : MT := (RX12, yX12_marksOn, cX12_marksOn, 6, some .int)
theorem okX12_marksOn : jOK MX12_marksOn 2 := ⟨by decide, rfl, tsm (inT8 (List.mem_of_getElem? (i := 40) rfl)) rfl, tsm (inT1 (List.mem_of_getElem? (i := 13) rfl)) rfl, ⟨by decide +kernel, by decide +kernel, by decide +kernel⟩, by decide⟩
abbrev MX12_leftOf : MT := (RX12, yX12_leftOf, cX12_leftOf, 5, some .int)
theorem okX12_leftOf : jOK MX12_leftOf 1 := ⟨by decide, rfl, tsm (inT8 (List.mem_of_getElem? (i := 4) rfl)) rfl, tsm (inT1 (List.mem_of_getElem? (i := 13) rfl)) rfl, ⟨by decide +kernel, by decide +kernel, by decide +kernel⟩, by decide⟩
abbrev MX12_valueBy : MT := (RX12, yX12_valueBy, cX12_valueBy, 3, some .int)
theorem okX12_valueBy : jOK MX12_valueBy 2 := ⟨by decide, rfl, tsm (inT8 (List.mem_of_getElem? (i := 36) rfl)) rfl, tsm (inT1 (List.mem_of_getElem? (i := 13) rfl)) rfl, ⟨by decide +kernel, by decide +kernel, by decide +kernel⟩, by decide⟩
abbrev MX12_valueOf : MT := (RX12, yX12_valueOf, cX12_valueOf, 2, some .int)
theorem okX12_valueOf : jOK MX12_valueOf 1 := ⟨by decide, rfl, tsm (inT8 (List.mem_of_getElem? (i := 28) rfl)) rfl, tsm (inT1 (List.mem_of_getElem? (i := 13) rfl)) rfl, ⟨by decide +kernel, by decide +kernel, by decide +kernel⟩, by decide⟩
abbrev MX12_netOf : MT := (RX12, yX12_netOf, cX12_netOf, 4, some .int)
theorem okX12_netOf : jOK MX12_netOf 1 := ⟨by decide, rfl, tsm (inT8 (List.mem_of_getElem? (i := 16) rfl)) rfl, tsm (inT1 (List.mem_of_getElem? (i := 13) rfl)) rfl, ⟨by decide +kernel, by decide +kernel, by decide +kernel⟩, by decide⟩
abbrev MX12_isRead : MT := (RX12, yX12_isRead, cX12_isRead, 5, some .boolean)
theorem okX12_isRead : jOK MX12_isRead 3 := ⟨by decide, rfl, tsm (inT8 (List.mem_of_getElem? (i := 64) rfl)) rfl, tsm (inT1 (List.mem_of_getElem? (i := 13) rfl)) rfl, ⟨by decide +kernel, by decide +kernel, by decide +kernel⟩, by decide⟩
abbrev MX12_isKnown : MT := (RX12, yX12_isKnown, cX12_isKnown, 5, some .boolean)
theorem okX12_isKnown : jOK MX12_isKnown 2 := ⟨by decide, rfl, tsm (inT8 (List.mem_of_getElem? (i := 60) rfl)) rfl, tsm (inT1 (List.mem_of_getElem? (i := 13) rfl)) rfl, ⟨by decide +kernel, by decide +kernel, by decide +kernel⟩, by decide⟩
abbrev MX12_living : MT := (RX12, yX12_living, cX12_living, 1, some .int)
theorem okX12_living : jOK MX12_living 0 := ⟨by decide, rfl, tsm (inT8 (List.mem_of_getElem? (i := 56) rfl)) rfl, tsm (inT1 (List.mem_of_getElem? (i := 13) rfl)) rfl, ⟨by decide +kernel, by decide +kernel, by decide +kernel⟩, by decide⟩
abbrev MX12_body : MT := (RX12, yX12_body, cX12_body, 3, some .int)
theorem okX12_body : jOK MX12_body 2 := ⟨by decide, rfl, tsm (inT7 (List.mem_of_getElem? (i := 225) rfl)) rfl, tsm (inT1 (List.mem_of_getElem? (i := 13) rfl)) rfl, ⟨by decide +kernel, by decide +kernel, by decide +kernel⟩, by decide⟩
abbrev MX12_kind : MT := (RX12, yX12_kind, cX12_kind, 3, some .int)
theorem okX12_kind : jOK MX12_kind 2 := ⟨by decide, rfl, tsm (inT8 (List.mem_of_getElem? (i := 44) rfl)) rfl, tsm (inT1 (List.mem_of_getElem? (i := 13) rfl)) rfl, ⟨by decide +kernel, by decide +kernel, by decide +kernel⟩, by decide⟩
abbrev MX12_deal : MT := (RX12, yX12_deal, cX12_deal, 3, some .int)
theorem okX12_deal : jOK MX12_deal 2 := ⟨by decide, rfl, tsm (inT8 (List.mem_of_getElem? (i := 52) rfl)) rfl, tsm (inT1 (List.mem_of_getElem? (i := 13) rfl)) rfl, ⟨by decide +kernel, by decide +kernel, by decide +kernel⟩, by decide⟩
abbrev MX12_read : MT := (RX12, yX12_read, cX12_read, 3, some .int)
theorem okX12_read : jOK MX12_read 2 := ⟨by decide, rfl, tsm (inT8 (List.mem_of_getElem? (i := 68) rfl)) rfl, tsm (inT1 (List.mem_of_getElem? (i := 13) rfl)) rfl, ⟨by decide +kernel, by decide +kernel, by decide +kernel⟩, by decide⟩
abbrev MX12_markOf : MT := (RX12, yX12_markOf, cX12_markOf, 5, some .int)
theorem okX12_markOf : jOK MX12_markOf 2 := ⟨by decide, rfl, tsm (inT8 (List.mem_of_getElem? (i := 76) rfl)) rfl, tsm (inT1 (List.mem_of_getElem? (i := 13) rfl)) rfl, ⟨by decide +kernel, by decide +kernel, by decide +kernel⟩, by decide⟩
abbrev MX12_mark : MT := (RX12, yX12_mark, cX12_mark, 3, some .int)
theorem okX12_mark : jOK MX12_mark 2 := ⟨by decide, rfl, tsm (inT8 (List.mem_of_getElem? (i := 72) rfl)) rfl, tsm (inT1 (List.mem_of_getElem? (i := 13) rfl)) rfl, ⟨by decide +kernel, by decide +kernel, by decide +kernel⟩, by decide⟩
abbrev MX12_keep : MT := (RX12, yX12_keep, cX12_keep, 2, none)
theorem okX12_keep : jOK MX12_keep 0 := ⟨by decide, rfl, tsm (inT8 (List.mem_of_getElem? (i := 96) rfl)) rfl, tsm (inT1 (List.mem_of_getElem? (i := 13) rfl)) rfl, ⟨by decide +kernel, by decide +kernel, by decide +kernel⟩, by decide⟩
abbrev MX12_undo : MT := (RX12, yX12_undo, cX12_undo, 2, some .int)
theorem okX12_undo : jOK MX12_undo 0 := ⟨by decide, rfl, tsm (inT8 (List.mem_of_getElem? (i := 80) rfl)) rfl, tsm (inT1 (List.mem_of_getElem? (i := 13) rfl)) rfl, ⟨by decide +kernel, by decide +kernel, by decide +kernel⟩, by decide⟩
abbrev MX12_bearerOf : MT := (RX12, yX12_bearerOf, cX12_bearerOf, 5, some .int)
theorem okX12_bearerOf : jOK MX12_bearerOf 3 := ⟨by decide, rfl, tsm (inT8 (List.mem_of_getElem? (i := 92) rfl)) rfl, tsm (inT1 (List.mem_of_getElem? (i := 13) rfl)) rfl, ⟨by decide +kernel, by decide +kernel, by decide +kernel⟩, by decide⟩
abbrev MX12_whyWrite : MT := (RX12, yX12_whyWrite, cX12_whyWrite, 5, some .int)
theorem okX12_whyWrite : jOK MX12_whyWrite 3 := ⟨by decide, rfl, tsm (inT8 (List.mem_of_getElem? (i := 88) rfl)) rfl, tsm (inT1 (List.mem_of_getElem? (i := 13) rfl)) rfl, ⟨by decide +kernel, by decide +kernel, by decide +kernel⟩, by decide⟩
abbrev MX12_writes : MT := (RX12, yX12_writes, cX12_writes, 8, none)
theorem okX12_writes : jOK MX12_writes 4 := ⟨by decide, rfl, tsm (inT8 (List.mem_of_getElem? (i := 100) rfl)) rfl, tsm (inT1 (List.mem_of_getElem? (i := 13) rfl)) rfl, ⟨by decide +kernel, by decide +kernel, by decide +kernel⟩, by decide⟩
abbrev MX12_write : MT := (RX12, yX12_write, cX12_write, 6, some .int)
theorem okX12_write : jOK MX12_write 4 := ⟨by decide, rfl, tsm (inT8 (List.mem_of_getElem? (i := 84) rfl)) rfl, tsm (inT1 (List.mem_of_getElem? (i := 13) rfl)) rfl, ⟨by decide +kernel, by decide +kernel, by decide +kernel⟩, by decide⟩
abbrev MX12_whyStrike : MT := (RX12, yX12_whyStrike, cX12_whyStrike, 5, some .int)
theorem okX12_whyStrike : jOK MX12_whyStrike 1 := ⟨by decide, rfl, tsm (inT8 (List.mem_of_getElem? (i := 112) rfl)) rfl, tsm (inT1 (List.mem_of_getElem? (i := 13) rfl)) rfl, ⟨by decide +kernel, by decide +kernel, by decide +kernel⟩, by decide⟩
abbrev MX12_strikes : MT := (RX12, yX12_strikes, cX12_strikes, 3, none)
theorem okX12_strikes : jOK MX12_strikes 1 := ⟨by decide, rfl, tsm (inT8 (List.mem_of_getElem? (i := 116) rfl)) rfl, tsm (inT1 (List.mem_of_getElem? (i := 13) rfl)) rfl, ⟨by decide +kernel, by decide +kernel, by decide +kernel⟩, by decide⟩
abbrev MX12_strike : MT := (RX12, yX12_strike, cX12_strike, 3, some .int)
theorem okX12_strike : jOK MX12_strike 1 := ⟨by decide, rfl, tsm (inT8 (List.mem_of_getElem? (i := 108) rfl)) rfl, tsm (inT1 (List.mem_of_getElem? (i := 13) rfl)) rfl, ⟨by decide +kernel, by decide +kernel, by decide +kernel⟩, by decide⟩
abbrev MX12_whyScar : MT := (RX12, yX12_whyScar, cX12_whyScar, 3, some .int)
theorem okX12_whyScar : jOK MX12_whyScar 2 := ⟨by decide, rfl, tsm (inT8 (List.mem_of_getElem? (i := 124) rfl)) rfl, tsm (inT1 (List.mem_of_getElem? (i := 13) rfl)) rfl, ⟨by decide +kernel, by decide +kernel, by decide +kernel⟩, by decide⟩
abbrev MX12_scar : MT := (RX12, yX12_scar, cX12_scar, 4, some .int)
theorem okX12_scar : jOK MX12_scar 2 := ⟨by decide, rfl, tsm (inT8 (List.mem_of_getElem? (i := 120) rfl)) rfl, tsm (inT1 (List.mem_of_getElem? (i := 13) rfl)) rfl, ⟨by decide +kernel, by decide +kernel, by decide +kernel⟩, by decide⟩
abbrev MX12_isRingDeal : MT := (RX12, yX12_isRingDeal, cX12_isRingDeal, 2, some .boolean)
theorem okX12_isRingDeal : jOK MX12_isRingDeal 1 := ⟨by decide, rfl, tsm (inT8 (List.mem_of_getElem? (i := 140) rfl)) rfl, tsm (inT1 (List.mem_of_getElem? (i := 13) rfl)) rfl, ⟨by decide +kernel, by decide +kernel, by decide +kernel⟩, by decide⟩
abbrev MX12_leastOf : MT := (RX12, yX12_leastOf, cX12_leastOf, 5, some .int)
theorem okX12_leastOf : jOK MX12_leastOf 2 := ⟨by decide, rfl, tsm (inT8 (List.mem_of_getElem? (i := 148) rfl)) rfl, tsm (inT1 (List.mem_of_getElem? (i := 13) rfl)) rfl, ⟨by decide +kernel, by decide +kernel, by decide +kernel⟩, by decide⟩
abbrev MX12_dotOf : MT := (RX12, yX12_dotOf, cX12_dotOf, 2, some .int)
theorem okX12_dotOf : jOK MX12_dotOf 1 := ⟨by decide, rfl, tsm (inT8 (List.mem_of_getElem? (i := 153) rfl)) rfl, tsm (inT1 (List.mem_of_getElem? (i := 13) rfl)) rfl, ⟨by decide +kernel, by decide +kernel, by decide +kernel⟩, by decide⟩
abbrev MX12_freesOf : MT := (RX12, yX12_freesOf, cX12_freesOf, 6, some .int)
theorem okX12_freesOf : jOK MX12_freesOf 1 := ⟨by decide, rfl, tsm (inT8 (List.mem_of_getElem? (i := 144) rfl)) rfl, tsm (inT1 (List.mem_of_getElem? (i := 13) rfl)) rfl, ⟨by decide +kernel, by decide +kernel, by decide +kernel⟩, by decide⟩
abbrev MX12_canRing : MT := (RX12, yX12_canRing, cX12_canRing, 3, some .boolean)
theorem okX12_canRing : jOK MX12_canRing 1 := ⟨by decide, rfl, tsm (inT8 (List.mem_of_getElem? (i := 136) rfl)) rfl, tsm (inT1 (List.mem_of_getElem? (i := 13) rfl)) rfl, ⟨by decide +kernel, by decide +kernel, by decide +kernel⟩, by decide⟩
abbrev MX12_bestOf : MT := (RX12, yX12_bestOf, cX12_bestOf, 8, some .int)
theorem okX12_bestOf : jOK MX12_bestOf 1 := ⟨by decide, rfl, tsm (inT8 (List.mem_of_getElem? (i := 132) rfl)) rfl, tsm (inT1 (List.mem_of_getElem? (i := 13) rfl)) rfl, ⟨by decide +kernel, by decide +kernel, by decide +kernel⟩, by decide⟩
abbrev MX12_ring : MT := (RX12, yX12_ring, cX12_ring, 3, some .int)
theorem okX12_ring : jOK MX12_ring 0 := ⟨by decide, rfl, tsm (inT8 (List.mem_of_getElem? (i := 128) rfl)) rfl, tsm (inT1 (List.mem_of_getElem? (i := 13) rfl)) rfl, ⟨by decide +kernel, by decide +kernel, by decide +kernel⟩, by decide⟩
abbrev MX12_ringAt : MT := (RX12, yX12_ringAt, cX12_ringAt, 2, some .int)
theorem okX12_ringAt : jOK MX12_ringAt 1 := ⟨by decide, rfl, tsm (inT8 (List.mem_of_getElem? (i := 157) rfl)) rfl, tsm (inT1 (List.mem_of_getElem? (i := 13) rfl)) rfl, ⟨by decide +kernel, by decide +kernel, by decide +kernel⟩, by decide⟩
abbrev MX12_ringOf : MT := (RX12, yX12_ringOf, cX12_ringOf, 2, some .int)
theorem okX12_ringOf : jOK MX12_ringOf 1 := ⟨by decide, rfl, tsm (inT8 (List.mem_of_getElem? (i := 161) rfl)) rfl, tsm (inT1 (List.mem_of_getElem? (i := 13) rfl)) rfl, ⟨by decide +kernel, by decide +kernel, by decide +kernel⟩, by decide⟩
abbrev MX12_cuts : MT := (RX12, yX12_cuts, cX12_cuts, 6, some .int)
theorem okX12_cuts : jOK MX12_cuts 0 := ⟨by decide, rfl, tsm (inT8 (List.mem_of_getElem? (i := 169) rfl)) rfl, tsm (inT1 (List.mem_of_getElem? (i := 13) rfl)) rfl, ⟨by decide +kernel, by decide +kernel, by decide +kernel⟩, by decide⟩
abbrev MX12_cut : MT := (RX12, yX12_cut, cX12_cut, 1, some .int)
theorem okX12_cut : jOK MX12_cut 0 := ⟨by decide, rfl, tsm (inT8 (List.mem_of_getElem? (i := 165) rfl)) rfl, tsm (inT1 (List.mem_of_getElem? (i := 13) rfl)) rfl, ⟨by decide +kernel, by decide +kernel, by decide +kernel⟩, by decide⟩
abbrev MX12_whyDies : MT := (RX12, yX12_whyDies, cX12_whyDies, 3, some .int)
theorem okX12_whyDies : jOK MX12_whyDies 2 := ⟨by decide, rfl, tsm (inT8 (List.mem_of_getElem? (i := 177) rfl)) rfl, tsm (inT1 (List.mem_of_getElem? (i := 13) rfl)) rfl, ⟨by decide +kernel, by decide +kernel, by decide +kernel⟩, by decide⟩
abbrev MX12_buries : MT := (RX12, yX12_buries, cX12_buries, 5, some .int)
theorem okX12_buries : jOK MX12_buries 2 := ⟨by decide, rfl, tsm (inT8 (List.mem_of_getElem? (i := 181) rfl)) rfl, tsm (inT1 (List.mem_of_getElem? (i := 13) rfl)) rfl, ⟨by decide +kernel, by decide +kernel, by decide +kernel⟩, by decide⟩
abbrev MX12_dies : MT := (RX12, yX12_dies, cX12_dies, 4, some .int)
theorem okX12_dies : jOK MX12_dies 2 := ⟨by decide, rfl, tsm (inT8 (List.mem_of_getElem? (i := 173) rfl)) rfl, tsm (inT1 (List.mem_of_getElem? (i := 13) rfl)) rfl, ⟨by decide +kernel, by decide +kernel, by decide +kernel⟩, by decide⟩
abbrev MX12_year : MT := (RX12, yX12_year, cX12_year, 1, some .int)
theorem okX12_year : jOK MX12_year 0 := ⟨by decide, rfl, tsm (inT8 (List.mem_of_getElem? (i := 185) rfl)) rfl, tsm (inT1 (List.mem_of_getElem? (i := 13) rfl)) rfl, ⟨by decide +kernel, by decide +kernel, by decide +kernel⟩, by decide⟩
abbrev MX12_can : MT := (RX12, yX12_can, cX12_can, 5, some .int)
theorem okX12_can : jOK MX12_can 2 := ⟨by decide, rfl, tsm (inT8 (List.mem_of_getElem? (i := 189) rfl)) rfl, tsm (inT1 (List.mem_of_getElem? (i := 13) rfl)) rfl, ⟨by decide +kernel, by decide +kernel, by decide +kernel⟩, by decide⟩
abbrev MX12_keepsAll : MT := (RX12, yX12_keepsAll, cX12_keepsAll, 2, none)
theorem okX12_keepsAll : jOK MX12_keepsAll 0 := ⟨by decide, rfl, tsm (inT8 (List.mem_of_getElem? (i := 197) rfl)) rfl, tsm (inT1 (List.mem_of_getElem? (i := 13) rfl)) rfl, ⟨by decide +kernel, by decide +kernel, by decide +kernel⟩, by decide⟩
abbrev MX12_backAll : MT := (RX12, yX12_backAll, cX12_backAll, 2, none)
theorem okX12_backAll : jOK MX12_backAll 0 := ⟨by decide, rfl, tsm (inT8 (List.mem_of_getElem? (i := 201) rfl)) rfl, tsm (inT1 (List.mem_of_getElem? (i := 13) rfl)) rfl, ⟨by decide +kernel, by decide +kernel, by decide +kernel⟩, by decide⟩
abbrev MX12_ringsFor : MT := (RX12, yX12_ringsFor, cX12_ringsFor, 6, some .int)
theorem okX12_ringsFor : jOK MX12_ringsFor 3 := ⟨by decide, rfl, tsm (inT8 (List.mem_of_getElem? (i := 193) rfl)) rfl, tsm (inT1 (List.mem_of_getElem? (i := 13) rfl)) rfl, ⟨by decide +kernel, by decide +kernel, by decide +kernel⟩, by decide⟩
abbrev MX12_aged : MT := (RX12, yX12_aged, cX12_aged, 3, some .int)
theorem okX12_aged : jOK MX12_aged 2 := ⟨by decide, rfl, tsm (inT8 (List.mem_of_getElem? (i := 205) rfl)) rfl, tsm (inT1 (List.mem_of_getElem? (i := 13) rfl)) rfl, ⟨by decide +kernel, by decide +kernel, by decide +kernel⟩, by decide⟩
abbrev MX12_owes : MT := (RX12, yX12_owes, cX12_owes, 5, some .int)
theorem okX12_owes : jOK MX12_owes 2 := ⟨by decide, rfl, tsm (inT8 (List.mem_of_getElem? (i := 209) rfl)) rfl, tsm (inT1 (List.mem_of_getElem? (i := 13) rfl)) rfl, ⟨by decide +kernel, by decide +kernel, by decide +kernel⟩, by decide⟩
abbrev MX12_chain : MT := (RX12, yX12_chain, cX12_chain, 7, some .int)
theorem okX12_chain : jOK MX12_chain 2 := ⟨by decide, rfl, tsm (inT8 (List.mem_of_getElem? (i := 213) rfl)) rfl, tsm (inT1 (List.mem_of_getElem? (i := 13) rfl)) rfl, ⟨by decide +kernel, by decide +kernel, by decide +kernel⟩, by decide⟩
abbrev MX12_fullest : MT := (RX12, yX12_fullest, cX12_fullest, 6, some .int)
theorem okX12_fullest : jOK MX12_fullest 1 := ⟨by decide, rfl, tsm (inT8 (List.mem_of_getElem? (i := 217) rfl)) rfl, tsm (inT1 (List.mem_of_getElem? (i := 13) rfl)) rfl, ⟨by decide +kernel, by decide +kernel, by decide +kernel⟩, by decide⟩
abbrev MX12_trade : MT := (RX12, yX12_trade, cX12_trade, 5, some .int)
theorem okX12_trade : jOK MX12_trade 2 := ⟨by decide, rfl, tsm (inT8 (List.mem_of_getElem? (i := 221) rfl)) rfl, tsm (inT1 (List.mem_of_getElem? (i := 13) rfl)) rfl, ⟨by decide +kernel, by decide +kernel, by decide +kernel⟩, by decide⟩
abbrev MX12_settled : MT := (RX12, yX12_settled, cX12_settled, 7, some .int)
theorem okX12_settled : jOK MX12_settled 0 := ⟨by decide, rfl, tsm (inT8 (List.mem_of_getElem? (i := 225) rfl)) rfl, tsm (inT1 (List.mem_of_getElem? (i := 13) rfl)) rfl, ⟨by decide +kernel, by decide +kernel, by decide +kernel⟩, by decide⟩
abbrev MX12_put : MT := (RX12, yX12_put, cX12_put, 2, none)
theorem okX12_put : jOK MX12_put 1 := ⟨by decide, rfl, tsm (inT8 (List.mem_of_getElem? (i := 233) rfl)) rfl, tsm (inT1 (List.mem_of_getElem? (i := 13) rfl)) rfl, ⟨by decide +kernel, by decide +kernel, by decide +kernel⟩, by decide⟩
abbrev MX12_putName : MT := (RX12, yX12_putName, cX12_putName, 4, none)
theorem okX12_putName : jOK MX12_putName 1 := ⟨by decide, rfl, tsm (inT8 (List.mem_of_getElem? (i := 237) rfl)) rfl, tsm (inT1 (List.mem_of_getElem? (i := 13) rfl)) rfl, ⟨by decide +kernel, by decide +kernel, by decide +kernel⟩, by decide⟩
abbrev MX12_putNumber : MT := (RX12, yX12_putNumber, cX12_putNumber, 2, none)
theorem okX12_putNumber : jOK MX12_putNumber 1 := ⟨by decide, rfl, tsm (inT9 (List.mem_of_getElem? (i := 2) rfl)) rfl, tsm (inT1 (List.mem_of_getElem? (i := 13) rfl)) rfl, ⟨by decide +kernel, by decide +kernel, by decide +kernel⟩, by decide⟩
abbrev MX12_skin : MT := (RX12, yX12_skin, cX12_skin, 6, some .int)
theorem okX12_skin : jOK MX12_skin 1 := ⟨by decide, rfl, tsm (inT8 (List.mem_of_getElem? (i := 229) rfl)) rfl, tsm (inT1 (List.mem_of_getElem? (i := 13) rfl)) rfl, ⟨by decide +kernel, by decide +kernel, by decide +kernel⟩, by decide⟩
abbrev MX12_byteAt : MT := (RX12, yX12_byteAt, cX12_byteAt, 2, some .int)
theorem okX12_byteAt : jOK MX12_byteAt 1 := ⟨by decide, rfl, tsm (inT9 (List.mem_of_getElem? (i := 6) rfl)) rfl, tsm (inT1 (List.mem_of_getElem? (i := 13) rfl)) rfl, ⟨by decide +kernel, by decide +kernel, by decide +kernel⟩, by decide⟩
abbrev MX12_between : MT := (RX12, yX12_between, cX12_between, 6, some .int)
theorem okX12_between : jOK MX12_between 3 := ⟨by decide, rfl, tsm (inT9 (List.mem_of_getElem? (i := 10) rfl)) rfl, tsm (inT1 (List.mem_of_getElem? (i := 13) rfl)) rfl, ⟨by decide +kernel, by decide +kernel, by decide +kernel⟩, by decide⟩
abbrev MX12_greatest : MT := (RX12, yX12_greatest, cX12_greatest, 5, some .int)
theorem okX12_greatest : jOK MX12_greatest 1 := ⟨by decide, rfl, tsm (inT9 (List.mem_of_getElem? (i := 14) rfl)) rfl, tsm (inT1 (List.mem_of_getElem? (i := 13) rfl)) rfl, ⟨by decide +kernel, by decide +kernel, by decide +kernel⟩, by decide⟩
abbrev MX12_bookLine : MT := (RX12, yX12_bookLine, cX12_bookLine, 4, some .boolean)
theorem okX12_bookLine : jOK MX12_bookLine 0 := ⟨by decide, rfl, tsm (inT9 (List.mem_of_getElem? (i := 22) rfl)) rfl, tsm (inT1 (List.mem_of_getElem? (i := 13) rfl)) rfl, ⟨by decide +kernel, by decide +kernel, by decide +kernel⟩, by decide⟩
abbrev MX12_book : MT := (RX12, yX12_book, cX12_book, 2, some .int)
theorem okX12_book : jOK MX12_book 0 := ⟨by decide, rfl, tsm (inT9 (List.mem_of_getElem? (i := 18) rfl)) rfl, tsm (inT1 (List.mem_of_getElem? (i := 13) rfl)) rfl, ⟨by decide +kernel, by decide +kernel, by decide +kernel⟩, by decide⟩
abbrev MX12_does : MT := (RX12, yX12_does, cX12_does, 5, some .int)
theorem okX12_does : jOK MX12_does 1 := ⟨by decide, rfl, tsm (inT9 (List.mem_of_getElem? (i := 30) rfl)) rfl, tsm (inT1 (List.mem_of_getElem? (i := 13) rfl)) rfl, ⟨by decide +kernel, by decide +kernel, by decide +kernel⟩, by decide⟩
abbrev MX12_openMany : MT := (RX12, yX12_openMany, cX12_openMany, 3, some .int)
theorem okX12_openMany : jOK MX12_openMany 0 := ⟨by decide, rfl, tsm (inT9 (List.mem_of_getElem? (i := 34) rfl)) rfl, tsm (inT1 (List.mem_of_getElem? (i := 13) rfl)) rfl, ⟨by decide +kernel, by decide +kernel, by decide +kernel⟩, by decide⟩
abbrev MX12_judge : MT := (RX12, yX12_judge, cX12_judge, 4, some .int)
theorem okX12_judge : jOK MX12_judge 1 := ⟨by decide, rfl, tsm (inT9 (List.mem_of_getElem? (i := 26) rfl)) rfl, tsm (inT1 (List.mem_of_getElem? (i := 13) rfl)) rfl, ⟨by decide +kernel, by decide +kernel, by decide +kernel⟩, by decide⟩
abbrev MX12_keepsBefore : MT := (RX12, yX12_keepsBefore, cX12_keepsBefore, 2, none)
theorem okX12_keepsBefore : jOK MX12_keepsBefore 0 := ⟨by decide, rfl, tsm (inT9 (List.mem_of_getElem? (i := 38) rfl)) rfl, tsm (inT1 (List.mem_of_getElem? (i := 13) rfl)) rfl, ⟨by decide +kernel, by decide +kernel, by decide +kernel⟩, by decide⟩
abbrev MX12_judged : MT := (RX12, yX12_judged, cX12_judged, 2, some .int)
theorem okX12_judged : jOK MX12_judged 1 := ⟨by decide, rfl, tsm (inT9 (List.mem_of_getElem? (i := 42) rfl)) rfl, tsm (inT1 (List.mem_of_getElem? (i := 13) rfl)) rfl, ⟨by decide +kernel, by decide +kernel, by decide +kernel⟩, by decide⟩
abbrev MX12_packs : MT := (RX12, yX12_packs, cX12_packs, 7, some .boolean)
theorem okX12_packs : jOK MX12_packs 1 := ⟨by decide, rfl, tsm (inT9 (List.mem_of_getElem? (i := 62) rfl)) rfl, tsm (inT1 (List.mem_of_getElem? (i := 13) rfl)) rfl, ⟨by decide +kernel, by decide +kernel, by decide +kernel⟩, by decide⟩
abbrev MX12_arePacked : MT := (RX12, yX12_arePacked, cX12_arePacked, 4, some .boolean)
theorem okX12_arePacked : jOK MX12_arePacked 2 := ⟨by decide, rfl, tsm (inT9 (List.mem_of_getElem? (i := 58) rfl)) rfl, tsm (inT1 (List.mem_of_getElem? (i := 13) rfl)) rfl, ⟨by decide +kernel, by decide +kernel, by decide +kernel⟩, by decide⟩
abbrev MX12_bestPack : MT := (RX12, yX12_bestPack, cX12_bestPack, 7, some .int)
theorem okX12_bestPack : jOK MX12_bestPack 2 := ⟨by decide, rfl, tsm (inT9 (List.mem_of_getElem? (i := 54) rfl)) rfl, tsm (inT1 (List.mem_of_getElem? (i := 13) rfl)) rfl, ⟨by decide +kernel, by decide +kernel, by decide +kernel⟩, by decide⟩
abbrev MX12_pack : MT := (RX12, yX12_pack, cX12_pack, 3, some .int)
theorem okX12_pack : jOK MX12_pack 0 := ⟨by decide, rfl, tsm (inT9 (List.mem_of_getElem? (i := 46) rfl)) rfl, tsm (inT1 (List.mem_of_getElem? (i := 13) rfl)) rfl, ⟨by decide +kernel, by decide +kernel, by decide +kernel⟩, by decide⟩
abbrev MX12_packed : MT := (RX12, yX12_packed, cX12_packed, 2, some .int)
theorem okX12_packed : jOK MX12_packed 1 := ⟨by decide, rfl, tsm (inT9 (List.mem_of_getElem? (i := 66) rfl)) rfl, tsm (inT1 (List.mem_of_getElem? (i := 13) rfl)) rfl, ⟨by decide +kernel, by decide +kernel, by decide +kernel⟩, by decide⟩
abbrev MX12_price : MT := (RX12, yX12_price, cX12_price, 4, some .int)
theorem okX12_price : jOK MX12_price 2 := ⟨by decide, rfl, tsm (inT9 (List.mem_of_getElem? (i := 70) rfl)) rfl, tsm (inT1 (List.mem_of_getElem? (i := 13) rfl)) rfl, ⟨by decide +kernel, by decide +kernel, by decide +kernel⟩, by decide⟩
abbrev MX12_isLost : MT := (RX12, yX12_isLost, cX12_isLost, 2, some .boolean)
theorem okX12_isLost : jOK MX12_isLost 1 := ⟨by decide, rfl, tsm (inT9 (List.mem_of_getElem? (i := 82) rfl)) rfl, tsm (inT1 (List.mem_of_getElem? (i := 13) rfl)) rfl, ⟨by decide +kernel, by decide +kernel, by decide +kernel⟩, by decide⟩
abbrev MX12_lostOf : MT := (RX12, yX12_lostOf, cX12_lostOf, 4, some .int)
theorem okX12_lostOf : jOK MX12_lostOf 1 := ⟨by decide, rfl, tsm (inT9 (List.mem_of_getElem? (i := 78) rfl)) rfl, tsm (inT1 (List.mem_of_getElem? (i := 13) rfl)) rfl, ⟨by decide +kernel, by decide +kernel, by decide +kernel⟩, by decide⟩
abbrev MX12_lost : MT := (RX12, yX12_lost, cX12_lost, 2, some .int)
theorem okX12_lost : jOK MX12_lost 1 := ⟨by decide, rfl, tsm (inT9 (List.mem_of_getElem? (i := 74) rfl)) rfl, tsm (inT1 (List.mem_of_getElem? (i := 13) rfl)) rfl, ⟨by decide +kernel, by decide +kernel, by decide +kernel⟩, by decide⟩
abbrev MX12_fits : MT := (RX12, yX12_fits, cX12_fits, 6, some .int)
theorem okX12_fits : jOK MX12_fits 1 := ⟨by decide, rfl, tsm (inT9 (List.mem_of_getElem? (i := 86) rfl)) rfl, tsm (inT1 (List.mem_of_getElem? (i := 13) rfl)) rfl, ⟨by decide +kernel, by decide +kernel, by decide +kernel⟩, by decide⟩
abbrev MX12_isFit : MT := (RX12, yX12_isFit, cX12_isFit, 5, some .boolean)
theorem okX12_isFit : jOK MX12_isFit 1 := ⟨by decide, rfl, tsm (inT9 (List.mem_of_getElem? (i := 90) rfl)) rfl, tsm (inT1 (List.mem_of_getElem? (i := 13) rfl)) rfl, ⟨by decide +kernel, by decide +kernel, by decide +kernel⟩, by decide⟩
abbrev MX12_fit : MT := (RX12, yX12_fit, cX12_fit, 3, some .int)
theorem okX12_fit : jOK MX12_fit 2 := ⟨by decide, rfl, tsm (inT9 (List.mem_of_getElem? (i := 94) rfl)) rfl, tsm (inT1 (List.mem_of_getElem? (i := 13) rfl)) rfl, ⟨by decide +kernel, by decide +kernel, by decide +kernel⟩, by decide⟩
abbrev MX12_owedBy : MT := (RX12, yX12_owedBy, cX12_owedBy, 7, some .int)
theorem okX12_owedBy : jOK MX12_owedBy 3 := ⟨by decide, rfl, tsm (inT9 (List.mem_of_getElem? (i := 106) rfl)) rfl, tsm (inT1 (List.mem_of_getElem? (i := 13) rfl)) rfl, ⟨by decide +kernel, by decide +kernel, by decide +kernel⟩, by decide⟩
abbrev MX12_isFound : MT := (RX12, yX12_isFound, cX12_isFound, 2, some .boolean)
theorem okX12_isFound : jOK MX12_isFound 1 := ⟨by decide, rfl, tsm (inT9 (List.mem_of_getElem? (i := 102) rfl)) rfl, tsm (inT1 (List.mem_of_getElem? (i := 13) rfl)) rfl, ⟨by decide +kernel, by decide +kernel, by decide +kernel⟩, by decide⟩
abbrev MX12_owed : MT := (RX12, yX12_owed, cX12_owed, 4, some .int)
theorem okX12_owed : jOK MX12_owed 3 := ⟨by decide, rfl, tsm (inT9 (List.mem_of_getElem? (i := 98) rfl)) rfl, tsm (inT1 (List.mem_of_getElem? (i := 13) rfl)) rfl, ⟨by decide +kernel, by decide +kernel, by decide +kernel⟩, by decide⟩
abbrev MX12_proof : MT := (RX12, yX12_proof, cX12_proof, 6, some .int)
theorem okX12_proof : jOK MX12_proof 1 := ⟨by decide, rfl, tsm (inT9 (List.mem_of_getElem? (i := 110) rfl)) rfl, tsm (inT1 (List.mem_of_getElem? (i := 13) rfl)) rfl, ⟨by decide +kernel, by decide +kernel, by decide +kernel⟩, by decide⟩
abbrev MX12_witness : MT := (RX12, yX12_witness, cX12_witness, 4, some .int)
theorem okX12_witness : jOK MX12_witness 1 := ⟨by decide, rfl, tsm (inT9 (List.mem_of_getElem? (i := 117) rfl)) rfl, tsm (inT1 (List.mem_of_getElem? (i := 13) rfl)) rfl, ⟨by decide +kernel, by decide +kernel, by decide +kernel⟩, by decide⟩
abbrev MX12_draw : MT := (RX12, yX12_draw, cX12_draw, 2, some .int)
theorem okX12_draw : jOK MX12_draw 1 := ⟨by decide, rfl, tsm (inT9 (List.mem_of_getElem? (i := 125) rfl)) rfl, tsm (inT1 (List.mem_of_getElem? (i := 13) rfl)) rfl, ⟨by decide +kernel, by decide +kernel, by decide +kernel⟩, by decide⟩
abbrev MX12_latestFrom : MT := (RX12, yX12_latestFrom, cX12_latestFrom, 4, some .int)
theorem okX12_latestFrom : jOK MX12_latestFrom 1 := ⟨by decide, rfl, tsm (inT9 (List.mem_of_getElem? (i := 130) rfl)) rfl, tsm (inT1 (List.mem_of_getElem? (i := 13) rfl)) rfl, ⟨by decide +kernel, by decide +kernel, by decide +kernel⟩, by decide⟩
abbrev MX12_lasts : MT := (RX12, yX12_lasts, cX12_lasts, 12, some .int)
theorem okX12_lasts : jOK MX12_lasts 2 := ⟨by decide, rfl, tsm (inT9 (List.mem_of_getElem? (i := 121) rfl)) rfl, tsm (inT1 (List.mem_of_getElem? (i := 13) rfl)) rfl, ⟨by decide +kernel, by decide +kernel, by decide +kernel⟩, by decide⟩
abbrev MX12_image : MT := (RX12, yX12_image, cX12_image, 3, some .boolean)
theorem okX12_image : jOK MX12_image 1 := ⟨by decide, rfl, tsm (inT9 (List.mem_of_getElem? (i := 134) rfl)) rfl, tsm (inT1 (List.mem_of_getElem? (i := 13) rfl)) rfl, ⟨by decide +kernel, by decide +kernel, by decide +kernel⟩, by decide⟩
abbrev MX12_restore : MT := (RX12, yX12_restore, cX12_restore, 3, some .boolean)
theorem okX12_restore : jOK MX12_restore 1 := ⟨by decide, rfl, tsm (inT9 (List.mem_of_getElem? (i := 138) rfl)) rfl, tsm (inT1 (List.mem_of_getElem? (i := 13) rfl)) rfl, ⟨by decide +kernel, by decide +kernel, by decide +kernel⟩, by decide⟩
abbrev MX12_count : MT := (RX12, yX12_count, cX12_count, 2, some .int)
theorem okX12_count : jOK MX12_count 1 := ⟨by decide, rfl, tsm (inT9 (List.mem_of_getElem? (i := 142) rfl)) rfl, tsm (inT1 (List.mem_of_getElem? (i := 13) rfl)) rfl, ⟨by decide +kernel, by decide +kernel, by decide +kernel⟩, by decide⟩
abbrev ML_law : MT := (RL, yL_law, cL_law, 7, some .boolean)
theorem mlX0_3 : Cond.methodLink RX0 3 objectInit ∈ TS := tsm (inT1 (List.mem_of_getElem? (i := 156) rfl)) rfl
theorem flX0_9 : jFL RX0 9 0 1 true := ⟨RX0, TX0, 6, rfl, by decide, rfl, rfl, tsm (inT1 (List.mem_of_getElem? (i := 159) rfl)) rfl⟩
theorem flX0_15 : jFL RX0 15 0 2 true := ⟨RX0, TX0, 6, rfl, by decide, rfl, rfl, tsm (inT1 (List.mem_of_getElem? (i := 160) rfl)) rfl⟩
theorem flX0_18 : jFL RX0 18 0 3 true := ⟨RX0, TX0, 6, rfl, by decide, rfl, rfl, tsm (inT1 (List.mem_of_getElem? (i := 161) rfl)) rfl⟩
theorem flX0_21 : jFL RX0 21 0 4 true := ⟨RX0, TX0, 6, rfl, by decide, rfl, rfl, tsm (inT1 (List.mem_of_getElem? (i := 162) rfl)) rfl⟩
theorem flX0_24 : jFL RX0 24 0 5 true := ⟨RX0, TX0, 6, rfl, by decide, rfl, rfl, tsm (inT1 (List.mem_of_getElem? (i := 163) rfl)) rfl⟩
theorem mlX0_27 : Cond.methodLink RX0 27 arraycopyName ∈ TS := tsm (inT4 (List.mem_of_getElem? (i := 15) rfl)) rfl
theorem flX0_33 : jFL RX0 33 0 0 false := ⟨RX0, TX0, 6, rfl, by decide, rfl, rfl, tsm (inT1 (List.mem_of_getElem? (i := 157) rfl)) rfl⟩
theorem cvX0_37 : jCV RX0 37 MX9_begin := ⟨tsm (inT3 (List.mem_of_getElem? (i := 207) rfl)) rfl, tsm (inT3 (List.mem_of_getElem? (i := 68) rfl)) rfl, tsm (inT3 (List.mem_of_getElem? (i := 69) rfl)) rfl⟩
theorem cvX0_42 : jCV RX0 42 MX9_nextToken := ⟨tsm (inT3 (List.mem_of_getElem? (i := 208) rfl)) rfl, tsm (inT3 (List.mem_of_getElem? (i := 72) rfl)) rfl, tsm (inT3 (List.mem_of_getElem? (i := 73) rfl)) rfl⟩
theorem cvX0_45 : jCV RX0 45 MX9_isEnd := ⟨tsm (inT3 (List.mem_of_getElem? (i := 209) rfl)) rfl, tsm (inT3 (List.mem_of_getElem? (i := 96) rfl)) rfl, tsm (inT3 (List.mem_of_getElem? (i := 97) rfl)) rfl⟩
theorem cvX0_49 : jCV RX0 49 MX9_isAllRead := ⟨tsm (inT3 (List.mem_of_getElem? (i := 210) rfl)) rfl, tsm (inT3 (List.mem_of_getElem? (i := 100) rfl)) rfl, tsm (inT3 (List.mem_of_getElem? (i := 101) rfl)) rfl⟩
theorem cvX0_52 : jCS RX0 52 MX0_actTold := ⟨tsm (inT3 (List.mem_of_getElem? (i := 211) rfl)) rfl, tsm (inT3 (List.mem_of_getElem? (i := 212) rfl)) rfl⟩
theorem cvX0_56 : jCV RX0 56 MX9_refuse := ⟨tsm (inT3 (List.mem_of_getElem? (i := 221) rfl)) rfl, tsm (inT3 (List.mem_of_getElem? (i := 104) rfl)) rfl, tsm (inT3 (List.mem_of_getElem? (i := 105) rfl)) rfl⟩
theorem cvX0_60 : jCV RX0 60 MX0_readRest := ⟨tsm (inT3 (List.mem_of_getElem? (i := 222) rfl)) rfl, tsm (inT3 (List.mem_of_getElem? (i := 224) rfl)) rfl, tsm (inP (List.mem_of_getElem? (i := 8) rfl)) rfl⟩
theorem cvX0_64 : jCV RX0 64 MX9_takeStop := ⟨tsm (inT4 (List.mem_of_getElem? (i := 10) rfl)) rfl, tsm (inT3 (List.mem_of_getElem? (i := 171) rfl)) rfl, tsm (inT3 (List.mem_of_getElem? (i := 172) rfl)) rfl⟩
theorem kwX0_67 : Cond.constantLong RX0 67 1684365676 ∈ TS := tsm (inT3 (List.mem_of_getElem? (i := 214) rfl)) rfl
theorem cvX0_69 : jCV RX0 69 MX9_says := ⟨tsm (inT3 (List.mem_of_getElem? (i := 215) rfl)) rfl, tsm (inT3 (List.mem_of_getElem? (i := 113) rfl)) rfl, tsm (inT3 (List.mem_of_getElem? (i := 114) rfl)) rfl⟩
theorem kwX0_73 : Cond.constantLong RX0 73 126943972911973 ∈ TS := tsm (inT3 (List.mem_of_getElem? (i := 216) rfl)) rfl
theorem kwX0_75 : Cond.constantLong RX0 75 1935892850 ∈ TS := tsm (inT3 (List.mem_of_getElem? (i := 217) rfl)) rfl
theorem kwX0_77 : Cond.constantLong RX0 77 1919512167 ∈ TS := tsm (inT3 (List.mem_of_getElem? (i := 218) rfl)) rfl
theorem kwX0_79 : Cond.constantLong RX0 79 1684628851 ∈ TS := tsm (inT3 (List.mem_of_getElem? (i := 219) rfl)) rfl
theorem kwX0_81 : Cond.constantLong RX0 81 2036687218 ∈ TS := tsm (inT3 (List.mem_of_getElem? (i := 220) rfl)) rfl
theorem cvX0_83 : jCV RX0 83 MX0_readTwoBodies := ⟨tsm (inT3 (List.mem_of_getElem? (i := 226) rfl)) rfl, tsm (inT3 (List.mem_of_getElem? (i := 228) rfl)) rfl, tsm (inP (List.mem_of_getElem? (i := 9) rfl)) rfl⟩
theorem cvX0_87 : jCV RX0 87 MX0_readSumAndKind := ⟨tsm (inT3 (List.mem_of_getElem? (i := 231) rfl)) rfl, tsm (inT3 (List.mem_of_getElem? (i := 233) rfl)) rfl, tsm (inP (List.mem_of_getElem? (i := 10) rfl)) rfl⟩
theorem cvX0_90 : jCV RX0 90 MX0_readDeal := ⟨tsm (inT4 (List.mem_of_getElem? (i := 0) rfl)) rfl, tsm (inT4 (List.mem_of_getElem? (i := 2) rfl)) rfl, tsm (inP (List.mem_of_getElem? (i := 11) rfl)) rfl⟩
theorem cvX0_94 : jCV RX0 94 MX0_readSide := ⟨tsm (inT4 (List.mem_of_getElem? (i := 4) rfl)) rfl, tsm (inT4 (List.mem_of_getElem? (i := 6) rfl)) rfl, tsm (inP (List.mem_of_getElem? (i := 12) rfl)) rfl⟩
theorem cvX0_97 : jCV RX0 97 MX9_takeBody := ⟨tsm (inT3 (List.mem_of_getElem? (i := 230) rfl)) rfl, tsm (inT3 (List.mem_of_getElem? (i := 146) rfl)) rfl, tsm (inT3 (List.mem_of_getElem? (i := 147) rfl)) rfl⟩
theorem flX0_101 : jFL RX0 101 9 6 false := ⟨RX9, TX9, 10, rfl, by decide, rfl, rfl, tsm (inT1 (List.mem_of_getElem? (i := 49) rfl)) rfl⟩
theorem cvX0_104 : jCV RX0 104 MX9_takeNumber := ⟨tsm (inT3 (List.mem_of_getElem? (i := 235) rfl)) rfl, tsm (inT3 (List.mem_of_getElem? (i := 141) rfl)) rfl, tsm (inT3 (List.mem_of_getElem? (i := 142) rfl)) rfl⟩
theorem flX0_108 : jFL RX0 108 9 5 false := ⟨RX9, TX9, 10, rfl, by decide, rfl, rfl, tsm (inT1 (List.mem_of_getElem? (i := 47) rfl)) rfl⟩
theorem cvX0_111 : jCV RX0 111 MX9_takeKind := ⟨tsm (inT3 (List.mem_of_getElem? (i := 236) rfl)) rfl, tsm (inT3 (List.mem_of_getElem? (i := 237) rfl)) rfl, tsm (inT3 (List.mem_of_getElem? (i := 238) rfl)) rfl⟩
theorem kwX0_114 : Cond.constantLong RX0 114 109342978500980 ∈ TS := tsm (inT4 (List.mem_of_getElem? (i := 8) rfl)) rfl
theorem kwX0_116 : Cond.constantLong RX0 116 1684365940 ∈ TS := tsm (inT4 (List.mem_of_getElem? (i := 9) rfl)) rfl
theorem cvX0_118 : jCV RX0 118 MX4_tryWrite := ⟨tsm (inT5 (List.mem_of_getElem? (i := 134) rfl)) rfl, tsm (inT4 (List.mem_of_getElem? (i := 199) rfl)) rfl, tsm (inT4 (List.mem_of_getElem? (i := 200) rfl)) rfl⟩
theorem cvX0_124 : jCV RX0 124 MX4_tryStrike := ⟨tsm (inT5 (List.mem_of_getElem? (i := 135) rfl)) rfl, tsm (inT4 (List.mem_of_getElem? (i := 224) rfl)) rfl, tsm (inT4 (List.mem_of_getElem? (i := 225) rfl)) rfl⟩
theorem cvX0_128 : jCV RX0 128 MX4_tryScar := ⟨tsm (inT5 (List.mem_of_getElem? (i := 136) rfl)) rfl, tsm (inT5 (List.mem_of_getElem? (i := 4) rfl)) rfl, tsm (inT5 (List.mem_of_getElem? (i := 5) rfl)) rfl⟩
theorem cvX0_132 : jCV RX0 132 MX4_tryCut := ⟨tsm (inT5 (List.mem_of_getElem? (i := 137) rfl)) rfl, tsm (inT5 (List.mem_of_getElem? (i := 13) rfl)) rfl, tsm (inT5 (List.mem_of_getElem? (i := 14) rfl)) rfl⟩
theorem cvX0_136 : jCV RX0 136 MX4_tryBury := ⟨tsm (inT5 (List.mem_of_getElem? (i := 138) rfl)) rfl, tsm (inT5 (List.mem_of_getElem? (i := 79) rfl)) rfl, tsm (inT5 (List.mem_of_getElem? (i := 80) rfl)) rfl⟩
theorem cvX0_139 : jCV RX0 139 MX4_tryYear := ⟨tsm (inT5 (List.mem_of_getElem? (i := 139) rfl)) rfl, tsm (inT5 (List.mem_of_getElem? (i := 87) rfl)) rfl, tsm (inT5 (List.mem_of_getElem? (i := 88) rfl)) rfl⟩
theorem mlX1_3 : Cond.methodLink RX1 3 objectInit ∈ TS := tsm (inT2 (List.mem_of_getElem? (i := 154) rfl)) rfl
theorem flX1_9 : jFL RX1 9 1 0 true := ⟨RX1, TX1, 12, rfl, by decide, rfl, rfl, tsm (inT2 (List.mem_of_getElem? (i := 155) rfl)) rfl⟩
theorem flX1_15 : jFL RX1 15 1 1 true := ⟨RX1, TX1, 12, rfl, by decide, rfl, rfl, tsm (inT2 (List.mem_of_getElem? (i := 156) rfl)) rfl⟩
theorem flX1_18 : jFL RX1 18 1 2 true := ⟨RX1, TX1, 12, rfl, by decide, rfl, rfl, tsm (inT2 (List.mem_of_getElem? (i := 157) rfl)) rfl⟩
theorem flX1_21 : jFL RX1 21 1 3 true := ⟨RX1, TX1, 12, rfl, by decide, rfl, rfl, tsm (inT2 (List.mem_of_getElem? (i := 158) rfl)) rfl⟩
theorem flX1_24 : jFL RX1 24 1 4 true := ⟨RX1, TX1, 12, rfl, by decide, rfl, rfl, tsm (inT2 (List.mem_of_getElem? (i := 159) rfl)) rfl⟩
theorem flX1_27 : jFL RX1 27 1 5 true := ⟨RX1, TX1, 12, rfl, by decide, rfl, rfl, tsm (inT2 (List.mem_of_getElem? (i := 160) rfl)) rfl⟩
theorem flX1_30 : jFL RX1 30 1 11 false := ⟨RX1, TX1, 12, rfl, by decide, rfl, rfl, tsm (inT2 (List.mem_of_getElem? (i := 166) rfl)) rfl⟩
theorem flX1_34 : jFL RX1 34 4 8 true := ⟨RX4, TX4, 15, rfl, by decide, rfl, rfl, tsm (inT1 (List.mem_of_getElem? (i := 209) rfl)) rfl⟩
theorem flX1_40 : jFL RX1 40 6 6 false := ⟨RX6, TX6, 14, rfl, by decide, rfl, rfl, tsm (inT1 (List.mem_of_getElem? (i := 104) rfl)) rfl⟩
theorem flX1_46 : jFL RX1 46 9 1 false := ⟨RX9, TX9, 10, rfl, by decide, rfl, rfl, tsm (inT1 (List.mem_of_getElem? (i := 39) rfl)) rfl⟩
theorem cvX1_51 : jCV RX1 51 MX1_findLost := ⟨tsm (inT5 (List.mem_of_getElem? (i := 231) rfl)) rfl, tsm (inT5 (List.mem_of_getElem? (i := 233) rfl)) rfl, tsm (inP (List.mem_of_getElem? (i := 29) rfl)) rfl⟩
theorem flX1_55 : jFL RX1 55 1 10 false := ⟨RX1, TX1, 12, rfl, by decide, rfl, rfl, tsm (inT2 (List.mem_of_getElem? (i := 165) rfl)) rfl⟩
theorem cvX1_59 : jCV RX1 59 MX9_byteOr := ⟨tsm (inT5 (List.mem_of_getElem? (i := 236) rfl)) rfl, tsm (inT3 (List.mem_of_getElem? (i := 76) rfl)) rfl, tsm (inT3 (List.mem_of_getElem? (i := 77) rfl)) rfl⟩
theorem cvX1_63 : jCV RX1 63 MX1_findNeeded := ⟨tsm (inT5 (List.mem_of_getElem? (i := 237) rfl)) rfl, tsm (inT5 (List.mem_of_getElem? (i := 239) rfl)) rfl, tsm (inP (List.mem_of_getElem? (i := 30) rfl)) rfl⟩
theorem flX1_67 : jFL RX1 67 1 6 false := ⟨RX1, TX1, 12, rfl, by decide, rfl, rfl, tsm (inT2 (List.mem_of_getElem? (i := 161) rfl)) rfl⟩
theorem flX1_70 : jFL RX1 70 4 9 false := ⟨RX4, TX4, 15, rfl, by decide, rfl, rfl, tsm (inT1 (List.mem_of_getElem? (i := 214) rfl)) rfl⟩
theorem cvX1_73 : jCV RX1 73 MX4_isLost := ⟨tsm (inT5 (List.mem_of_getElem? (i := 235) rfl)) rfl, tsm (inT5 (List.mem_of_getElem? (i := 216) rfl)) rfl, tsm (inT5 (List.mem_of_getElem? (i := 217) rfl)) rfl⟩
theorem cvX1_77 : jCV RX1 77 MX4_netOf := ⟨tsm (inT6 (List.mem_of_getElem? (i := 1) rfl)) rfl, tsm (inT4 (List.mem_of_getElem? (i := 122) rfl)) rfl, tsm (inT4 (List.mem_of_getElem? (i := 123) rfl)) rfl⟩
theorem flX1_81 : jFL RX1 81 4 0 true := ⟨RX4, TX4, 15, rfl, by decide, rfl, rfl, tsm (inT1 (List.mem_of_getElem? (i := 185) rfl)) rfl⟩
theorem flX1_84 : jFL RX1 84 4 1 true := ⟨RX4, TX4, 15, rfl, by decide, rfl, rfl, tsm (inT1 (List.mem_of_getElem? (i := 188) rfl)) rfl⟩
theorem cvX1_87 : jCV RX1 87 MX4_valueOf := ⟨tsm (inT6 (List.mem_of_getElem? (i := 2) rfl)) rfl, tsm (inT4 (List.mem_of_getElem? (i := 106) rfl)) rfl, tsm (inT4 (List.mem_of_getElem? (i := 107) rfl)) rfl⟩
theorem cvX1_90 : jCV RX1 90 MX4_lives := ⟨tsm (inT6 (List.mem_of_getElem? (i := 3) rfl)) rfl, tsm (inT4 (List.mem_of_getElem? (i := 54) rfl)) rfl, tsm (inT4 (List.mem_of_getElem? (i := 55) rfl)) rfl⟩
theorem flX1_93 : jFL RX1 93 1 8 false := ⟨RX1, TX1, 12, rfl, by decide, rfl, rfl, tsm (inT2 (List.mem_of_getElem? (i := 163) rfl)) rfl⟩
theorem flX1_96 : jFL RX1 96 1 9 false := ⟨RX1, TX1, 12, rfl, by decide, rfl, rfl, tsm (inT2 (List.mem_of_getElem? (i := 164) rfl)) rfl⟩
theorem flX1_99 : jFL RX1 99 1 7 false := ⟨RX1, TX1, 12, rfl, by decide, rfl, rfl, tsm (inT2 (List.mem_of_getElem? (i := 162) rfl)) rfl⟩
theorem cvX1_102 : jCV RX1 102 MX1_tryFrom := ⟨tsm (inT6 (List.mem_of_getElem? (i := 8) rfl)) rfl, tsm (inT6 (List.mem_of_getElem? (i := 10) rfl)) rfl, tsm (inP (List.mem_of_getElem? (i := 31) rfl)) rfl⟩
theorem cvX1_106 : jCV RX1 106 MX1_noteWay := ⟨tsm (inT6 (List.mem_of_getElem? (i := 12) rfl)) rfl, tsm (inT6 (List.mem_of_getElem? (i := 14) rfl)) rfl, tsm (inP (List.mem_of_getElem? (i := 32) rfl)) rfl⟩
theorem flX1_109 : jFL RX1 109 4 3 true := ⟨RX4, TX4, 15, rfl, by decide, rfl, rfl, tsm (inT1 (List.mem_of_getElem? (i := 196) rfl)) rfl⟩
theorem cvX1_112 : jCV RX1 112 MX1_aboutSum := ⟨tsm (inT6 (List.mem_of_getElem? (i := 18) rfl)) rfl, tsm (inT6 (List.mem_of_getElem? (i := 20) rfl)) rfl, tsm (inP (List.mem_of_getElem? (i := 33) rfl)) rfl⟩
theorem mlX1_115 : Cond.methodLink RX1 115 Lib.Math.min.name ∈ TS := tsm (inT6 (List.mem_of_getElem? (i := 16) rfl)) rfl
theorem mlX1_120 : Cond.methodLink RX1 120 Lib.Math.max.name ∈ TS := tsm (inT6 (List.mem_of_getElem? (i := 17) rfl)) rfl
theorem cvX1_123 : jCV RX1 123 MX6_valueOf := ⟨tsm (inT6 (List.mem_of_getElem? (i := 22) rfl)) rfl, tsm (inT4 (List.mem_of_getElem? (i := 110) rfl)) rfl, tsm (inT4 (List.mem_of_getElem? (i := 111) rfl)) rfl⟩
theorem flX1_125 : jFL RX1 125 6 5 true := ⟨RX6, TX6, 14, rfl, by decide, rfl, rfl, tsm (inT1 (List.mem_of_getElem? (i := 99) rfl)) rfl⟩
theorem mlX2_3 : Cond.methodLink RX2 3 objectInit ∈ TS := tsm (inT2 (List.mem_of_getElem? (i := 18) rfl)) rfl
theorem caX2_11 : Cond.classLink RX2 11 "SkinLedger$Ledger" ∈ TS := tsm (inT2 (List.mem_of_getElem? (i := 19) rfl)) rfl
theorem flX2_13 : jFL RX2 13 2 0 true := ⟨RX2, TX2, 3, rfl, by decide, rfl, rfl, tsm (inT2 (List.mem_of_getElem? (i := 22) rfl)) rfl⟩
theorem clX2_11 : jCL RX2 11 4 15 := ⟨RX4, TX4, rfl, tsm (inT2 (List.mem_of_getElem? (i := 19) rfl)) rfl, tsm (inT1 (List.mem_of_getElem? (i := 178) rfl)) rfl, tsm (inT1 (List.mem_of_getElem? (i := 5) rfl)) rfl⟩
theorem cvX2_17 : jCI RX2 17 MX4_init := ⟨tsm (inT2 (List.mem_of_getElem? (i := 21) rfl)) rfl, tsm (inT1 (List.mem_of_getElem? (i := 180) rfl)) rfl, rfl⟩
theorem flX2_20 : jFL RX2 20 2 2 false := ⟨RX2, TX2, 3, rfl, by decide, rfl, rfl, tsm (inT2 (List.mem_of_getElem? (i := 24) rfl)) rfl⟩
theorem flX2_24 : jFL RX2 24 2 1 false := ⟨RX2, TX2, 3, rfl, by decide, rfl, rfl, tsm (inT2 (List.mem_of_getElem? (i := 23) rfl)) rfl⟩
theorem cvX2_27 : jCV RX2 27 MX4_copyFrom := ⟨tsm (inT4 (List.mem_of_getElem? (i := 193) rfl)) rfl, tsm (inT4 (List.mem_of_getElem? (i := 194) rfl)) rfl, tsm (inT4 (List.mem_of_getElem? (i := 195) rfl)) rfl⟩
theorem mlX2_31 : Cond.methodLink RX2 31 Lib.Math.min.name ∈ TS := tsm (inT4 (List.mem_of_getElem? (i := 218) rfl)) rfl
theorem mlX3_1 : Cond.methodLink RX3 1 objectInit ∈ TS := tsm (inT2 (List.mem_of_getElem? (i := 38) rfl)) rfl
theorem clX3_7 : jCL RX3 7 6 14 := ⟨RX6, TX6, rfl, tsm (inT2 (List.mem_of_getElem? (i := 39) rfl)) rfl, tsm (inT1 (List.mem_of_getElem? (i := 78) rfl)) rfl, tsm (inT1 (List.mem_of_getElem? (i := 3) rfl)) rfl⟩
theorem cvX3_9 : jCIN RX3 9 MX6_init := ⟨⟨"SkinLedger", (inT2 (List.mem_of_getElem? (i := 40) rfl))⟩, tsm (inT1 (List.mem_of_getElem? (i := 80) rfl)) rfl, rfl⟩
theorem flX3_10 : jFL RX3 10 3 1 true := ⟨RX3, TX3, 4, rfl, by decide, rfl, rfl, tsm (inT2 (List.mem_of_getElem? (i := 47) rfl)) rfl⟩
theorem clX3_16 : jCL RX3 16 4 15 := ⟨RX4, TX4, rfl, tsm (inT2 (List.mem_of_getElem? (i := 41) rfl)) rfl, tsm (inT1 (List.mem_of_getElem? (i := 178) rfl)) rfl, tsm (inT1 (List.mem_of_getElem? (i := 5) rfl)) rfl⟩
theorem cvX3_18 : jCI RX3 18 MX4_init := ⟨tsm (inT2 (List.mem_of_getElem? (i := 42) rfl)) rfl, tsm (inT1 (List.mem_of_getElem? (i := 180) rfl)) rfl, rfl⟩
theorem flX3_21 : jFL RX3 21 3 2 true := ⟨RX3, TX3, 4, rfl, by decide, rfl, rfl, tsm (inT2 (List.mem_of_getElem? (i := 48) rfl)) rfl⟩
theorem clX3_25 : jCL RX3 25 0 6 := ⟨RX0, TX0, rfl, tsm (inT2 (List.mem_of_getElem? (i := 43) rfl)) rfl, tsm (inT1 (List.mem_of_getElem? (i := 152) rfl)) rfl, tsm (inT1 (List.mem_of_getElem? (i := 4) rfl)) rfl⟩
theorem cvX3_27 : jCIN RX3 27 MX0_init := ⟨⟨"SkinLedger", (inT2 (List.mem_of_getElem? (i := 44) rfl))⟩, tsm (inT1 (List.mem_of_getElem? (i := 154) rfl)) rfl, rfl⟩
theorem flX3_28 : jFL RX3 28 3 3 true := ⟨RX3, TX3, 4, rfl, by decide, rfl, rfl, tsm (inT2 (List.mem_of_getElem? (i := 49) rfl)) rfl⟩
theorem cvX3_32 : jCV RX3 32 MX6_copyFrom := ⟨tsm (inT6 (List.mem_of_getElem? (i := 80) rfl)) rfl, tsm (inT3 (List.mem_of_getElem? (i := 181) rfl)) rfl, tsm (inT3 (List.mem_of_getElem? (i := 182) rfl)) rfl⟩
theorem cvX3_35 : jCV RX3 35 MX4_copyFrom := ⟨tsm (inT6 (List.mem_of_getElem? (i := 81) rfl)) rfl, tsm (inT4 (List.mem_of_getElem? (i := 194) rfl)) rfl, tsm (inT4 (List.mem_of_getElem? (i := 195) rfl)) rfl⟩
theorem cvX3_38 : jCV RX3 38 MX0_copyFrom := ⟨tsm (inT6 (List.mem_of_getElem? (i := 82) rfl)) rfl, tsm (inT4 (List.mem_of_getElem? (i := 12) rfl)) rfl, tsm (inT4 (List.mem_of_getElem? (i := 13) rfl)) rfl⟩
theorem flX3_41 : jFL RX3 41 3 0 false := ⟨RX3, TX3, 4, rfl, by decide, rfl, rfl, tsm (inT2 (List.mem_of_getElem? (i := 45) rfl)) rfl⟩
theorem mlX4_3 : Cond.methodLink RX4 3 objectInit ∈ TS := tsm (inT1 (List.mem_of_getElem? (i := 182) rfl)) rfl
theorem flX4_9 : jFL RX4 9 4 0 true := ⟨RX4, TX4, 15, rfl, by decide, rfl, rfl, tsm (inT1 (List.mem_of_getElem? (i := 183) rfl)) rfl⟩
theorem flX4_15 : jFL RX4 15 4 1 true := ⟨RX4, TX4, 15, rfl, by decide, rfl, rfl, tsm (inT1 (List.mem_of_getElem? (i := 187) rfl)) rfl⟩
theorem flX4_18 : jFL RX4 18 4 2 true := ⟨RX4, TX4, 15, rfl, by decide, rfl, rfl, tsm (inT1 (List.mem_of_getElem? (i := 191) rfl)) rfl⟩
theorem flX4_21 : jFL RX4 21 4 3 true := ⟨RX4, TX4, 15, rfl, by decide, rfl, rfl, tsm (inT1 (List.mem_of_getElem? (i := 194) rfl)) rfl⟩
theorem flX4_24 : jFL RX4 24 4 4 true := ⟨RX4, TX4, 15, rfl, by decide, rfl, rfl, tsm (inT1 (List.mem_of_getElem? (i := 198) rfl)) rfl⟩
theorem flX4_27 : jFL RX4 27 4 5 true := ⟨RX4, TX4, 15, rfl, by decide, rfl, rfl, tsm (inT1 (List.mem_of_getElem? (i := 200) rfl)) rfl⟩
theorem flX4_30 : jFL RX4 30 4 6 true := ⟨RX4, TX4, 15, rfl, by decide, rfl, rfl, tsm (inT1 (List.mem_of_getElem? (i := 202) rfl)) rfl⟩
theorem flX4_33 : jFL RX4 33 4 7 true := ⟨RX4, TX4, 15, rfl, by decide, rfl, rfl, tsm (inT1 (List.mem_of_getElem? (i := 205) rfl)) rfl⟩
theorem flX4_36 : jFL RX4 36 4 11 true := ⟨RX4, TX4, 15, rfl, by decide, rfl, rfl, tsm (inT1 (List.mem_of_getElem? (i := 218) rfl)) rfl⟩
theorem flX4_39 : jFL RX4 39 4 12 true := ⟨RX4, TX4, 15, rfl, by decide, rfl, rfl, tsm (inT1 (List.mem_of_getElem? (i := 219) rfl)) rfl⟩
theorem flX4_42 : jFL RX4 42 4 13 true := ⟨RX4, TX4, 15, rfl, by decide, rfl, rfl, tsm (inT1 (List.mem_of_getElem? (i := 220) rfl)) rfl⟩
theorem flX4_45 : jFL RX4 45 4 8 true := ⟨RX4, TX4, 15, rfl, by decide, rfl, rfl, tsm (inT1 (List.mem_of_getElem? (i := 207) rfl)) rfl⟩
theorem flX4_49 : jFL RX4 49 4 9 false := ⟨RX4, TX4, 15, rfl, by decide, rfl, rfl, tsm (inT1 (List.mem_of_getElem? (i := 212) rfl)) rfl⟩
theorem flX4_53 : jFL RX4 53 4 10 false := ⟨RX4, TX4, 15, rfl, by decide, rfl, rfl, tsm (inT1 (List.mem_of_getElem? (i := 216) rfl)) rfl⟩
theorem flX4_56 : jFL RX4 56 4 14 false := ⟨RX4, TX4, 15, rfl, by decide, rfl, rfl, tsm (inT1 (List.mem_of_getElem? (i := 221) rfl)) rfl⟩
theorem flX4_59 : jFL RX4 59 6 1 true := ⟨RX6, TX6, 14, rfl, by decide, rfl, rfl, tsm (inT1 (List.mem_of_getElem? (i := 86) rfl)) rfl⟩
theorem mlX4_64 : Cond.methodLink RX4 64 arraycopyName ∈ TS := tsm (inT4 (List.mem_of_getElem? (i := 197) rfl)) rfl
theorem cvX4_70 : jCV RX4 70 MX4_hasDeal := ⟨tsm (inT4 (List.mem_of_getElem? (i := 28) rfl)) rfl, tsm (inT4 (List.mem_of_getElem? (i := 29) rfl)) rfl, tsm (inT4 (List.mem_of_getElem? (i := 30) rfl)) rfl⟩
theorem cvX4_74 : jCSN RX4 74 MX11_isIn := ⟨⟨"SkinLedger", (inT4 (List.mem_of_getElem? (i := 92) rfl))⟩, tsm (inT4 (List.mem_of_getElem? (i := 86) rfl)) rfl⟩
theorem cvX4_78 : jCV RX4 78 MX4_bearer := ⟨tsm (inT4 (List.mem_of_getElem? (i := 52) rfl)) rfl, tsm (inT4 (List.mem_of_getElem? (i := 41) rfl)) rfl, tsm (inT4 (List.mem_of_getElem? (i := 42) rfl)) rfl⟩
theorem cvX4_82 : jCV RX4 82 MX4_unscarredBearer := ⟨tsm (inT4 (List.mem_of_getElem? (i := 48) rfl)) rfl, tsm (inT4 (List.mem_of_getElem? (i := 49) rfl)) rfl, tsm (inT4 (List.mem_of_getElem? (i := 50) rfl)) rfl⟩
theorem cvX4_85 : jCV RX4 85 MX4_lives := ⟨tsm (inT4 (List.mem_of_getElem? (i := 53) rfl)) rfl, tsm (inT4 (List.mem_of_getElem? (i := 54) rfl)) rfl, tsm (inT4 (List.mem_of_getElem? (i := 55) rfl)) rfl⟩
theorem cvX4_88 : jCV RX4 88 MX4_isReadable := ⟨tsm (inT5 (List.mem_of_getElem? (i := 7) rfl)) rfl, tsm (inT4 (List.mem_of_getElem? (i := 45) rfl)) rfl, tsm (inT4 (List.mem_of_getElem? (i := 46) rfl)) rfl⟩
theorem flX4_91 : jFL RX4 91 6 5 true := ⟨RX6, TX6, 14, rfl, by decide, rfl, rfl, tsm (inT1 (List.mem_of_getElem? (i := 101) rfl)) rfl⟩
theorem cvX4_94 : jCV RX4 94 MX4_isOpen := ⟨tsm (inT4 (List.mem_of_getElem? (i := 24) rfl)) rfl, tsm (inT4 (List.mem_of_getElem? (i := 25) rfl)) rfl, tsm (inT4 (List.mem_of_getElem? (i := 26) rfl)) rfl⟩
theorem cvX4_97 : jCV RX4 97 MX4_isKnown := ⟨tsm (inT5 (List.mem_of_getElem? (i := 219) rfl)) rfl, tsm (inT5 (List.mem_of_getElem? (i := 220) rfl)) rfl, tsm (inT5 (List.mem_of_getElem? (i := 221) rfl)) rfl⟩
theorem cvX4_100 : jCV RX4 100 MX6_valueOf := ⟨tsm (inT4 (List.mem_of_getElem? (i := 109) rfl)) rfl, tsm (inT4 (List.mem_of_getElem? (i := 110) rfl)) rfl, tsm (inT4 (List.mem_of_getElem? (i := 111) rfl)) rfl⟩
theorem cvX4_103 : jCV RX4 103 MX4_valueOf := ⟨tsm (inT4 (List.mem_of_getElem? (i := 125) rfl)) rfl, tsm (inT4 (List.mem_of_getElem? (i := 106) rfl)) rfl, tsm (inT4 (List.mem_of_getElem? (i := 107) rfl)) rfl⟩
theorem flX4_106 : jFL RX4 106 6 6 false := ⟨RX6, TX6, 14, rfl, by decide, rfl, rfl, tsm (inT1 (List.mem_of_getElem? (i := 106) rfl)) rfl⟩
theorem cvX4_109 : jCV RX4 109 MX4_isToldBy := ⟨tsm (inT6 (List.mem_of_getElem? (i := 43) rfl)) rfl, tsm (inT6 (List.mem_of_getElem? (i := 45) rfl)) rfl, tsm (inP (List.mem_of_getElem? (i := 35) rfl)) rfl⟩
theorem cvX4_113 : jCV RX4 113 MX4_isKnownBy := ⟨tsm (inT6 (List.mem_of_getElem? (i := 39) rfl)) rfl, tsm (inT6 (List.mem_of_getElem? (i := 41) rfl)) rfl, tsm (inP (List.mem_of_getElem? (i := 34) rfl)) rfl⟩
theorem cvX4_116 : jCV RX4 116 MX4_owedSurely := ⟨tsm (inT6 (List.mem_of_getElem? (i := 51) rfl)) rfl, tsm (inT6 (List.mem_of_getElem? (i := 36) rfl)) rfl, tsm (inT6 (List.mem_of_getElem? (i := 37) rfl)) rfl⟩
theorem cvX4_119 : jCV RX4 119 MX4_isOnAny := ⟨tsm (inT6 (List.mem_of_getElem? (i := 52) rfl)) rfl, tsm (inT6 (List.mem_of_getElem? (i := 54) rfl)) rfl, tsm (inP (List.mem_of_getElem? (i := 36) rfl)) rfl⟩
theorem flX4_122 : jFL RX4 122 6 2 true := ⟨RX6, TX6, 14, rfl, by decide, rfl, rfl, tsm (inT1 (List.mem_of_getElem? (i := 91) rfl)) rfl⟩
theorem cvX4_125 : jCV RX4 125 MX4_bearerFor := ⟨tsm (inT4 (List.mem_of_getElem? (i := 206) rfl)) rfl, tsm (inT4 (List.mem_of_getElem? (i := 208) rfl)) rfl, tsm (inP (List.mem_of_getElem? (i := 14) rfl)) rfl⟩
theorem flX4_128 : jFL RX4 128 6 4 true := ⟨RX6, TX6, 14, rfl, by decide, rfl, rfl, tsm (inT1 (List.mem_of_getElem? (i := 97) rfl)) rfl⟩
theorem cvX4_131 : jCV RX4 131 MX4_debtBearerFor := ⟨tsm (inT4 (List.mem_of_getElem? (i := 210) rfl)) rfl, tsm (inT4 (List.mem_of_getElem? (i := 212) rfl)) rfl, tsm (inP (List.mem_of_getElem? (i := 15) rfl)) rfl⟩
theorem cvX4_135 : jCV RX4 135 MX4_wrongToWrite := ⟨tsm (inT4 (List.mem_of_getElem? (i := 202) rfl)) rfl, tsm (inT4 (List.mem_of_getElem? (i := 203) rfl)) rfl, tsm (inT4 (List.mem_of_getElem? (i := 204) rfl)) rfl⟩
theorem flX4_138 : jFL RX4 138 6 8 false := ⟨RX6, TX6, 14, rfl, by decide, rfl, rfl, tsm (inT1 (List.mem_of_getElem? (i := 111) rfl)) rfl⟩
theorem cvX4_141 : jCV RX4 141 MX4_isBuried := ⟨tsm (inT4 (List.mem_of_getElem? (i := 231) rfl)) rfl, tsm (inT4 (List.mem_of_getElem? (i := 233) rfl)) rfl, tsm (inP (List.mem_of_getElem? (i := 17) rfl)) rfl⟩
theorem cvX4_144 : jCV RX4 144 MX4_hasRoomForLines := ⟨tsm (inT4 (List.mem_of_getElem? (i := 227) rfl)) rfl, tsm (inT4 (List.mem_of_getElem? (i := 229) rfl)) rfl, tsm (inP (List.mem_of_getElem? (i := 16) rfl)) rfl⟩
theorem cvX4_147 : jCV RX4 147 MX4_scratch := ⟨tsm (inT4 (List.mem_of_getElem? (i := 235) rfl)) rfl, tsm (inT4 (List.mem_of_getElem? (i := 237) rfl)) rfl, tsm (inP (List.mem_of_getElem? (i := 18) rfl)) rfl⟩
theorem cvX4_151 : jCV RX4 151 MX6_dotOn := ⟨tsm (inT5 (List.mem_of_getElem? (i := 37) rfl)) rfl, tsm (inT5 (List.mem_of_getElem? (i := 38) rfl)) rfl, tsm (inT5 (List.mem_of_getElem? (i := 39) rfl)) rfl⟩
theorem cvX4_154 : jCV RX4 154 MX7_findBest := ⟨tsm (inT5 (List.mem_of_getElem? (i := 16) rfl)) rfl, tsm (inT5 (List.mem_of_getElem? (i := 17) rfl)) rfl, tsm (inT5 (List.mem_of_getElem? (i := 18) rfl)) rfl⟩
theorem flX4_160 : jFL RX4 160 7 1 false := ⟨RX7, TX7, 12, rfl, by decide, rfl, rfl, tsm (inT2 (List.mem_of_getElem? (i := 70) rfl)) rfl⟩
theorem flX4_163 : jFL RX4 163 7 0 true := ⟨RX7, TX7, 12, rfl, by decide, rfl, rfl, tsm (inT2 (List.mem_of_getElem? (i := 67) rfl)) rfl⟩
theorem flX4_166 : jFL RX4 166 7 3 false := ⟨RX7, TX7, 12, rfl, by decide, rfl, rfl, tsm (inT2 (List.mem_of_getElem? (i := 75) rfl)) rfl⟩
theorem cvX4_169 : jCV RX4 169 MX4_lessen := ⟨tsm (inT5 (List.mem_of_getElem? (i := 62) rfl)) rfl, tsm (inT5 (List.mem_of_getElem? (i := 64) rfl)) rfl, tsm (inP (List.mem_of_getElem? (i := 25) rfl)) rfl⟩
theorem cvX4_172 : jCV RX4 172 MX4_takeOff := ⟨tsm (inT5 (List.mem_of_getElem? (i := 66) rfl)) rfl, tsm (inT5 (List.mem_of_getElem? (i := 68) rfl)) rfl, tsm (inP (List.mem_of_getElem? (i := 26) rfl)) rfl⟩
theorem mlX5_3 : Cond.methodLink RX5 3 objectInit ∈ TS := tsm (inT2 (List.mem_of_getElem? (i := 114) rfl)) rfl
theorem flX5_9 : jFL RX5 9 5 2 true := ⟨RX5, TX5, 11, rfl, by decide, rfl, rfl, tsm (inT2 (List.mem_of_getElem? (i := 117) rfl)) rfl⟩
theorem flX5_15 : jFL RX5 15 5 3 true := ⟨RX5, TX5, 11, rfl, by decide, rfl, rfl, tsm (inT2 (List.mem_of_getElem? (i := 118) rfl)) rfl⟩
theorem flX5_18 : jFL RX5 18 5 4 true := ⟨RX5, TX5, 11, rfl, by decide, rfl, rfl, tsm (inT2 (List.mem_of_getElem? (i := 119) rfl)) rfl⟩
theorem flX5_21 : jFL RX5 21 5 5 true := ⟨RX5, TX5, 11, rfl, by decide, rfl, rfl, tsm (inT2 (List.mem_of_getElem? (i := 120) rfl)) rfl⟩
theorem flX5_24 : jFL RX5 24 5 6 true := ⟨RX5, TX5, 11, rfl, by decide, rfl, rfl, tsm (inT2 (List.mem_of_getElem? (i := 121) rfl)) rfl⟩
theorem flX5_27 : jFL RX5 27 5 7 true := ⟨RX5, TX5, 11, rfl, by decide, rfl, rfl, tsm (inT2 (List.mem_of_getElem? (i := 122) rfl)) rfl⟩
theorem flX5_30 : jFL RX5 30 5 8 true := ⟨RX5, TX5, 11, rfl, by decide, rfl, rfl, tsm (inT2 (List.mem_of_getElem? (i := 123) rfl)) rfl⟩
theorem flX5_33 : jFL RX5 33 9 1 false := ⟨RX9, TX9, 10, rfl, by decide, rfl, rfl, tsm (inT1 (List.mem_of_getElem? (i := 36) rfl)) rfl⟩
theorem cvX5_39 : jCV RX5 39 MX9_byteOr := ⟨tsm (inT5 (List.mem_of_getElem? (i := 174) rfl)) rfl, tsm (inT3 (List.mem_of_getElem? (i := 76) rfl)) rfl, tsm (inT3 (List.mem_of_getElem? (i := 77) rfl)) rfl⟩
theorem cvX5_43 : jCV RX5 43 MX6_hasDealers := ⟨tsm (inT5 (List.mem_of_getElem? (i := 175) rfl)) rfl, tsm (inT4 (List.mem_of_getElem? (i := 181) rfl)) rfl, tsm (inT4 (List.mem_of_getElem? (i := 182) rfl)) rfl⟩
theorem cvX5_49 : jCS RX5 49 MX5_isTold := ⟨tsm (inT5 (List.mem_of_getElem? (i := 171) rfl)) rfl, tsm (inT5 (List.mem_of_getElem? (i := 172) rfl)) rfl⟩
theorem mlX5_53 : Cond.methodLink RX5 53 Lib.Math.min.name ∈ TS := tsm (inT5 (List.mem_of_getElem? (i := 176) rfl)) rfl
theorem flX5_58 : jFL RX5 58 5 0 false := ⟨RX5, TX5, 11, rfl, by decide, rfl, rfl, tsm (inT2 (List.mem_of_getElem? (i := 115) rfl)) rfl⟩
theorem flX5_61 : jFL RX5 61 6 11 false := ⟨RX6, TX6, 14, rfl, by decide, rfl, rfl, tsm (inT1 (List.mem_of_getElem? (i := 116) rfl)) rfl⟩
theorem flX5_64 : jFL RX5 64 5 1 false := ⟨RX5, TX5, 11, rfl, by decide, rfl, rfl, tsm (inT2 (List.mem_of_getElem? (i := 116) rfl)) rfl⟩
theorem mlX5_65 : Cond.methodLink RX5 65 arraycopyName ∈ TS := tsm (inT5 (List.mem_of_getElem? (i := 181) rfl)) rfl
theorem flX5_71 : jFL RX5 71 5 10 false := ⟨RX5, TX5, 11, rfl, by decide, rfl, rfl, tsm (inT2 (List.mem_of_getElem? (i := 125) rfl)) rfl⟩
theorem flX5_75 : jFL RX5 75 5 9 false := ⟨RX5, TX5, 11, rfl, by decide, rfl, rfl, tsm (inT2 (List.mem_of_getElem? (i := 124) rfl)) rfl⟩
theorem flX5_78 : jFL RX5 78 4 6 true := ⟨RX4, TX4, 15, rfl, by decide, rfl, rfl, tsm (inT1 (List.mem_of_getElem? (i := 203) rfl)) rfl⟩
theorem cvX5_83 : jCV RX5 83 MX5_place := ⟨tsm (inT5 (List.mem_of_getElem? (i := 182) rfl)) rfl, tsm (inT5 (List.mem_of_getElem? (i := 184) rfl)) rfl, tsm (inP (List.mem_of_getElem? (i := 27) rfl)) rfl⟩
theorem cvX5_87 : jCV RX5 87 MX4_lives := ⟨tsm (inT5 (List.mem_of_getElem? (i := 186) rfl)) rfl, tsm (inT4 (List.mem_of_getElem? (i := 54) rfl)) rfl, tsm (inT4 (List.mem_of_getElem? (i := 55) rfl)) rfl⟩
theorem cvX5_91 : jCV RX5 91 MX5_placeBy := ⟨tsm (inT5 (List.mem_of_getElem? (i := 187) rfl)) rfl, tsm (inT5 (List.mem_of_getElem? (i := 189) rfl)) rfl, tsm (inP (List.mem_of_getElem? (i := 28) rfl)) rfl⟩
theorem flX5_95 : jFL RX5 95 4 8 true := ⟨RX4, TX4, 15, rfl, by decide, rfl, rfl, tsm (inT1 (List.mem_of_getElem? (i := 211) rfl)) rfl⟩
theorem flX5_99 : jFL RX5 99 6 2 true := ⟨RX6, TX6, 14, rfl, by decide, rfl, rfl, tsm (inT1 (List.mem_of_getElem? (i := 90) rfl)) rfl⟩
theorem flX5_102 : jFL RX5 102 6 4 true := ⟨RX6, TX6, 14, rfl, by decide, rfl, rfl, tsm (inT1 (List.mem_of_getElem? (i := 96) rfl)) rfl⟩
theorem mlX6_3 : Cond.methodLink RX6 3 objectInit ∈ TS := tsm (inT1 (List.mem_of_getElem? (i := 82) rfl)) rfl
theorem flX6_9 : jFL RX6 9 6 0 true := ⟨RX6, TX6, 14, rfl, by decide, rfl, rfl, tsm (inT1 (List.mem_of_getElem? (i := 83) rfl)) rfl⟩
theorem flX6_15 : jFL RX6 15 6 1 true := ⟨RX6, TX6, 14, rfl, by decide, rfl, rfl, tsm (inT1 (List.mem_of_getElem? (i := 85) rfl)) rfl⟩
theorem flX6_19 : jFL RX6 19 6 2 true := ⟨RX6, TX6, 14, rfl, by decide, rfl, rfl, tsm (inT1 (List.mem_of_getElem? (i := 88) rfl)) rfl⟩
theorem flX6_22 : jFL RX6 22 6 3 true := ⟨RX6, TX6, 14, rfl, by decide, rfl, rfl, tsm (inT1 (List.mem_of_getElem? (i := 92) rfl)) rfl⟩
theorem flX6_25 : jFL RX6 25 6 4 true := ⟨RX6, TX6, 14, rfl, by decide, rfl, rfl, tsm (inT1 (List.mem_of_getElem? (i := 94) rfl)) rfl⟩
theorem flX6_28 : jFL RX6 28 6 5 true := ⟨RX6, TX6, 14, rfl, by decide, rfl, rfl, tsm (inT1 (List.mem_of_getElem? (i := 98) rfl)) rfl⟩
theorem flX6_31 : jFL RX6 31 6 8 false := ⟨RX6, TX6, 14, rfl, by decide, rfl, rfl, tsm (inT1 (List.mem_of_getElem? (i := 109) rfl)) rfl⟩
theorem flX6_35 : jFL RX6 35 6 6 false := ⟨RX6, TX6, 14, rfl, by decide, rfl, rfl, tsm (inT1 (List.mem_of_getElem? (i := 102) rfl)) rfl⟩
theorem flX6_38 : jFL RX6 38 6 7 false := ⟨RX6, TX6, 14, rfl, by decide, rfl, rfl, tsm (inT1 (List.mem_of_getElem? (i := 107) rfl)) rfl⟩
theorem flX6_41 : jFL RX6 41 6 9 false := ⟨RX6, TX6, 14, rfl, by decide, rfl, rfl, tsm (inT1 (List.mem_of_getElem? (i := 112) rfl)) rfl⟩
theorem flX6_44 : jFL RX6 44 6 10 false := ⟨RX6, TX6, 14, rfl, by decide, rfl, rfl, tsm (inT1 (List.mem_of_getElem? (i := 114) rfl)) rfl⟩
theorem flX6_47 : jFL RX6 47 6 12 false := ⟨RX6, TX6, 14, rfl, by decide, rfl, rfl, tsm (inT1 (List.mem_of_getElem? (i := 119) rfl)) rfl⟩
theorem flX6_51 : jFL RX6 51 6 13 false := ⟨RX6, TX6, 14, rfl, by decide, rfl, rfl, tsm (inT1 (List.mem_of_getElem? (i := 120) rfl)) rfl⟩
theorem mlX6_54 : Cond.methodLink RX6 54 arraycopyName ∈ TS := tsm (inT3 (List.mem_of_getElem? (i := 184) rfl)) rfl
theorem flX6_60 : jFL RX6 60 6 11 false := ⟨RX6, TX6, 14, rfl, by decide, rfl, rfl, tsm (inT1 (List.mem_of_getElem? (i := 117) rfl)) rfl⟩
theorem cvX6_63 : jCV RX6 63 MX6_hasBody := ⟨tsm (inT4 (List.mem_of_getElem? (i := 184) rfl)) rfl, tsm (inT4 (List.mem_of_getElem? (i := 62) rfl)) rfl, tsm (inT4 (List.mem_of_getElem? (i := 63) rfl)) rfl⟩
theorem cvX6_67 : jCV RX6 67 MX6_hasKind := ⟨tsm (inT4 (List.mem_of_getElem? (i := 185) rfl)) rfl, tsm (inT4 (List.mem_of_getElem? (i := 186) rfl)) rfl, tsm (inT4 (List.mem_of_getElem? (i := 187) rfl)) rfl⟩
theorem mlX6_70 : Cond.methodLink RX6 70 Lib.Math.min.name ∈ TS := tsm (inT5 (List.mem_of_getElem? (i := 41) rfl)) rfl
theorem cvX6_76 : jCV RX6 76 MX6_forget := ⟨tsm (inT3 (List.mem_of_getElem? (i := 63) rfl)) rfl, tsm (inT3 (List.mem_of_getElem? (i := 65) rfl)) rfl, tsm (inP (List.mem_of_getElem? (i := 0) rfl)) rfl⟩
theorem cvX6_79 : jCV RX6 79 MX9_begin := ⟨tsm (inT3 (List.mem_of_getElem? (i := 67) rfl)) rfl, tsm (inT3 (List.mem_of_getElem? (i := 68) rfl)) rfl, tsm (inT3 (List.mem_of_getElem? (i := 69) rfl)) rfl⟩
theorem cvX6_84 : jCV RX6 84 MX9_nextToken := ⟨tsm (inT3 (List.mem_of_getElem? (i := 71) rfl)) rfl, tsm (inT3 (List.mem_of_getElem? (i := 72) rfl)) rfl, tsm (inT3 (List.mem_of_getElem? (i := 73) rfl)) rfl⟩
theorem cvX6_87 : jCV RX6 87 MX9_isEnd := ⟨tsm (inT3 (List.mem_of_getElem? (i := 95) rfl)) rfl, tsm (inT3 (List.mem_of_getElem? (i := 96) rfl)) rfl, tsm (inT3 (List.mem_of_getElem? (i := 97) rfl)) rfl⟩
theorem cvX6_91 : jCV RX6 91 MX9_isAllRead := ⟨tsm (inT3 (List.mem_of_getElem? (i := 99) rfl)) rfl, tsm (inT3 (List.mem_of_getElem? (i := 100) rfl)) rfl, tsm (inT3 (List.mem_of_getElem? (i := 101) rfl)) rfl⟩
theorem cvX6_94 : jCV RX6 94 MX6_readLine := ⟨tsm (inT3 (List.mem_of_getElem? (i := 107) rfl)) rfl, tsm (inT3 (List.mem_of_getElem? (i := 109) rfl)) rfl, tsm (inP (List.mem_of_getElem? (i := 2) rfl)) rfl⟩
theorem kwX6_98 : Cond.constantLong RX6 98 1651467385 ∈ TS := tsm (inT3 (List.mem_of_getElem? (i := 111) rfl)) rfl
theorem cvX6_100 : jCV RX6 100 MX9_says := ⟨tsm (inT3 (List.mem_of_getElem? (i := 112) rfl)) rfl, tsm (inT3 (List.mem_of_getElem? (i := 113) rfl)) rfl, tsm (inT3 (List.mem_of_getElem? (i := 114) rfl)) rfl⟩
theorem cvX6_104 : jCV RX6 104 MX6_readBody := ⟨tsm (inT3 (List.mem_of_getElem? (i := 116) rfl)) rfl, tsm (inT3 (List.mem_of_getElem? (i := 118) rfl)) rfl, tsm (inP (List.mem_of_getElem? (i := 3) rfl)) rfl⟩
theorem kwX6_107 : Cond.constantLong RX6 107 1802071652 ∈ TS := tsm (inT3 (List.mem_of_getElem? (i := 153) rfl)) rfl
theorem cvX6_109 : jCV RX6 109 MX6_readKind := ⟨tsm (inT3 (List.mem_of_getElem? (i := 154) rfl)) rfl, tsm (inT3 (List.mem_of_getElem? (i := 156) rfl)) rfl, tsm (inP (List.mem_of_getElem? (i := 5) rfl)) rfl⟩
theorem kwX6_112 : Cond.constantLong RX6 112 1818848869 ∈ TS := tsm (inT3 (List.mem_of_getElem? (i := 165) rfl)) rfl
theorem cvX6_114 : jCV RX6 114 MX6_readLineRoom := ⟨tsm (inT3 (List.mem_of_getElem? (i := 166) rfl)) rfl, tsm (inT3 (List.mem_of_getElem? (i := 168) rfl)) rfl, tsm (inP (List.mem_of_getElem? (i := 6) rfl)) rfl⟩
theorem kwX6_117 : Cond.constantLong RX6 117 6582132 ∈ TS := tsm (inT3 (List.mem_of_getElem? (i := 175) rfl)) rfl
theorem cvX6_119 : jCV RX6 119 MX6_readDotRoom := ⟨tsm (inT3 (List.mem_of_getElem? (i := 176) rfl)) rfl, tsm (inT3 (List.mem_of_getElem? (i := 178) rfl)) rfl, tsm (inP (List.mem_of_getElem? (i := 7) rfl)) rfl⟩
theorem cvX6_122 : jCV RX6 122 MX9_refuse := ⟨tsm (inT3 (List.mem_of_getElem? (i := 120) rfl)) rfl, tsm (inT3 (List.mem_of_getElem? (i := 104) rfl)) rfl, tsm (inT3 (List.mem_of_getElem? (i := 105) rfl)) rfl⟩
theorem cvX6_125 : jCV RX6 125 MX9_takeNewName := ⟨tsm (inT3 (List.mem_of_getElem? (i := 121) rfl)) rfl, tsm (inT3 (List.mem_of_getElem? (i := 122) rfl)) rfl, tsm (inT3 (List.mem_of_getElem? (i := 123) rfl)) rfl⟩
theorem flX6_129 : jFL RX6 129 9 4 false := ⟨RX9, TX9, 10, rfl, by decide, rfl, rfl, tsm (inT1 (List.mem_of_getElem? (i := 45) rfl)) rfl⟩
theorem cvX6_133 : jCV RX6 133 MX9_takeNumber := ⟨tsm (inT3 (List.mem_of_getElem? (i := 140) rfl)) rfl, tsm (inT3 (List.mem_of_getElem? (i := 141) rfl)) rfl, tsm (inT3 (List.mem_of_getElem? (i := 142) rfl)) rfl⟩
theorem flX6_137 : jFL RX6 137 9 5 false := ⟨RX9, TX9, 10, rfl, by decide, rfl, rfl, tsm (inT1 (List.mem_of_getElem? (i := 48) rfl)) rfl⟩
theorem kwX6_140 : Cond.constantLong RX6 140 7039342 ∈ TS := tsm (inT3 (List.mem_of_getElem? (i := 144) rfl)) rfl
theorem cvX6_142 : jCV RX6 142 MX9_takeBody := ⟨tsm (inT3 (List.mem_of_getElem? (i := 145) rfl)) rfl, tsm (inT3 (List.mem_of_getElem? (i := 146) rfl)) rfl, tsm (inT3 (List.mem_of_getElem? (i := 147) rfl)) rfl⟩
theorem flX6_145 : jFL RX6 145 9 6 false := ⟨RX9, TX9, 10, rfl, by decide, rfl, rfl, tsm (inT1 (List.mem_of_getElem? (i := 50) rfl)) rfl⟩
theorem cvX6_148 : jCV RX6 148 MX9_isStop := ⟨tsm (inT3 (List.mem_of_getElem? (i := 149) rfl)) rfl, tsm (inT3 (List.mem_of_getElem? (i := 150) rfl)) rfl, tsm (inT3 (List.mem_of_getElem? (i := 151) rfl)) rfl⟩
theorem cvX6_151 : jCS RX6 151 MX6_sortTold := ⟨tsm (inT3 (List.mem_of_getElem? (i := 158) rfl)) rfl, tsm (inT3 (List.mem_of_getElem? (i := 159) rfl)) rfl⟩
theorem kwX6_155 : Cond.constantLong RX6 155 28270047624193380 ∈ TS := tsm (inT3 (List.mem_of_getElem? (i := 161) rfl)) rfl
theorem kwX6_157 : Cond.constantLong RX6 157 114767640814948 ∈ TS := tsm (inT3 (List.mem_of_getElem? (i := 162) rfl)) rfl
theorem kwX6_159 : Cond.constantLong RX6 159 439721161573 ∈ TS := tsm (inT3 (List.mem_of_getElem? (i := 163) rfl)) rfl
theorem kwX6_161 : Cond.constantLong RX6 161 457135713908 ∈ TS := tsm (inT3 (List.mem_of_getElem? (i := 164) rfl)) rfl
theorem cvX6_163 : jCV RX6 163 MX9_takeStop := ⟨tsm (inT3 (List.mem_of_getElem? (i := 170) rfl)) rfl, tsm (inT3 (List.mem_of_getElem? (i := 171) rfl)) rfl, tsm (inT3 (List.mem_of_getElem? (i := 172) rfl)) rfl⟩
theorem mlX7_3 : Cond.methodLink RX7 3 objectInit ∈ TS := tsm (inT2 (List.mem_of_getElem? (i := 64) rfl)) rfl
theorem flX7_9 : jFL RX7 9 7 0 true := ⟨RX7, TX7, 12, rfl, by decide, rfl, rfl, tsm (inT2 (List.mem_of_getElem? (i := 65) rfl)) rfl⟩
theorem flX7_15 : jFL RX7 15 7 5 true := ⟨RX7, TX7, 12, rfl, by decide, rfl, rfl, tsm (inT2 (List.mem_of_getElem? (i := 77) rfl)) rfl⟩
theorem flX7_18 : jFL RX7 18 7 6 true := ⟨RX7, TX7, 12, rfl, by decide, rfl, rfl, tsm (inT2 (List.mem_of_getElem? (i := 78) rfl)) rfl⟩
theorem flX7_21 : jFL RX7 21 7 8 true := ⟨RX7, TX7, 12, rfl, by decide, rfl, rfl, tsm (inT2 (List.mem_of_getElem? (i := 80) rfl)) rfl⟩
theorem flX7_24 : jFL RX7 24 7 9 true := ⟨RX7, TX7, 12, rfl, by decide, rfl, rfl, tsm (inT2 (List.mem_of_getElem? (i := 81) rfl)) rfl⟩
theorem flX7_27 : jFL RX7 27 7 10 true := ⟨RX7, TX7, 12, rfl, by decide, rfl, rfl, tsm (inT2 (List.mem_of_getElem? (i := 82) rfl)) rfl⟩
theorem cvX7_30 : jCV RX7 30 MX7_prepare := ⟨tsm (inT5 (List.mem_of_getElem? (i := 20) rfl)) rfl, tsm (inT5 (List.mem_of_getElem? (i := 22) rfl)) rfl, tsm (inP (List.mem_of_getElem? (i := 19) rfl)) rfl⟩
theorem mlX7_34 : Cond.methodLink RX7 34 arraycopyName ∈ TS := tsm (inT5 (List.mem_of_getElem? (i := 43) rfl)) rfl
theorem flX7_40 : jFL RX7 40 7 4 false := ⟨RX7, TX7, 12, rfl, by decide, rfl, rfl, tsm (inT2 (List.mem_of_getElem? (i := 76) rfl)) rfl⟩
theorem flX7_44 : jFL RX7 44 4 9 false := ⟨RX4, TX4, 15, rfl, by decide, rfl, rfl, tsm (inT1 (List.mem_of_getElem? (i := 213) rfl)) rfl⟩
theorem cvX7_50 : jCV RX7 50 MX7_mayBeIn := ⟨tsm (inT5 (List.mem_of_getElem? (i := 24) rfl)) rfl, tsm (inT5 (List.mem_of_getElem? (i := 26) rfl)) rfl, tsm (inP (List.mem_of_getElem? (i := 20) rfl)) rfl⟩
theorem cvX7_54 : jCV RX7 54 MX7_start := ⟨tsm (inT5 (List.mem_of_getElem? (i := 44) rfl)) rfl, tsm (inT5 (List.mem_of_getElem? (i := 46) rfl)) rfl, tsm (inP (List.mem_of_getElem? (i := 21) rfl)) rfl⟩
theorem flX7_58 : jFL RX7 58 4 0 true := ⟨RX4, TX4, 15, rfl, by decide, rfl, rfl, tsm (inT1 (List.mem_of_getElem? (i := 184) rfl)) rfl⟩
theorem flX7_61 : jFL RX7 61 7 1 false := ⟨RX7, TX7, 12, rfl, by decide, rfl, rfl, tsm (inT2 (List.mem_of_getElem? (i := 68) rfl)) rfl⟩
theorem cvX7_64 : jCV RX7 64 MX4_isOpen := ⟨tsm (inT5 (List.mem_of_getElem? (i := 28) rfl)) rfl, tsm (inT4 (List.mem_of_getElem? (i := 25) rfl)) rfl, tsm (inT4 (List.mem_of_getElem? (i := 26) rfl)) rfl⟩
theorem flX7_67 : jFL RX7 67 4 8 true := ⟨RX4, TX4, 15, rfl, by decide, rfl, rfl, tsm (inT1 (List.mem_of_getElem? (i := 210) rfl)) rfl⟩
theorem flX7_71 : jFL RX7 71 4 3 true := ⟨RX4, TX4, 15, rfl, by decide, rfl, rfl, tsm (inT1 (List.mem_of_getElem? (i := 195) rfl)) rfl⟩
theorem cvX7_74 : jCV RX7 74 MX6_isForRings := ⟨tsm (inT5 (List.mem_of_getElem? (i := 29) rfl)) rfl, tsm (inT5 (List.mem_of_getElem? (i := 30) rfl)) rfl, tsm (inT5 (List.mem_of_getElem? (i := 31) rfl)) rfl⟩
theorem flX7_79 : jFL RX7 79 7 2 false := ⟨RX7, TX7, 12, rfl, by decide, rfl, rfl, tsm (inT2 (List.mem_of_getElem? (i := 71) rfl)) rfl⟩
theorem flX7_82 : jFL RX7 82 7 3 false := ⟨RX7, TX7, 12, rfl, by decide, rfl, rfl, tsm (inT2 (List.mem_of_getElem? (i := 73) rfl)) rfl⟩
theorem flX7_85 : jFL RX7 85 7 7 false := ⟨RX7, TX7, 12, rfl, by decide, rfl, rfl, tsm (inT2 (List.mem_of_getElem? (i := 79) rfl)) rfl⟩
theorem cvX7_88 : jCV RX7 88 MX4_freedBy := ⟨tsm (inT5 (List.mem_of_getElem? (i := 33) rfl)) rfl, tsm (inT5 (List.mem_of_getElem? (i := 34) rfl)) rfl, tsm (inT5 (List.mem_of_getElem? (i := 35) rfl)) rfl⟩
theorem mlX7_92 : Cond.methodLink RX7 92 Lib.Math.max.name ∈ TS := tsm (inT5 (List.mem_of_getElem? (i := 42) rfl)) rfl
theorem flX7_98 : jFL RX7 98 7 11 false := ⟨RX7, TX7, 12, rfl, by decide, rfl, rfl, tsm (inT2 (List.mem_of_getElem? (i := 83) rfl)) rfl⟩
theorem flX7_101 : jFL RX7 101 4 1 true := ⟨RX4, TX4, 15, rfl, by decide, rfl, rfl, tsm (inT1 (List.mem_of_getElem? (i := 189) rfl)) rfl⟩
theorem flX7_104 : jFL RX7 104 4 2 true := ⟨RX4, TX4, 15, rfl, by decide, rfl, rfl, tsm (inT1 (List.mem_of_getElem? (i := 192) rfl)) rfl⟩
theorem cvX7_107 : jCV RX7 107 MX7_extend := ⟨tsm (inT5 (List.mem_of_getElem? (i := 48) rfl)) rfl, tsm (inT5 (List.mem_of_getElem? (i := 50) rfl)) rfl, tsm (inP (List.mem_of_getElem? (i := 22) rfl)) rfl⟩
theorem cvX7_111 : jCV RX7 111 MX7_isBetter := ⟨tsm (inT5 (List.mem_of_getElem? (i := 52) rfl)) rfl, tsm (inT5 (List.mem_of_getElem? (i := 54) rfl)) rfl, tsm (inP (List.mem_of_getElem? (i := 23) rfl)) rfl⟩
theorem mlX7_115 : Cond.methodLink RX7 115 Lib.Math.min.name ∈ TS := tsm (inT5 (List.mem_of_getElem? (i := 56) rfl)) rfl
theorem cvX7_118 : jCV RX7 118 MX7_offer := ⟨tsm (inT5 (List.mem_of_getElem? (i := 57) rfl)) rfl, tsm (inT5 (List.mem_of_getElem? (i := 59) rfl)) rfl, tsm (inP (List.mem_of_getElem? (i := 24) rfl)) rfl⟩
theorem cvX7_122 : jCSN RX7 122 MX11_isIn := ⟨⟨"SkinLedger", (inT5 (List.mem_of_getElem? (i := 61) rfl))⟩, tsm (inT4 (List.mem_of_getElem? (i := 86) rfl)) rfl⟩
theorem mlX8_3 : Cond.methodLink RX8 3 objectInit ∈ TS := tsm (inT2 (List.mem_of_getElem? (i := 197) rfl)) rfl
theorem flX8_9 : jFL RX8 9 8 0 true := ⟨RX8, TX8, 3, rfl, by decide, rfl, rfl, tsm (inT2 (List.mem_of_getElem? (i := 198) rfl)) rfl⟩
theorem flX8_15 : jFL RX8 15 8 1 true := ⟨RX8, TX8, 3, rfl, by decide, rfl, rfl, tsm (inT2 (List.mem_of_getElem? (i := 199) rfl)) rfl⟩
theorem flX8_18 : jFL RX8 18 8 2 true := ⟨RX8, TX8, 3, rfl, by decide, rfl, rfl, tsm (inT2 (List.mem_of_getElem? (i := 200) rfl)) rfl⟩
theorem flX8_21 : jFL RX8 21 4 8 true := ⟨RX4, TX4, 15, rfl, by decide, rfl, rfl, tsm (inT1 (List.mem_of_getElem? (i := 208) rfl)) rfl⟩
theorem flX8_27 : jFL RX8 27 6 6 false := ⟨RX6, TX6, 14, rfl, by decide, rfl, rfl, tsm (inT1 (List.mem_of_getElem? (i := 103) rfl)) rfl⟩
theorem cvX8_33 : jCV RX8 33 MX4_netOf := ⟨tsm (inT4 (List.mem_of_getElem? (i := 121) rfl)) rfl, tsm (inT4 (List.mem_of_getElem? (i := 122) rfl)) rfl, tsm (inT4 (List.mem_of_getElem? (i := 123) rfl)) rfl⟩
theorem cvX8_37 : jCSN RX8 37 MX11_isIn := ⟨⟨"SkinLedger", (inT4 (List.mem_of_getElem? (i := 126) rfl))⟩, tsm (inT4 (List.mem_of_getElem? (i := 86) rfl)) rfl⟩
theorem mlX8_41 : Cond.methodLink RX8 41 Lib.Math.max.name ∈ TS := tsm (inT4 (List.mem_of_getElem? (i := 127) rfl)) rfl
theorem mlX9_3 : Cond.methodLink RX9 3 objectInit ∈ TS := tsm (inT1 (List.mem_of_getElem? (i := 34) rfl)) rfl
theorem flX9_9 : jFL RX9 9 9 0 true := ⟨RX9, TX9, 10, rfl, by decide, rfl, rfl, tsm (inT1 (List.mem_of_getElem? (i := 35) rfl)) rfl⟩
theorem flX9_15 : jFL RX9 15 9 1 false := ⟨RX9, TX9, 10, rfl, by decide, rfl, rfl, tsm (inT1 (List.mem_of_getElem? (i := 38) rfl)) rfl⟩
theorem flX9_19 : jFL RX9 19 9 7 false := ⟨RX9, TX9, 10, rfl, by decide, rfl, rfl, tsm (inT1 (List.mem_of_getElem? (i := 52) rfl)) rfl⟩
theorem flX9_22 : jFL RX9 22 9 2 false := ⟨RX9, TX9, 10, rfl, by decide, rfl, rfl, tsm (inT1 (List.mem_of_getElem? (i := 40) rfl)) rfl⟩
theorem flX9_25 : jFL RX9 25 9 3 false := ⟨RX9, TX9, 10, rfl, by decide, rfl, rfl, tsm (inT1 (List.mem_of_getElem? (i := 42) rfl)) rfl⟩
theorem flX9_28 : jFL RX9 28 9 8 false := ⟨RX9, TX9, 10, rfl, by decide, rfl, rfl, tsm (inT1 (List.mem_of_getElem? (i := 53) rfl)) rfl⟩
theorem cvX9_31 : jCV RX9 31 MX9_byteOr := ⟨tsm (inT3 (List.mem_of_getElem? (i := 75) rfl)) rfl, tsm (inT3 (List.mem_of_getElem? (i := 76) rfl)) rfl, tsm (inT3 (List.mem_of_getElem? (i := 77) rfl)) rfl⟩
theorem cvX9_35 : jCS RX9 35 MX9_isBlank := ⟨tsm (inT3 (List.mem_of_getElem? (i := 79) rfl)) rfl, tsm (inT3 (List.mem_of_getElem? (i := 80) rfl)) rfl⟩
theorem mlX9_39 : Cond.methodLink RX9 39 Lib.Math.min.name ∈ TS := tsm (inT3 (List.mem_of_getElem? (i := 82) rfl)) rfl
theorem flX9_44 : jFL RX9 44 9 9 false := ⟨RX9, TX9, 10, rfl, by decide, rfl, rfl, tsm (inT1 (List.mem_of_getElem? (i := 54) rfl)) rfl⟩
theorem cvX9_47 : jCS RX9 47 MX9_isLetter := ⟨tsm (inT3 (List.mem_of_getElem? (i := 85) rfl)) rfl, tsm (inT3 (List.mem_of_getElem? (i := 86) rfl)) rfl⟩
theorem cvX9_50 : jCS RX9 50 MX9_isDigit := ⟨tsm (inT3 (List.mem_of_getElem? (i := 88) rfl)) rfl, tsm (inT3 (List.mem_of_getElem? (i := 89) rfl)) rfl⟩
theorem cvX9_53 : jCV RX9 53 MX9_readRun := ⟨tsm (inT3 (List.mem_of_getElem? (i := 91) rfl)) rfl, tsm (inT3 (List.mem_of_getElem? (i := 93) rfl)) rfl, tsm (inP (List.mem_of_getElem? (i := 1) rfl)) rfl⟩
theorem flX9_56 : jFL RX9 56 9 4 false := ⟨RX9, TX9, 10, rfl, by decide, rfl, rfl, tsm (inT1 (List.mem_of_getElem? (i := 44) rfl)) rfl⟩
theorem flX9_60 : jFL RX9 60 9 5 false := ⟨RX9, TX9, 10, rfl, by decide, rfl, rfl, tsm (inT1 (List.mem_of_getElem? (i := 46) rfl)) rfl⟩
theorem cvX9_63 : jCV RX9 63 MX9_refuse := ⟨tsm (inT3 (List.mem_of_getElem? (i := 103) rfl)) rfl, tsm (inT3 (List.mem_of_getElem? (i := 104) rfl)) rfl, tsm (inT3 (List.mem_of_getElem? (i := 105) rfl)) rfl⟩
theorem fsX9_66 : Cond.fieldLink RX9 66 "SkinLedger$Tape" "WORDS" "[J" ∈ TS := tsm (inT3 (List.mem_of_getElem? (i := 130) rfl)) rfl
theorem cvX9_70 : jCV RX9 70 MX9_nextToken := ⟨tsm (inT3 (List.mem_of_getElem? (i := 125) rfl)) rfl, tsm (inT3 (List.mem_of_getElem? (i := 72) rfl)) rfl, tsm (inT3 (List.mem_of_getElem? (i := 73) rfl)) rfl⟩
theorem cvX9_73 : jCV RX9 73 MX9_isName := ⟨tsm (inT3 (List.mem_of_getElem? (i := 126) rfl)) rfl, tsm (inT3 (List.mem_of_getElem? (i := 128) rfl)) rfl, tsm (inP (List.mem_of_getElem? (i := 4) rfl)) rfl⟩
theorem cvX9_77 : jCV RX9 77 MX6_bodyNamed := ⟨tsm (inT3 (List.mem_of_getElem? (i := 132) rfl)) rfl, tsm (inT3 (List.mem_of_getElem? (i := 133) rfl)) rfl, tsm (inT3 (List.mem_of_getElem? (i := 134) rfl)) rfl⟩
theorem cvX9_83 : jCV RX9 83 MX6_kindNamed := ⟨tsm (inT3 (List.mem_of_getElem? (i := 136) rfl)) rfl, tsm (inT3 (List.mem_of_getElem? (i := 137) rfl)) rfl, tsm (inT3 (List.mem_of_getElem? (i := 138) rfl)) rfl⟩
theorem flX9_86 : jFL RX9 86 9 6 false := ⟨RX9, TX9, 10, rfl, by decide, rfl, rfl, tsm (inT1 (List.mem_of_getElem? (i := 51) rfl)) rfl⟩
theorem cvX9_89 : jCV RX9 89 MX9_isStop := ⟨tsm (inT3 (List.mem_of_getElem? (i := 174) rfl)) rfl, tsm (inT3 (List.mem_of_getElem? (i := 150) rfl)) rfl, tsm (inT3 (List.mem_of_getElem? (i := 151) rfl)) rfl⟩
theorem mlX10_3 : Cond.methodLink RX10 3 objectInit ∈ TS := tsm (inT2 (List.mem_of_getElem? (i := 213) rfl)) rfl
theorem flX10_11 : jFL RX10 11 10 1 true := ⟨RX10, TX10, 2, rfl, by decide, rfl, rfl, tsm (inT2 (List.mem_of_getElem? (i := 216) rfl)) rfl⟩
theorem flX10_15 : jFL RX10 15 10 0 false := ⟨RX10, TX10, 2, rfl, by decide, rfl, rfl, tsm (inT2 (List.mem_of_getElem? (i := 214) rfl)) rfl⟩
theorem kwX10_19 : Cond.constantLong RX10 19 255 ∈ TS := tsm (inT4 (List.mem_of_getElem? (i := 158) rfl)) rfl
theorem cvX10_21 : jCV RX10 21 MX10_add := ⟨tsm (inT4 (List.mem_of_getElem? (i := 159) rfl)) rfl, tsm (inT4 (List.mem_of_getElem? (i := 151) rfl)) rfl, tsm (inT4 (List.mem_of_getElem? (i := 152) rfl)) rfl⟩
theorem mlX11_1 : Cond.methodLink RX11 1 objectInit ∈ TS := tsm (inT1 (List.mem_of_getElem? (i := 26) rfl)) rfl
theorem clX11_7 : jCL RX11 7 9 10 := ⟨RX9, TX9, rfl, tsm (inT1 (List.mem_of_getElem? (i := 29) rfl)) rfl, tsm (inT1 (List.mem_of_getElem? (i := 30) rfl)) rfl, tsm (inT1 (List.mem_of_getElem? (i := 2) rfl)) rfl⟩
theorem cvX11_9 : jCIN RX11 9 MX9_init := ⟨⟨"SkinLedger", (inT1 (List.mem_of_getElem? (i := 31) rfl))⟩, tsm (inT1 (List.mem_of_getElem? (i := 32) rfl)) rfl, rfl⟩
theorem flX11_10 : jFL RX11 10 11 0 true := ⟨RX11, TX11, 20, rfl, by decide, rfl, rfl, tsm (inT2 (List.mem_of_getElem? (i := 222) rfl)) rfl⟩
theorem clX11_16 : jCL RX11 16 6 14 := ⟨RX6, TX6, rfl, tsm (inT1 (List.mem_of_getElem? (i := 77) rfl)) rfl, tsm (inT1 (List.mem_of_getElem? (i := 78) rfl)) rfl, tsm (inT1 (List.mem_of_getElem? (i := 3) rfl)) rfl⟩
theorem cvX11_18 : jCIN RX11 18 MX6_init := ⟨⟨"SkinLedger", (inT1 (List.mem_of_getElem? (i := 79) rfl))⟩, tsm (inT1 (List.mem_of_getElem? (i := 80) rfl)) rfl, rfl⟩
theorem flX11_19 : jFL RX11 19 11 1 true := ⟨RX11, TX11, 20, rfl, by decide, rfl, rfl, tsm (inT2 (List.mem_of_getElem? (i := 223) rfl)) rfl⟩
theorem flX11_23 : jFL RX11 23 11 2 true := ⟨RX11, TX11, 20, rfl, by decide, rfl, rfl, tsm (inT2 (List.mem_of_getElem? (i := 224) rfl)) rfl⟩
theorem clX11_26 : jCL RX11 26 0 6 := ⟨RX0, TX0, rfl, tsm (inT1 (List.mem_of_getElem? (i := 151) rfl)) rfl, tsm (inT1 (List.mem_of_getElem? (i := 152) rfl)) rfl, tsm (inT1 (List.mem_of_getElem? (i := 4) rfl)) rfl⟩
theorem cvX11_28 : jCIN RX11 28 MX0_init := ⟨⟨"SkinLedger", (inT1 (List.mem_of_getElem? (i := 153) rfl))⟩, tsm (inT1 (List.mem_of_getElem? (i := 154) rfl)) rfl, rfl⟩
theorem flX11_29 : jFL RX11 29 11 3 true := ⟨RX11, TX11, 20, rfl, by decide, rfl, rfl, tsm (inT2 (List.mem_of_getElem? (i := 225) rfl)) rfl⟩
theorem flX11_33 : jFL RX11 33 11 4 true := ⟨RX11, TX11, 20, rfl, by decide, rfl, rfl, tsm (inT2 (List.mem_of_getElem? (i := 226) rfl)) rfl⟩
theorem clX11_36 : jCL RX11 36 4 15 := ⟨RX4, TX4, rfl, tsm (inT1 (List.mem_of_getElem? (i := 177) rfl)) rfl, tsm (inT1 (List.mem_of_getElem? (i := 178) rfl)) rfl, tsm (inT1 (List.mem_of_getElem? (i := 5) rfl)) rfl⟩
theorem cvX11_38 : jCI RX11 38 MX4_init := ⟨tsm (inT1 (List.mem_of_getElem? (i := 179) rfl)) rfl, tsm (inT1 (List.mem_of_getElem? (i := 180) rfl)) rfl, rfl⟩
theorem flX11_41 : jFL RX11 41 11 5 true := ⟨RX11, TX11, 20, rfl, by decide, rfl, rfl, tsm (inT2 (List.mem_of_getElem? (i := 227) rfl)) rfl⟩
theorem flX11_45 : jFL RX11 45 11 6 true := ⟨RX11, TX11, 20, rfl, by decide, rfl, rfl, tsm (inT2 (List.mem_of_getElem? (i := 228) rfl)) rfl⟩
theorem clX11_48 : jCL RX11 48 2 3 := ⟨RX2, TX2, rfl, tsm (inT2 (List.mem_of_getElem? (i := 13) rfl)) rfl, tsm (inT2 (List.mem_of_getElem? (i := 14) rfl)) rfl, tsm (inT1 (List.mem_of_getElem? (i := 6) rfl)) rfl⟩
theorem cvX11_50 : jCI RX11 50 MX2_init := ⟨tsm (inT2 (List.mem_of_getElem? (i := 15) rfl)) rfl, tsm (inT2 (List.mem_of_getElem? (i := 16) rfl)) rfl, rfl⟩
theorem flX11_51 : jFL RX11 51 11 7 true := ⟨RX11, TX11, 20, rfl, by decide, rfl, rfl, tsm (inT2 (List.mem_of_getElem? (i := 229) rfl)) rfl⟩
theorem caX11_55 : Cond.classLink RX11 55 "SkinLedger$Image" ∈ TS := tsm (inT2 (List.mem_of_getElem? (i := 32) rfl)) rfl
theorem clX11_55 : jCL RX11 55 3 4 := ⟨RX3, TX3, rfl, tsm (inT2 (List.mem_of_getElem? (i := 32) rfl)) rfl, tsm (inT2 (List.mem_of_getElem? (i := 34) rfl)) rfl, tsm (inT1 (List.mem_of_getElem? (i := 7) rfl)) rfl⟩
theorem cvX11_57 : jCIN RX11 57 MX3_init := ⟨⟨"SkinLedger", (inT2 (List.mem_of_getElem? (i := 35) rfl))⟩, tsm (inT2 (List.mem_of_getElem? (i := 36) rfl)) rfl, rfl⟩
theorem flX11_58 : jFL RX11 58 11 8 true := ⟨RX11, TX11, 20, rfl, by decide, rfl, rfl, tsm (inT2 (List.mem_of_getElem? (i := 230) rfl)) rfl⟩
theorem clX11_62 : jCL RX11 62 7 12 := ⟨RX7, TX7, rfl, tsm (inT2 (List.mem_of_getElem? (i := 59) rfl)) rfl, tsm (inT2 (List.mem_of_getElem? (i := 60) rfl)) rfl, tsm (inT1 (List.mem_of_getElem? (i := 8) rfl)) rfl⟩
theorem cvX11_64 : jCIN RX11 64 MX7_init := ⟨⟨"SkinLedger", (inT2 (List.mem_of_getElem? (i := 61) rfl))⟩, tsm (inT2 (List.mem_of_getElem? (i := 62) rfl)) rfl, rfl⟩
theorem flX11_65 : jFL RX11 65 11 9 true := ⟨RX11, TX11, 20, rfl, by decide, rfl, rfl, tsm (inT2 (List.mem_of_getElem? (i := 231) rfl)) rfl⟩
theorem clX11_69 : jCL RX11 69 5 11 := ⟨RX5, TX5, rfl, tsm (inT2 (List.mem_of_getElem? (i := 109) rfl)) rfl, tsm (inT2 (List.mem_of_getElem? (i := 110) rfl)) rfl, tsm (inT1 (List.mem_of_getElem? (i := 9) rfl)) rfl⟩
theorem cvX11_71 : jCIN RX11 71 MX5_init := ⟨⟨"SkinLedger", (inT2 (List.mem_of_getElem? (i := 111) rfl))⟩, tsm (inT2 (List.mem_of_getElem? (i := 112) rfl)) rfl, rfl⟩
theorem flX11_72 : jFL RX11 72 11 10 true := ⟨RX11, TX11, 20, rfl, by decide, rfl, rfl, tsm (inT2 (List.mem_of_getElem? (i := 232) rfl)) rfl⟩
theorem clX11_76 : jCL RX11 76 1 12 := ⟨RX1, TX1, rfl, tsm (inT2 (List.mem_of_getElem? (i := 149) rfl)) rfl, tsm (inT2 (List.mem_of_getElem? (i := 150) rfl)) rfl, tsm (inT1 (List.mem_of_getElem? (i := 10) rfl)) rfl⟩
theorem cvX11_78 : jCIN RX11 78 MX1_init := ⟨⟨"SkinLedger", (inT2 (List.mem_of_getElem? (i := 151) rfl))⟩, tsm (inT2 (List.mem_of_getElem? (i := 152) rfl)) rfl, rfl⟩
theorem flX11_79 : jFL RX11 79 11 11 true := ⟨RX11, TX11, 20, rfl, by decide, rfl, rfl, tsm (inT2 (List.mem_of_getElem? (i := 233) rfl)) rfl⟩
theorem clX11_83 : jCL RX11 83 8 3 := ⟨RX8, TX8, rfl, tsm (inT2 (List.mem_of_getElem? (i := 192) rfl)) rfl, tsm (inT2 (List.mem_of_getElem? (i := 193) rfl)) rfl, tsm (inT1 (List.mem_of_getElem? (i := 11) rfl)) rfl⟩
theorem cvX11_85 : jCIN RX11 85 MX8_init := ⟨⟨"SkinLedger", (inT2 (List.mem_of_getElem? (i := 194) rfl))⟩, tsm (inT2 (List.mem_of_getElem? (i := 195) rfl)) rfl, rfl⟩
theorem flX11_86 : jFL RX11 86 11 12 true := ⟨RX11, TX11, 20, rfl, by decide, rfl, rfl, tsm (inT2 (List.mem_of_getElem? (i := 234) rfl)) rfl⟩
theorem clX11_90 : jCL RX11 90 10 2 := ⟨RX10, TX10, rfl, tsm (inT2 (List.mem_of_getElem? (i := 208) rfl)) rfl, tsm (inT2 (List.mem_of_getElem? (i := 209) rfl)) rfl, tsm (inT1 (List.mem_of_getElem? (i := 12) rfl)) rfl⟩
theorem cvX11_92 : jCIN RX11 92 MX10_init := ⟨⟨"SkinLedger", (inT2 (List.mem_of_getElem? (i := 210) rfl))⟩, tsm (inT2 (List.mem_of_getElem? (i := 211) rfl)) rfl, rfl⟩
theorem flX11_93 : jFL RX11 93 11 13 true := ⟨RX11, TX11, 20, rfl, by decide, rfl, rfl, tsm (inT2 (List.mem_of_getElem? (i := 235) rfl)) rfl⟩
theorem flX11_97 : jFL RX11 97 11 14 true := ⟨RX11, TX11, 20, rfl, by decide, rfl, rfl, tsm (inT2 (List.mem_of_getElem? (i := 236) rfl)) rfl⟩
theorem flX11_101 : jFL RX11 101 11 16 true := ⟨RX11, TX11, 20, rfl, by decide, rfl, rfl, tsm (inT2 (List.mem_of_getElem? (i := 238) rfl)) rfl⟩
theorem flX11_104 : jFL RX11 104 9 1 false := ⟨RX9, TX9, 10, rfl, by decide, rfl, rfl, tsm (inT1 (List.mem_of_getElem? (i := 37) rfl)) rfl⟩
theorem cvX11_108 : jCV RX11 108 MX9_add := ⟨tsm (inT3 (List.mem_of_getElem? (i := 47) rfl)) rfl, tsm (inT3 (List.mem_of_getElem? (i := 48) rfl)) rfl, tsm (inT3 (List.mem_of_getElem? (i := 49) rfl)) rfl⟩
theorem cvX11_112 : jCV RX11 112 MX6_readFrom := ⟨tsm (inT3 (List.mem_of_getElem? (i := 59) rfl)) rfl, tsm (inT3 (List.mem_of_getElem? (i := 60) rfl)) rfl, tsm (inT3 (List.mem_of_getElem? (i := 61) rfl)) rfl⟩
theorem flX11_116 : jFL RX11 116 9 2 false := ⟨RX9, TX9, 10, rfl, by decide, rfl, rfl, tsm (inT1 (List.mem_of_getElem? (i := 41) rfl)) rfl⟩
theorem flX11_119 : jFL RX11 119 11 18 false := ⟨RX11, TX11, 20, rfl, by decide, rfl, rfl, tsm (inT3 (List.mem_of_getElem? (i := 0) rfl)) rfl⟩
theorem flX11_122 : jFL RX11 122 9 3 false := ⟨RX9, TX9, 10, rfl, by decide, rfl, rfl, tsm (inT1 (List.mem_of_getElem? (i := 43) rfl)) rfl⟩
theorem flX11_125 : jFL RX11 125 11 19 false := ⟨RX11, TX11, 20, rfl, by decide, rfl, rfl, tsm (inT3 (List.mem_of_getElem? (i := 1) rfl)) rfl⟩
theorem flX11_128 : jFL RX11 128 6 11 false := ⟨RX6, TX6, 14, rfl, by decide, rfl, rfl, tsm (inT1 (List.mem_of_getElem? (i := 118) rfl)) rfl⟩
theorem cvX11_131 : jCV RX11 131 MX6_copyFrom := ⟨tsm (inT3 (List.mem_of_getElem? (i := 180) rfl)) rfl, tsm (inT3 (List.mem_of_getElem? (i := 181) rfl)) rfl, tsm (inT3 (List.mem_of_getElem? (i := 182) rfl)) rfl⟩
theorem flX11_134 : jFL RX11 134 0 0 false := ⟨RX0, TX0, 6, rfl, by decide, rfl, rfl, tsm (inT1 (List.mem_of_getElem? (i := 158) rfl)) rfl⟩
theorem cvX11_137 : jCV RX11 137 MX4_begin := ⟨tsm (inT3 (List.mem_of_getElem? (i := 187) rfl)) rfl, tsm (inT3 (List.mem_of_getElem? (i := 188) rfl)) rfl, tsm (inT3 (List.mem_of_getElem? (i := 189) rfl)) rfl⟩
theorem cvX11_140 : jCV RX11 140 MX2_forget := ⟨tsm (inT3 (List.mem_of_getElem? (i := 191) rfl)) rfl, tsm (inT3 (List.mem_of_getElem? (i := 192) rfl)) rfl, tsm (inT3 (List.mem_of_getElem? (i := 193) rfl)) rfl⟩
theorem flX11_143 : jFL RX11 143 6 10 false := ⟨RX6, TX6, 14, rfl, by decide, rfl, rfl, tsm (inT1 (List.mem_of_getElem? (i := 115) rfl)) rfl⟩
theorem cvX11_144 : jCV RX11 144 MX0_readFrom := ⟨tsm (inT3 (List.mem_of_getElem? (i := 203) rfl)) rfl, tsm (inT3 (List.mem_of_getElem? (i := 204) rfl)) rfl, tsm (inT3 (List.mem_of_getElem? (i := 205) rfl)) rfl⟩
theorem cvX11_147 : jCV RX11 147 MX0_copyFrom := ⟨tsm (inT4 (List.mem_of_getElem? (i := 11) rfl)) rfl, tsm (inT4 (List.mem_of_getElem? (i := 12) rfl)) rfl, tsm (inT4 (List.mem_of_getElem? (i := 13) rfl)) rfl⟩
theorem flX11_150 : jFL RX11 150 6 6 false := ⟨RX6, TX6, 14, rfl, by decide, rfl, rfl, tsm (inT1 (List.mem_of_getElem? (i := 105) rfl)) rfl⟩
theorem flX11_153 : jFL RX11 153 6 7 false := ⟨RX6, TX6, 14, rfl, by decide, rfl, rfl, tsm (inT1 (List.mem_of_getElem? (i := 108) rfl)) rfl⟩
theorem flX11_156 : jFL RX11 156 6 8 false := ⟨RX6, TX6, 14, rfl, by decide, rfl, rfl, tsm (inT1 (List.mem_of_getElem? (i := 110) rfl)) rfl⟩
theorem flX11_159 : jFL RX11 159 6 9 false := ⟨RX6, TX6, 14, rfl, by decide, rfl, rfl, tsm (inT1 (List.mem_of_getElem? (i := 113) rfl)) rfl⟩
theorem flX11_162 : jFL RX11 162 4 9 false := ⟨RX4, TX4, 15, rfl, by decide, rfl, rfl, tsm (inT1 (List.mem_of_getElem? (i := 215) rfl)) rfl⟩
theorem cvX11_165 : jCV RX11 165 MX4_openDeals := ⟨tsm (inT4 (List.mem_of_getElem? (i := 20) rfl)) rfl, tsm (inT4 (List.mem_of_getElem? (i := 21) rfl)) rfl, tsm (inT4 (List.mem_of_getElem? (i := 22) rfl)) rfl⟩
theorem flX11_169 : jFL RX11 169 4 10 false := ⟨RX4, TX4, 15, rfl, by decide, rfl, rfl, tsm (inT1 (List.mem_of_getElem? (i := 217) rfl)) rfl⟩
theorem cvX11_172 : jCV RX11 172 MX6_hasBody := ⟨tsm (inT4 (List.mem_of_getElem? (i := 61) rfl)) rfl, tsm (inT4 (List.mem_of_getElem? (i := 62) rfl)) rfl, tsm (inT4 (List.mem_of_getElem? (i := 63) rfl)) rfl⟩
theorem flX11_179 : jFL RX11 179 6 1 true := ⟨RX6, TX6, 14, rfl, by decide, rfl, rfl, tsm (inT1 (List.mem_of_getElem? (i := 87) rfl)) rfl⟩
theorem flX11_182 : jFL RX11 182 6 2 true := ⟨RX6, TX6, 14, rfl, by decide, rfl, rfl, tsm (inT1 (List.mem_of_getElem? (i := 89) rfl)) rfl⟩
theorem cvX11_185 : jCV RX11 185 MX4_lives := ⟨tsm (inT6 (List.mem_of_getElem? (i := 160) rfl)) rfl, tsm (inT4 (List.mem_of_getElem? (i := 54) rfl)) rfl, tsm (inT4 (List.mem_of_getElem? (i := 55) rfl)) rfl⟩
theorem flX11_188 : jFL RX11 188 4 6 true := ⟨RX4, TX4, 15, rfl, by decide, rfl, rfl, tsm (inT1 (List.mem_of_getElem? (i := 204) rfl)) rfl⟩
theorem cvX11_191 : jCV RX11 191 MX4_netOf := ⟨tsm (inT6 (List.mem_of_getElem? (i := 161) rfl)) rfl, tsm (inT4 (List.mem_of_getElem? (i := 122) rfl)) rfl, tsm (inT4 (List.mem_of_getElem? (i := 123) rfl)) rfl⟩
theorem cvX11_195 : jCV RX11 195 MX4_marksOn := ⟨tsm (inT4 (List.mem_of_getElem? (i := 65) rfl)) rfl, tsm (inT4 (List.mem_of_getElem? (i := 66) rfl)) rfl, tsm (inT4 (List.mem_of_getElem? (i := 67) rfl)) rfl⟩
theorem flX11_199 : jFL RX11 199 4 7 true := ⟨RX4, TX4, 15, rfl, by decide, rfl, rfl, tsm (inT1 (List.mem_of_getElem? (i := 206) rfl)) rfl⟩
theorem cvX11_202 : jCV RX11 202 MX6_hasKind := ⟨tsm (inT5 (List.mem_of_getElem? (i := 119) rfl)) rfl, tsm (inT4 (List.mem_of_getElem? (i := 186) rfl)) rfl, tsm (inT4 (List.mem_of_getElem? (i := 187) rfl)) rfl⟩
theorem flX11_205 : jFL RX11 205 6 4 true := ⟨RX6, TX6, 14, rfl, by decide, rfl, rfl, tsm (inT1 (List.mem_of_getElem? (i := 95) rfl)) rfl⟩
theorem flX11_208 : jFL RX11 208 6 5 true := ⟨RX6, TX6, 14, rfl, by decide, rfl, rfl, tsm (inT1 (List.mem_of_getElem? (i := 100) rfl)) rfl⟩
theorem cvX11_211 : jCV RX11 211 MX4_hasDeal := ⟨tsm (inT4 (List.mem_of_getElem? (i := 36) rfl)) rfl, tsm (inT4 (List.mem_of_getElem? (i := 29) rfl)) rfl, tsm (inT4 (List.mem_of_getElem? (i := 30) rfl)) rfl⟩
theorem flX11_214 : jFL RX11 214 4 0 true := ⟨RX4, TX4, 15, rfl, by decide, rfl, rfl, tsm (inT1 (List.mem_of_getElem? (i := 186) rfl)) rfl⟩
theorem flX11_217 : jFL RX11 217 4 1 true := ⟨RX4, TX4, 15, rfl, by decide, rfl, rfl, tsm (inT1 (List.mem_of_getElem? (i := 190) rfl)) rfl⟩
theorem flX11_220 : jFL RX11 220 4 2 true := ⟨RX4, TX4, 15, rfl, by decide, rfl, rfl, tsm (inT1 (List.mem_of_getElem? (i := 193) rfl)) rfl⟩
theorem flX11_223 : jFL RX11 223 4 3 true := ⟨RX4, TX4, 15, rfl, by decide, rfl, rfl, tsm (inT1 (List.mem_of_getElem? (i := 197) rfl)) rfl⟩
theorem flX11_226 : jFL RX11 226 4 4 true := ⟨RX4, TX4, 15, rfl, by decide, rfl, rfl, tsm (inT1 (List.mem_of_getElem? (i := 199) rfl)) rfl⟩
theorem flX11_229 : jFL RX11 229 4 5 true := ⟨RX4, TX4, 15, rfl, by decide, rfl, rfl, tsm (inT1 (List.mem_of_getElem? (i := 201) rfl)) rfl⟩
theorem cvX11_232 : jCV RX11 232 MX4_bearer := ⟨tsm (inT4 (List.mem_of_getElem? (i := 40) rfl)) rfl, tsm (inT4 (List.mem_of_getElem? (i := 41) rfl)) rfl, tsm (inT4 (List.mem_of_getElem? (i := 42) rfl)) rfl⟩
theorem cvX11_235 : jCV RX11 235 MX4_isKnown := ⟨tsm (inT6 (List.mem_of_getElem? (i := 176) rfl)) rfl, tsm (inT5 (List.mem_of_getElem? (i := 220) rfl)) rfl, tsm (inT5 (List.mem_of_getElem? (i := 221) rfl)) rfl⟩
theorem cvX11_238 : jCV RX11 238 MX4_valueOf := ⟨tsm (inT4 (List.mem_of_getElem? (i := 105) rfl)) rfl, tsm (inT4 (List.mem_of_getElem? (i := 106) rfl)) rfl, tsm (inT4 (List.mem_of_getElem? (i := 107) rfl)) rfl⟩
theorem cvX11_241 : jCS RX11 241 MX11_isSide := ⟨tsm (inT4 (List.mem_of_getElem? (i := 37) rfl)) rfl, tsm (inT4 (List.mem_of_getElem? (i := 38) rfl)) rfl⟩
theorem cvX11_244 : jCV RX11 244 MX4_isReadable := ⟨tsm (inT4 (List.mem_of_getElem? (i := 44) rfl)) rfl, tsm (inT4 (List.mem_of_getElem? (i := 45) rfl)) rfl, tsm (inT4 (List.mem_of_getElem? (i := 46) rfl)) rfl⟩
theorem cvX11_248 : jCS RX11 248 MX11_isYear := ⟨tsm (inT4 (List.mem_of_getElem? (i := 73) rfl)) rfl, tsm (inT4 (List.mem_of_getElem? (i := 74) rfl)) rfl⟩
theorem cvX11_251 : jCV RX11 251 MX4_isOpen := ⟨tsm (inT4 (List.mem_of_getElem? (i := 80) rfl)) rfl, tsm (inT4 (List.mem_of_getElem? (i := 25) rfl)) rfl, tsm (inT4 (List.mem_of_getElem? (i := 26) rfl)) rfl⟩
theorem cvX11_254 : jCS RX11 254 MX11_isIn := ⟨tsm (inT4 (List.mem_of_getElem? (i := 85) rfl)) rfl, tsm (inT4 (List.mem_of_getElem? (i := 86) rfl)) rfl⟩
theorem cvX11_257 : jCV RX11 257 MX4_lendersTo := ⟨tsm (inT4 (List.mem_of_getElem? (i := 88) rfl)) rfl, tsm (inT4 (List.mem_of_getElem? (i := 89) rfl)) rfl, tsm (inT4 (List.mem_of_getElem? (i := 90) rfl)) rfl⟩
theorem cvX11_260 : jCV RX11 260 MX4_leastLeft := ⟨tsm (inT4 (List.mem_of_getElem? (i := 97) rfl)) rfl, tsm (inT4 (List.mem_of_getElem? (i := 98) rfl)) rfl, tsm (inT4 (List.mem_of_getElem? (i := 99) rfl)) rfl⟩
theorem cvX11_263 : jCV RX11 263 MX8_payments := ⟨tsm (inT4 (List.mem_of_getElem? (i := 117) rfl)) rfl, tsm (inT4 (List.mem_of_getElem? (i := 118) rfl)) rfl, tsm (inT4 (List.mem_of_getElem? (i := 119) rfl)) rfl⟩
theorem cvX11_267 : jCV RX11 267 MX4_openAhead := ⟨tsm (inT4 (List.mem_of_getElem? (i := 138) rfl)) rfl, tsm (inT4 (List.mem_of_getElem? (i := 139) rfl)) rfl, tsm (inT4 (List.mem_of_getElem? (i := 140) rfl)) rfl⟩
theorem flX11_270 : jFL RX11 270 10 0 false := ⟨RX10, TX10, 2, rfl, by decide, rfl, rfl, tsm (inT2 (List.mem_of_getElem? (i := 215) rfl)) rfl⟩
theorem cvX11_271 : jCV RX11 271 MX11_addMark := ⟨tsm (inT4 (List.mem_of_getElem? (i := 146) rfl)) rfl, tsm (inT4 (List.mem_of_getElem? (i := 148) rfl)) rfl, tsm (inP (List.mem_of_getElem? (i := 13) rfl)) rfl⟩
theorem cvX11_275 : jCV RX11 275 MX10_add := ⟨tsm (inT4 (List.mem_of_getElem? (i := 150) rfl)) rfl, tsm (inT4 (List.mem_of_getElem? (i := 151) rfl)) rfl, tsm (inT4 (List.mem_of_getElem? (i := 152) rfl)) rfl⟩
theorem flX11_276 : jFL RX11 276 6 0 true := ⟨RX6, TX6, 14, rfl, by decide, rfl, rfl, tsm (inT1 (List.mem_of_getElem? (i := 84) rfl)) rfl⟩
theorem cvX11_280 : jCV RX11 280 MX10_addName := ⟨tsm (inT4 (List.mem_of_getElem? (i := 154) rfl)) rfl, tsm (inT4 (List.mem_of_getElem? (i := 155) rfl)) rfl, tsm (inT4 (List.mem_of_getElem? (i := 156) rfl)) rfl⟩
theorem cvX11_284 : jCV RX11 284 MX4_isScarred := ⟨tsm (inT4 (List.mem_of_getElem? (i := 160) rfl)) rfl, tsm (inT4 (List.mem_of_getElem? (i := 161) rfl)) rfl, tsm (inT4 (List.mem_of_getElem? (i := 162) rfl)) rfl⟩
theorem cvX11_287 : jCV RX11 287 MX10_addNumber := ⟨tsm (inT4 (List.mem_of_getElem? (i := 164) rfl)) rfl, tsm (inT4 (List.mem_of_getElem? (i := 165) rfl)) rfl, tsm (inT4 (List.mem_of_getElem? (i := 166) rfl)) rfl⟩
theorem flX11_290 : jFL RX11 290 6 3 true := ⟨RX6, TX6, 14, rfl, by decide, rfl, rfl, tsm (inT1 (List.mem_of_getElem? (i := 93) rfl)) rfl⟩
theorem cvX11_293 : jCV RX11 293 MX10_at := ⟨tsm (inT4 (List.mem_of_getElem? (i := 172) rfl)) rfl, tsm (inT4 (List.mem_of_getElem? (i := 173) rfl)) rfl, tsm (inT4 (List.mem_of_getElem? (i := 174) rfl)) rfl⟩
theorem cvX11_296 : jCV RX11 296 MX6_hasDealers := ⟨tsm (inT4 (List.mem_of_getElem? (i := 180) rfl)) rfl, tsm (inT4 (List.mem_of_getElem? (i := 181) rfl)) rfl, tsm (inT4 (List.mem_of_getElem? (i := 182) rfl)) rfl⟩
theorem cvX11_300 : jCV RX11 300 MX2_note := ⟨tsm (inT4 (List.mem_of_getElem? (i := 189) rfl)) rfl, tsm (inT4 (List.mem_of_getElem? (i := 190) rfl)) rfl, tsm (inT4 (List.mem_of_getElem? (i := 191) rfl)) rfl⟩
theorem cvX11_304 : jCV RX11 304 MX4_tryWrite := ⟨tsm (inT4 (List.mem_of_getElem? (i := 198) rfl)) rfl, tsm (inT4 (List.mem_of_getElem? (i := 199) rfl)) rfl, tsm (inT4 (List.mem_of_getElem? (i := 200) rfl)) rfl⟩
theorem cvX11_308 : jCV RX11 308 MX2_keepNoted := ⟨tsm (inT4 (List.mem_of_getElem? (i := 214) rfl)) rfl, tsm (inT4 (List.mem_of_getElem? (i := 215) rfl)) rfl, tsm (inT4 (List.mem_of_getElem? (i := 216) rfl)) rfl⟩
theorem cvX11_311 : jCV RX11 311 MX4_tryStrike := ⟨tsm (inT4 (List.mem_of_getElem? (i := 223) rfl)) rfl, tsm (inT4 (List.mem_of_getElem? (i := 224) rfl)) rfl, tsm (inT4 (List.mem_of_getElem? (i := 225) rfl)) rfl⟩
theorem cvX11_314 : jCV RX11 314 MX4_tryScar := ⟨tsm (inT5 (List.mem_of_getElem? (i := 3) rfl)) rfl, tsm (inT5 (List.mem_of_getElem? (i := 4) rfl)) rfl, tsm (inT5 (List.mem_of_getElem? (i := 5) rfl)) rfl⟩
theorem cvX11_317 : jCV RX11 317 MX4_tryCut := ⟨tsm (inT5 (List.mem_of_getElem? (i := 12) rfl)) rfl, tsm (inT5 (List.mem_of_getElem? (i := 13) rfl)) rfl, tsm (inT5 (List.mem_of_getElem? (i := 14) rfl)) rfl⟩
theorem flX11_321 : jFL RX11 321 7 3 false := ⟨RX7, TX7, 12, rfl, by decide, rfl, rfl, tsm (inT2 (List.mem_of_getElem? (i := 74) rfl)) rfl⟩
theorem cvX11_324 : jCV RX11 324 MX4_openFor := ⟨tsm (inT5 (List.mem_of_getElem? (i := 74) rfl)) rfl, tsm (inT5 (List.mem_of_getElem? (i := 75) rfl)) rfl, tsm (inT5 (List.mem_of_getElem? (i := 76) rfl)) rfl⟩
theorem cvX11_327 : jCV RX11 327 MX4_tryBury := ⟨tsm (inT5 (List.mem_of_getElem? (i := 78) rfl)) rfl, tsm (inT5 (List.mem_of_getElem? (i := 79) rfl)) rfl, tsm (inT5 (List.mem_of_getElem? (i := 80) rfl)) rfl⟩
theorem cvX11_330 : jCV RX11 330 MX4_tryYear := ⟨tsm (inT5 (List.mem_of_getElem? (i := 86) rfl)) rfl, tsm (inT5 (List.mem_of_getElem? (i := 87) rfl)) rfl, tsm (inT5 (List.mem_of_getElem? (i := 88) rfl)) rfl⟩
theorem cvX11_333 : jCV RX11 333 MX2_takeBack := ⟨tsm (inT5 (List.mem_of_getElem? (i := 94) rfl)) rfl, tsm (inT5 (List.mem_of_getElem? (i := 95) rfl)) rfl, tsm (inT5 (List.mem_of_getElem? (i := 96) rfl)) rfl⟩
theorem cvX11_336 : jCV RX11 336 MX7_findBest := ⟨tsm (inT5 (List.mem_of_getElem? (i := 102) rfl)) rfl, tsm (inT5 (List.mem_of_getElem? (i := 17) rfl)) rfl, tsm (inT5 (List.mem_of_getElem? (i := 18) rfl)) rfl⟩
theorem flX11_340 : jFL RX11 340 7 1 false := ⟨RX7, TX7, 12, rfl, by decide, rfl, rfl, tsm (inT2 (List.mem_of_getElem? (i := 69) rfl)) rfl⟩
theorem flX11_341 : jFL RX11 341 11 15 false := ⟨RX11, TX11, 20, rfl, by decide, rfl, rfl, tsm (inT2 (List.mem_of_getElem? (i := 237) rfl)) rfl⟩
theorem flX11_344 : jFL RX11 344 7 0 true := ⟨RX7, TX7, 12, rfl, by decide, rfl, rfl, tsm (inT2 (List.mem_of_getElem? (i := 66) rfl)) rfl⟩
theorem flX11_347 : jFL RX11 347 7 2 false := ⟨RX7, TX7, 12, rfl, by decide, rfl, rfl, tsm (inT2 (List.mem_of_getElem? (i := 72) rfl)) rfl⟩
theorem cvX11_350 : jCV RX11 350 MX7_findBestWith := ⟨tsm (inT5 (List.mem_of_getElem? (i := 111) rfl)) rfl, tsm (inT5 (List.mem_of_getElem? (i := 112) rfl)) rfl, tsm (inT5 (List.mem_of_getElem? (i := 113) rfl)) rfl⟩
theorem cvX11_354 : jCV RX11 354 MX4_wrongToWrite := ⟨tsm (inT5 (List.mem_of_getElem? (i := 120) rfl)) rfl, tsm (inT4 (List.mem_of_getElem? (i := 203) rfl)) rfl, tsm (inT4 (List.mem_of_getElem? (i := 204) rfl)) rfl⟩
theorem cvX11_358 : jCV RX11 358 MX4_copyFrom := ⟨tsm (inT5 (List.mem_of_getElem? (i := 125) rfl)) rfl, tsm (inT4 (List.mem_of_getElem? (i := 194) rfl)) rfl, tsm (inT4 (List.mem_of_getElem? (i := 195) rfl)) rfl⟩
theorem cvX11_360 : jCV RX11 360 MX0_tryLine := ⟨tsm (inT5 (List.mem_of_getElem? (i := 130) rfl)) rfl, tsm (inT5 (List.mem_of_getElem? (i := 131) rfl)) rfl, tsm (inT5 (List.mem_of_getElem? (i := 132) rfl)) rfl⟩
theorem flX11_364 : jFL RX11 364 11 17 false := ⟨RX11, TX11, 20, rfl, by decide, rfl, rfl, tsm (inT2 (List.mem_of_getElem? (i := 239) rfl)) rfl⟩
theorem cvX11_368 : jCV RX11 368 MX4_leftOfLiving := ⟨tsm (inT5 (List.mem_of_getElem? (i := 140) rfl)) rfl, tsm (inT5 (List.mem_of_getElem? (i := 141) rfl)) rfl, tsm (inT5 (List.mem_of_getElem? (i := 142) rfl)) rfl⟩
theorem cvX11_371 : jCS RX11 371 MX11_nextSeed := ⟨tsm (inT5 (List.mem_of_getElem? (i := 152) rfl)) rfl, tsm (inT5 (List.mem_of_getElem? (i := 153) rfl)) rfl⟩
theorem cvX11_374 : jCS RX11 374 MX11_drawn := ⟨tsm (inT5 (List.mem_of_getElem? (i := 156) rfl)) rfl, tsm (inT5 (List.mem_of_getElem? (i := 157) rfl)) rfl⟩
theorem cvX11_377 : jCV RX11 377 MX4_latestOpen := ⟨tsm (inT5 (List.mem_of_getElem? (i := 159) rfl)) rfl, tsm (inT5 (List.mem_of_getElem? (i := 160) rfl)) rfl, tsm (inT5 (List.mem_of_getElem? (i := 161) rfl)) rfl⟩
theorem kwX11_380 : Cond.constant RX11 380 1103515245 ∈ TS := tsm (inT5 (List.mem_of_getElem? (i := 155) rfl)) rfl
theorem cvX11_381 : jCV RX11 381 MX5_take := ⟨tsm (inT5 (List.mem_of_getElem? (i := 167) rfl)) rfl, tsm (inT5 (List.mem_of_getElem? (i := 168) rfl)) rfl, tsm (inT5 (List.mem_of_getElem? (i := 169) rfl)) rfl⟩
theorem cvX11_384 : jCV RX11 384 MX5_search := ⟨tsm (inT5 (List.mem_of_getElem? (i := 177) rfl)) rfl, tsm (inT5 (List.mem_of_getElem? (i := 178) rfl)) rfl, tsm (inT5 (List.mem_of_getElem? (i := 179) rfl)) rfl⟩
theorem cvX11_388 : jCV RX11 388 MX5_keepTold := ⟨tsm (inT5 (List.mem_of_getElem? (i := 191) rfl)) rfl, tsm (inT5 (List.mem_of_getElem? (i := 192) rfl)) rfl, tsm (inT5 (List.mem_of_getElem? (i := 193) rfl)) rfl⟩
theorem cvX11_391 : jCV RX11 391 MX5_told := ⟨tsm (inT5 (List.mem_of_getElem? (i := 199) rfl)) rfl, tsm (inT5 (List.mem_of_getElem? (i := 200) rfl)) rfl, tsm (inT5 (List.mem_of_getElem? (i := 201) rfl)) rfl⟩
theorem cvX11_394 : jCV RX11 394 MX5_isPackedIn := ⟨tsm (inT5 (List.mem_of_getElem? (i := 207) rfl)) rfl, tsm (inT5 (List.mem_of_getElem? (i := 208) rfl)) rfl, tsm (inT5 (List.mem_of_getElem? (i := 209) rfl)) rfl⟩
theorem cvX11_398 : jCV RX11 398 MX4_isLost := ⟨tsm (inT5 (List.mem_of_getElem? (i := 215) rfl)) rfl, tsm (inT5 (List.mem_of_getElem? (i := 216) rfl)) rfl, tsm (inT5 (List.mem_of_getElem? (i := 217) rfl)) rfl⟩
theorem cvX11_401 : jCV RX11 401 MX1_take := ⟨tsm (inT5 (List.mem_of_getElem? (i := 227) rfl)) rfl, tsm (inT5 (List.mem_of_getElem? (i := 228) rfl)) rfl, tsm (inT5 (List.mem_of_getElem? (i := 229) rfl)) rfl⟩
theorem cvX11_404 : jCV RX11 404 MX1_search := ⟨tsm (inT6 (List.mem_of_getElem? (i := 4) rfl)) rfl, tsm (inT6 (List.mem_of_getElem? (i := 5) rfl)) rfl, tsm (inT6 (List.mem_of_getElem? (i := 6) rfl)) rfl⟩
theorem cvX11_406 : jCV RX11 406 MX1_told := ⟨tsm (inT6 (List.mem_of_getElem? (i := 27) rfl)) rfl, tsm (inT6 (List.mem_of_getElem? (i := 28) rfl)) rfl, tsm (inT6 (List.mem_of_getElem? (i := 29) rfl)) rfl⟩
theorem cvX11_408 : jCV RX11 408 MX4_owedSurely := ⟨tsm (inT6 (List.mem_of_getElem? (i := 35) rfl)) rfl, tsm (inT6 (List.mem_of_getElem? (i := 36) rfl)) rfl, tsm (inT6 (List.mem_of_getElem? (i := 37) rfl)) rfl⟩
theorem cvX11_411 : jCV RX11 411 MX4_owedAtMost := ⟨tsm (inT6 (List.mem_of_getElem? (i := 47) rfl)) rfl, tsm (inT6 (List.mem_of_getElem? (i := 48) rfl)) rfl, tsm (inT6 (List.mem_of_getElem? (i := 49) rfl)) rfl⟩
theorem cvX11_419 : jCV RX11 419 MX4_unscarredBearer := ⟨tsm (inT6 (List.mem_of_getElem? (i := 70) rfl)) rfl, tsm (inT4 (List.mem_of_getElem? (i := 49) rfl)) rfl, tsm (inT4 (List.mem_of_getElem? (i := 50) rfl)) rfl⟩
theorem mlX11_422 : Cond.methodLink RX11 422 Lib.Math.min.name ∈ TS := tsm (inT6 (List.mem_of_getElem? (i := 71) rfl)) rfl
theorem cvX11_427 : jCV RX11 427 MX3_keep := ⟨tsm (inT6 (List.mem_of_getElem? (i := 76) rfl)) rfl, tsm (inT6 (List.mem_of_getElem? (i := 77) rfl)) rfl, tsm (inT6 (List.mem_of_getElem? (i := 78) rfl)) rfl⟩
theorem flX11_431 : jFL RX11 431 3 0 false := ⟨RX3, TX3, 4, rfl, by decide, rfl, rfl, tsm (inT2 (List.mem_of_getElem? (i := 46) rfl)) rfl⟩
theorem cvX11_434 : jCV RX11 434 MX3_bringBack := ⟨tsm (inT6 (List.mem_of_getElem? (i := 87) rfl)) rfl, tsm (inT6 (List.mem_of_getElem? (i := 88) rfl)) rfl, tsm (inT6 (List.mem_of_getElem? (i := 89) rfl)) rfl⟩
theorem flX12_1 : jFL RX12 1 12 0 false := ⟨RX12, TX12, 58, rfl, by decide, rfl, rfl, tsm (inT6 (List.mem_of_getElem? (i := 216) rfl)) rfl⟩
theorem flX12_7 : jFL RX12 7 12 2 false := ⟨RX12, TX12, 58, rfl, by decide, rfl, rfl, tsm (inT6 (List.mem_of_getElem? (i := 218) rfl)) rfl⟩
theorem cvX12_10 : jCV RX12 10 MX12_four := ⟨tsm (inT6 (List.mem_of_getElem? (i := 185) rfl)) rfl, tsm (inT6 (List.mem_of_getElem? (i := 187) rfl)) rfl, tsm (inP (List.mem_of_getElem? (i := 38) rfl)) rfl⟩
theorem flX12_14 : jFL RX12 14 12 1 true := ⟨RX12, TX12, 58, rfl, by decide, rfl, rfl, tsm (inT6 (List.mem_of_getElem? (i := 217) rfl)) rfl⟩
theorem flX12_18 : jFL RX12 18 12 3 false := ⟨RX12, TX12, 58, rfl, by decide, rfl, rfl, tsm (inT6 (List.mem_of_getElem? (i := 219) rfl)) rfl⟩
theorem flX12_21 : jFL RX12 21 12 4 false := ⟨RX12, TX12, 58, rfl, by decide, rfl, rfl, tsm (inT6 (List.mem_of_getElem? (i := 220) rfl)) rfl⟩
theorem flX12_24 : jFL RX12 24 12 5 false := ⟨RX12, TX12, 58, rfl, by decide, rfl, rfl, tsm (inT6 (List.mem_of_getElem? (i := 221) rfl)) rfl⟩
theorem mlX12_27 : Cond.methodLink RX12 27 objectInit ∈ TS := tsm (inT6 (List.mem_of_getElem? (i := 198) rfl)) rfl
theorem flX12_33 : jFL RX12 33 12 6 true := ⟨RX12, TX12, 58, rfl, by decide, rfl, rfl, tsm (inT6 (List.mem_of_getElem? (i := 222) rfl)) rfl⟩
theorem flX12_37 : jFL RX12 37 12 7 true := ⟨RX12, TX12, 58, rfl, by decide, rfl, rfl, tsm (inT6 (List.mem_of_getElem? (i := 223) rfl)) rfl⟩
theorem flX12_40 : jFL RX12 40 12 8 true := ⟨RX12, TX12, 58, rfl, by decide, rfl, rfl, tsm (inT6 (List.mem_of_getElem? (i := 224) rfl)) rfl⟩
theorem flX12_43 : jFL RX12 43 12 9 true := ⟨RX12, TX12, 58, rfl, by decide, rfl, rfl, tsm (inT6 (List.mem_of_getElem? (i := 225) rfl)) rfl⟩
theorem flX12_47 : jFL RX12 47 12 10 true := ⟨RX12, TX12, 58, rfl, by decide, rfl, rfl, tsm (inT6 (List.mem_of_getElem? (i := 226) rfl)) rfl⟩
theorem flX12_50 : jFL RX12 50 12 24 true := ⟨RX12, TX12, 58, rfl, by decide, rfl, rfl, tsm (inT7 (List.mem_of_getElem? (i := 0) rfl)) rfl⟩
theorem flX12_53 : jFL RX12 53 12 26 true := ⟨RX12, TX12, 58, rfl, by decide, rfl, rfl, tsm (inT7 (List.mem_of_getElem? (i := 2) rfl)) rfl⟩
theorem flX12_56 : jFL RX12 56 12 27 true := ⟨RX12, TX12, 58, rfl, by decide, rfl, rfl, tsm (inT7 (List.mem_of_getElem? (i := 3) rfl)) rfl⟩
theorem flX12_59 : jFL RX12 59 12 28 true := ⟨RX12, TX12, 58, rfl, by decide, rfl, rfl, tsm (inT7 (List.mem_of_getElem? (i := 4) rfl)) rfl⟩
theorem flX12_62 : jFL RX12 62 12 31 true := ⟨RX12, TX12, 58, rfl, by decide, rfl, rfl, tsm (inT7 (List.mem_of_getElem? (i := 7) rfl)) rfl⟩
theorem flX12_65 : jFL RX12 65 12 32 true := ⟨RX12, TX12, 58, rfl, by decide, rfl, rfl, tsm (inT7 (List.mem_of_getElem? (i := 8) rfl)) rfl⟩
theorem flX12_68 : jFL RX12 68 12 33 true := ⟨RX12, TX12, 58, rfl, by decide, rfl, rfl, tsm (inT7 (List.mem_of_getElem? (i := 9) rfl)) rfl⟩
theorem flX12_71 : jFL RX12 71 12 34 true := ⟨RX12, TX12, 58, rfl, by decide, rfl, rfl, tsm (inT7 (List.mem_of_getElem? (i := 10) rfl)) rfl⟩
theorem flX12_74 : jFL RX12 74 12 37 true := ⟨RX12, TX12, 58, rfl, by decide, rfl, rfl, tsm (inT7 (List.mem_of_getElem? (i := 13) rfl)) rfl⟩
theorem flX12_77 : jFL RX12 77 12 39 true := ⟨RX12, TX12, 58, rfl, by decide, rfl, rfl, tsm (inT7 (List.mem_of_getElem? (i := 15) rfl)) rfl⟩
theorem flX12_80 : jFL RX12 80 12 40 true := ⟨RX12, TX12, 58, rfl, by decide, rfl, rfl, tsm (inT7 (List.mem_of_getElem? (i := 16) rfl)) rfl⟩
theorem flX12_83 : jFL RX12 83 12 41 true := ⟨RX12, TX12, 58, rfl, by decide, rfl, rfl, tsm (inT7 (List.mem_of_getElem? (i := 17) rfl)) rfl⟩
theorem flX12_86 : jFL RX12 86 12 42 true := ⟨RX12, TX12, 58, rfl, by decide, rfl, rfl, tsm (inT7 (List.mem_of_getElem? (i := 18) rfl)) rfl⟩
theorem flX12_89 : jFL RX12 89 12 43 true := ⟨RX12, TX12, 58, rfl, by decide, rfl, rfl, tsm (inT7 (List.mem_of_getElem? (i := 19) rfl)) rfl⟩
theorem flX12_92 : jFL RX12 92 12 44 true := ⟨RX12, TX12, 58, rfl, by decide, rfl, rfl, tsm (inT7 (List.mem_of_getElem? (i := 20) rfl)) rfl⟩
theorem flX12_95 : jFL RX12 95 12 46 false := ⟨RX12, TX12, 58, rfl, by decide, rfl, rfl, tsm (inT7 (List.mem_of_getElem? (i := 22) rfl)) rfl⟩
theorem flX12_98 : jFL RX12 98 12 47 false := ⟨RX12, TX12, 58, rfl, by decide, rfl, rfl, tsm (inT7 (List.mem_of_getElem? (i := 23) rfl)) rfl⟩
theorem flX12_101 : jFL RX12 101 12 48 true := ⟨RX12, TX12, 58, rfl, by decide, rfl, rfl, tsm (inT7 (List.mem_of_getElem? (i := 24) rfl)) rfl⟩
theorem flX12_104 : jFL RX12 104 12 49 true := ⟨RX12, TX12, 58, rfl, by decide, rfl, rfl, tsm (inT7 (List.mem_of_getElem? (i := 25) rfl)) rfl⟩
theorem flX12_107 : jFL RX12 107 12 50 true := ⟨RX12, TX12, 58, rfl, by decide, rfl, rfl, tsm (inT7 (List.mem_of_getElem? (i := 26) rfl)) rfl⟩
theorem flX12_110 : jFL RX12 110 12 51 true := ⟨RX12, TX12, 58, rfl, by decide, rfl, rfl, tsm (inT7 (List.mem_of_getElem? (i := 27) rfl)) rfl⟩
theorem flX12_113 : jFL RX12 113 12 52 true := ⟨RX12, TX12, 58, rfl, by decide, rfl, rfl, tsm (inT7 (List.mem_of_getElem? (i := 28) rfl)) rfl⟩
theorem flX12_116 : jFL RX12 116 12 55 true := ⟨RX12, TX12, 58, rfl, by decide, rfl, rfl, tsm (inT7 (List.mem_of_getElem? (i := 31) rfl)) rfl⟩
theorem flX12_119 : jFL RX12 119 12 56 true := ⟨RX12, TX12, 58, rfl, by decide, rfl, rfl, tsm (inT7 (List.mem_of_getElem? (i := 32) rfl)) rfl⟩
theorem flX12_122 : jFL RX12 122 12 57 true := ⟨RX12, TX12, 58, rfl, by decide, rfl, rfl, tsm (inT7 (List.mem_of_getElem? (i := 33) rfl)) rfl⟩
theorem kwX12_126 : Cond.constantLong RX12 126 1651467385 ∈ TS := tsm (inT6 (List.mem_of_getElem? (i := 199) rfl)) rfl
theorem kwX12_128 : Cond.constantLong RX12 128 7039342 ∈ TS := tsm (inT6 (List.mem_of_getElem? (i := 200) rfl)) rfl
theorem kwX12_130 : Cond.constantLong RX12 130 1802071652 ∈ TS := tsm (inT6 (List.mem_of_getElem? (i := 201) rfl)) rfl
theorem kwX12_132 : Cond.constantLong RX12 132 28270047624193380 ∈ TS := tsm (inT6 (List.mem_of_getElem? (i := 202) rfl)) rfl
theorem kwX12_134 : Cond.constantLong RX12 134 114767640814948 ∈ TS := tsm (inT6 (List.mem_of_getElem? (i := 203) rfl)) rfl
theorem kwX12_136 : Cond.constantLong RX12 136 439721161573 ∈ TS := tsm (inT6 (List.mem_of_getElem? (i := 204) rfl)) rfl
theorem kwX12_138 : Cond.constantLong RX12 138 457135713908 ∈ TS := tsm (inT6 (List.mem_of_getElem? (i := 205) rfl)) rfl
theorem kwX12_140 : Cond.constantLong RX12 140 1818848869 ∈ TS := tsm (inT6 (List.mem_of_getElem? (i := 206) rfl)) rfl
theorem kwX12_142 : Cond.constantLong RX12 142 6582132 ∈ TS := tsm (inT6 (List.mem_of_getElem? (i := 207) rfl)) rfl
theorem kwX12_144 : Cond.constantLong RX12 144 1684365676 ∈ TS := tsm (inT6 (List.mem_of_getElem? (i := 208) rfl)) rfl
theorem kwX12_146 : Cond.constantLong RX12 146 126943972911973 ∈ TS := tsm (inT6 (List.mem_of_getElem? (i := 209) rfl)) rfl
theorem kwX12_148 : Cond.constantLong RX12 148 1935892850 ∈ TS := tsm (inT6 (List.mem_of_getElem? (i := 210) rfl)) rfl
theorem kwX12_150 : Cond.constantLong RX12 150 109342978500980 ∈ TS := tsm (inT6 (List.mem_of_getElem? (i := 211) rfl)) rfl
theorem kwX12_152 : Cond.constantLong RX12 152 1684365940 ∈ TS := tsm (inT6 (List.mem_of_getElem? (i := 212) rfl)) rfl
theorem kwX12_154 : Cond.constantLong RX12 154 1919512167 ∈ TS := tsm (inT6 (List.mem_of_getElem? (i := 213) rfl)) rfl
theorem kwX12_156 : Cond.constantLong RX12 156 1684628851 ∈ TS := tsm (inT6 (List.mem_of_getElem? (i := 214) rfl)) rfl
theorem kwX12_158 : Cond.constantLong RX12 158 2036687218 ∈ TS := tsm (inT6 (List.mem_of_getElem? (i := 215) rfl)) rfl
theorem cvX12_160 : jCV RX12 160 MX12_peek := ⟨tsm (inT7 (List.mem_of_getElem? (i := 165) rfl)) rfl, tsm (inT7 (List.mem_of_getElem? (i := 167) rfl)) rfl, tsm (inP (List.mem_of_getElem? (i := 41) rfl)) rfl⟩
theorem flX12_164 : jFL RX12 164 12 12 false := ⟨RX12, TX12, 58, rfl, by decide, rfl, rfl, tsm (inT6 (List.mem_of_getElem? (i := 228) rfl)) rfl⟩
theorem flX12_167 : jFL RX12 167 12 13 false := ⟨RX12, TX12, 58, rfl, by decide, rfl, rfl, tsm (inT6 (List.mem_of_getElem? (i := 229) rfl)) rfl⟩
theorem flX12_170 : jFL RX12 170 12 11 false := ⟨RX12, TX12, 58, rfl, by decide, rfl, rfl, tsm (inT6 (List.mem_of_getElem? (i := 227) rfl)) rfl⟩
theorem cvX12_173 : jCS RX12 173 MX12_isSmall := ⟨tsm (inT7 (List.mem_of_getElem? (i := 169) rfl)) rfl, tsm (inT7 (List.mem_of_getElem? (i := 170) rfl)) rfl⟩
theorem cvX12_177 : jCS RX12 177 MX12_isDigit := ⟨tsm (inT7 (List.mem_of_getElem? (i := 172) rfl)) rfl, tsm (inT7 (List.mem_of_getElem? (i := 173) rfl)) rfl⟩
theorem flX12_180 : jFL RX12 180 12 14 false := ⟨RX12, TX12, 58, rfl, by decide, rfl, rfl, tsm (inT6 (List.mem_of_getElem? (i := 230) rfl)) rfl⟩
theorem flX12_183 : jFL RX12 183 12 17 false := ⟨RX12, TX12, 58, rfl, by decide, rfl, rfl, tsm (inT6 (List.mem_of_getElem? (i := 233) rfl)) rfl⟩
theorem flX12_187 : jFL RX12 187 12 15 false := ⟨RX12, TX12, 58, rfl, by decide, rfl, rfl, tsm (inT6 (List.mem_of_getElem? (i := 231) rfl)) rfl⟩
theorem flX12_190 : jFL RX12 190 12 16 false := ⟨RX12, TX12, 58, rfl, by decide, rfl, rfl, tsm (inT6 (List.mem_of_getElem? (i := 232) rfl)) rfl⟩
theorem cvX12_193 : jCV RX12 193 MX12_isSign := ⟨tsm (inT7 (List.mem_of_getElem? (i := 214) rfl)) rfl, tsm (inT7 (List.mem_of_getElem? (i := 216) rfl)) rfl, tsm (inP (List.mem_of_getElem? (i := 51) rfl)) rfl⟩
theorem cvX12_196 : jCV RX12 196 MX12_bad := ⟨tsm (inT7 (List.mem_of_getElem? (i := 183) rfl)) rfl, tsm (inT7 (List.mem_of_getElem? (i := 185) rfl)) rfl, tsm (inP (List.mem_of_getElem? (i := 44) rfl)) rfl⟩
theorem cvX12_199 : jCV RX12 199 MX12_next := ⟨tsm (inT7 (List.mem_of_getElem? (i := 161) rfl)) rfl, tsm (inT7 (List.mem_of_getElem? (i := 163) rfl)) rfl, tsm (inP (List.mem_of_getElem? (i := 40) rfl)) rfl⟩
theorem cvX12_202 : jCS RX12 202 MX12_isIn := ⟨tsm (inT7 (List.mem_of_getElem? (i := 203) rfl)) rfl, tsm (inT7 (List.mem_of_getElem? (i := 204) rfl)) rfl⟩
theorem flX12_206 : jFL RX12 206 12 18 false := ⟨RX12, TX12, 58, rfl, by decide, rfl, rfl, tsm (inT6 (List.mem_of_getElem? (i := 234) rfl)) rfl⟩
theorem cvX12_209 : jCV RX12 209 MX12_isName := ⟨tsm (inT7 (List.mem_of_getElem? (i := 191) rfl)) rfl, tsm (inT7 (List.mem_of_getElem? (i := 193) rfl)) rfl, tsm (inP (List.mem_of_getElem? (i := 46) rfl)) rfl⟩
theorem cvX12_213 : jCV RX12 213 MX12_find := ⟨tsm (inT7 (List.mem_of_getElem? (i := 195) rfl)) rfl, tsm (inT7 (List.mem_of_getElem? (i := 197) rfl)) rfl, tsm (inP (List.mem_of_getElem? (i := 47) rfl)) rfl⟩
theorem cvX12_217 : jCV RX12 217 MX12_isWord := ⟨tsm (inT7 (List.mem_of_getElem? (i := 179) rfl)) rfl, tsm (inT7 (List.mem_of_getElem? (i := 181) rfl)) rfl, tsm (inP (List.mem_of_getElem? (i := 43) rfl)) rfl⟩
theorem cvX12_221 : jCV RX12 221 MX12_fresh := ⟨tsm (inT7 (List.mem_of_getElem? (i := 187) rfl)) rfl, tsm (inT7 (List.mem_of_getElem? (i := 189) rfl)) rfl, tsm (inP (List.mem_of_getElem? (i := 45) rfl)) rfl⟩
theorem cvX12_224 : jCV RX12 224 MX12_takes := ⟨tsm (inT7 (List.mem_of_getElem? (i := 199) rfl)) rfl, tsm (inT7 (List.mem_of_getElem? (i := 201) rfl)) rfl, tsm (inP (List.mem_of_getElem? (i := 48) rfl)) rfl⟩
theorem cvX12_228 : jCV RX12 228 MX12_takesName := ⟨tsm (inT7 (List.mem_of_getElem? (i := 206) rfl)) rfl, tsm (inT7 (List.mem_of_getElem? (i := 208) rfl)) rfl, tsm (inP (List.mem_of_getElem? (i := 49) rfl)) rfl⟩
theorem flX12_231 : jFL RX12 231 12 20 false := ⟨RX12, TX12, 58, rfl, by decide, rfl, rfl, tsm (inT6 (List.mem_of_getElem? (i := 236) rfl)) rfl⟩
theorem flX12_235 : jFL RX12 235 12 21 false := ⟨RX12, TX12, 58, rfl, by decide, rfl, rfl, tsm (inT6 (List.mem_of_getElem? (i := 237) rfl)) rfl⟩
theorem cvX12_238 : jCV RX12 238 MX12_taken := ⟨tsm (inT7 (List.mem_of_getElem? (i := 157) rfl)) rfl, tsm (inT7 (List.mem_of_getElem? (i := 159) rfl)) rfl, tsm (inP (List.mem_of_getElem? (i := 39) rfl)) rfl⟩
theorem flX12_241 : jFL RX12 241 12 19 false := ⟨RX12, TX12, 58, rfl, by decide, rfl, rfl, tsm (inT6 (List.mem_of_getElem? (i := 235) rfl)) rfl⟩
theorem cvX12_244 : jCV RX12 244 MX12_portLine := ⟨tsm (inT7 (List.mem_of_getElem? (i := 175) rfl)) rfl, tsm (inT7 (List.mem_of_getElem? (i := 177) rfl)) rfl, tsm (inP (List.mem_of_getElem? (i := 42) rfl)) rfl⟩
theorem cvX12_247 : jCV RX12 247 MX12_sign := ⟨tsm (inT7 (List.mem_of_getElem? (i := 210) rfl)) rfl, tsm (inT7 (List.mem_of_getElem? (i := 212) rfl)) rfl, tsm (inP (List.mem_of_getElem? (i := 50) rfl)) rfl⟩
theorem flX12_250 : jFL RX12 250 12 25 false := ⟨RX12, TX12, 58, rfl, by decide, rfl, rfl, tsm (inT7 (List.mem_of_getElem? (i := 1) rfl)) rfl⟩
theorem flX12_253 : jFL RX12 253 12 23 false := ⟨RX12, TX12, 58, rfl, by decide, rfl, rfl, tsm (inT6 (List.mem_of_getElem? (i := 239) rfl)) rfl⟩
theorem flX12_256 : jFL RX12 256 12 22 false := ⟨RX12, TX12, 58, rfl, by decide, rfl, rfl, tsm (inT6 (List.mem_of_getElem? (i := 238) rfl)) rfl⟩
theorem cvX12_259 : jCS RX12 259 MX12_has := ⟨tsm (inT7 (List.mem_of_getElem? (i := 238) rfl)) rfl, tsm (inT7 (List.mem_of_getElem? (i := 239) rfl)) rfl⟩
theorem cvX12_262 : jCV RX12 262 MX12_isDeal := ⟨tsm (inT8 (List.mem_of_getElem? (i := 21) rfl)) rfl, tsm (inT8 (List.mem_of_getElem? (i := 23) rfl)) rfl, tsm (inP (List.mem_of_getElem? (i := 60) rfl)) rfl⟩
theorem cvX12_265 : jCV RX12 265 MX12_of := ⟨tsm (inT8 (List.mem_of_getElem? (i := 5) rfl)) rfl, tsm (inT8 (List.mem_of_getElem? (i := 7) rfl)) rfl, tsm (inP (List.mem_of_getElem? (i := 56) rfl)) rfl⟩
theorem cvX12_268 : jCV RX12 268 MX12_sizeOf := ⟨tsm (inT8 (List.mem_of_getElem? (i := 9) rfl)) rfl, tsm (inT8 (List.mem_of_getElem? (i := 11) rfl)) rfl, tsm (inP (List.mem_of_getElem? (i := 57) rfl)) rfl⟩
theorem cvX12_272 : jCV RX12 272 MX12_sortOf := ⟨tsm (inT8 (List.mem_of_getElem? (i := 29) rfl)) rfl, tsm (inT8 (List.mem_of_getElem? (i := 31) rfl)) rfl, tsm (inP (List.mem_of_getElem? (i := 62) rfl)) rfl⟩
theorem cvX12_275 : jCV RX12 275 MX12_valueBy := ⟨tsm (inT8 (List.mem_of_getElem? (i := 33) rfl)) rfl, tsm (inT8 (List.mem_of_getElem? (i := 35) rfl)) rfl, tsm (inP (List.mem_of_getElem? (i := 63) rfl)) rfl⟩
theorem cvX12_278 : jCV RX12 278 MX12_isOpen := ⟨tsm (inT8 (List.mem_of_getElem? (i := 17) rfl)) rfl, tsm (inT8 (List.mem_of_getElem? (i := 19) rfl)) rfl, tsm (inP (List.mem_of_getElem? (i := 59) rfl)) rfl⟩
theorem cvX12_281 : jCV RX12 281 MX12_valueOf := ⟨tsm (inT8 (List.mem_of_getElem? (i := 25) rfl)) rfl, tsm (inT8 (List.mem_of_getElem? (i := 27) rfl)) rfl, tsm (inP (List.mem_of_getElem? (i := 61) rfl)) rfl⟩
theorem cvX12_284 : jCV RX12 284 MX12_isRead := ⟨tsm (inT8 (List.mem_of_getElem? (i := 61) rfl)) rfl, tsm (inT8 (List.mem_of_getElem? (i := 63) rfl)) rfl, tsm (inP (List.mem_of_getElem? (i := 68) rfl)) rfl⟩
theorem cvX12_287 : jCV RX12 287 MX12_isBody := ⟨tsm (inT7 (List.mem_of_getElem? (i := 226) rfl)) rfl, tsm (inT7 (List.mem_of_getElem? (i := 228) rfl)) rfl, tsm (inP (List.mem_of_getElem? (i := 52) rfl)) rfl⟩
theorem cvX12_290 : jCV RX12 290 MX12_throwsIf := ⟨tsm (inT7 (List.mem_of_getElem? (i := 230) rfl)) rfl, tsm (inT7 (List.mem_of_getElem? (i := 232) rfl)) rfl, tsm (inP (List.mem_of_getElem? (i := 53) rfl)) rfl⟩
theorem cvX12_294 : jCV RX12 294 MX12_isLiving := ⟨tsm (inT7 (List.mem_of_getElem? (i := 234) rfl)) rfl, tsm (inT7 (List.mem_of_getElem? (i := 236) rfl)) rfl, tsm (inP (List.mem_of_getElem? (i := 54) rfl)) rfl⟩
theorem cvX12_297 : jCV RX12 297 MX12_leftOf := ⟨tsm (inT8 (List.mem_of_getElem? (i := 1) rfl)) rfl, tsm (inT8 (List.mem_of_getElem? (i := 3) rfl)) rfl, tsm (inP (List.mem_of_getElem? (i := 55) rfl)) rfl⟩
theorem cvX12_300 : jCV RX12 300 MX12_netOf := ⟨tsm (inT8 (List.mem_of_getElem? (i := 13) rfl)) rfl, tsm (inT8 (List.mem_of_getElem? (i := 15) rfl)) rfl, tsm (inP (List.mem_of_getElem? (i := 58) rfl)) rfl⟩
theorem cvX12_303 : jCV RX12 303 MX12_marksOn := ⟨tsm (inT8 (List.mem_of_getElem? (i := 37) rfl)) rfl, tsm (inT8 (List.mem_of_getElem? (i := 39) rfl)) rfl, tsm (inP (List.mem_of_getElem? (i := 64) rfl)) rfl⟩
theorem cvX12_306 : jCV RX12 306 MX12_isKind := ⟨tsm (inT8 (List.mem_of_getElem? (i := 45) rfl)) rfl, tsm (inT8 (List.mem_of_getElem? (i := 47) rfl)) rfl, tsm (inP (List.mem_of_getElem? (i := 65) rfl)) rfl⟩
theorem cvX12_309 : jCV RX12 309 MX12_living := ⟨tsm (inT8 (List.mem_of_getElem? (i := 53) rfl)) rfl, tsm (inT8 (List.mem_of_getElem? (i := 55) rfl)) rfl, tsm (inP (List.mem_of_getElem? (i := 66) rfl)) rfl⟩
theorem cvX12_312 : jCV RX12 312 MX12_isKnown := ⟨tsm (inT8 (List.mem_of_getElem? (i := 57) rfl)) rfl, tsm (inT8 (List.mem_of_getElem? (i := 59) rfl)) rfl, tsm (inP (List.mem_of_getElem? (i := 67) rfl)) rfl⟩
theorem cvX12_315 : jCV RX12 315 MX12_markOf := ⟨tsm (inT8 (List.mem_of_getElem? (i := 73) rfl)) rfl, tsm (inT8 (List.mem_of_getElem? (i := 75) rfl)) rfl, tsm (inP (List.mem_of_getElem? (i := 69) rfl)) rfl⟩
theorem cvX12_318 : jCV RX12 318 MX12_bearerOf := ⟨tsm (inT8 (List.mem_of_getElem? (i := 89) rfl)) rfl, tsm (inT8 (List.mem_of_getElem? (i := 91) rfl)) rfl, tsm (inP (List.mem_of_getElem? (i := 71) rfl)) rfl⟩
theorem cvX12_322 : jCV RX12 322 MX12_set := ⟨tsm (inT8 (List.mem_of_getElem? (i := 101) rfl)) rfl, tsm (inT8 (List.mem_of_getElem? (i := 103) rfl)) rfl, tsm (inP (List.mem_of_getElem? (i := 74) rfl)) rfl⟩
theorem cvX12_326 : jCV RX12 326 MX12_whyWrite := ⟨tsm (inT8 (List.mem_of_getElem? (i := 85) rfl)) rfl, tsm (inT8 (List.mem_of_getElem? (i := 87) rfl)) rfl, tsm (inP (List.mem_of_getElem? (i := 70) rfl)) rfl⟩
theorem cvX12_329 : jCV RX12 329 MX12_keep := ⟨tsm (inT8 (List.mem_of_getElem? (i := 93) rfl)) rfl, tsm (inT8 (List.mem_of_getElem? (i := 95) rfl)) rfl, tsm (inP (List.mem_of_getElem? (i := 72) rfl)) rfl⟩
theorem cvX12_332 : jCV RX12 332 MX12_writes := ⟨tsm (inT8 (List.mem_of_getElem? (i := 97) rfl)) rfl, tsm (inT8 (List.mem_of_getElem? (i := 99) rfl)) rfl, tsm (inP (List.mem_of_getElem? (i := 73) rfl)) rfl⟩
theorem cvX12_336 : jCV RX12 336 MX12_whyStrike := ⟨tsm (inT8 (List.mem_of_getElem? (i := 109) rfl)) rfl, tsm (inT8 (List.mem_of_getElem? (i := 111) rfl)) rfl, tsm (inP (List.mem_of_getElem? (i := 75) rfl)) rfl⟩
theorem cvX12_339 : jCV RX12 339 MX12_strikes := ⟨tsm (inT8 (List.mem_of_getElem? (i := 113) rfl)) rfl, tsm (inT8 (List.mem_of_getElem? (i := 115) rfl)) rfl, tsm (inP (List.mem_of_getElem? (i := 76) rfl)) rfl⟩
theorem cvX12_342 : jCV RX12 342 MX12_whyScar := ⟨tsm (inT8 (List.mem_of_getElem? (i := 121) rfl)) rfl, tsm (inT8 (List.mem_of_getElem? (i := 123) rfl)) rfl, tsm (inP (List.mem_of_getElem? (i := 77) rfl)) rfl⟩
theorem kwX12_345 : Cond.constant RX12 345 1000000000 ∈ TS := tsm (inT8 (List.mem_of_getElem? (i := 149) rfl)) rfl
theorem cvX12_346 : jCV RX12 346 MX12_leastOf := ⟨tsm (inT8 (List.mem_of_getElem? (i := 145) rfl)) rfl, tsm (inT8 (List.mem_of_getElem? (i := 147) rfl)) rfl, tsm (inP (List.mem_of_getElem? (i := 82) rfl)) rfl⟩
theorem cvX12_350 : jCV RX12 350 MX12_dotOf := ⟨tsm (inT8 (List.mem_of_getElem? (i := 150) rfl)) rfl, tsm (inT8 (List.mem_of_getElem? (i := 152) rfl)) rfl, tsm (inP (List.mem_of_getElem? (i := 83) rfl)) rfl⟩
theorem cvX12_353 : jCV RX12 353 MX12_isRingDeal := ⟨tsm (inT8 (List.mem_of_getElem? (i := 137) rfl)) rfl, tsm (inT8 (List.mem_of_getElem? (i := 139) rfl)) rfl, tsm (inP (List.mem_of_getElem? (i := 80) rfl)) rfl⟩
theorem cvX12_356 : jCV RX12 356 MX12_canRing := ⟨tsm (inT8 (List.mem_of_getElem? (i := 133) rfl)) rfl, tsm (inT8 (List.mem_of_getElem? (i := 135) rfl)) rfl, tsm (inP (List.mem_of_getElem? (i := 79) rfl)) rfl⟩
theorem cvX12_359 : jCV RX12 359 MX12_freesOf := ⟨tsm (inT8 (List.mem_of_getElem? (i := 141) rfl)) rfl, tsm (inT8 (List.mem_of_getElem? (i := 143) rfl)) rfl, tsm (inP (List.mem_of_getElem? (i := 81) rfl)) rfl⟩
theorem flX12_362 : jFL RX12 362 12 29 false := ⟨RX12, TX12, 58, rfl, by decide, rfl, rfl, tsm (inT7 (List.mem_of_getElem? (i := 5) rfl)) rfl⟩
theorem cvX12_365 : jCV RX12 365 MX12_bestOf := ⟨tsm (inT8 (List.mem_of_getElem? (i := 129) rfl)) rfl, tsm (inT8 (List.mem_of_getElem? (i := 131) rfl)) rfl, tsm (inP (List.mem_of_getElem? (i := 78) rfl)) rfl⟩
theorem flX12_368 : jFL RX12 368 12 30 false := ⟨RX12, TX12, 58, rfl, by decide, rfl, rfl, tsm (inT7 (List.mem_of_getElem? (i := 6) rfl)) rfl⟩
theorem cvX12_371 : jCV RX12 371 MX12_cuts := ⟨tsm (inT8 (List.mem_of_getElem? (i := 166) rfl)) rfl, tsm (inT8 (List.mem_of_getElem? (i := 168) rfl)) rfl, tsm (inP (List.mem_of_getElem? (i := 84) rfl)) rfl⟩
theorem cvX12_374 : jCV RX12 374 MX12_whyDies := ⟨tsm (inT8 (List.mem_of_getElem? (i := 174) rfl)) rfl, tsm (inT8 (List.mem_of_getElem? (i := 176) rfl)) rfl, tsm (inP (List.mem_of_getElem? (i := 85) rfl)) rfl⟩
theorem cvX12_377 : jCV RX12 377 MX12_buries := ⟨tsm (inT8 (List.mem_of_getElem? (i := 178) rfl)) rfl, tsm (inT8 (List.mem_of_getElem? (i := 180) rfl)) rfl, tsm (inP (List.mem_of_getElem? (i := 86) rfl)) rfl⟩
theorem cvX12_380 : jCV RX12 380 MX12_keepsAll := ⟨tsm (inT8 (List.mem_of_getElem? (i := 194) rfl)) rfl, tsm (inT8 (List.mem_of_getElem? (i := 196) rfl)) rfl, tsm (inP (List.mem_of_getElem? (i := 87) rfl)) rfl⟩
theorem cvX12_383 : jCV RX12 383 MX12_backAll := ⟨tsm (inT8 (List.mem_of_getElem? (i := 198) rfl)) rfl, tsm (inT8 (List.mem_of_getElem? (i := 200) rfl)) rfl, tsm (inP (List.mem_of_getElem? (i := 88) rfl)) rfl⟩
theorem flX12_386 : jFL RX12 386 12 35 false := ⟨RX12, TX12, 58, rfl, by decide, rfl, rfl, tsm (inT7 (List.mem_of_getElem? (i := 11) rfl)) rfl⟩
theorem kwX12_389 : Cond.constantLong RX12 389 255 ∈ TS := tsm (inT8 (List.mem_of_getElem? (i := 238) rfl)) rfl
theorem cvX12_391 : jCV RX12 391 MX12_put := ⟨tsm (inT8 (List.mem_of_getElem? (i := 230) rfl)) rfl, tsm (inT8 (List.mem_of_getElem? (i := 232) rfl)) rfl, tsm (inP (List.mem_of_getElem? (i := 89) rfl)) rfl⟩
theorem cvX12_394 : jCV RX12 394 MX12_putName := ⟨tsm (inT8 (List.mem_of_getElem? (i := 234) rfl)) rfl, tsm (inT8 (List.mem_of_getElem? (i := 236) rfl)) rfl, tsm (inP (List.mem_of_getElem? (i := 90) rfl)) rfl⟩
theorem cvX12_398 : jCV RX12 398 MX12_putNumber := ⟨tsm (inT8 (List.mem_of_getElem? (i := 239) rfl)) rfl, tsm (inT9 (List.mem_of_getElem? (i := 1) rfl)) rfl, tsm (inP (List.mem_of_getElem? (i := 91) rfl)) rfl⟩
theorem flX12_401 : jFL RX12 401 12 36 false := ⟨RX12, TX12, 58, rfl, by decide, rfl, rfl, tsm (inT7 (List.mem_of_getElem? (i := 12) rfl)) rfl⟩
theorem cvX12_404 : jCV RX12 404 MX12_bookLine := ⟨tsm (inT9 (List.mem_of_getElem? (i := 19) rfl)) rfl, tsm (inT9 (List.mem_of_getElem? (i := 21) rfl)) rfl, tsm (inP (List.mem_of_getElem? (i := 92) rfl)) rfl⟩
theorem cvX12_407 : jCV RX12 407 MX12_does := ⟨tsm (inT9 (List.mem_of_getElem? (i := 27) rfl)) rfl, tsm (inT9 (List.mem_of_getElem? (i := 29) rfl)) rfl, tsm (inP (List.mem_of_getElem? (i := 93) rfl)) rfl⟩
theorem cvX12_410 : jCV RX12 410 MX12_openMany := ⟨tsm (inT9 (List.mem_of_getElem? (i := 31) rfl)) rfl, tsm (inT9 (List.mem_of_getElem? (i := 33) rfl)) rfl, tsm (inP (List.mem_of_getElem? (i := 94) rfl)) rfl⟩
theorem flX12_413 : jFL RX12 413 12 38 false := ⟨RX12, TX12, 58, rfl, by decide, rfl, rfl, tsm (inT7 (List.mem_of_getElem? (i := 14) rfl)) rfl⟩
theorem cvX12_416 : jCV RX12 416 MX12_keepsBefore := ⟨tsm (inT9 (List.mem_of_getElem? (i := 35) rfl)) rfl, tsm (inT9 (List.mem_of_getElem? (i := 37) rfl)) rfl, tsm (inP (List.mem_of_getElem? (i := 95) rfl)) rfl⟩
theorem flX12_419 : jFL RX12 419 12 45 false := ⟨RX12, TX12, 58, rfl, by decide, rfl, rfl, tsm (inT7 (List.mem_of_getElem? (i := 21) rfl)) rfl⟩
theorem cvX12_422 : jCV RX12 422 MX12_packs := ⟨tsm (inT9 (List.mem_of_getElem? (i := 59) rfl)) rfl, tsm (inT9 (List.mem_of_getElem? (i := 61) rfl)) rfl, tsm (inP (List.mem_of_getElem? (i := 99) rfl)) rfl⟩
theorem cvX12_424 : jCV RX12 424 MX12_arePacked := ⟨tsm (inT9 (List.mem_of_getElem? (i := 55) rfl)) rfl, tsm (inT9 (List.mem_of_getElem? (i := 57) rfl)) rfl, tsm (inP (List.mem_of_getElem? (i := 98) rfl)) rfl⟩
theorem cvX12_427 : jCV RX12 427 MX12_octet := ⟨tsm (inT9 (List.mem_of_getElem? (i := 47) rfl)) rfl, tsm (inT9 (List.mem_of_getElem? (i := 49) rfl)) rfl, tsm (inP (List.mem_of_getElem? (i := 96) rfl)) rfl⟩
theorem cvX12_430 : jCV RX12 430 MX12_bestPack := ⟨tsm (inT9 (List.mem_of_getElem? (i := 51) rfl)) rfl, tsm (inT9 (List.mem_of_getElem? (i := 53) rfl)) rfl, tsm (inP (List.mem_of_getElem? (i := 97) rfl)) rfl⟩
theorem cvX12_433 : jCV RX12 433 MX12_isLost := ⟨tsm (inT9 (List.mem_of_getElem? (i := 79) rfl)) rfl, tsm (inT9 (List.mem_of_getElem? (i := 81) rfl)) rfl, tsm (inP (List.mem_of_getElem? (i := 101) rfl)) rfl⟩
theorem cvX12_436 : jCV RX12 436 MX12_lostOf := ⟨tsm (inT9 (List.mem_of_getElem? (i := 75) rfl)) rfl, tsm (inT9 (List.mem_of_getElem? (i := 77) rfl)) rfl, tsm (inP (List.mem_of_getElem? (i := 100) rfl)) rfl⟩
theorem flX12_439 : jFL RX12 439 12 53 false := ⟨RX12, TX12, 58, rfl, by decide, rfl, rfl, tsm (inT7 (List.mem_of_getElem? (i := 29) rfl)) rfl⟩
theorem cvX12_442 : jCV RX12 442 MX12_isFit := ⟨tsm (inT9 (List.mem_of_getElem? (i := 87) rfl)) rfl, tsm (inT9 (List.mem_of_getElem? (i := 89) rfl)) rfl, tsm (inP (List.mem_of_getElem? (i := 102) rfl)) rfl⟩
theorem cvX12_445 : jCV RX12 445 MX12_isFound := ⟨tsm (inT9 (List.mem_of_getElem? (i := 99) rfl)) rfl, tsm (inT9 (List.mem_of_getElem? (i := 101) rfl)) rfl, tsm (inP (List.mem_of_getElem? (i := 103) rfl)) rfl⟩
theorem cvX12_448 : jCV RX12 448 MX12_owedBy := ⟨tsm (inT9 (List.mem_of_getElem? (i := 103) rfl)) rfl, tsm (inT9 (List.mem_of_getElem? (i := 105) rfl)) rfl, tsm (inP (List.mem_of_getElem? (i := 104) rfl)) rfl⟩
theorem cvX12_452 : jCS RX12 452 MX12_bits := ⟨tsm (inT9 (List.mem_of_getElem? (i := 111) rfl)) rfl, tsm (inT9 (List.mem_of_getElem? (i := 112) rfl)) rfl⟩
theorem flX12_455 : jFL RX12 455 12 54 false := ⟨RX12, TX12, 58, rfl, by decide, rfl, rfl, tsm (inT7 (List.mem_of_getElem? (i := 30) rfl)) rfl⟩
theorem kwX12_458 : Cond.constant RX12 458 1103515245 ∈ TS := tsm (inT9 (List.mem_of_getElem? (i := 126) rfl)) rfl
theorem cvX12_459 : jCV RX12 459 MX12_draw := ⟨tsm (inT9 (List.mem_of_getElem? (i := 122) rfl)) rfl, tsm (inT9 (List.mem_of_getElem? (i := 124) rfl)) rfl, tsm (inP (List.mem_of_getElem? (i := 105) rfl)) rfl⟩
theorem cvX12_462 : jCV RX12 462 MX12_latestFrom := ⟨tsm (inT9 (List.mem_of_getElem? (i := 127) rfl)) rfl, tsm (inT9 (List.mem_of_getElem? (i := 129) rfl)) rfl, tsm (inP (List.mem_of_getElem? (i := 106) rfl)) rfl⟩
theorem clL_8 : jCL RL 8 11 20 := ⟨RX11, TX11, rfl, tsm (inT1 (List.mem_of_getElem? (i := 21) rfl)) rfl, tsm (inT1 (List.mem_of_getElem? (i := 22) rfl)) rfl, tsm (inT1 (List.mem_of_getElem? (i := 1) rfl)) rfl⟩
theorem cvL_21 : jCI RL 21 MX11_init := ⟨tsm (inT1 (List.mem_of_getElem? (i := 23) rfl)) rfl, tsm (inT1 (List.mem_of_getElem? (i := 24) rfl)) rfl, rfl⟩
theorem clL_22 : jCL RL 22 12 58 := ⟨RX12, TX12, rfl, tsm (inT6 (List.mem_of_getElem? (i := 194) rfl)) rfl, tsm (inT6 (List.mem_of_getElem? (i := 188) rfl)) rfl, tsm (inT1 (List.mem_of_getElem? (i := 13) rfl)) rfl⟩
theorem cvL_24 : jCI RL 24 MX12_init := ⟨tsm (inT6 (List.mem_of_getElem? (i := 195) rfl)) rfl, tsm (inT6 (List.mem_of_getElem? (i := 196) rfl)) rfl, rfl⟩
theorem cvL_25 : jCV RL 25 MX11_feed := ⟨tsm (inT3 (List.mem_of_getElem? (i := 43) rfl)) rfl, tsm (inT3 (List.mem_of_getElem? (i := 44) rfl)) rfl, tsm (inT3 (List.mem_of_getElem? (i := 45) rfl)) rfl⟩
theorem cvL_29 : jCV RL 29 MX12_feed := ⟨tsm (inT6 (List.mem_of_getElem? (i := 181) rfl)) rfl, tsm (inT6 (List.mem_of_getElem? (i := 182) rfl)) rfl, tsm (inT6 (List.mem_of_getElem? (i := 183) rfl)) rfl⟩
theorem cvL_30 : jCV RL 30 MX11_end := ⟨tsm (inT3 (List.mem_of_getElem? (i := 51) rfl)) rfl, tsm (inT3 (List.mem_of_getElem? (i := 52) rfl)) rfl, tsm (inT3 (List.mem_of_getElem? (i := 53) rfl)) rfl⟩
theorem cvL_34 : jCV RL 34 MX12_end := ⟨tsm (inT6 (List.mem_of_getElem? (i := 190) rfl)) rfl, tsm (inT6 (List.mem_of_getElem? (i := 191) rfl)) rfl, tsm (inT6 (List.mem_of_getElem? (i := 192) rfl)) rfl⟩
theorem cvL_35 : jCV RL 35 MX11_port := ⟨tsm (inT3 (List.mem_of_getElem? (i := 55) rfl)) rfl, tsm (inT3 (List.mem_of_getElem? (i := 56) rfl)) rfl, tsm (inT3 (List.mem_of_getElem? (i := 57) rfl)) rfl⟩
theorem cvL_39 : jCV RL 39 MX12_port := ⟨tsm (inT7 (List.mem_of_getElem? (i := 153) rfl)) rfl, tsm (inT7 (List.mem_of_getElem? (i := 154) rfl)) rfl, tsm (inT7 (List.mem_of_getElem? (i := 155) rfl)) rfl⟩
theorem cvL_40 : jCV RL 40 MX11_fault := ⟨tsm (inT3 (List.mem_of_getElem? (i := 195) rfl)) rfl, tsm (inT3 (List.mem_of_getElem? (i := 196) rfl)) rfl, tsm (inT3 (List.mem_of_getElem? (i := 197) rfl)) rfl⟩
theorem cvL_43 : jCV RL 43 MX12_fault := ⟨tsm (inT7 (List.mem_of_getElem? (i := 218) rfl)) rfl, tsm (inT7 (List.mem_of_getElem? (i := 219) rfl)) rfl, tsm (inT7 (List.mem_of_getElem? (i := 220) rfl)) rfl⟩
theorem cvL_49 : jCV RL 49 MX12_body := ⟨tsm (inT7 (List.mem_of_getElem? (i := 222) rfl)) rfl, tsm (inT7 (List.mem_of_getElem? (i := 223) rfl)) rfl, tsm (inT7 (List.mem_of_getElem? (i := 224) rfl)) rfl⟩
theorem cvL_50 : jCV RL 50 MX12_thrown := ⟨tsm (inT6 (List.mem_of_getElem? (i := 177) rfl)) rfl, tsm (inT6 (List.mem_of_getElem? (i := 178) rfl)) rfl, tsm (inT6 (List.mem_of_getElem? (i := 179) rfl)) rfl⟩
theorem cvL_55 : jCV RL 55 MX12_kind := ⟨tsm (inT8 (List.mem_of_getElem? (i := 41) rfl)) rfl, tsm (inT8 (List.mem_of_getElem? (i := 42) rfl)) rfl, tsm (inT8 (List.mem_of_getElem? (i := 43) rfl)) rfl⟩
theorem cvL_58 : jCV RL 58 MX12_deal := ⟨tsm (inT8 (List.mem_of_getElem? (i := 49) rfl)) rfl, tsm (inT8 (List.mem_of_getElem? (i := 50) rfl)) rfl, tsm (inT8 (List.mem_of_getElem? (i := 51) rfl)) rfl⟩
theorem cvL_59 : jCV RL 59 MX11_read := ⟨tsm (inT4 (List.mem_of_getElem? (i := 32) rfl)) rfl, tsm (inT4 (List.mem_of_getElem? (i := 33) rfl)) rfl, tsm (inT4 (List.mem_of_getElem? (i := 34) rfl)) rfl⟩
theorem cvL_62 : jCV RL 62 MX12_read := ⟨tsm (inT8 (List.mem_of_getElem? (i := 65) rfl)) rfl, tsm (inT8 (List.mem_of_getElem? (i := 66) rfl)) rfl, tsm (inT8 (List.mem_of_getElem? (i := 67) rfl)) rfl⟩
theorem cvL_63 : jCV RL 63 MX11_mark := ⟨tsm (inT4 (List.mem_of_getElem? (i := 57) rfl)) rfl, tsm (inT4 (List.mem_of_getElem? (i := 58) rfl)) rfl, tsm (inT4 (List.mem_of_getElem? (i := 59) rfl)) rfl⟩
theorem cvL_66 : jCV RL 66 MX12_mark := ⟨tsm (inT8 (List.mem_of_getElem? (i := 69) rfl)) rfl, tsm (inT8 (List.mem_of_getElem? (i := 70) rfl)) rfl, tsm (inT8 (List.mem_of_getElem? (i := 71) rfl)) rfl⟩
theorem cvL_67 : jCV RL 67 MX11_write := ⟨tsm (inT4 (List.mem_of_getElem? (i := 176) rfl)) rfl, tsm (inT4 (List.mem_of_getElem? (i := 177) rfl)) rfl, tsm (inT4 (List.mem_of_getElem? (i := 178) rfl)) rfl⟩
theorem cvL_71 : jCV RL 71 MX12_write := ⟨tsm (inT8 (List.mem_of_getElem? (i := 81) rfl)) rfl, tsm (inT8 (List.mem_of_getElem? (i := 82) rfl)) rfl, tsm (inT8 (List.mem_of_getElem? (i := 83) rfl)) rfl⟩
theorem cvL_72 : jCV RL 72 MX11_strike := ⟨tsm (inT4 (List.mem_of_getElem? (i := 219) rfl)) rfl, tsm (inT4 (List.mem_of_getElem? (i := 220) rfl)) rfl, tsm (inT4 (List.mem_of_getElem? (i := 221) rfl)) rfl⟩
theorem cvL_76 : jCV RL 76 MX12_strike := ⟨tsm (inT8 (List.mem_of_getElem? (i := 105) rfl)) rfl, tsm (inT8 (List.mem_of_getElem? (i := 106) rfl)) rfl, tsm (inT8 (List.mem_of_getElem? (i := 107) rfl)) rfl⟩
theorem cvL_77 : jCV RL 77 MX11_scar := ⟨tsm (inT4 (List.mem_of_getElem? (i := 239) rfl)) rfl, tsm (inT5 (List.mem_of_getElem? (i := 0) rfl)) rfl, tsm (inT5 (List.mem_of_getElem? (i := 1) rfl)) rfl⟩
theorem cvL_80 : jCV RL 80 MX12_scar := ⟨tsm (inT8 (List.mem_of_getElem? (i := 117) rfl)) rfl, tsm (inT8 (List.mem_of_getElem? (i := 118) rfl)) rfl, tsm (inT8 (List.mem_of_getElem? (i := 119) rfl)) rfl⟩
theorem cvL_81 : jCV RL 81 MX11_ring := ⟨tsm (inT5 (List.mem_of_getElem? (i := 98) rfl)) rfl, tsm (inT5 (List.mem_of_getElem? (i := 99) rfl)) rfl, tsm (inT5 (List.mem_of_getElem? (i := 100) rfl)) rfl⟩
theorem cvL_84 : jCV RL 84 MX12_ring := ⟨tsm (inT8 (List.mem_of_getElem? (i := 125) rfl)) rfl, tsm (inT8 (List.mem_of_getElem? (i := 126) rfl)) rfl, tsm (inT8 (List.mem_of_getElem? (i := 127) rfl)) rfl⟩
theorem cvL_85 : jCV RL 85 MX11_ringAt := ⟨tsm (inT5 (List.mem_of_getElem? (i := 103) rfl)) rfl, tsm (inT5 (List.mem_of_getElem? (i := 104) rfl)) rfl, tsm (inT5 (List.mem_of_getElem? (i := 105) rfl)) rfl⟩
theorem cvL_88 : jCV RL 88 MX12_ringAt := ⟨tsm (inT8 (List.mem_of_getElem? (i := 154) rfl)) rfl, tsm (inT8 (List.mem_of_getElem? (i := 155) rfl)) rfl, tsm (inT8 (List.mem_of_getElem? (i := 156) rfl)) rfl⟩
theorem cvL_89 : jCV RL 89 MX11_ringOf := ⟨tsm (inT5 (List.mem_of_getElem? (i := 107) rfl)) rfl, tsm (inT5 (List.mem_of_getElem? (i := 108) rfl)) rfl, tsm (inT5 (List.mem_of_getElem? (i := 109) rfl)) rfl⟩
theorem cvL_92 : jCV RL 92 MX12_ringOf := ⟨tsm (inT8 (List.mem_of_getElem? (i := 158) rfl)) rfl, tsm (inT8 (List.mem_of_getElem? (i := 159) rfl)) rfl, tsm (inT8 (List.mem_of_getElem? (i := 160) rfl)) rfl⟩
theorem cvL_93 : jCV RL 93 MX11_cut := ⟨tsm (inT5 (List.mem_of_getElem? (i := 8) rfl)) rfl, tsm (inT5 (List.mem_of_getElem? (i := 9) rfl)) rfl, tsm (inT5 (List.mem_of_getElem? (i := 10) rfl)) rfl⟩
theorem cvL_96 : jCV RL 96 MX12_cut := ⟨tsm (inT8 (List.mem_of_getElem? (i := 162) rfl)) rfl, tsm (inT8 (List.mem_of_getElem? (i := 163) rfl)) rfl, tsm (inT8 (List.mem_of_getElem? (i := 164) rfl)) rfl⟩
theorem cvL_97 : jCV RL 97 MX11_dies := ⟨tsm (inT5 (List.mem_of_getElem? (i := 70) rfl)) rfl, tsm (inT5 (List.mem_of_getElem? (i := 71) rfl)) rfl, tsm (inT5 (List.mem_of_getElem? (i := 72) rfl)) rfl⟩
theorem cvL_100 : jCV RL 100 MX12_dies := ⟨tsm (inT8 (List.mem_of_getElem? (i := 170) rfl)) rfl, tsm (inT8 (List.mem_of_getElem? (i := 171) rfl)) rfl, tsm (inT8 (List.mem_of_getElem? (i := 172) rfl)) rfl⟩
theorem cvL_101 : jCV RL 101 MX11_year := ⟨tsm (inT5 (List.mem_of_getElem? (i := 82) rfl)) rfl, tsm (inT5 (List.mem_of_getElem? (i := 83) rfl)) rfl, tsm (inT5 (List.mem_of_getElem? (i := 84) rfl)) rfl⟩
theorem cvL_104 : jCV RL 104 MX12_year := ⟨tsm (inT8 (List.mem_of_getElem? (i := 182) rfl)) rfl, tsm (inT8 (List.mem_of_getElem? (i := 183) rfl)) rfl, tsm (inT8 (List.mem_of_getElem? (i := 184) rfl)) rfl⟩
theorem cvL_105 : jCV RL 105 MX11_undo := ⟨tsm (inT5 (List.mem_of_getElem? (i := 90) rfl)) rfl, tsm (inT5 (List.mem_of_getElem? (i := 91) rfl)) rfl, tsm (inT5 (List.mem_of_getElem? (i := 92) rfl)) rfl⟩
theorem cvL_108 : jCV RL 108 MX12_undo := ⟨tsm (inT8 (List.mem_of_getElem? (i := 77) rfl)) rfl, tsm (inT8 (List.mem_of_getElem? (i := 78) rfl)) rfl, tsm (inT8 (List.mem_of_getElem? (i := 79) rfl)) rfl⟩
theorem cvL_109 : jCV RL 109 MX11_can := ⟨tsm (inT5 (List.mem_of_getElem? (i := 115) rfl)) rfl, tsm (inT5 (List.mem_of_getElem? (i := 116) rfl)) rfl, tsm (inT5 (List.mem_of_getElem? (i := 117) rfl)) rfl⟩
theorem cvL_112 : jCV RL 112 MX12_can := ⟨tsm (inT8 (List.mem_of_getElem? (i := 186) rfl)) rfl, tsm (inT8 (List.mem_of_getElem? (i := 187) rfl)) rfl, tsm (inT8 (List.mem_of_getElem? (i := 188) rfl)) rfl⟩
theorem cvL_113 : jCV RL 113 MX11_ringsFor := ⟨tsm (inT5 (List.mem_of_getElem? (i := 121) rfl)) rfl, tsm (inT5 (List.mem_of_getElem? (i := 122) rfl)) rfl, tsm (inT5 (List.mem_of_getElem? (i := 123) rfl)) rfl⟩
theorem cvL_117 : jCV RL 117 MX12_ringsFor := ⟨tsm (inT8 (List.mem_of_getElem? (i := 190) rfl)) rfl, tsm (inT8 (List.mem_of_getElem? (i := 191) rfl)) rfl, tsm (inT8 (List.mem_of_getElem? (i := 192) rfl)) rfl⟩
theorem cvL_118 : jCV RL 118 MX11_aged := ⟨tsm (inT4 (List.mem_of_getElem? (i := 69) rfl)) rfl, tsm (inT4 (List.mem_of_getElem? (i := 70) rfl)) rfl, tsm (inT4 (List.mem_of_getElem? (i := 71) rfl)) rfl⟩
theorem cvL_121 : jCV RL 121 MX12_aged := ⟨tsm (inT8 (List.mem_of_getElem? (i := 202) rfl)) rfl, tsm (inT8 (List.mem_of_getElem? (i := 203) rfl)) rfl, tsm (inT8 (List.mem_of_getElem? (i := 204) rfl)) rfl⟩
theorem cvL_122 : jCV RL 122 MX11_owes := ⟨tsm (inT4 (List.mem_of_getElem? (i := 76) rfl)) rfl, tsm (inT4 (List.mem_of_getElem? (i := 77) rfl)) rfl, tsm (inT4 (List.mem_of_getElem? (i := 78) rfl)) rfl⟩
theorem cvL_125 : jCV RL 125 MX12_owes := ⟨tsm (inT8 (List.mem_of_getElem? (i := 206) rfl)) rfl, tsm (inT8 (List.mem_of_getElem? (i := 207) rfl)) rfl, tsm (inT8 (List.mem_of_getElem? (i := 208) rfl)) rfl⟩
theorem cvL_126 : jCV RL 126 MX11_chain := ⟨tsm (inT4 (List.mem_of_getElem? (i := 81) rfl)) rfl, tsm (inT4 (List.mem_of_getElem? (i := 82) rfl)) rfl, tsm (inT4 (List.mem_of_getElem? (i := 83) rfl)) rfl⟩
theorem cvL_129 : jCV RL 129 MX12_chain := ⟨tsm (inT8 (List.mem_of_getElem? (i := 210) rfl)) rfl, tsm (inT8 (List.mem_of_getElem? (i := 211) rfl)) rfl, tsm (inT8 (List.mem_of_getElem? (i := 212) rfl)) rfl⟩
theorem cvL_130 : jCV RL 130 MX11_fullest := ⟨tsm (inT4 (List.mem_of_getElem? (i := 93) rfl)) rfl, tsm (inT4 (List.mem_of_getElem? (i := 94) rfl)) rfl, tsm (inT4 (List.mem_of_getElem? (i := 95) rfl)) rfl⟩
theorem cvL_133 : jCV RL 133 MX12_fullest := ⟨tsm (inT8 (List.mem_of_getElem? (i := 214) rfl)) rfl, tsm (inT8 (List.mem_of_getElem? (i := 215) rfl)) rfl, tsm (inT8 (List.mem_of_getElem? (i := 216) rfl)) rfl⟩
theorem cvL_134 : jCV RL 134 MX11_trade := ⟨tsm (inT4 (List.mem_of_getElem? (i := 101) rfl)) rfl, tsm (inT4 (List.mem_of_getElem? (i := 102) rfl)) rfl, tsm (inT4 (List.mem_of_getElem? (i := 103) rfl)) rfl⟩
theorem cvL_137 : jCV RL 137 MX12_trade := ⟨tsm (inT8 (List.mem_of_getElem? (i := 218) rfl)) rfl, tsm (inT8 (List.mem_of_getElem? (i := 219) rfl)) rfl, tsm (inT8 (List.mem_of_getElem? (i := 220) rfl)) rfl⟩
theorem cvL_138 : jCV RL 138 MX11_settled := ⟨tsm (inT4 (List.mem_of_getElem? (i := 113) rfl)) rfl, tsm (inT4 (List.mem_of_getElem? (i := 114) rfl)) rfl, tsm (inT4 (List.mem_of_getElem? (i := 115) rfl)) rfl⟩
theorem cvL_141 : jCV RL 141 MX12_settled := ⟨tsm (inT8 (List.mem_of_getElem? (i := 222) rfl)) rfl, tsm (inT8 (List.mem_of_getElem? (i := 223) rfl)) rfl, tsm (inT8 (List.mem_of_getElem? (i := 224) rfl)) rfl⟩
theorem cvL_142 : jCV RL 142 MX11_skin := ⟨tsm (inT4 (List.mem_of_getElem? (i := 142) rfl)) rfl, tsm (inT4 (List.mem_of_getElem? (i := 143) rfl)) rfl, tsm (inT4 (List.mem_of_getElem? (i := 144) rfl)) rfl⟩
theorem cvL_145 : jCV RL 145 MX12_skin := ⟨tsm (inT8 (List.mem_of_getElem? (i := 226) rfl)) rfl, tsm (inT8 (List.mem_of_getElem? (i := 227) rfl)) rfl, tsm (inT8 (List.mem_of_getElem? (i := 228) rfl)) rfl⟩
theorem cvL_146 : jCV RL 146 MX11_byteAt := ⟨tsm (inT4 (List.mem_of_getElem? (i := 168) rfl)) rfl, tsm (inT4 (List.mem_of_getElem? (i := 169) rfl)) rfl, tsm (inT4 (List.mem_of_getElem? (i := 170) rfl)) rfl⟩
theorem cvL_149 : jCV RL 149 MX12_byteAt := ⟨tsm (inT9 (List.mem_of_getElem? (i := 3) rfl)) rfl, tsm (inT9 (List.mem_of_getElem? (i := 4) rfl)) rfl, tsm (inT9 (List.mem_of_getElem? (i := 5) rfl)) rfl⟩
theorem cvL_150 : jCV RL 150 MX11_between := ⟨tsm (inT4 (List.mem_of_getElem? (i := 130) rfl)) rfl, tsm (inT4 (List.mem_of_getElem? (i := 131) rfl)) rfl, tsm (inT4 (List.mem_of_getElem? (i := 132) rfl)) rfl⟩
theorem cvL_153 : jCV RL 153 MX12_between := ⟨tsm (inT9 (List.mem_of_getElem? (i := 7) rfl)) rfl, tsm (inT9 (List.mem_of_getElem? (i := 8) rfl)) rfl, tsm (inT9 (List.mem_of_getElem? (i := 9) rfl)) rfl⟩
theorem cvL_154 : jCV RL 154 MX11_greatest := ⟨tsm (inT4 (List.mem_of_getElem? (i := 134) rfl)) rfl, tsm (inT4 (List.mem_of_getElem? (i := 135) rfl)) rfl, tsm (inT4 (List.mem_of_getElem? (i := 136) rfl)) rfl⟩
theorem cvL_157 : jCV RL 157 MX12_greatest := ⟨tsm (inT9 (List.mem_of_getElem? (i := 11) rfl)) rfl, tsm (inT9 (List.mem_of_getElem? (i := 12) rfl)) rfl, tsm (inT9 (List.mem_of_getElem? (i := 13) rfl)) rfl⟩
theorem cvL_158 : jCV RL 158 MX11_book := ⟨tsm (inT3 (List.mem_of_getElem? (i := 199) rfl)) rfl, tsm (inT3 (List.mem_of_getElem? (i := 200) rfl)) rfl, tsm (inT3 (List.mem_of_getElem? (i := 201) rfl)) rfl⟩
theorem cvL_161 : jCV RL 161 MX12_book := ⟨tsm (inT9 (List.mem_of_getElem? (i := 15) rfl)) rfl, tsm (inT9 (List.mem_of_getElem? (i := 16) rfl)) rfl, tsm (inT9 (List.mem_of_getElem? (i := 17) rfl)) rfl⟩
theorem cvL_162 : jCV RL 162 MX11_judge := ⟨tsm (inT5 (List.mem_of_getElem? (i := 126) rfl)) rfl, tsm (inT5 (List.mem_of_getElem? (i := 127) rfl)) rfl, tsm (inT5 (List.mem_of_getElem? (i := 128) rfl)) rfl⟩
theorem cvL_165 : jCV RL 165 MX12_judge := ⟨tsm (inT9 (List.mem_of_getElem? (i := 23) rfl)) rfl, tsm (inT9 (List.mem_of_getElem? (i := 24) rfl)) rfl, tsm (inT9 (List.mem_of_getElem? (i := 25) rfl)) rfl⟩
theorem cvL_166 : jCV RL 166 MX11_judged := ⟨tsm (inT5 (List.mem_of_getElem? (i := 144) rfl)) rfl, tsm (inT5 (List.mem_of_getElem? (i := 145) rfl)) rfl, tsm (inT5 (List.mem_of_getElem? (i := 146) rfl)) rfl⟩
theorem cvL_169 : jCV RL 169 MX12_judged := ⟨tsm (inT9 (List.mem_of_getElem? (i := 39) rfl)) rfl, tsm (inT9 (List.mem_of_getElem? (i := 40) rfl)) rfl, tsm (inT9 (List.mem_of_getElem? (i := 41) rfl)) rfl⟩
theorem cvL_170 : jCV RL 170 MX11_pack := ⟨tsm (inT5 (List.mem_of_getElem? (i := 163) rfl)) rfl, tsm (inT5 (List.mem_of_getElem? (i := 164) rfl)) rfl, tsm (inT5 (List.mem_of_getElem? (i := 165) rfl)) rfl⟩
theorem cvL_173 : jCV RL 173 MX12_pack := ⟨tsm (inT9 (List.mem_of_getElem? (i := 43) rfl)) rfl, tsm (inT9 (List.mem_of_getElem? (i := 44) rfl)) rfl, tsm (inT9 (List.mem_of_getElem? (i := 45) rfl)) rfl⟩
theorem cvL_174 : jCV RL 174 MX11_packed := ⟨tsm (inT5 (List.mem_of_getElem? (i := 195) rfl)) rfl, tsm (inT5 (List.mem_of_getElem? (i := 196) rfl)) rfl, tsm (inT5 (List.mem_of_getElem? (i := 197) rfl)) rfl⟩
theorem cvL_177 : jCV RL 177 MX12_packed := ⟨tsm (inT9 (List.mem_of_getElem? (i := 63) rfl)) rfl, tsm (inT9 (List.mem_of_getElem? (i := 64) rfl)) rfl, tsm (inT9 (List.mem_of_getElem? (i := 65) rfl)) rfl⟩
theorem cvL_178 : jCV RL 178 MX11_price := ⟨tsm (inT5 (List.mem_of_getElem? (i := 203) rfl)) rfl, tsm (inT5 (List.mem_of_getElem? (i := 204) rfl)) rfl, tsm (inT5 (List.mem_of_getElem? (i := 205) rfl)) rfl⟩
theorem cvL_181 : jCV RL 181 MX12_price := ⟨tsm (inT9 (List.mem_of_getElem? (i := 67) rfl)) rfl, tsm (inT9 (List.mem_of_getElem? (i := 68) rfl)) rfl, tsm (inT9 (List.mem_of_getElem? (i := 69) rfl)) rfl⟩
theorem cvL_182 : jCV RL 182 MX11_lost := ⟨tsm (inT5 (List.mem_of_getElem? (i := 211) rfl)) rfl, tsm (inT5 (List.mem_of_getElem? (i := 212) rfl)) rfl, tsm (inT5 (List.mem_of_getElem? (i := 213) rfl)) rfl⟩
theorem cvL_185 : jCV RL 185 MX12_lost := ⟨tsm (inT9 (List.mem_of_getElem? (i := 71) rfl)) rfl, tsm (inT9 (List.mem_of_getElem? (i := 72) rfl)) rfl, tsm (inT9 (List.mem_of_getElem? (i := 73) rfl)) rfl⟩
theorem cvL_186 : jCV RL 186 MX11_fits := ⟨tsm (inT5 (List.mem_of_getElem? (i := 223) rfl)) rfl, tsm (inT5 (List.mem_of_getElem? (i := 224) rfl)) rfl, tsm (inT5 (List.mem_of_getElem? (i := 225) rfl)) rfl⟩
theorem cvL_189 : jCV RL 189 MX12_fits := ⟨tsm (inT9 (List.mem_of_getElem? (i := 83) rfl)) rfl, tsm (inT9 (List.mem_of_getElem? (i := 84) rfl)) rfl, tsm (inT9 (List.mem_of_getElem? (i := 85) rfl)) rfl⟩
theorem cvL_190 : jCV RL 190 MX11_fit := ⟨tsm (inT6 (List.mem_of_getElem? (i := 23) rfl)) rfl, tsm (inT6 (List.mem_of_getElem? (i := 24) rfl)) rfl, tsm (inT6 (List.mem_of_getElem? (i := 25) rfl)) rfl⟩
theorem cvL_193 : jCV RL 193 MX12_fit := ⟨tsm (inT9 (List.mem_of_getElem? (i := 91) rfl)) rfl, tsm (inT9 (List.mem_of_getElem? (i := 92) rfl)) rfl, tsm (inT9 (List.mem_of_getElem? (i := 93) rfl)) rfl⟩
theorem cvL_194 : jCV RL 194 MX11_owed := ⟨tsm (inT6 (List.mem_of_getElem? (i := 31) rfl)) rfl, tsm (inT6 (List.mem_of_getElem? (i := 32) rfl)) rfl, tsm (inT6 (List.mem_of_getElem? (i := 33) rfl)) rfl⟩
theorem cvL_197 : jCV RL 197 MX12_owed := ⟨tsm (inT9 (List.mem_of_getElem? (i := 95) rfl)) rfl, tsm (inT9 (List.mem_of_getElem? (i := 96) rfl)) rfl, tsm (inT9 (List.mem_of_getElem? (i := 97) rfl)) rfl⟩
theorem cvL_198 : jCV RL 198 MX11_proof := ⟨tsm (inT6 (List.mem_of_getElem? (i := 56) rfl)) rfl, tsm (inT6 (List.mem_of_getElem? (i := 57) rfl)) rfl, tsm (inT6 (List.mem_of_getElem? (i := 58) rfl)) rfl⟩
theorem cvL_201 : jCV RL 201 MX12_proof := ⟨tsm (inT9 (List.mem_of_getElem? (i := 107) rfl)) rfl, tsm (inT9 (List.mem_of_getElem? (i := 108) rfl)) rfl, tsm (inT9 (List.mem_of_getElem? (i := 109) rfl)) rfl⟩
theorem cvL_202 : jCV RL 202 MX11_witness := ⟨tsm (inT6 (List.mem_of_getElem? (i := 66) rfl)) rfl, tsm (inT6 (List.mem_of_getElem? (i := 67) rfl)) rfl, tsm (inT6 (List.mem_of_getElem? (i := 68) rfl)) rfl⟩
theorem cvL_205 : jCV RL 205 MX12_witness := ⟨tsm (inT9 (List.mem_of_getElem? (i := 114) rfl)) rfl, tsm (inT9 (List.mem_of_getElem? (i := 115) rfl)) rfl, tsm (inT9 (List.mem_of_getElem? (i := 116) rfl)) rfl⟩
theorem cvL_206 : jCV RL 206 MX11_lasts := ⟨tsm (inT5 (List.mem_of_getElem? (i := 148) rfl)) rfl, tsm (inT5 (List.mem_of_getElem? (i := 149) rfl)) rfl, tsm (inT5 (List.mem_of_getElem? (i := 150) rfl)) rfl⟩
theorem cvL_209 : jCV RL 209 MX12_lasts := ⟨tsm (inT9 (List.mem_of_getElem? (i := 118) rfl)) rfl, tsm (inT9 (List.mem_of_getElem? (i := 119) rfl)) rfl, tsm (inT9 (List.mem_of_getElem? (i := 120) rfl)) rfl⟩
theorem cvL_210 : jCV RL 210 MX11_image := ⟨tsm (inT6 (List.mem_of_getElem? (i := 72) rfl)) rfl, tsm (inT6 (List.mem_of_getElem? (i := 73) rfl)) rfl, tsm (inT6 (List.mem_of_getElem? (i := 74) rfl)) rfl⟩
theorem cvL_213 : jCV RL 213 MX12_image := ⟨tsm (inT9 (List.mem_of_getElem? (i := 131) rfl)) rfl, tsm (inT9 (List.mem_of_getElem? (i := 132) rfl)) rfl, tsm (inT9 (List.mem_of_getElem? (i := 133) rfl)) rfl⟩
theorem cvL_214 : jCV RL 214 MX11_restore := ⟨tsm (inT6 (List.mem_of_getElem? (i := 83) rfl)) rfl, tsm (inT6 (List.mem_of_getElem? (i := 84) rfl)) rfl, tsm (inT6 (List.mem_of_getElem? (i := 85) rfl)) rfl⟩
theorem cvL_217 : jCV RL 217 MX12_restore := ⟨tsm (inT9 (List.mem_of_getElem? (i := 135) rfl)) rfl, tsm (inT9 (List.mem_of_getElem? (i := 136) rfl)) rfl, tsm (inT9 (List.mem_of_getElem? (i := 137) rfl)) rfl⟩
theorem cvL_218 : jCV RL 218 MX11_count := ⟨tsm (inT4 (List.mem_of_getElem? (i := 16) rfl)) rfl, tsm (inT4 (List.mem_of_getElem? (i := 17) rfl)) rfl, tsm (inT4 (List.mem_of_getElem? (i := 18) rfl)) rfl⟩
theorem cvL_221 : jCV RL 221 MX12_count := ⟨tsm (inT9 (List.mem_of_getElem? (i := 139) rfl)) rfl, tsm (inT9 (List.mem_of_getElem? (i := 140) rfl)) rfl, tsm (inT9 (List.mem_of_getElem? (i := 141) rfl)) rfl⟩
theorem aw_int : Cond.arrayClass .int ∈ TS := tsm (inT1 (List.mem_of_getElem? (i := 76) rfl)) rfl
theorem aw_long : Cond.arrayClass .long ∈ TS := tsm (inT1 (List.mem_of_getElem? (i := 150) rfl)) rfl
theorem aw_byte : Cond.arrayClass .byte ∈ TS := tsm (inT7 (List.mem_of_getElem? (i := 151) rfl)) rfl
theorem aw_boolean : Cond.arrayClass .boolean ∈ TS := tsm (inT7 (List.mem_of_getElem? (i := 152) rfl)) rfl
theorem ao_Ledger : Cond.arrayOver (.object "SkinLedger$Ledger") ∈ lw_tbl := (inT2 (List.mem_of_getElem? (i := 20) rfl))
theorem ao_Image : Cond.arrayOver (.object "SkinLedger$Image") ∈ lw_tbl := (inT2 (List.mem_of_getElem? (i := 33) rfl))
