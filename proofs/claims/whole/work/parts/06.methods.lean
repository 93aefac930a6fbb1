/-! THE METHODS: name, code, words of locals, answer, room -/
abbrev mJ0_length_8abf5 : MI := (yJ0_length_8abf5, cJ0_length_8abf5, 1, (some .int), 4, 110)
abbrev mJ0_charAt_5068e : MI := (yJ0_charAt_5068e, cJ0_charAt_5068e, 2, (some .char), 4, 110)
abbrev mJ7_fill_53178 : MI := (yJ7_fill_53178, cJ7_fill_53178, 4, none, 0, 0)
abbrev mJ9_floorMod_7cf53 : MI := (yJ9_floorMod_7cf53, cJ9_floorMod_7cf53, 3, (some .int), 0, 0)
abbrev mX0_advance : MI := (yX0_advance, cX0_advance, 5, none, 1, 23)
abbrev mX0_become : MI := (yX0_become, cX0_become, 2, none, 1, 26)
abbrev mX0_begin : MI := (yX0_begin, cX0_begin, 4, (some .int), 0, 0)
abbrev mX0_exchangeTaken : MI := (yX0_exchangeTaken, cX0_exchangeTaken, 4, none, 0, 0)
abbrev mX1_begin : MI := (yX1_begin, cX1_begin, 3, none, 1, 23)
abbrev mX1_hasPart : MI := (yX1_hasPart, cX1_hasPart, 3, (some .boolean), 0, 0)
abbrev mX1_put : MI := (yX1_put, cX1_put, 3, none, 0, 0)
abbrev mX2_addStall : MI := (yX2_addStall, cX2_addStall, 4, (some .int), 0, 0)
abbrev mX2_allCoin : MI := (yX2_allCoin, cX2_allCoin, 3, (some .int), 0, 0)
abbrev mX2_allGoods : MI := (yX2_allGoods, cX2_allGoods, 3, (some .int), 0, 0)
abbrev mX2_allVisits : MI := (yX2_allVisits, cX2_allVisits, 3, (some .int), 0, 0)
abbrev mX2_areBeside : MI := (yX2_areBeside, cX2_areBeside, 4, (some .boolean), 1, 22)
abbrev mX2_become : MI := (yX2_become, cX2_become, 2, none, 1, 26)
abbrev mX2_besideSet : MI := (yX2_besideSet, cX2_besideSet, 4, (some .int), 2, 45)
abbrev mX2_bring : MI := (yX2_bring, cX2_bring, 4, none, 1, 22)
abbrev mX2_draw : MI := (yX2_draw, cX2_draw, 1, (some .int), 0, 0)
abbrev mX2_exchange : MI := (yX2_exchange, cX2_exchange, 4, none, 0, 0)
abbrev mX2_freePlaces : MI := (yX2_freePlaces, cX2_freePlaces, 1, (some .int), 1, 23)
abbrev mX2_isOfKind : MI := (yX2_isOfKind, cX2_isOfKind, 5, (some .boolean), 0, 0)
abbrev mX2_offerAt : MI := (yX2_offerAt, cX2_offerAt, 3, (some .int), 1, 21)
abbrev mX2_passHour : MI := (yX2_passHour, cX2_passHour, 2, (some .int), 3, 66)
abbrev mX2_passHours : MI := (yX2_passHours, cX2_passHours, 4, (some .int), 4, 87)
abbrev mX2_placesOf : MI := (yX2_placesOf, cX2_placesOf, 4, (some .int), 0, 0)
abbrev mX2_priceOf : MI := (yX2_priceOf, cX2_priceOf, 2, (some .int), 0, 0)
abbrev mX2_sellAll : MI := (yX2_sellAll, cX2_sellAll, 4, (some .int), 2, 43)
abbrev mX2_soldOut : MI := (yX2_soldOut, cX2_soldOut, 3, (some .int), 0, 0)
abbrev mX2_spotsInUse : MI := (yX2_spotsInUse, cX2_spotsInUse, 3, (some .int), 0, 0)
abbrev mX2_stallAt : MI := (yX2_stallAt, cX2_stallAt, 3, (some .int), 0, 0)
abbrev mX2_standsLike : MI := (yX2_standsLike, cX2_standsLike, 3, (some .boolean), 0, 0)
abbrev mX2_stayers : MI := (yX2_stayers, cX2_stayers, 3, (some .int), 1, 21)
abbrev mX2_stepsFrom : MI := (yX2_stepsFrom, cX2_stepsFrom, 4, (some .int), 0, 0)
abbrev mX2_strike : MI := (yX2_strike, cX2_strike, 4, none, 2, 43)
abbrev mX2_twofoldVisits : MI := (yX2_twofoldVisits, cX2_twofoldVisits, 2, (some .int), 0, 0)
abbrev mX2_wouldGo : MI := (yX2_wouldGo, cX2_wouldGo, 2, (some .boolean), 0, 0)
abbrev mX3_isBetween : MI := (yX3_isBetween, cX3_isBetween, 4, (some .boolean), 0, 0)
abbrev mX3_isNumber : MI := (yX3_isNumber, cX3_isNumber, 3, (some .boolean), 0, 0)
abbrev mX3_isWord : MI := (yX3_isWord, cX3_isWord, 3, (some .boolean), 5, 131)
abbrev mX3_kindOfWord : MI := (yX3_kindOfWord, cX3_kindOfWord, 2, (some .int), 6, 153)
abbrev mX3_put : MI := (yX3_put, cX3_put, 2, none, 0, 0)
abbrev mX3_readItem : MI := (yX3_readItem, cX3_readItem, 3, (some .boolean), 7, 177)
abbrev mX3_readOn : MI := (yX3_readOn, cX3_readOn, 1, none, 2, 45)
abbrev mX3_readRun : MI := (yX3_readRun, cX3_readRun, 3, none, 1, 23)
abbrev mX3_readShade : MI := (yX3_readShade, cX3_readShade, 3, (some .boolean), 3, 65)
abbrev mX3_readSpring : MI := (yX3_readSpring, cX3_readSpring, 2, (some .boolean), 3, 65)
abbrev mX3_readStall : MI := (yX3_readStall, cX3_readStall, 4, (some .boolean), 6, 153)
abbrev mX3_readText : MI := (yX3_readText, cX3_readText, 3, (some .int), 8, 199)
abbrev mX3_readVisits : MI := (yX3_readVisits, cX3_readVisits, 5, (some .boolean), 6, 153)
abbrev mX3_valueOfRun : MI := (yX3_valueOfRun, cX3_valueOfRun, 3, (some .int), 0, 0)
abbrev mX3_wordOfKind : MI := (yX3_wordOfKind, cX3_wordOfKind, 1, (some (.object "java/lang/String")), 0, 0)
abbrev mX4_again : MI := (yX4_again, cX4_again, 3, (some .int), 4, 87)
abbrev mX4_ahead : MI := (yX4_ahead, cX4_ahead, 5, (some .int), 5, 110)
abbrev mX4_aheadFinding : MI := (yX4_aheadFinding, cX4_aheadFinding, 5, (some .int), 1, 21)
abbrev mX4_as : MI := (yX4_as, cX4_as, 4, (some .int), 1, 24)
abbrev mX4_beside : MI := (yX4_beside, cX4_beside, 2, (some .int), 3, 68)
abbrev mX4_best : MI := (yX4_best, cX4_best, 8, (some .int), 6, 133)
abbrev mX4_change : MI := (yX4_change, cX4_change, 5, (some .int), 1, 21)
abbrev mX4_coinFrom : MI := (yX4_coinFrom, cX4_coinFrom, 4, (some .int), 5, 110)
abbrev mX4_copy : MI := (yX4_copy, cX4_copy, 8, (some .int), 1, 26)
abbrev mX4_count : MI := (yX4_count, cX4_count, 2, (some .int), 1, 22)
abbrev mX4_dawn : MI := (yX4_dawn, cX4_dawn, 7, (some .int), 5, 110)
abbrev mX4_deal : MI := (yX4_deal, cX4_deal, 5, (some .int), 6, 133)
abbrev mX4_empty : MI := (yX4_empty, cX4_empty, 4, (some .int), 4, 87)
abbrev mX4_ever : MI := (yX4_ever, cX4_ever, 6, (some .int), 4, 87)
abbrev mX4_feed : MI := (yX4_feed, cX4_feed, 4, (some .int), 1, 21)
abbrev mX4_finding : MI := (yX4_finding, cX4_finding, 2, (some .int), 0, 0)
abbrev mX4_firstBeside : MI := (yX4_firstBeside, cX4_firstBeside, 5, (some .int), 4, 87)
abbrev mX4_fit : MI := (yX4_fit, cX4_fit, 7, (some .int), 5, 112)
abbrev mX4_hold : MI := (yX4_hold, cX4_hold, 3, (some .int), 1, 21)
abbrev mX4_hours : MI := (yX4_hours, cX4_hours, 3, (some .int), 5, 110)
abbrev mX4_image : MI := (yX4_image, cX4_image, 1, (some .int), 2, 47)
abbrev mX4_isKind : MI := (yX4_isKind, cX4_isKind, 1, (some .boolean), 0, 0)
abbrev mX4_isPair : MI := (yX4_isPair, cX4_isPair, 3, (some .boolean), 1, 21)
abbrev mX4_isPlace : MI := (yX4_isPlace, cX4_isPlace, 1, (some .boolean), 0, 0)
abbrev mX4_isSheet : MI := (yX4_isSheet, cX4_isSheet, 1, (some .boolean), 0, 0)
abbrev mX4_isSpot : MI := (yX4_isSpot, cX4_isSpot, 1, (some .boolean), 0, 0)
abbrev mX4_isStall : MI := (yX4_isStall, cX4_isStall, 2, (some .boolean), 0, 0)
abbrev mX4_judge : MI := (yX4_judge, cX4_judge, 6, (some .int), 5, 110)
abbrev mX4_lastWordHour : MI := (yX4_lastWordHour, cX4_lastWordHour, 5, (some .int), 1, 21)
abbrev mX4_load : MI := (yX4_load, cX4_load, 5, (some .int), 2, 42)
abbrev mX4_lots : MI := (yX4_lots, cX4_lots, 5, (some .int), 1, 23)
abbrev mX4_meet : MI := (yX4_meet, cX4_meet, 5, (some .int), 5, 111)
abbrev mX4_most : MI := (yX4_most, cX4_most, 3, (some .int), 6, 135)
abbrev mX4_never : MI := (yX4_never, cX4_never, 8, (some .int), 5, 111)
abbrev mX4_of : MI := (yX4_of, cX4_of, 3, (some .int), 1, 21)
abbrev mX4_offers : MI := (yX4_offers, cX4_offers, 3, (some .int), 2, 43)
abbrev mX4_order : MI := (yX4_order, cX4_order, 4, (some .int), 6, 135)
abbrev mX4_orderFinding : MI := (yX4_orderFinding, cX4_orderFinding, 5, (some .int), 2, 45)
abbrev mX4_passes : MI := (yX4_passes, cX4_passes, 4, (some .int), 3, 66)
abbrev mX4_placeOf : MI := (yX4_placeOf, cX4_placeOf, 3, (some .int), 1, 22)
abbrev mX4_searchMost : MI := (yX4_searchMost, cX4_searchMost, 6, (some .int), 5, 110)
abbrev mX4_seed : MI := (yX4_seed, cX4_seed, 3, (some .int), 0, 0)
abbrev mX4_shade : MI := (yX4_shade, cX4_shade, 4, (some .int), 1, 21)
abbrev mX4_sheet : MI := (yX4_sheet, cX4_sheet, 4, (some .int), 2, 45)
abbrev mX4_sheetFinding : MI := (yX4_sheetFinding, cX4_sheetFinding, 2, (some .int), 1, 21)
abbrev mX4_spring : MI := (yX4_spring, cX4_spring, 3, (some .int), 1, 21)
abbrev mX4_stall : MI := (yX4_stall, cX4_stall, 3, (some .int), 1, 23)
abbrev mX4_status : MI := (yX4_status, cX4_status, 4, (some .int), 1, 21)
abbrev mX4_stay : MI := (yX4_stay, cX4_stay, 1, (some .int), 3, 66)
abbrev mX4_swap : MI := (yX4_swap, cX4_swap, 3, (some .int), 1, 23)
abbrev mX4_swapAhead : MI := (yX4_swapAhead, cX4_swapAhead, 4, none, 5, 110)
abbrev mX4_tear : MI := (yX4_tear, cX4_tear, 2, (some .int), 0, 0)
abbrev mX4_text : MI := (yX4_text, cX4_text, 2, (some .int), 9, 221)
abbrev mX4_there : MI := (yX4_there, cX4_there, 5, (some .int), 5, 110)
abbrev mX4_thief : MI := (yX4_thief, cX4_thief, 5, (some .int), 5, 110)
abbrev mX4_throwAway : MI := (yX4_throwAway, cX4_throwAway, 7, (some .int), 5, 110)
abbrev mX4_tryOrder : MI := (yX4_tryOrder, cX4_tryOrder, 2, none, 2, 47)
abbrev mX4_undo : MI := (yX4_undo, cX4_undo, 1, (some .int), 2, 47)
abbrev mX4_visits : MI := (yX4_visits, cX4_visits, 4, (some .int), 1, 21)
abbrev mX4_when : MI := (yX4_when, cX4_when, 5, (some .int), 4, 87)
abbrev mX4_wipe : MI := (yX4_wipe, cX4_wipe, 2, (some .int), 0, 0)
abbrev mX4_wishes : MI := (yX4_wishes, cX4_wishes, 7, (some .int), 6, 133)
abbrev mX4_wordsAreSo : MI := (yX4_wordsAreSo, cX4_wordsAreSo, 6, (some .boolean), 4, 87)
abbrev mX4_worth : MI := (yX4_worth, cX4_worth, 6, (some .int), 6, 133)
abbrev mX4_write : MI := (yX4_write, cX4_write, 5, (some .int), 2, 42)
abbrev mX5_again : MI := (yX5_again, cX5_again, 5, (some .int), 6, 138)
abbrev mX5_ahead : MI := (yX5_ahead, cX5_ahead, 5, (some .int), 7, 161)
abbrev mX5_as : MI := (yX5_as, cX5_as, 6, (some .int), 2, 43)
abbrev mX5_at : MI := (yX5_at, cX5_at, 2, (some .int), 0, 0)
abbrev mX5_beside : MI := (yX5_beside, cX5_beside, 2, (some .int), 4, 89)
abbrev mX5_besideSet : MI := (yX5_besideSet, cX5_besideSet, 4, (some .int), 3, 66)
abbrev mX5_best : MI := (yX5_best, cX5_best, 7, (some .int), 9, 210)
abbrev mX5_bestOrder : MI := (yX5_bestOrder, cX5_bestOrder, 6, (some .int), 7, 161)
abbrev mX5_byteAt : MI := (yX5_byteAt, cX5_byteAt, 2, (some .int), 0, 0)
abbrev mX5_change : MI := (yX5_change, cX5_change, 5, (some .int), 2, 46)
abbrev mX5_coinOf : MI := (yX5_coinOf, cX5_coinOf, 5, (some .int), 7, 161)
abbrev mX5_copy : MI := (yX5_copy, cX5_copy, 7, (some .int), 2, 45)
abbrev mX5_count : MI := (yX5_count, cX5_count, 2, (some .int), 3, 66)
abbrev mX5_dawn : MI := (yX5_dawn, cX5_dawn, 8, (some .int), 7, 161)
abbrev mX5_deal : MI := (yX5_deal, cX5_deal, 8, (some .int), 8, 185)
abbrev mX5_draw : MI := (yX5_draw, cX5_draw, 1, (some .int), 0, 0)
abbrev mX5_empty : MI := (yX5_empty, cX5_empty, 4, (some .int), 6, 138)
abbrev mX5_emptySet : MI := (yX5_emptySet, cX5_emptySet, 3, (some .int), 2, 43)
abbrev mX5_ever : MI := (yX5_ever, cX5_ever, 6, (some .int), 6, 138)
abbrev mX5_everyPlace : MI := (yX5_everyPlace, cX5_everyPlace, 1, (some .int), 3, 66)
abbrev mX5_farFrom : MI := (yX5_farFrom, cX5_farFrom, 3, (some .int), 1, 21)
abbrev mX5_feed : MI := (yX5_feed, cX5_feed, 4, (some .int), 1, 25)
abbrev mX5_finds : MI := (yX5_finds, cX5_finds, 2, (some .int), 0, 0)
abbrev mX5_firstOrder : MI := (yX5_firstOrder, cX5_firstOrder, 2, none, 0, 0)
abbrev mX5_fit : MI := (yX5_fit, cX5_fit, 8, (some .int), 6, 138)
abbrev mX5_freePlace : MI := (yX5_freePlace, cX5_freePlace, 3, none, 4, 88)
abbrev mX5_has : MI := (yX5_has, cX5_has, 2, (some .boolean), 0, 0)
abbrev mX5_held : MI := (yX5_held, cX5_held, 3, (some .int), 0, 0)
abbrev mX5_hold : MI := (yX5_hold, cX5_hold, 3, (some .int), 2, 46)
abbrev mX5_hour : MI := (yX5_hour, cX5_hour, 6, (some .int), 5, 113)
abbrev mX5_hours : MI := (yX5_hours, cX5_hours, 2, (some .int), 7, 161)
abbrev mX5_hoursGo : MI := (yX5_hoursGo, cX5_hoursGo, 4, (some .int), 6, 138)
abbrev mX5_image : MI := (yX5_image, cX5_image, 2, (some .int), 0, 0)
abbrev mX5_in : MI := (yX5_in, cX5_in, 6, (some .boolean), 0, 0)
abbrev mX5_isBeside : MI := (yX5_isBeside, cX5_isBeside, 4, (some .boolean), 2, 43)
abbrev mX5_isDays : MI := (yX5_isDays, cX5_isDays, 1, (some .boolean), 1, 25)
abbrev mX5_isDigit : MI := (yX5_isDigit, cX5_isDigit, 1, (some .boolean), 1, 25)
abbrev mX5_isGoing : MI := (yX5_isGoing, cX5_isGoing, 4, (some .boolean), 2, 43)
abbrev mX5_isLetter : MI := (yX5_isLetter, cX5_isLetter, 1, (some .boolean), 1, 25)
abbrev mX5_isOne : MI := (yX5_isOne, cX5_isOne, 1, (some .boolean), 1, 25)
abbrev mX5_isPlace : MI := (yX5_isPlace, cX5_isPlace, 1, (some .boolean), 1, 25)
abbrev mX5_isSo : MI := (yX5_isSo, cX5_isSo, 5, (some .boolean), 2, 43)
abbrev mX5_isSpan : MI := (yX5_isSpan, cX5_isSpan, 1, (some .boolean), 1, 25)
abbrev mX5_isStall : MI := (yX5_isStall, cX5_isStall, 2, (some .boolean), 1, 25)
abbrev mX5_isTooLate : MI := (yX5_isTooLate, cX5_isTooLate, 2, (some .boolean), 0, 0)
abbrev mX5_isTwo : MI := (yX5_isTwo, cX5_isTwo, 3, (some .boolean), 2, 46)
abbrev mX5_item : MI := (yX5_item, cX5_item, 4, none, 7, 161)
abbrev mX5_its : MI := (yX5_its, cX5_its, 3, (some .int), 1, 21)
abbrev mX5_judge : MI := (yX5_judge, cX5_judge, 6, (some .int), 7, 161)
abbrev mX5_kindHere : MI := (yX5_kindHere, cX5_kindHere, 3, (some .int), 3, 68)
abbrev mX5_lays : MI := (yX5_lays, cX5_lays, 2, none, 1, 21)
abbrev mX5_load : MI := (yX5_load, cX5_load, 4, (some .int), 3, 66)
abbrev mX5_lots : MI := (yX5_lots, cX5_lots, 4, (some .int), 3, 66)
abbrev mX5_meet : MI := (yX5_meet, cX5_meet, 5, (some .int), 6, 138)
abbrev mX5_most : MI := (yX5_most, cX5_most, 3, (some .int), 8, 186)
abbrev mX5_narrowed : MI := (yX5_narrowed, cX5_narrowed, 2, (some .int), 0, 0)
abbrev mX5_needs : MI := (yX5_needs, cX5_needs, 2, none, 3, 67)
abbrev mX5_never : MI := (yX5_never, cX5_never, 10, (some .int), 6, 138)
abbrev mX5_newStall : MI := (yX5_newStall, cX5_newStall, 5, (some .int), 1, 21)
abbrev mX5_nextOrder : MI := (yX5_nextOrder, cX5_nextOrder, 6, (some .boolean), 0, 0)
abbrev mX5_number : MI := (yX5_number, cX5_number, 6, none, 4, 88)
abbrev mX5_of : MI := (yX5_of, cX5_of, 3, (some .int), 3, 66)
abbrev mX5_offer : MI := (yX5_offer, cX5_offer, 5, (some .int), 2, 43)
abbrev mX5_offers : MI := (yX5_offers, cX5_offers, 3, (some .int), 3, 67)
abbrev mX5_order : MI := (yX5_order, cX5_order, 5, (some .int), 8, 186)
abbrev mX5_orderWrong : MI := (yX5_orderWrong, cX5_orderWrong, 2, (some .int), 1, 21)
abbrev mX5_passes : MI := (yX5_passes, cX5_passes, 3, (some .int), 5, 113)
abbrev mX5_perhaps : MI := (yX5_perhaps, cX5_perhaps, 5, (some .int), 5, 113)
abbrev mX5_placeOf : MI := (yX5_placeOf, cX5_placeOf, 3, (some .int), 3, 66)
abbrev mX5_placesOf : MI := (yX5_placesOf, cX5_placesOf, 4, (some .int), 2, 43)
abbrev mX5_price : MI := (yX5_price, cX5_price, 3, (some .int), 2, 43)
abbrev mX5_putsBack : MI := (yX5_putsBack, cX5_putsBack, 2, none, 0, 0)
abbrev mX5_saves : MI := (yX5_saves, cX5_saves, 2, none, 0, 0)
abbrev mX5_seed : MI := (yX5_seed, cX5_seed, 3, (some .int), 0, 0)
abbrev mX5_sells : MI := (yX5_sells, cX5_sells, 3, (some .int), 3, 67)
abbrev mX5_shade : MI := (yX5_shade, cX5_shade, 4, (some .int), 2, 45)
abbrev mX5_sheet : MI := (yX5_sheet, cX5_sheet, 5, (some .int), 2, 45)
abbrev mX5_spring : MI := (yX5_spring, cX5_spring, 3, (some .int), 2, 45)
abbrev mX5_stall : MI := (yX5_stall, cX5_stall, 3, (some .int), 3, 66)
abbrev mX5_stallAt : MI := (yX5_stallAt, cX5_stallAt, 4, (some .int), 2, 43)
abbrev mX5_stallItem : MI := (yX5_stallItem, cX5_stallItem, 5, none, 6, 137)
abbrev mX5_status : MI := (yX5_status, cX5_status, 4, (some .int), 1, 25)
abbrev mX5_stay : MI := (yX5_stay, cX5_stay, 1, (some .int), 5, 113)
abbrev mX5_staying : MI := (yX5_staying, cX5_staying, 5, (some .int), 4, 89)
abbrev mX5_sumOf : MI := (yX5_sumOf, cX5_sumOf, 4, (some .int), 2, 43)
abbrev mX5_swap : MI := (yX5_swap, cX5_swap, 3, (some .int), 3, 66)
abbrev mX5_swaps : MI := (yX5_swaps, cX5_swaps, 4, none, 2, 43)
abbrev mX5_tear : MI := (yX5_tear, cX5_tear, 2, (some .int), 0, 0)
abbrev mX5_text : MI := (yX5_text, cX5_text, 2, (some .int), 8, 184)
abbrev mX5_there : MI := (yX5_there, cX5_there, 5, (some .int), 7, 161)
abbrev mX5_thief : MI := (yX5_thief, cX5_thief, 6, (some .int), 7, 161)
abbrev mX5_throwAway : MI := (yX5_throwAway, cX5_throwAway, 7, (some .int), 8, 185)
abbrev mX5_token : MI := (yX5_token, cX5_token, 3, none, 2, 45)
abbrev mX5_undo : MI := (yX5_undo, cX5_undo, 2, (some .int), 1, 21)
abbrev mX5_visits : MI := (yX5_visits, cX5_visits, 4, (some .int), 2, 45)
abbrev mX5_visitsItem : MI := (yX5_visitsItem, cX5_visitsItem, 4, none, 6, 137)
abbrev mX5_visitsOfAll : MI := (yX5_visitsOfAll, cX5_visitsOfAll, 3, (some .int), 0, 0)
abbrev mX5_when : MI := (yX5_when, cX5_when, 5, (some .int), 6, 138)
abbrev mX5_wipe : MI := (yX5_wipe, cX5_wipe, 2, (some .int), 0, 0)
abbrev mX5_wishes : MI := (yX5_wishes, cX5_wishes, 7, (some .int), 8, 185)
abbrev mX5_word : MI := (yX5_word, cX5_word, 4, (some .long), 2, 45)
abbrev mX5_worth : MI := (yX5_worth, cX5_worth, 4, (some .int), 9, 210)
abbrev mX5_worthOf : MI := (yX5_worthOf, cX5_worthOf, 6, (some .int), 8, 185)
abbrev mX5_write : MI := (yX5_write, cX5_write, 5, (some .int), 3, 66)
abbrev mX5_wrong : MI := (yX5_wrong, cX5_wrong, 2, (some .int), 2, 45)
theorem fm {α : Type} {P : α → Prop} {a : α} {l : List α} (h : P a) (t : ∀ x ∈ l, P x) : ∀ x ∈ a :: l, P x := List.forall_mem_cons.mpr ⟨h, t⟩
theorem fn {α : Type} {P : α → Prop} : ∀ x ∈ ([] : List α), P x := fun _ h => absurd h List.not_mem_nil
section ST2
variable {scr : Scr} {own : String} {cc : ByteArray} {nL : Nat} {ret : Option FieldType} {R0 : Room} {pc : Nat}
def s_alen (nx : Nat) : Stf := fun k _ ls st σ => match st with
  | .ref o :: r => match sh o with
    | some (.inr (.inl n)) => k nx ls (.int (Int32.ofNat n) :: r) σ
    | _ => False
  | _ => False
theorem z_alen (hd : decode cc pc = .ok (.arraylength, 1)) : SndG scr own cc nL ret R0 pc (s_alen (pc + 1)) := by
  intro G rt A cells slots p l e R s m args below meth c Q C k hk ls st σ h H locs rls hP hS hl
  unfold s_alen at h
  split at h
  · rename_i o r
    split at h
    · rename_i n hsh
      exact va_alen (D := G.1) C.1.1 C.1.2.1 C.2.2.2.1.1 hP o 0 (wW_at hsh) rfl rfl hd (hk _ _ _ _ h H locs rls hP hS hl)
    · exact h.elim
  · exact h.elim
/-- a String constant -/
def s_ldcs (i nx : Nat) : Stf := fun k _ ls st σ => k nx ls (.ref (60 + i) :: st) σ
theorem z_ldcs {i : Nat} {idx : Nat} (hi : i < 15) (hx : sIx.getD i 0 = idx) (hd : decode cc pc = .ok (.ldc idx, 2)) (ho : own = "MovingMarket$Tape" := by rfl) : SndG scr own cc nL ret R0 pc (s_ldcs i (pc + 2)) := by
  intro G rt A cells slots p l e R s m args below meth c Q C k hk ls st σ h H locs rls hP hS hl
  subst ho
  have hz := C.2.2.2.1.2.2.2.2.1 i hi
  rw [hx] at hz
  exact va_ldcS C.1.1 C.1.2.1 C.1.2.2.2.1 hz hd (hk _ _ _ _ h H locs rls hP hS hl)
/-- a call on a String constant -/
def s_invT (M : MI) (n nx : Nat) : Stf := fun k _ ls st σ => match argsV n [] st with
  | some (As, o, r) => bif Nat.ble 60 o && Nat.ble o 74 && Nat.ble (r.map fun v => v.category).sum 8 then ∃ rt', Ct M (.ref o :: As) σ rt' ∧ ∀ v σ', rt' v σ' → k nx ls (v.toList ++ r) σ' else False
  | none => False
theorem z_invT {M : MI} {n idx : Nat} {C : String} (hd : decode cc pc = .ok (.invokevirtual idx, 3)) (w1 : Cond.methodLink own idx M.1 ∈ AW) (w2 : Cond.instanceMethod M.1 ∈ AW) (w3 : Cond.selects C M.1 M.1 ∈ AW) (w4 : Cond.initialized C ∈ AW) (w5 : Cond.code M.1 M.2.1 M.2.2.1 M.2.2.2.1 ∈ AW)
    (hdd : M.1.cls = C ∧ M.1.cls ≠ "java/lang/invoke/MethodHandle" ∧ M.1.cls ≠ "java/lang/invoke/VarHandle" ∧ (parseMethodDescriptor M.1.desc).map (fun d => d.parameters.length) = some n) (hR : M.2.2.2.2.1 + 1 ≤ R0.frames ∧ 8 + (M.2.2.1 + 11) + M.2.2.2.2.2 ≤ R0.locals) (hC : C = "java/lang/String" := by rfl) : SndG scr own cc nL ret R0 pc (s_invT M n (pc + 3)) := by
  intro G rt A cells slots p l e R s m args below meth c Q C0 k hk ls st σ h H locs rls hP hS hl
  obtain ⟨C1, -, hlk, ⟨hK, hI, hG⟩, hRR, hX⟩ := C0
  unfold s_invT at h
  split at h
  · rename_i As o r ha
    obtain ⟨hst, hlen⟩ := argsV_spec n [] st As o r ha
    rw [List.reverse_nil, List.nil_append] at hst
    subst hst
    cases hb : (Nat.ble 60 o && Nat.ble o 74 && Nat.ble (r.map fun v => v.category).sum 8) with
    | false => rw [hb] at h; exact h.elim
    | true =>
      rw [hb] at h
      obtain ⟨hb1, hb2⟩ := Bool.and_eq_true_iff.mp hb
      obtain ⟨hb3, hb4⟩ := Bool.and_eq_true_iff.mp hb1
      have h60 := Nat.le_of_ble_eq_true hb3
      have h74 := Nat.le_of_ble_eq_true hb4
      obtain ⟨rt', hM, h⟩ := h
      have hg : GoodIn AW (wsV own idx C M.1 (wsM M)) := by
        intro w hw
        rcases List.mem_append.mp hw with hw | hw
        · simp only [List.mem_cons, List.not_mem_nil, or_false] at hw
          rcases hw with rfl | rfl | rfl | rfl
          · exact GoodIn_one w1
          · exact GoodIn_one w2
          · exact GoodIn_one w3
          · exact GoodIn_one w4
        · exact GoodIn_wsM w5 w hw
      have hst2 : sM (ga G) (As.reverse ++ .ref o :: r) = (sM (ga G) As).reverse ++ .ref (ga G o) :: sM (ga G) r := by
        unfold sM
        rw [List.map_append, List.map_reverse]
        rfl
      have hrecv : ∃ cell : Cell, H[ga G o]? = some cell ∧ cell.vm.isStatics = false ∧ s.vm.findClass C = some cell.cls := by
        have hv := vk_recv (i := o - 60) hG.2.1 (by omega) hS
        rw [hC]
        rw [show 60 + (o - 60) = o by omega] at hv
        exact hv
      rw [hst2]
      refine callG (rt := rt') (va_runV (As := sM (ga G) As) (rest := sM (ga G) r) (b := ga G o) C1 (hM l G) (cwV n C1.2.2.2.2 hg rfl rfl rfl hdd (by rw [hRR]; exact hR)) ⟨PRE_blind, hrecv, fun U hU hW => ⟨rfl, by rw [hU]; exact hP, va_K.moved hW.alike hK, hI, ?_⟩⟩ rfl (by rw [List.length_map, hlen]; rfl) hl.1 rfl (lv_room (by rw [sM_sum]; exact Nat.le_of_ble_eq_true hb2)) hd ⟨hX.2.1.1, hX.2.1.2⟩) hS hX.1 (fun v σ' H1 locs1 hv hP1 hS1 => ?_)
      · rw [hU]
        exact GLb.warm hW (GLb.narrow hX.1 (GLb.kept hS.1 hS.2.1 hG))
      · rw [vM_toList]
        exact hk _ _ _ _ (h v σ' hv) H1 locs1 rls hP1 hS1 hl
  · exact h.elim
end ST2
section ST3
variable {own : String} {cc : ByteArray} {nL : Nat} {ret : Option FieldType} {R0 : Room} {pc L : Nat} {xs : Nat → Int32}
/-- the law's script, at place 58 -/
def s_sld (L : Nat) (xs : Nat → Int32) (nx : Nat) : Stf := fun k _ ls st σ => match st with
  | .int i :: .ref 58 :: r => ∃ j, (i = nI j ∧ j < L ∧ j < 2147483648) ∧ k nx ls (.int (xs j) :: r) σ
  | _ => False
theorem z_sld (hd : decode cc pc = .ok (.iaload, 1)) : SndG (some (L, xs)) own cc nL ret R0 pc (s_sld L xs (pc + 1)) := by
  intro G rt A cells slots p l e R s m args below meth c Q C k hk ls st σ h H locs rls hP hS hl
  unfold s_sld at h
  split at h
  · obtain ⟨hX, hlt, hA⟩ := C.2.2.2.2.2.2.2 L xs rfl
    obtain ⟨j, hj, h⟩ := h
    obtain ⟨h1, h2⟩ := ix_of hj
    refine va_sld C.1.1 C.1.2.1 hX hlt hA hS h1 hd ?_
    rw [h2]
    exact hk _ _ _ _ h H locs rls hP hS hl
  · exact h.elim
def s_slen (L nx : Nat) : Stf := fun k _ ls st σ => match st with
  | .ref 58 :: r => k nx ls (.int (Int32.ofNat L) :: r) σ
  | _ => False
theorem z_slen (hd : decode cc pc = .ok (.arraylength, 1)) : SndG (some (L, xs)) own cc nL ret R0 pc (s_slen L (pc + 1)) := by
  intro G rt A cells slots p l e R s m args below meth c Q C k hk ls st σ h H locs rls hP hS hl
  unfold s_slen at h
  split at h
  · obtain ⟨hX, hlt, hA⟩ := C.2.2.2.2.2.2.2 L xs rfl
    exact va_slen C.1.1 C.1.2.1 hX hlt hA hS hd (hk _ _ _ _ h H locs rls hP hS hl)
  · exact h.elim
end ST3
