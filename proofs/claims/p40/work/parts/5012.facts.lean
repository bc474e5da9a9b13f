def kX1_init : eK := (RX1, yX1_init, cX1_init, 1, none)
def kX1_begin : eK := (RX1, yX1_begin, cX1_begin, 3, none)
def kX1_findCellsBeside : eK := (RX1, yX1_findCellsBeside, cX1_findCellsBeside, 8, none)
def kX1_learnTile : eK := (RX1, yX1_learnTile, cX1_learnTile, 6, none)
def kX1_knows : eK := (RX1, yX1_knows, cX1_knows, 2, (some Jvm.ClassFile.FieldType.boolean))
def kX1_lies : eK := (RX1, yX1_lies, cX1_lies, 2, (some Jvm.ClassFile.FieldType.boolean))
def kX1_numberOf : eK := (RX1, yX1_numberOf, cX1_numberOf, 5, (some Jvm.ClassFile.FieldType.int))
def kX1_turnsFitting : eK := (RX1, yX1_turnsFitting, cX1_turnsFitting, 6, (some Jvm.ClassFile.FieldType.int))
def kX1_fitsSo : eK := (RX1, yX1_fitsSo, cX1_fitsSo, 4, (some Jvm.ClassFile.FieldType.boolean))
def kX1_countWays : eK := (RX1, yX1_countWays, cX1_countWays, 4, (some Jvm.ClassFile.FieldType.int))
def kX1_firstCell : eK := (RX1, yX1_firstCell, cX1_firstCell, 3, (some Jvm.ClassFile.FieldType.int))
def kX1_firstTurn : eK := (RX1, yX1_firstTurn, cX1_firstTurn, 5, (some Jvm.ClassFile.FieldType.int))
def kX1_firstClash : eK := (RX1, yX1_firstClash, cX1_firstClash, 6, (some Jvm.ClassFile.FieldType.int))
def kX1_put : eK := (RX1, yX1_put, cX1_put, 6, none)
def kX1_lift : eK := (RX1, yX1_lift, cX1_lift, 5, none)
def kX1_pointsFor : eK := (RX1, yX1_pointsFor, cX1_pointsFor, 5, (some Jvm.ClassFile.FieldType.int))
def kX1_richestCell : eK := (RX1, yX1_richestCell, cX1_richestCell, 5, (some Jvm.ClassFile.FieldType.int))
def kX1_richestTile : eK := (RX1, yX1_richestTile, cX1_richestTile, 5, (some Jvm.ClassFile.FieldType.int))
def kX1_matchesOn : eK := (RX1, yX1_matchesOn, cX1_matchesOn, 2, (some Jvm.ClassFile.FieldType.int))
def kX1_isEncircled : eK := (RX1, yX1_isEncircled, cX1_isEncircled, 2, (some Jvm.ClassFile.FieldType.boolean))
def kX1_countMatches : eK := (RX1, yX1_countMatches, cX1_countMatches, 3, (some Jvm.ClassFile.FieldType.int))
def kX1_sumOfMatches : eK := (RX1, yX1_sumOfMatches, cX1_sumOfMatches, 4, (some Jvm.ClassFile.FieldType.int))
def kX1_countRings : eK := (RX1, yX1_countRings, cX1_countRings, 3, (some Jvm.ClassFile.FieldType.int))
def kX1_countPoints : eK := (RX1, yX1_countPoints, cX1_countPoints, 1, (some Jvm.ClassFile.FieldType.int))
def kX1_countGroups : eK := (RX1, yX1_countGroups, cX1_countGroups, 3, (some Jvm.ClassFile.FieldType.int))
def kX1_markGroup : eK := (RX1, yX1_markGroup, cX1_markGroup, 7, none)
def kX1_keep : eK := (RX1, yX1_keep, cX1_keep, 1, none)
def kX1_bringBack : eK := (RX1, yX1_bringBack, cX1_bringBack, 2, none)
def kX2_init : eK := (RX2, yX2_init, cX2_init, 2, none)
def kX2_begin : eK := (RX2, yX2_begin, cX2_begin, 2, none)
def kX2_playRound : eK := (RX2, yX2_playRound, cX2_playRound, 3, (some Jvm.ClassFile.FieldType.int))
def kX2_keep : eK := (RX2, yX2_keep, cX2_keep, 1, none)
def kX2_bringBack : eK := (RX2, yX2_bringBack, cX2_bringBack, 1, none)
def kX2_carriesOut : eK := (RX2, yX2_carriesOut, cX2_carriesOut, 2, (some Jvm.ClassFile.FieldType.boolean))
def kX2_puts : eK := (RX2, yX2_puts, cX2_puts, 6, (some Jvm.ClassFile.FieldType.boolean))
def kX2_takes : eK := (RX2, yX2_takes, cX2_takes, 2, (some Jvm.ClassFile.FieldType.boolean))
def kX2_fitsIn : eK := (RX2, yX2_fitsIn, cX2_fitsIn, 3, (some Jvm.ClassFile.FieldType.boolean))
def kX2_reckon : eK := (RX2, yX2_reckon, cX2_reckon, 6, none)
def kX2_combined : eK := (RX2, yX2_combined, cX2_combined, 3, (some Jvm.ClassFile.FieldType.int))
def kX2_holdsBetween : eK := (RX2, yX2_holdsBetween, cX2_holdsBetween, 3, (some Jvm.ClassFile.FieldType.boolean))
def kX2_remainder : eK := (RX2, yX2_remainder, cX2_remainder, 2, (some Jvm.ClassFile.FieldType.int))
def kX2_push : eK := (RX2, yX2_push, cX2_push, 2, none)
def kX2_pop : eK := (RX2, yX2_pop, cX2_pop, 1, (some Jvm.ClassFile.FieldType.int))
def kX3_init : eK := (RX3, yX3_init, cX3_init, 3, none)
def kX3_readsGame : eK := (RX3, yX3_readsGame, cX3_readsGame, 3, (some Jvm.ClassFile.FieldType.boolean))
def kX3_readsTile : eK := (RX3, yX3_readsTile, cX3_readsTile, 1, (some Jvm.ClassFile.FieldType.boolean))
def kX3_readsOrder : eK := (RX3, yX3_readsOrder, cX3_readsOrder, 3, (some Jvm.ClassFile.FieldType.boolean))
def kX3_readsTest : eK := (RX3, yX3_readsTest, cX3_readsTest, 4, (some Jvm.ClassFile.FieldType.boolean))
def kX3_readsBoth : eK := (RX3, yX3_readsBoth, cX3_readsBoth, 4, (some Jvm.ClassFile.FieldType.boolean))
def kX3_readsSingle : eK := (RX3, yX3_readsSingle, cX3_readsSingle, 4, (some Jvm.ClassFile.FieldType.boolean))
def kX3_readsSum : eK := (RX3, yX3_readsSum, cX3_readsSum, 5, (some Jvm.ClassFile.FieldType.boolean))
def kX3_readsProduct : eK := (RX3, yX3_readsProduct, cX3_readsProduct, 5, (some Jvm.ClassFile.FieldType.boolean))
def kX3_readsValue : eK := (RX3, yX3_readsValue, cX3_readsValue, 3, (some Jvm.ClassFile.FieldType.boolean))
def kX3_accept : eK := (RX3, yX3_accept, cX3_accept, 2, (some Jvm.ClassFile.FieldType.boolean))
def kX5_init : eK := (RX5, yX5_init, cX5_init, 3, none)
def kX5_firstError : eK := (RX5, yX5_firstError, cX5_firstError, 2, (some Jvm.ClassFile.FieldType.int))
def kX5_errorAtToken : eK := (RX5, yX5_errorAtToken, cX5_errorAtToken, 2, (some Jvm.ClassFile.FieldType.int))
def kX5_errorOfName : eK := (RX5, yX5_errorOfName, cX5_errorOfName, 2, (some Jvm.ClassFile.FieldType.int))
def kX5_tileNamed : eK := (RX5, yX5_tileNamed, cX5_tileNamed, 2, (some Jvm.ClassFile.FieldType.int))
def kX5_errorOfNumber : eK := (RX5, yX5_errorOfNumber, cX5_errorOfNumber, 2, (some Jvm.ClassFile.FieldType.int))
def kX6_init : eK := (RX6, yX6_init, cX6_init, 1, none)
def kX6_copy : eK := (RX6, yX6_copy, cX6_copy, 2, none)
def kX7_init : eK := (RX7, yX7_init, cX7_init, 2, none)
def kX7_clear : eK := (RX7, yX7_clear, cX7_clear, 1, none)
def kX7_addSide : eK := (RX7, yX7_addSide, cX7_addSide, 2, none)
def kX7_addTileNumber : eK := (RX7, yX7_addTileNumber, cX7_addTileNumber, 2, none)
def kX7_tileCount : eK := (RX7, yX7_tileCount, cX7_tileCount, 1, (some Jvm.ClassFile.FieldType.int))
def kX7_tileNumber : eK := (RX7, yX7_tileNumber, cX7_tileNumber, 2, (some Jvm.ClassFile.FieldType.int))
def kX7_beginOrder : eK := (RX7, yX7_beginOrder, cX7_beginOrder, 4, none)
def kX7_beginTest : eK := (RX7, yX7_beginTest, cX7_beginTest, 1, none)
def kX7_endOrder : eK := (RX7, yX7_endOrder, cX7_endOrder, 1, none)
def kX7_add : eK := (RX7, yX7_add, cX7_add, 3, (some Jvm.ClassFile.FieldType.boolean))
def kX7_resolve : eK := (RX7, yX7_resolve, cX7_resolve, 3, none)
def kX7_step : eK := (RX7, yX7_step, cX7_step, 2, (some (Jvm.ClassFile.FieldType.object "RingDomino$Kind")))
def kX7_operand : eK := (RX7, yX7_operand, cX7_operand, 2, (some Jvm.ClassFile.FieldType.int))
def kX7_copy : eK := (RX7, yX7_copy, cX7_copy, 3, none)
def kX8_init : eK := (RX8, yX8_init, cX8_init, 1, none)
def kX8_hasRoomFor : eK := (RX8, yX8_hasRoomFor, cX8_hasRoomFor, 2, (some Jvm.ClassFile.FieldType.boolean))
def kX8_append : eK := (RX8, yX8_append, cX8_append, 3, none)
def kX8_byteAt : eK := (RX8, yX8_byteAt, cX8_byteAt, 2, (some Jvm.ClassFile.FieldType.int))
def kX8_isLetter : eK := (RX8, yX8_isLetter, cX8_isLetter, 3, (some Jvm.ClassFile.FieldType.boolean))
def kX8_isDigit : eK := (RX8, yX8_isDigit, cX8_isDigit, 3, (some Jvm.ClassFile.FieldType.boolean))
def kX8_behindBlanks : eK := (RX8, yX8_behindBlanks, cX8_behindBlanks, 3, (some Jvm.ClassFile.FieldType.int))
def kX8_behindWord : eK := (RX8, yX8_behindWord, cX8_behindWord, 3, (some Jvm.ClassFile.FieldType.int))
def kX8_behindDigits : eK := (RX8, yX8_behindDigits, cX8_behindDigits, 3, (some Jvm.ClassFile.FieldType.int))
def kX8_says : eK := (RX8, yX8_says, cX8_says, 5, (some Jvm.ClassFile.FieldType.boolean))
def kX8_saysSame : eK := (RX8, yX8_saysSame, cX8_saysSame, 5, (some Jvm.ClassFile.FieldType.boolean))
def kX9_init : eK := (RX9, yX9_init, cX9_init, 2, none)
def kX9_cutTape : eK := (RX9, yX9_cutTape, cX9_cutTape, 5, none)
def kX9_add : eK := (RX9, yX9_add, cX9_add, 4, none)
def kX9_endOfToken : eK := (RX9, yX9_endOfToken, cX9_endOfToken, 4, (some Jvm.ClassFile.FieldType.int))
def kX9_kindBetween : eK := (RX9, yX9_kindBetween, cX9_kindBetween, 3, (some (Jvm.ClassFile.FieldType.object "RingDomino$Kind")))
def kX9_kindWritten : eK := (RX9, yX9_kindWritten, cX9_kindWritten, 8, (some (Jvm.ClassFile.FieldType.object "RingDomino$Kind")))
def kX9_numberBetween : eK := (RX9, yX9_numberBetween, cX9_numberBetween, 5, (some Jvm.ClassFile.FieldType.int))
def kX9_kindOf : eK := (RX9, yX9_kindOf, cX9_kindOf, 2, (some (Jvm.ClassFile.FieldType.object "RingDomino$Kind")))
def kX9_startOf : eK := (RX9, yX9_startOf, cX9_startOf, 2, (some Jvm.ClassFile.FieldType.int))
def kX9_valueOf : eK := (RX9, yX9_valueOf, cX9_valueOf, 2, (some Jvm.ClassFile.FieldType.int))
def kX9_setValue : eK := (RX9, yX9_setValue, cX9_setValue, 3, none)
def kX9_areSameWords : eK := (RX9, yX9_areSameWords, cX9_areSameWords, 4, (some Jvm.ClassFile.FieldType.boolean))
def kX10_init : eK := (RX10, yX10_init, cX10_init, 1, none)
def kX10_feed : eK := (RX10, yX10_feed, cX10_feed, 6, (some Jvm.ClassFile.FieldType.int))
def kX10_trim : eK := (RX10, yX10_trim, cX10_trim, 2, (some Jvm.ClassFile.FieldType.int))
def kX10_teach : eK := (RX10, yX10_teach, cX10_teach, 3, (some Jvm.ClassFile.FieldType.int))
def kX10_columns : eK := (RX10, yX10_columns, cX10_columns, 1, (some Jvm.ClassFile.FieldType.int))
def kX10_rows : eK := (RX10, yX10_rows, cX10_rows, 1, (some Jvm.ClassFile.FieldType.int))
def kX10_tiles : eK := (RX10, yX10_tiles, cX10_tiles, 1, (some Jvm.ClassFile.FieldType.int))
def kX10_rounds : eK := (RX10, yX10_rounds, cX10_rounds, 1, (some Jvm.ClassFile.FieldType.int))
def kX10_placedTiles : eK := (RX10, yX10_placedTiles, cX10_placedTiles, 1, (some Jvm.ClassFile.FieldType.int))
def kX10_matches : eK := (RX10, yX10_matches, cX10_matches, 1, (some Jvm.ClassFile.FieldType.int))
def kX10_points : eK := (RX10, yX10_points, cX10_points, 1, (some Jvm.ClassFile.FieldType.int))
def kX10_rings : eK := (RX10, yX10_rings, cX10_rings, 1, (some Jvm.ClassFile.FieldType.int))
def kX10_groups : eK := (RX10, yX10_groups, cX10_groups, 1, (some Jvm.ClassFile.FieldType.int))
def kX10_hasTile : eK := (RX10, yX10_hasTile, cX10_hasTile, 2, (some Jvm.ClassFile.FieldType.boolean))
def kX10_tileAt : eK := (RX10, yX10_tileAt, cX10_tileAt, 2, (some Jvm.ClassFile.FieldType.int))
def kX10_numberAt : eK := (RX10, yX10_numberAt, cX10_numberAt, 4, (some Jvm.ClassFile.FieldType.int))
def kX10_matchesOf : eK := (RX10, yX10_matchesOf, cX10_matchesOf, 2, (some Jvm.ClassFile.FieldType.int))
def kX10_isRing : eK := (RX10, yX10_isRing, cX10_isRing, 2, (some Jvm.ClassFile.FieldType.boolean))
def kX10_isPlaced : eK := (RX10, yX10_isPlaced, cX10_isPlaced, 2, (some Jvm.ClassFile.FieldType.boolean))
def kX10_cellOf : eK := (RX10, yX10_cellOf, cX10_cellOf, 2, (some Jvm.ClassFile.FieldType.int))
def kX10_turnOf : eK := (RX10, yX10_turnOf, cX10_turnOf, 2, (some Jvm.ClassFile.FieldType.int))
def kX10_fits : eK := (RX10, yX10_fits, cX10_fits, 4, (some Jvm.ClassFile.FieldType.boolean))
def kX10_edgeAgainst : eK := (RX10, yX10_edgeAgainst, cX10_edgeAgainst, 4, (some Jvm.ClassFile.FieldType.int))
def kX10_waysOf : eK := (RX10, yX10_waysOf, cX10_waysOf, 2, (some Jvm.ClassFile.FieldType.int))
def kX10_isLeftover : eK := (RX10, yX10_isLeftover, cX10_isLeftover, 2, (some Jvm.ClassFile.FieldType.boolean))
def kX10_putTile : eK := (RX10, yX10_putTile, cX10_putTile, 5, (some Jvm.ClassFile.FieldType.int))
def kX10_takeTile : eK := (RX10, yX10_takeTile, cX10_takeTile, 3, (some Jvm.ClassFile.FieldType.int))
def kX10_fitTile : eK := (RX10, yX10_fitTile, cX10_fitTile, 3, (some Jvm.ClassFile.FieldType.int))
def kX10_playRounds : eK := (RX10, yX10_playRounds, cX10_playRounds, 4, (some Jvm.ClassFile.FieldType.int))
def kX10_pointsAfter : eK := (RX10, yX10_pointsAfter, cX10_pointsAfter, 3, (some Jvm.ClassFile.FieldType.int))
def kX10_roundsUntilRing : eK := (RX10, yX10_roundsUntilRing, cX10_roundsUntilRing, 3, (some Jvm.ClassFile.FieldType.int))
def kX10_bestCell : eK := (RX10, yX10_bestCell, cX10_bestCell, 3, (some Jvm.ClassFile.FieldType.int))
def kX10_bestTurn : eK := (RX10, yX10_bestTurn, cX10_bestTurn, 3, (some Jvm.ClassFile.FieldType.int))
def kX10_bestTile : eK := (RX10, yX10_bestTile, cX10_bestTile, 1, (some Jvm.ClassFile.FieldType.int))
def kX10_meanMatch : eK := (RX10, yX10_meanMatch, cX10_meanMatch, 2, (some Jvm.ClassFile.FieldType.double))
def kX10_digest : eK := (RX10, yX10_digest, cX10_digest, 5, (some Jvm.ClassFile.FieldType.long))
def kX10_requireCell : eK := (RX10, yX10_requireCell, cX10_requireCell, 2, none)
def kX10_requireTile : eK := (RX10, yX10_requireTile, cX10_requireTile, 2, none)
def kX10_requireEdge : eK := (RX10, yX10_requireEdge, cX10_requireEdge, 2, none)
def kX10_requireWay : eK := (RX10, yX10_requireWay, cX10_requireWay, 4, none)
def kX10_requireTileOn : eK := (RX10, yX10_requireTileOn, cX10_requireTileOn, 2, none)
def kX10_requireLying : eK := (RX10, yX10_requireLying, cX10_requireLying, 2, none)
def kX10_requireSome : eK := (RX10, yX10_requireSome, cX10_requireSome, 2, none)
def kX10_requireRounds : eK := (RX10, yX10_requireRounds, cX10_requireRounds, 2, none)
def kX11_init : eK := (RX11, yX11_init, cX11_init, 2, none)
def kX11_next : eK := (RX11, yX11_next, cX11_next, 2, (some Jvm.ClassFile.FieldType.int))
def kX12_init : eK := (RX12, yX12_init, cX12_init, 1, none)
def kX12_board : eK := (RX12, yX12_board, cX12_board, 3, (some (Jvm.ClassFile.FieldType.array Jvm.ClassFile.FieldType.int)))
def kX12_beside : eK := (RX12, yX12_beside, cX12_beside, 5, (some Jvm.ClassFile.FieldType.int))
def kX12_number : eK := (RX12, yX12_number, cX12_number, 5, (some Jvm.ClassFile.FieldType.int))
def kX12_against : eK := (RX12, yX12_against, cX12_against, 8, (some Jvm.ClassFile.FieldType.int))
def kX12_many : eK := (RX12, yX12_many, cX12_many, 5, (some Jvm.ClassFile.FieldType.int))
def kX12_fits : eK := (RX12, yX12_fits, cX12_fits, 10, (some Jvm.ClassFile.FieldType.boolean))
def kX12_ways : eK := (RX12, yX12_ways, cX12_ways, 6, (some Jvm.ClassFile.FieldType.int))
def kX12_fit : eK := (RX12, yX12_fit, cX12_fit, 5, (some Jvm.ClassFile.FieldType.boolean))
def kX12_counts : eK := (RX12, yX12_counts, cX12_counts, 6, (some (Jvm.ClassFile.FieldType.array Jvm.ClassFile.FieldType.int)))
def kX12_groups : eK := (RX12, yX12_groups, cX12_groups, 8, (some Jvm.ClassFile.FieldType.int))
def kX12_play : eK := (RX12, yX12_play, cX12_play, 6, (some Jvm.ClassFile.FieldType.int))
def kX12_play_ : eK := (RX12, yX12_play_, cX12_play_, 4, (some Jvm.ClassFile.FieldType.int))
def kX12_isSame : eK := (RX12, yX12_isSame, cX12_isSame, 8, (some Jvm.ClassFile.FieldType.boolean))
def kX13_init : eK := (RX13, yX13_init, cX13_init, 5, none)
def kX13_sum : eK := (RX13, yX13_sum, cX13_sum, 5, (some (Jvm.ClassFile.FieldType.object "RingDominoLaw$Node")))
def kX13_test : eK := (RX13, yX13_test, cX13_test, 5, (some (Jvm.ClassFile.FieldType.object "RingDominoLaw$Node")))
def kX13_text : eK := (RX13, yX13_text, cX13_text, 1, (some (Jvm.ClassFile.FieldType.object "java/lang/String")))
def kX13_value : eK := (RX13, yX13_value, cX13_value, 2, (some Jvm.ClassFile.FieldType.int))
def kX13_both : eK := (RX13, yX13_both, cX13_both, 3, (some Jvm.ClassFile.FieldType.int))
def kX14_init : eK := (RX14, yX14_init, cX14_init, 5, none)
def kX14_text : eK := (RX14, yX14_text, cX14_text, 2, (some (Jvm.ClassFile.FieldType.object "java/lang/String")))
def kX14_rest : eK := (RX14, yX14_rest, cX14_rest, 3, (some Jvm.ClassFile.FieldType.int))
def kX14_isDone : eK := (RX14, yX14_isDone, cX14_isDone, 5, (some Jvm.ClassFile.FieldType.boolean))
def kJ5_init_d00df : eK := (RJ5, yJ5_init_d00df, cJ5_init_d00df, 2, none)
def kJ5_length_8abf5 : eK := (RJ5, yJ5_length_8abf5, cJ5_length_8abf5, 1, (some Jvm.ClassFile.FieldType.int))
def kJ5_ensureCapacityInternal_d00df : eK := (RJ5, yJ5_ensureCapacityInternal_d00df, cJ5_ensureCapacityInternal_d00df, 3, none)
def kJ5_newCapacity_0f7a4 : eK := (RJ5, yJ5_newCapacity_0f7a4, cJ5_newCapacity_0f7a4, 6, (some Jvm.ClassFile.FieldType.int))
def kJ5_inflate_da8c8 : eK := (RJ5, yJ5_inflate_da8c8, cJ5_inflate_da8c8, 2, none)
def kJ5_append_cf1ce : eK := (RJ5, yJ5_append_cf1ce, cJ5_append_cf1ce, 3, (some (Jvm.ClassFile.FieldType.object "java/lang/AbstractStringBuilder")))
def kJ5_appendNull_278bc : eK := (RJ5, yJ5_appendNull_278bc, cJ5_appendNull_278bc, 3, (some (Jvm.ClassFile.FieldType.object "java/lang/AbstractStringBuilder")))
def kJ5_append_c97b9 : eK := (RJ5, yJ5_append_c97b9, cJ5_append_c97b9, 4, (some (Jvm.ClassFile.FieldType.object "java/lang/AbstractStringBuilder")))
def kJ5_getValue_6d5f1 : eK := (RJ5, yJ5_getValue_6d5f1, cJ5_getValue_6d5f1, 1, (some (Jvm.ClassFile.FieldType.array Jvm.ClassFile.FieldType.byte)))
def kJ5_isLatin1_aae02 : eK := (RJ5, yJ5_isLatin1_aae02, cJ5_isLatin1_aae02, 1, (some Jvm.ClassFile.FieldType.boolean))
def kJ5_inflateIfNeededFor_a7421 : eK := (RJ5, yJ5_inflateIfNeededFor_a7421, cJ5_inflateIfNeededFor_a7421, 2, none)
def kJ5_putStringAt_47b60 : eK := (RJ5, yJ5_putStringAt_47b60, cJ5_putStringAt_47b60, 3, none)
def kJx29ce0_ordinal_8abf5 : eK := (RJx29ce0, yJx29ce0_ordinal_8abf5, cJx29ce0_ordinal_8abf5, 1, (some Jvm.ClassFile.FieldType.int))
def kJ6_getChars_ba4f3 : eK := (RJ6, yJ6_getChars_ba4f3, cJ6_getChars_ba4f3, 7, (some Jvm.ClassFile.FieldType.int))
def kJ6_stringSize_0f7a4 : eK := (RJ6, yJ6_stringSize_0f7a4, cJ6_stringSize_0f7a4, 4, (some Jvm.ClassFile.FieldType.int))
def kJ6_bitCount_0f7a4 : eK := (RJ6, yJ6_bitCount_0f7a4, cJ6_bitCount_0f7a4, 1, (some Jvm.ClassFile.FieldType.int))
def kJ9_floorMod_7cf53 : eK := (RJ9, yJ9_floorMod_7cf53, cJ9_floorMod_7cf53, 3, (some Jvm.ClassFile.FieldType.int))
def kJ9_max_7cf53 : eK := (RJ9, yJ9_max_7cf53, cJ9_max_7cf53, 2, (some Jvm.ClassFile.FieldType.int))
def kJ9_min_7cf53 : eK := (RJ9, yJ9_min_7cf53, cJ9_min_7cf53, 2, (some Jvm.ClassFile.FieldType.int))
def kJ0_init_81219 : eK := (RJ0, yJ0_init_81219, cJ0_init_81219, 2, none)
def kJ0_length_8abf5 : eK := (RJ0, yJ0_length_8abf5, cJ0_length_8abf5, 1, (some Jvm.ClassFile.FieldType.int))
def kJ0_charAt_5068e : eK := (RJ0, yJ0_charAt_5068e, cJ0_charAt_5068e, 2, (some Jvm.ClassFile.FieldType.char))
def kJ0_getBytes_840e7 : eK := (RJ0, yJ0_getBytes_840e7, cJ0_getBytes_840e7, 4, none)
def kJ0_init_db425 : eK := (RJ0, yJ0_init_db425, cJ0_init_db425, 5, none)
def kJ0_coder_7d493 : eK := (RJ0, yJ0_coder_7d493, cJ0_coder_7d493, 1, (some Jvm.ClassFile.FieldType.byte))
def kJ0_isLatin1_aae02 : eK := (RJ0, yJ0_isLatin1_aae02, cJ0_isLatin1_aae02, 1, (some Jvm.ClassFile.FieldType.boolean))
def kJ0_checkIndex_df160 : eK := (RJ0, yJ0_checkIndex_df160, cJ0_checkIndex_df160, 2, none)
def kJ0_checkBoundsOffCount_cabcc : eK := (RJ0, yJ0_checkBoundsOffCount_cabcc, cJ0_checkBoundsOffCount_cabcc, 3, (some Jvm.ClassFile.FieldType.int))
def kJ0_checkBoundsBeginEnd_23922 : eK := (RJ0, yJ0_checkBoundsBeginEnd_23922, cJ0_checkBoundsBeginEnd_23922, 3, none)
def kJ4_init_da8c8 : eK := (RJ4, yJ4_init_da8c8, cJ4_init_da8c8, 1, none)
def kJ4_append_15ec4 : eK := (RJ4, yJ4_append_15ec4, cJ4_append_15ec4, 2, (some (Jvm.ClassFile.FieldType.object "java/lang/StringBuilder")))
def kJ4_append_bf812 : eK := (RJ4, yJ4_append_bf812, cJ4_append_bf812, 2, (some (Jvm.ClassFile.FieldType.object "java/lang/StringBuilder")))
def kJ4_toString_0e30d : eK := (RJ4, yJ4_toString_0e30d, cJ4_toString_0e30d, 1, (some (Jvm.ClassFile.FieldType.object "java/lang/String")))
def kJ4_length_8abf5 : eK := (RJ4, yJ4_length_8abf5, cJ4_length_8abf5, 1, (some Jvm.ClassFile.FieldType.int))
def kJ1_charAt_3b067 : eK := (RJ1, yJ1_charAt_3b067, cJ1_charAt_3b067, 2, (some Jvm.ClassFile.FieldType.char))
def kJ1_inflate_0e8fd : eK := (RJ1, yJ1_inflate_0e8fd, cJ1_inflate_0e8fd, 5, none)
def kJ2_newBytesFor_77867 : eK := (RJ2, yJ2_newBytesFor_77867, cJ2_newBytesFor_77867, 1, (some (Jvm.ClassFile.FieldType.array Jvm.ClassFile.FieldType.byte)))
def kJ2_newBytesLength_0f7a4 : eK := (RJ2, yJ2_newBytesLength_0f7a4, cJ2_newBytesLength_0f7a4, 1, (some Jvm.ClassFile.FieldType.int))
def kJ2_putChar_b72d1 : eK := (RJ2, yJ2_putChar_b72d1, cJ2_putChar_b72d1, 3, none)
def kJ2_getChar_3b067 : eK := (RJ2, yJ2_getChar_3b067, cJ2_getChar_3b067, 2, (some Jvm.ClassFile.FieldType.char))
def kJ2_length_9d52b : eK := (RJ2, yJ2_length_9d52b, cJ2_length_9d52b, 1, (some Jvm.ClassFile.FieldType.int))
def kJ2_coderFromArrayLen_85cad : eK := (RJ2, yJ2_coderFromArrayLen_85cad, cJ2_coderFromArrayLen_85cad, 2, (some Jvm.ClassFile.FieldType.byte))
def kJ2_compress_39247 : eK := (RJ2, yJ2_compress_39247, cJ2_compress_39247, 6, (some (Jvm.ClassFile.FieldType.array Jvm.ClassFile.FieldType.byte)))
def kJ2_compress_5af95 : eK := (RJ2, yJ2_compress_5af95, cJ2_compress_5af95, 7, (some Jvm.ClassFile.FieldType.int))
def kJ2_getChars_46870 : eK := (RJ2, yJ2_getChars_46870, cJ2_getChars_46870, 5, (some Jvm.ClassFile.FieldType.int))
def kJ2_putCharsAt_cd4e5 : eK := (RJ2, yJ2_putCharsAt_cd4e5, cJ2_putCharsAt_cd4e5, 7, (some Jvm.ClassFile.FieldType.int))
def kJ2_charAt_3b067 : eK := (RJ2, yJ2_charAt_3b067, cJ2_charAt_3b067, 2, (some Jvm.ClassFile.FieldType.char))
def kJ2_inflate_0e8fd : eK := (RJ2, yJ2_inflate_0e8fd, cJ2_inflate_0e8fd, 6, none)
def kJ2_getChars_ba4f3 : eK := (RJ2, yJ2_getChars_ba4f3, cJ2_getChars_ba4f3, 7, (some Jvm.ClassFile.FieldType.int))
def kJ2_checkIndex_2214a : eK := (RJ2, yJ2_checkIndex_2214a, cJ2_checkIndex_2214a, 2, none)
def kJ2_checkBoundsBeginEnd_d044e : eK := (RJ2, yJ2_checkBoundsBeginEnd_d044e, cJ2_checkBoundsBeginEnd_d044e, 3, none)
def kJ2_checkBoundsOffCount_d044e : eK := (RJ2, yJ2_checkBoundsOffCount_d044e, cJ2_checkBoundsOffCount_d044e, 3, none)
def kJ7_fill_53178 : eK := (RJ7, yJ7_fill_53178, cJ7_fill_53178, 4, none)
def kJ7_copyOf_9075b : eK := (RJ7, yJ7_copyOf_9075b, cJ7_copyOf_9075b, 3, (some (Jvm.ClassFile.FieldType.array Jvm.ClassFile.FieldType.byte)))
def kJ7_checkLength_df160 : eK := (RJ7, yJ7_checkLength_df160, cJ7_checkLength_df160, 2, none)
def kJ7_copyOfRange_39247 : eK := (RJ7, yJ7_copyOfRange_39247, cJ7_copyOfRange_39247, 3, (some (Jvm.ClassFile.FieldType.array Jvm.ClassFile.FieldType.byte)))
def kJ7_copyOfRangeByte_39247 : eK := (RJ7, yJ7_copyOfRangeByte_39247, cJ7_copyOfRangeByte_39247, 5, (some (Jvm.ClassFile.FieldType.array Jvm.ClassFile.FieldType.byte)))
def kJ8_newLength_cabcc : eK := (RJ8, yJ8_newLength_cabcc, cJ8_newLength_cabcc, 4, (some Jvm.ClassFile.FieldType.int))
def kJ8_hugeLength_7cf53 : eK := (RJ8, yJ8_hugeLength_7cf53, cJ8_hugeLength_7cf53, 3, (some Jvm.ClassFile.FieldType.int))
def kJ3_checkIndex_8e157 : eK := (RJ3, yJ3_checkIndex_8e157, cJ3_checkIndex_8e157, 3, (some Jvm.ClassFile.FieldType.int))
def kJ3_checkFromToIndex_8c36e : eK := (RJ3, yJ3_checkFromToIndex_8c36e, cJ3_checkFromToIndex_8c36e, 4, (some Jvm.ClassFile.FieldType.int))
def kJ3_checkFromIndexSize_8c36e : eK := (RJ3, yJ3_checkFromIndexSize_8c36e, cJ3_checkFromIndexSize_8c36e, 4, (some Jvm.ClassFile.FieldType.int))
def kL_below : eK := (RL, yL_below, cL_below, 2, (some Jvm.ClassFile.FieldType.int))
def kL_cell : eK := (RL, yL_cell, cL_cell, 2, (some Jvm.ClassFile.FieldType.int))
def kL_taught : eK := (RL, yL_taught, cL_taught, 6, (some Jvm.ClassFile.FieldType.int))
def kL_drawn : eK := (RL, yL_drawn, cL_drawn, 9, (some (Jvm.ClassFile.FieldType.object "RingDominoLaw$Game")))
theorem clX1 : eCl 0 RX1 TX1 17 tyX1 := ⟨rfl, inX1, tyX1_ok, nmX1⟩
theorem clX2 : eCl 1 RX2 TX2 6 tyX2 := ⟨rfl, inX2, tyX2_ok, nmX2⟩
theorem clX3 : eCl 2 RX3 TX3 4 tyX3 := ⟨rfl, inX3, tyX3_ok, nmX3⟩
theorem clX5 : eCl 3 RX5 TX5 7 tyX5 := ⟨rfl, inX5, tyX5_ok, nmX5⟩
theorem clX6 : eCl 4 RX6 TX6 5 tyX6 := ⟨rfl, inX6, tyX6_ok, nmX6⟩
theorem clX7 : eCl 5 RX7 TX7 10 tyX7 := ⟨rfl, inX7, tyX7_ok, nmX7⟩
theorem clX8 : eCl 6 RX8 TX8 2 tyX8 := ⟨rfl, inX8, tyX8_ok, nmX8⟩
theorem clX9 : eCl 7 RX9 TX9 6 tyX9 := ⟨rfl, inX9, tyX9_ok, nmX9⟩
theorem clX10 : eCl 8 RX10 TX10 8 tyX10 := ⟨rfl, inX10, tyX10_ok, nmX10⟩
theorem clX11 : eCl 9 RX11 TX11 1 tyX11 := ⟨rfl, inX11, tyX11_ok, nmX11⟩
theorem clX12 : eCl 10 RX12 TX12 5 tyX12 := ⟨rfl, inX12, tyX12_ok, nmX12⟩
theorem clX13 : eCl 11 RX13 TX13 4 tyX13 := ⟨rfl, inX13, tyX13_ok, nmX13⟩
theorem clX14 : eCl 12 RX14 TX14 4 tyX14 := ⟨rfl, inX14, tyX14_ok, nmX14⟩
theorem clJ0 : eCl 13 RJ0 TJ0 4 tyJ0 := ⟨rfl, inJ0, tyJ0_ok, nmJ0⟩
theorem clJ4 : eCl 14 RJ4 TJ4 4 tyJ4 := ⟨rfl, inJ4, tyJ4_ok, nmJ4⟩
theorem mX1_begin : eMV kX1_begin 1 := ⟨tb2 _ (List.mem_of_getElem? (i := 57) rfl), tb2 _ (List.mem_of_getElem? (i := 55) rfl), tb2 _ (List.mem_of_getElem? (i := 56) rfl), tb1 _ (List.mem_of_getElem? (i := 10) rfl), by decide +kernel⟩
theorem mX1_findCellsBeside : eMV kX1_findCellsBeside 1 := ⟨tb2 _ (List.mem_of_getElem? (i := 71) rfl), tb2 _ (List.mem_of_getElem? (i := 70) rfl), List.mem_append_left _ (List.mem_of_getElem? (i := 0) rfl), tb1 _ (List.mem_of_getElem? (i := 10) rfl), by decide +kernel⟩
theorem mX1_learnTile : eMV kX1_learnTile 2 := ⟨tb2 _ (List.mem_of_getElem? (i := 79) rfl), tb2 _ (List.mem_of_getElem? (i := 78) rfl), List.mem_append_left _ (List.mem_of_getElem? (i := 1) rfl), tb1 _ (List.mem_of_getElem? (i := 10) rfl), by decide +kernel⟩
theorem mX1_knows : eMV kX1_knows 1 := ⟨tb3 _ (List.mem_of_getElem? (i := 95) rfl), tb3 _ (List.mem_of_getElem? (i := 93) rfl), tb3 _ (List.mem_of_getElem? (i := 94) rfl), tb1 _ (List.mem_of_getElem? (i := 10) rfl), by decide +kernel⟩
theorem mX1_lies : eMV kX1_lies 1 := ⟨tb3 _ (List.mem_of_getElem? (i := 100) rfl), tb3 _ (List.mem_of_getElem? (i := 98) rfl), tb3 _ (List.mem_of_getElem? (i := 99) rfl), tb1 _ (List.mem_of_getElem? (i := 10) rfl), by decide +kernel⟩
theorem mX1_numberOf : eMV kX1_numberOf 3 := ⟨tb2 _ (List.mem_of_getElem? (i := 87) rfl), tb2 _ (List.mem_of_getElem? (i := 85) rfl), tb2 _ (List.mem_of_getElem? (i := 86) rfl), tb1 _ (List.mem_of_getElem? (i := 10) rfl), by decide +kernel⟩
theorem mX1_turnsFitting : eMV kX1_turnsFitting 2 := ⟨tb3 _ (List.mem_of_getElem? (i := 130) rfl), tb3 _ (List.mem_of_getElem? (i := 129) rfl), List.mem_append_left _ (List.mem_of_getElem? (i := 10) rfl), tb1 _ (List.mem_of_getElem? (i := 10) rfl), by decide +kernel⟩
theorem mX1_fitsSo : eMV kX1_fitsSo 3 := ⟨tb3 _ (List.mem_of_getElem? (i := 126) rfl), tb3 _ (List.mem_of_getElem? (i := 124) rfl), tb3 _ (List.mem_of_getElem? (i := 125) rfl), tb1 _ (List.mem_of_getElem? (i := 10) rfl), by decide +kernel⟩
theorem mX1_countWays : eMV kX1_countWays 1 := ⟨tb3 _ (List.mem_of_getElem? (i := 146) rfl), tb3 _ (List.mem_of_getElem? (i := 144) rfl), tb3 _ (List.mem_of_getElem? (i := 145) rfl), tb1 _ (List.mem_of_getElem? (i := 10) rfl), by decide +kernel⟩
theorem mX1_firstCell : eMV kX1_firstCell 1 := ⟨tb3 _ (List.mem_of_getElem? (i := 160) rfl), tb3 _ (List.mem_of_getElem? (i := 158) rfl), tb3 _ (List.mem_of_getElem? (i := 159) rfl), tb1 _ (List.mem_of_getElem? (i := 10) rfl), by decide +kernel⟩
theorem mX1_firstTurn : eMV kX1_firstTurn 2 := ⟨tb4 _ (List.mem_of_getElem? (i := 42) rfl), tb4 _ (List.mem_of_getElem? (i := 40) rfl), tb4 _ (List.mem_of_getElem? (i := 41) rfl), tb1 _ (List.mem_of_getElem? (i := 10) rfl), by decide +kernel⟩
theorem mX1_firstClash : eMV kX1_firstClash 3 := ⟨tb3 _ (List.mem_of_getElem? (i := 138) rfl), tb3 _ (List.mem_of_getElem? (i := 136) rfl), tb3 _ (List.mem_of_getElem? (i := 137) rfl), tb1 _ (List.mem_of_getElem? (i := 10) rfl), by decide +kernel⟩
theorem mX1_put : eMV kX1_put 3 := ⟨tb3 _ (List.mem_of_getElem? (i := 173) rfl), tb3 _ (List.mem_of_getElem? (i := 171) rfl), tb3 _ (List.mem_of_getElem? (i := 172) rfl), tb1 _ (List.mem_of_getElem? (i := 10) rfl), by decide +kernel⟩
theorem mX1_lift : eMV kX1_lift 1 := ⟨tb3 _ (List.mem_of_getElem? (i := 181) rfl), tb3 _ (List.mem_of_getElem? (i := 179) rfl), tb3 _ (List.mem_of_getElem? (i := 180) rfl), tb1 _ (List.mem_of_getElem? (i := 10) rfl), by decide +kernel⟩
theorem mX1_pointsFor : eMV kX1_pointsFor 1 := ⟨tb3 _ (List.mem_of_getElem? (i := 169) rfl), tb3 _ (List.mem_of_getElem? (i := 167) rfl), tb3 _ (List.mem_of_getElem? (i := 168) rfl), tb1 _ (List.mem_of_getElem? (i := 10) rfl), by decide +kernel⟩
theorem mX1_richestCell : eMV kX1_richestCell 1 := ⟨tb4 _ (List.mem_of_getElem? (i := 79) rfl), tb4 _ (List.mem_of_getElem? (i := 77) rfl), tb4 _ (List.mem_of_getElem? (i := 78) rfl), tb1 _ (List.mem_of_getElem? (i := 10) rfl), by decide +kernel⟩
theorem mX1_richestTile : eMV kX1_richestTile 0 := ⟨tb4 _ (List.mem_of_getElem? (i := 98) rfl), tb4 _ (List.mem_of_getElem? (i := 96) rfl), tb4 _ (List.mem_of_getElem? (i := 97) rfl), tb1 _ (List.mem_of_getElem? (i := 10) rfl), by decide +kernel⟩
theorem mX1_matchesOn : eMV kX1_matchesOn 1 := ⟨tb2 _ (List.mem_of_getElem? (i := 164) rfl), tb2 _ (List.mem_of_getElem? (i := 162) rfl), tb2 _ (List.mem_of_getElem? (i := 163) rfl), tb1 _ (List.mem_of_getElem? (i := 10) rfl), by decide +kernel⟩
theorem mX1_isEncircled : eMV kX1_isEncircled 1 := ⟨tb2 _ (List.mem_of_getElem? (i := 187) rfl), tb2 _ (List.mem_of_getElem? (i := 185) rfl), tb2 _ (List.mem_of_getElem? (i := 186) rfl), tb1 _ (List.mem_of_getElem? (i := 10) rfl), by decide +kernel⟩
theorem mX1_countMatches : eMV kX1_countMatches 0 := ⟨tb2 _ (List.mem_of_getElem? (i := 160) rfl), tb2 _ (List.mem_of_getElem? (i := 158) rfl), tb2 _ (List.mem_of_getElem? (i := 159) rfl), tb1 _ (List.mem_of_getElem? (i := 10) rfl), by decide +kernel⟩
theorem mX1_sumOfMatches : eMV kX1_sumOfMatches 0 := ⟨tb2 _ (List.mem_of_getElem? (i := 176) rfl), tb2 _ (List.mem_of_getElem? (i := 174) rfl), tb2 _ (List.mem_of_getElem? (i := 175) rfl), tb1 _ (List.mem_of_getElem? (i := 10) rfl), by decide +kernel⟩
theorem mX1_countRings : eMV kX1_countRings 0 := ⟨tb2 _ (List.mem_of_getElem? (i := 183) rfl), tb2 _ (List.mem_of_getElem? (i := 181) rfl), tb2 _ (List.mem_of_getElem? (i := 182) rfl), tb1 _ (List.mem_of_getElem? (i := 10) rfl), by decide +kernel⟩
theorem mX1_countPoints : eMV kX1_countPoints 0 := ⟨tb2 _ (List.mem_of_getElem? (i := 172) rfl), tb2 _ (List.mem_of_getElem? (i := 170) rfl), tb2 _ (List.mem_of_getElem? (i := 171) rfl), tb1 _ (List.mem_of_getElem? (i := 10) rfl), by decide +kernel⟩
theorem mX1_countGroups : eMV kX1_countGroups 0 := ⟨tb2 _ (List.mem_of_getElem? (i := 200) rfl), tb2 _ (List.mem_of_getElem? (i := 198) rfl), tb2 _ (List.mem_of_getElem? (i := 199) rfl), tb1 _ (List.mem_of_getElem? (i := 10) rfl), by decide +kernel⟩
theorem mX1_markGroup : eMV kX1_markGroup 2 := ⟨tb2 _ (List.mem_of_getElem? (i := 204) rfl), tb2 _ (List.mem_of_getElem? (i := 203) rfl), List.mem_append_left _ (List.mem_of_getElem? (i := 2) rfl), tb1 _ (List.mem_of_getElem? (i := 10) rfl), by decide +kernel⟩
theorem mX1_keep : eMV kX1_keep 0 := ⟨tb4 _ (List.mem_of_getElem? (i := 54) rfl), tb4 _ (List.mem_of_getElem? (i := 52) rfl), tb4 _ (List.mem_of_getElem? (i := 53) rfl), tb1 _ (List.mem_of_getElem? (i := 10) rfl), by decide +kernel⟩
theorem mX1_bringBack : eMV kX1_bringBack 0 := ⟨tb4 _ (List.mem_of_getElem? (i := 65) rfl), tb4 _ (List.mem_of_getElem? (i := 63) rfl), tb4 _ (List.mem_of_getElem? (i := 64) rfl), tb1 _ (List.mem_of_getElem? (i := 10) rfl), by decide +kernel⟩
theorem mX2_begin : eMV kX2_begin 1 := ⟨tb6 _ (List.mem_of_getElem? (i := 81) rfl), tb6 _ (List.mem_of_getElem? (i := 79) rfl), tb6 _ (List.mem_of_getElem? (i := 80) rfl), tb1 _ (List.mem_of_getElem? (i := 11) rfl), by decide +kernel⟩
theorem mX2_playRound : eMV kX2_playRound 0 := ⟨tb3 _ (List.mem_of_getElem? (i := 209) rfl), tb3 _ (List.mem_of_getElem? (i := 207) rfl), tb3 _ (List.mem_of_getElem? (i := 208) rfl), tb1 _ (List.mem_of_getElem? (i := 11) rfl), by decide +kernel⟩
theorem mX2_keep : eMV kX2_keep 0 := ⟨tb4 _ (List.mem_of_getElem? (i := 50) rfl), tb4 _ (List.mem_of_getElem? (i := 48) rfl), tb4 _ (List.mem_of_getElem? (i := 49) rfl), tb1 _ (List.mem_of_getElem? (i := 11) rfl), by decide +kernel⟩
theorem mX2_bringBack : eMV kX2_bringBack 0 := ⟨tb4 _ (List.mem_of_getElem? (i := 61) rfl), tb4 _ (List.mem_of_getElem? (i := 59) rfl), tb4 _ (List.mem_of_getElem? (i := 60) rfl), tb1 _ (List.mem_of_getElem? (i := 11) rfl), by decide +kernel⟩
theorem mX2_carriesOut : eMV kX2_carriesOut 1 := ⟨tb3 _ (List.mem_of_getElem? (i := 213) rfl), tb3 _ (List.mem_of_getElem? (i := 212) rfl), List.mem_append_left _ (List.mem_of_getElem? (i := 12) rfl), tb1 _ (List.mem_of_getElem? (i := 11) rfl), by decide +kernel⟩
theorem mX2_puts : eMV kX2_puts 1 := ⟨tb4 _ (List.mem_of_getElem? (i := 21) rfl), tb4 _ (List.mem_of_getElem? (i := 20) rfl), List.mem_append_left _ (List.mem_of_getElem? (i := 16) rfl), tb1 _ (List.mem_of_getElem? (i := 11) rfl), by decide +kernel⟩
theorem mX2_takes : eMV kX2_takes 1 := ⟨tb4 _ (List.mem_of_getElem? (i := 33) rfl), tb4 _ (List.mem_of_getElem? (i := 32) rfl), List.mem_append_left _ (List.mem_of_getElem? (i := 17) rfl), tb1 _ (List.mem_of_getElem? (i := 11) rfl), by decide +kernel⟩
theorem mX2_fitsIn : eMV kX2_fitsIn 1 := ⟨tb4 _ (List.mem_of_getElem? (i := 38) rfl), tb4 _ (List.mem_of_getElem? (i := 37) rfl), List.mem_append_left _ (List.mem_of_getElem? (i := 18) rfl), tb1 _ (List.mem_of_getElem? (i := 11) rfl), by decide +kernel⟩
theorem mX2_reckon : eMV kX2_reckon 2 := ⟨tb3 _ (List.mem_of_getElem? (i := 218) rfl), tb3 _ (List.mem_of_getElem? (i := 217) rfl), List.mem_append_left _ (List.mem_of_getElem? (i := 13) rfl), tb1 _ (List.mem_of_getElem? (i := 11) rfl), by decide +kernel⟩
theorem mX2_combined : eMS kX2_combined 3 := ⟨tb4 _ (List.mem_of_getElem? (i := 12) rfl), tb4 _ (List.mem_of_getElem? (i := 11) rfl), tb1 _ (List.mem_of_getElem? (i := 11) rfl), by decide +kernel⟩
theorem mX2_holdsBetween : eMS kX2_holdsBetween 3 := ⟨tb4 _ (List.mem_of_getElem? (i := 17) rfl), tb4 _ (List.mem_of_getElem? (i := 16) rfl), tb1 _ (List.mem_of_getElem? (i := 11) rfl), by decide +kernel⟩
theorem mX2_remainder : eMS kX2_remainder 2 := ⟨tb4 _ (List.mem_of_getElem? (i := 24) rfl), tb4 _ (List.mem_of_getElem? (i := 23) rfl), tb1 _ (List.mem_of_getElem? (i := 11) rfl), by decide +kernel⟩
theorem mX2_push : eMV kX2_push 1 := ⟨tb3 _ (List.mem_of_getElem? (i := 239) rfl), tb3 _ (List.mem_of_getElem? (i := 238) rfl), List.mem_append_left _ (List.mem_of_getElem? (i := 14) rfl), tb1 _ (List.mem_of_getElem? (i := 11) rfl), by decide +kernel⟩
theorem mX2_pop : eMV kX2_pop 0 := ⟨tb4 _ (List.mem_of_getElem? (i := 9) rfl), tb4 _ (List.mem_of_getElem? (i := 8) rfl), List.mem_append_left _ (List.mem_of_getElem? (i := 15) rfl), tb1 _ (List.mem_of_getElem? (i := 11) rfl), by decide +kernel⟩
theorem mX3_readsGame : eMV kX3_readsGame 0 := ⟨tb5 _ (List.mem_of_getElem? (i := 139) rfl), tb5 _ (List.mem_of_getElem? (i := 137) rfl), tb5 _ (List.mem_of_getElem? (i := 138) rfl), tb1 _ (List.mem_of_getElem? (i := 8) rfl), by decide +kernel⟩
theorem mX3_readsTile : eMV kX3_readsTile 0 := ⟨tb5 _ (List.mem_of_getElem? (i := 160) rfl), tb5 _ (List.mem_of_getElem? (i := 159) rfl), List.mem_append_left _ (List.mem_of_getElem? (i := 26) rfl), tb1 _ (List.mem_of_getElem? (i := 8) rfl), by decide +kernel⟩
theorem mX3_readsOrder : eMV kX3_readsOrder 0 := ⟨tb5 _ (List.mem_of_getElem? (i := 165) rfl), tb5 _ (List.mem_of_getElem? (i := 164) rfl), List.mem_append_left _ (List.mem_of_getElem? (i := 27) rfl), tb1 _ (List.mem_of_getElem? (i := 8) rfl), by decide +kernel⟩
theorem mX3_readsTest : eMV kX3_readsTest 1 := ⟨tb5 _ (List.mem_of_getElem? (i := 227) rfl), tb5 _ (List.mem_of_getElem? (i := 226) rfl), List.mem_append_left _ (List.mem_of_getElem? (i := 31) rfl), tb1 _ (List.mem_of_getElem? (i := 8) rfl), by decide +kernel⟩
theorem mX3_readsBoth : eMV kX3_readsBoth 1 := ⟨tb5 _ (List.mem_of_getElem? (i := 231) rfl), tb5 _ (List.mem_of_getElem? (i := 230) rfl), List.mem_append_left _ (List.mem_of_getElem? (i := 32) rfl), tb1 _ (List.mem_of_getElem? (i := 8) rfl), by decide +kernel⟩
theorem mX3_readsSingle : eMV kX3_readsSingle 1 := ⟨tb5 _ (List.mem_of_getElem? (i := 235) rfl), tb5 _ (List.mem_of_getElem? (i := 234) rfl), List.mem_append_left _ (List.mem_of_getElem? (i := 33) rfl), tb1 _ (List.mem_of_getElem? (i := 8) rfl), by decide +kernel⟩
theorem mX3_readsSum : eMV kX3_readsSum 1 := ⟨tb5 _ (List.mem_of_getElem? (i := 181) rfl), tb5 _ (List.mem_of_getElem? (i := 180) rfl), List.mem_append_left _ (List.mem_of_getElem? (i := 28) rfl), tb1 _ (List.mem_of_getElem? (i := 8) rfl), by decide +kernel⟩
theorem mX3_readsProduct : eMV kX3_readsProduct 1 := ⟨tb5 _ (List.mem_of_getElem? (i := 185) rfl), tb5 _ (List.mem_of_getElem? (i := 184) rfl), List.mem_append_left _ (List.mem_of_getElem? (i := 29) rfl), tb1 _ (List.mem_of_getElem? (i := 8) rfl), by decide +kernel⟩
theorem mX3_readsValue : eMV kX3_readsValue 1 := ⟨tb5 _ (List.mem_of_getElem? (i := 189) rfl), tb5 _ (List.mem_of_getElem? (i := 188) rfl), List.mem_append_left _ (List.mem_of_getElem? (i := 30) rfl), tb1 _ (List.mem_of_getElem? (i := 8) rfl), by decide +kernel⟩
theorem mX3_accept : eMV kX3_accept 1 := ⟨tb5 _ (List.mem_of_getElem? (i := 149) rfl), tb5 _ (List.mem_of_getElem? (i := 148) rfl), List.mem_append_left _ (List.mem_of_getElem? (i := 25) rfl), tb1 _ (List.mem_of_getElem? (i := 8) rfl), by decide +kernel⟩
theorem mX5_firstError : eMV kX5_firstError 0 := ⟨tb6 _ (List.mem_of_getElem? (i := 23) rfl), tb6 _ (List.mem_of_getElem? (i := 21) rfl), tb6 _ (List.mem_of_getElem? (i := 22) rfl), tb1 _ (List.mem_of_getElem? (i := 9) rfl), by decide +kernel⟩
theorem mX5_errorAtToken : eMV kX5_errorAtToken 0 := ⟨tb6 _ (List.mem_of_getElem? (i := 27) rfl), tb6 _ (List.mem_of_getElem? (i := 26) rfl), List.mem_append_left _ (List.mem_of_getElem? (i := 34) rfl), tb1 _ (List.mem_of_getElem? (i := 9) rfl), by decide +kernel⟩
theorem mX5_errorOfName : eMV kX5_errorOfName 1 := ⟨tb6 _ (List.mem_of_getElem? (i := 46) rfl), tb6 _ (List.mem_of_getElem? (i := 45) rfl), List.mem_append_left _ (List.mem_of_getElem? (i := 36) rfl), tb1 _ (List.mem_of_getElem? (i := 9) rfl), by decide +kernel⟩
theorem mX5_tileNamed : eMV kX5_tileNamed 0 := ⟨tb6 _ (List.mem_of_getElem? (i := 34) rfl), tb6 _ (List.mem_of_getElem? (i := 33) rfl), List.mem_append_left _ (List.mem_of_getElem? (i := 35) rfl), tb1 _ (List.mem_of_getElem? (i := 9) rfl), by decide +kernel⟩
theorem mX5_errorOfNumber : eMV kX5_errorOfNumber 1 := ⟨tb6 _ (List.mem_of_getElem? (i := 59) rfl), tb6 _ (List.mem_of_getElem? (i := 58) rfl), List.mem_append_left _ (List.mem_of_getElem? (i := 37) rfl), tb1 _ (List.mem_of_getElem? (i := 9) rfl), by decide +kernel⟩
theorem mX6_copy : eMV kX6_copy 1 := ⟨tb6 _ (List.mem_of_getElem? (i := 90) rfl), tb6 _ (List.mem_of_getElem? (i := 88) rfl), tb6 _ (List.mem_of_getElem? (i := 89) rfl), tb1 _ (List.mem_of_getElem? (i := 5) rfl), by decide +kernel⟩
theorem mX7_clear : eMV kX7_clear 0 := ⟨tb5 _ (List.mem_of_getElem? (i := 135) rfl), tb5 _ (List.mem_of_getElem? (i := 133) rfl), tb5 _ (List.mem_of_getElem? (i := 134) rfl), tb1 _ (List.mem_of_getElem? (i := 4) rfl), by decide +kernel⟩
theorem mX7_addSide : eMV kX7_addSide 1 := ⟨tb6 _ (List.mem_of_getElem? (i := 64) rfl), tb6 _ (List.mem_of_getElem? (i := 62) rfl), tb6 _ (List.mem_of_getElem? (i := 63) rfl), tb1 _ (List.mem_of_getElem? (i := 4) rfl), by decide +kernel⟩
theorem mX7_addTileNumber : eMV kX7_addTileNumber 1 := ⟨tb6 _ (List.mem_of_getElem? (i := 68) rfl), tb6 _ (List.mem_of_getElem? (i := 66) rfl), tb6 _ (List.mem_of_getElem? (i := 67) rfl), tb1 _ (List.mem_of_getElem? (i := 4) rfl), by decide +kernel⟩
theorem mX7_tileCount : eMV kX7_tileCount 0 := ⟨tb2 _ (List.mem_of_getElem? (i := 64) rfl), tb2 _ (List.mem_of_getElem? (i := 62) rfl), tb2 _ (List.mem_of_getElem? (i := 63) rfl), tb1 _ (List.mem_of_getElem? (i := 4) rfl), by decide +kernel⟩
theorem mX7_tileNumber : eMV kX7_tileNumber 1 := ⟨tb2 _ (List.mem_of_getElem? (i := 83) rfl), tb2 _ (List.mem_of_getElem? (i := 81) rfl), tb2 _ (List.mem_of_getElem? (i := 82) rfl), tb1 _ (List.mem_of_getElem? (i := 4) rfl), by decide +kernel⟩
theorem mX7_beginOrder : eMV kX7_beginOrder 2 := ⟨tb5 _ (List.mem_of_getElem? (i := 175) rfl), tb5 _ (List.mem_of_getElem? (i := 173) rfl), tb5 _ (List.mem_of_getElem? (i := 174) rfl), tb1 _ (List.mem_of_getElem? (i := 4) rfl), by decide +kernel⟩
theorem mX7_beginTest : eMV kX7_beginTest 0 := ⟨tb5 _ (List.mem_of_getElem? (i := 221) rfl), tb5 _ (List.mem_of_getElem? (i := 219) rfl), tb5 _ (List.mem_of_getElem? (i := 220) rfl), tb1 _ (List.mem_of_getElem? (i := 4) rfl), by decide +kernel⟩
theorem mX7_endOrder : eMV kX7_endOrder 0 := ⟨tb6 _ (List.mem_of_getElem? (i := 19) rfl), tb6 _ (List.mem_of_getElem? (i := 17) rfl), tb6 _ (List.mem_of_getElem? (i := 18) rfl), tb1 _ (List.mem_of_getElem? (i := 4) rfl), by decide +kernel⟩
theorem mX7_add : eMV kX7_add 2 := ⟨tb5 _ (List.mem_of_getElem? (i := 195) rfl), tb5 _ (List.mem_of_getElem? (i := 193) rfl), tb5 _ (List.mem_of_getElem? (i := 194) rfl), tb1 _ (List.mem_of_getElem? (i := 4) rfl), by decide +kernel⟩
theorem mX7_resolve : eMV kX7_resolve 1 := ⟨tb6 _ (List.mem_of_getElem? (i := 72) rfl), tb6 _ (List.mem_of_getElem? (i := 70) rfl), tb6 _ (List.mem_of_getElem? (i := 71) rfl), tb1 _ (List.mem_of_getElem? (i := 4) rfl), by decide +kernel⟩
theorem mX7_step : eMV kX7_step 1 := ⟨tb3 _ (List.mem_of_getElem? (i := 222) rfl), tb3 _ (List.mem_of_getElem? (i := 220) rfl), tb3 _ (List.mem_of_getElem? (i := 221) rfl), tb1 _ (List.mem_of_getElem? (i := 4) rfl), by decide +kernel⟩
theorem mX7_operand : eMV kX7_operand 1 := ⟨tb3 _ (List.mem_of_getElem? (i := 235) rfl), tb3 _ (List.mem_of_getElem? (i := 233) rfl), tb3 _ (List.mem_of_getElem? (i := 234) rfl), tb1 _ (List.mem_of_getElem? (i := 4) rfl), by decide +kernel⟩
theorem mX7_copy : eMV kX7_copy 1 := ⟨tb6 _ (List.mem_of_getElem? (i := 85) rfl), tb6 _ (List.mem_of_getElem? (i := 83) rfl), tb6 _ (List.mem_of_getElem? (i := 84) rfl), tb1 _ (List.mem_of_getElem? (i := 4) rfl), by decide +kernel⟩
theorem mX8_hasRoomFor : eMV kX8_hasRoomFor 1 := ⟨tb5 _ (List.mem_of_getElem? (i := 51) rfl), tb5 _ (List.mem_of_getElem? (i := 49) rfl), tb5 _ (List.mem_of_getElem? (i := 50) rfl), tb1 _ (List.mem_of_getElem? (i := 2) rfl), by decide +kernel⟩
theorem mX8_append : eMV kX8_append 1 := ⟨tb5 _ (List.mem_of_getElem? (i := 56) rfl), tb5 _ (List.mem_of_getElem? (i := 54) rfl), tb5 _ (List.mem_of_getElem? (i := 55) rfl), tb1 _ (List.mem_of_getElem? (i := 2) rfl), by decide +kernel⟩
theorem mX8_byteAt : eMV kX8_byteAt 1 := ⟨tb5 _ (List.mem_of_getElem? (i := 77) rfl), tb5 _ (List.mem_of_getElem? (i := 75) rfl), tb5 _ (List.mem_of_getElem? (i := 76) rfl), tb1 _ (List.mem_of_getElem? (i := 2) rfl), by decide +kernel⟩
theorem mX8_isLetter : eMV kX8_isLetter 1 := ⟨tb5 _ (List.mem_of_getElem? (i := 85) rfl), tb5 _ (List.mem_of_getElem? (i := 83) rfl), tb5 _ (List.mem_of_getElem? (i := 84) rfl), tb1 _ (List.mem_of_getElem? (i := 2) rfl), by decide +kernel⟩
theorem mX8_isDigit : eMV kX8_isDigit 1 := ⟨tb5 _ (List.mem_of_getElem? (i := 94) rfl), tb5 _ (List.mem_of_getElem? (i := 92) rfl), tb5 _ (List.mem_of_getElem? (i := 93) rfl), tb1 _ (List.mem_of_getElem? (i := 2) rfl), by decide +kernel⟩
theorem mX8_behindBlanks : eMV kX8_behindBlanks 1 := ⟨tb5 _ (List.mem_of_getElem? (i := 73) rfl), tb5 _ (List.mem_of_getElem? (i := 71) rfl), tb5 _ (List.mem_of_getElem? (i := 72) rfl), tb1 _ (List.mem_of_getElem? (i := 2) rfl), by decide +kernel⟩
theorem mX8_behindWord : eMV kX8_behindWord 1 := ⟨tb5 _ (List.mem_of_getElem? (i := 89) rfl), tb5 _ (List.mem_of_getElem? (i := 87) rfl), tb5 _ (List.mem_of_getElem? (i := 88) rfl), tb1 _ (List.mem_of_getElem? (i := 2) rfl), by decide +kernel⟩
theorem mX8_behindDigits : eMV kX8_behindDigits 1 := ⟨tb5 _ (List.mem_of_getElem? (i := 99) rfl), tb5 _ (List.mem_of_getElem? (i := 97) rfl), tb5 _ (List.mem_of_getElem? (i := 98) rfl), tb1 _ (List.mem_of_getElem? (i := 2) rfl), by decide +kernel⟩
theorem mX8_says : eMV kX8_says 3 := ⟨tb5 _ (List.mem_of_getElem? (i := 118) rfl), tb5 _ (List.mem_of_getElem? (i := 116) rfl), tb5 _ (List.mem_of_getElem? (i := 117) rfl), tb1 _ (List.mem_of_getElem? (i := 2) rfl), by decide +kernel⟩
theorem mX8_saysSame : eMV kX8_saysSame 3 := ⟨tb6 _ (List.mem_of_getElem? (i := 42) rfl), tb6 _ (List.mem_of_getElem? (i := 40) rfl), tb6 _ (List.mem_of_getElem? (i := 41) rfl), tb1 _ (List.mem_of_getElem? (i := 2) rfl), by decide +kernel⟩
theorem mX9_cutTape : eMV kX9_cutTape 0 := ⟨tb5 _ (List.mem_of_getElem? (i := 69) rfl), tb5 _ (List.mem_of_getElem? (i := 67) rfl), tb5 _ (List.mem_of_getElem? (i := 68) rfl), tb1 _ (List.mem_of_getElem? (i := 3) rfl), by decide +kernel⟩
theorem mX9_add : eMV kX9_add 3 := ⟨tb5 _ (List.mem_of_getElem? (i := 126) rfl), tb5 _ (List.mem_of_getElem? (i := 125) rfl), List.mem_append_left _ (List.mem_of_getElem? (i := 23) rfl), tb1 _ (List.mem_of_getElem? (i := 3) rfl), by decide +kernel⟩
theorem mX9_endOfToken : eMV kX9_endOfToken 1 := ⟨tb5 _ (List.mem_of_getElem? (i := 81) rfl), tb5 _ (List.mem_of_getElem? (i := 80) rfl), List.mem_append_left _ (List.mem_of_getElem? (i := 20) rfl), tb1 _ (List.mem_of_getElem? (i := 3) rfl), by decide +kernel⟩
theorem mX9_kindBetween : eMV kX9_kindBetween 2 := ⟨tb5 _ (List.mem_of_getElem? (i := 104) rfl), tb5 _ (List.mem_of_getElem? (i := 103) rfl), List.mem_append_left _ (List.mem_of_getElem? (i := 21) rfl), tb1 _ (List.mem_of_getElem? (i := 3) rfl), by decide +kernel⟩
theorem mX9_kindWritten : eMV kX9_kindWritten 3 := ⟨tb5 _ (List.mem_of_getElem? (i := 112) rfl), tb5 _ (List.mem_of_getElem? (i := 111) rfl), List.mem_append_left _ (List.mem_of_getElem? (i := 22) rfl), tb1 _ (List.mem_of_getElem? (i := 3) rfl), by decide +kernel⟩
theorem mX9_numberBetween : eMV kX9_numberBetween 2 := ⟨tb5 _ (List.mem_of_getElem? (i := 130) rfl), tb5 _ (List.mem_of_getElem? (i := 129) rfl), List.mem_append_left _ (List.mem_of_getElem? (i := 24) rfl), tb1 _ (List.mem_of_getElem? (i := 3) rfl), by decide +kernel⟩
theorem mX9_kindOf : eMV kX9_kindOf 1 := ⟨tb5 _ (List.mem_of_getElem? (i := 143) rfl), tb5 _ (List.mem_of_getElem? (i := 141) rfl), tb5 _ (List.mem_of_getElem? (i := 142) rfl), tb1 _ (List.mem_of_getElem? (i := 3) rfl), by decide +kernel⟩
theorem mX9_startOf : eMV kX9_startOf 1 := ⟨tb6 _ (List.mem_of_getElem? (i := 77) rfl), tb6 _ (List.mem_of_getElem? (i := 75) rfl), tb6 _ (List.mem_of_getElem? (i := 76) rfl), tb1 _ (List.mem_of_getElem? (i := 3) rfl), by decide +kernel⟩
theorem mX9_valueOf : eMV kX9_valueOf 1 := ⟨tb6 _ (List.mem_of_getElem? (i := 55) rfl), tb6 _ (List.mem_of_getElem? (i := 53) rfl), tb6 _ (List.mem_of_getElem? (i := 54) rfl), tb1 _ (List.mem_of_getElem? (i := 3) rfl), by decide +kernel⟩
theorem mX9_setValue : eMV kX9_setValue 2 := ⟨tb6 _ (List.mem_of_getElem? (i := 51) rfl), tb6 _ (List.mem_of_getElem? (i := 49) rfl), tb6 _ (List.mem_of_getElem? (i := 50) rfl), tb1 _ (List.mem_of_getElem? (i := 3) rfl), by decide +kernel⟩
theorem mX9_areSameWords : eMV kX9_areSameWords 2 := ⟨tb6 _ (List.mem_of_getElem? (i := 38) rfl), tb6 _ (List.mem_of_getElem? (i := 36) rfl), tb6 _ (List.mem_of_getElem? (i := 37) rfl), tb1 _ (List.mem_of_getElem? (i := 3) rfl), by decide +kernel⟩
theorem mX10_feed : eMV kX10_feed 5 := ⟨tb5 _ (List.mem_of_getElem? (i := 47) rfl), tb5 _ (List.mem_of_getElem? (i := 45) rfl), tb5 _ (List.mem_of_getElem? (i := 46) rfl), tb1 _ (List.mem_of_getElem? (i := 1) rfl), by decide +kernel⟩
theorem mX10_trim : eMV kX10_trim 1 := ⟨tb5 _ (List.mem_of_getElem? (i := 60) rfl), tb5 _ (List.mem_of_getElem? (i := 58) rfl), tb5 _ (List.mem_of_getElem? (i := 59) rfl), tb1 _ (List.mem_of_getElem? (i := 1) rfl), by decide +kernel⟩
theorem mX10_teach : eMV kX10_teach 0 := ⟨tb5 _ (List.mem_of_getElem? (i := 65) rfl), tb5 _ (List.mem_of_getElem? (i := 63) rfl), tb5 _ (List.mem_of_getElem? (i := 64) rfl), tb1 _ (List.mem_of_getElem? (i := 1) rfl), by decide +kernel⟩
theorem mX10_columns : eMV kX10_columns 0 := ⟨tb2 _ (List.mem_of_getElem? (i := 136) rfl), tb2 _ (List.mem_of_getElem? (i := 134) rfl), tb2 _ (List.mem_of_getElem? (i := 135) rfl), tb1 _ (List.mem_of_getElem? (i := 1) rfl), by decide +kernel⟩
theorem mX10_rows : eMV kX10_rows 0 := ⟨tb2 _ (List.mem_of_getElem? (i := 140) rfl), tb2 _ (List.mem_of_getElem? (i := 138) rfl), tb2 _ (List.mem_of_getElem? (i := 139) rfl), tb1 _ (List.mem_of_getElem? (i := 1) rfl), by decide +kernel⟩
theorem mX10_tiles : eMV kX10_tiles 0 := ⟨tb2 _ (List.mem_of_getElem? (i := 144) rfl), tb2 _ (List.mem_of_getElem? (i := 142) rfl), tb2 _ (List.mem_of_getElem? (i := 143) rfl), tb1 _ (List.mem_of_getElem? (i := 1) rfl), by decide +kernel⟩
theorem mX10_rounds : eMV kX10_rounds 0 := ⟨tb2 _ (List.mem_of_getElem? (i := 148) rfl), tb2 _ (List.mem_of_getElem? (i := 146) rfl), tb2 _ (List.mem_of_getElem? (i := 147) rfl), tb1 _ (List.mem_of_getElem? (i := 1) rfl), by decide +kernel⟩
theorem mX10_placedTiles : eMV kX10_placedTiles 0 := ⟨tb2 _ (List.mem_of_getElem? (i := 152) rfl), tb2 _ (List.mem_of_getElem? (i := 150) rfl), tb2 _ (List.mem_of_getElem? (i := 151) rfl), tb1 _ (List.mem_of_getElem? (i := 1) rfl), by decide +kernel⟩
theorem mX10_matches : eMV kX10_matches 0 := ⟨tb2 _ (List.mem_of_getElem? (i := 156) rfl), tb2 _ (List.mem_of_getElem? (i := 154) rfl), tb2 _ (List.mem_of_getElem? (i := 155) rfl), tb1 _ (List.mem_of_getElem? (i := 1) rfl), by decide +kernel⟩
theorem mX10_points : eMV kX10_points 0 := ⟨tb2 _ (List.mem_of_getElem? (i := 168) rfl), tb2 _ (List.mem_of_getElem? (i := 166) rfl), tb2 _ (List.mem_of_getElem? (i := 167) rfl), tb1 _ (List.mem_of_getElem? (i := 1) rfl), by decide +kernel⟩
theorem mX10_rings : eMV kX10_rings 0 := ⟨tb2 _ (List.mem_of_getElem? (i := 191) rfl), tb2 _ (List.mem_of_getElem? (i := 189) rfl), tb2 _ (List.mem_of_getElem? (i := 190) rfl), tb1 _ (List.mem_of_getElem? (i := 1) rfl), by decide +kernel⟩
theorem mX10_groups : eMV kX10_groups 0 := ⟨tb2 _ (List.mem_of_getElem? (i := 196) rfl), tb2 _ (List.mem_of_getElem? (i := 194) rfl), tb2 _ (List.mem_of_getElem? (i := 195) rfl), tb1 _ (List.mem_of_getElem? (i := 1) rfl), by decide +kernel⟩
theorem mX10_hasTile : eMV kX10_hasTile 1 := ⟨tb2 _ (List.mem_of_getElem? (i := 208) rfl), tb2 _ (List.mem_of_getElem? (i := 206) rfl), tb2 _ (List.mem_of_getElem? (i := 207) rfl), tb1 _ (List.mem_of_getElem? (i := 1) rfl), by decide +kernel⟩
theorem mX10_tileAt : eMV kX10_tileAt 1 := ⟨tb3 _ (List.mem_of_getElem? (i := 43) rfl), tb3 _ (List.mem_of_getElem? (i := 41) rfl), tb3 _ (List.mem_of_getElem? (i := 42) rfl), tb1 _ (List.mem_of_getElem? (i := 1) rfl), by decide +kernel⟩
theorem mX10_numberAt : eMV kX10_numberAt 2 := ⟨tb3 _ (List.mem_of_getElem? (i := 67) rfl), tb3 _ (List.mem_of_getElem? (i := 65) rfl), tb3 _ (List.mem_of_getElem? (i := 66) rfl), tb1 _ (List.mem_of_getElem? (i := 1) rfl), by decide +kernel⟩
theorem mX10_matchesOf : eMV kX10_matchesOf 1 := ⟨tb3 _ (List.mem_of_getElem? (i := 77) rfl), tb3 _ (List.mem_of_getElem? (i := 75) rfl), tb3 _ (List.mem_of_getElem? (i := 76) rfl), tb1 _ (List.mem_of_getElem? (i := 1) rfl), by decide +kernel⟩
theorem mX10_isRing : eMV kX10_isRing 1 := ⟨tb3 _ (List.mem_of_getElem? (i := 82) rfl), tb3 _ (List.mem_of_getElem? (i := 80) rfl), tb3 _ (List.mem_of_getElem? (i := 81) rfl), tb1 _ (List.mem_of_getElem? (i := 1) rfl), by decide +kernel⟩
theorem mX10_isPlaced : eMV kX10_isPlaced 1 := ⟨tb3 _ (List.mem_of_getElem? (i := 87) rfl), tb3 _ (List.mem_of_getElem? (i := 85) rfl), tb3 _ (List.mem_of_getElem? (i := 86) rfl), tb1 _ (List.mem_of_getElem? (i := 1) rfl), by decide +kernel⟩
theorem mX10_cellOf : eMV kX10_cellOf 1 := ⟨tb3 _ (List.mem_of_getElem? (i := 105) rfl), tb3 _ (List.mem_of_getElem? (i := 103) rfl), tb3 _ (List.mem_of_getElem? (i := 104) rfl), tb1 _ (List.mem_of_getElem? (i := 1) rfl), by decide +kernel⟩
theorem mX10_turnOf : eMV kX10_turnOf 1 := ⟨tb3 _ (List.mem_of_getElem? (i := 114) rfl), tb3 _ (List.mem_of_getElem? (i := 112) rfl), tb3 _ (List.mem_of_getElem? (i := 113) rfl), tb1 _ (List.mem_of_getElem? (i := 1) rfl), by decide +kernel⟩
theorem mX10_fits : eMV kX10_fits 3 := ⟨tb3 _ (List.mem_of_getElem? (i := 118) rfl), tb3 _ (List.mem_of_getElem? (i := 116) rfl), tb3 _ (List.mem_of_getElem? (i := 117) rfl), tb1 _ (List.mem_of_getElem? (i := 1) rfl), by decide +kernel⟩
theorem mX10_edgeAgainst : eMV kX10_edgeAgainst 3 := ⟨tb3 _ (List.mem_of_getElem? (i := 134) rfl), tb3 _ (List.mem_of_getElem? (i := 132) rfl), tb3 _ (List.mem_of_getElem? (i := 133) rfl), tb1 _ (List.mem_of_getElem? (i := 1) rfl), by decide +kernel⟩
theorem mX10_waysOf : eMV kX10_waysOf 1 := ⟨tb3 _ (List.mem_of_getElem? (i := 142) rfl), tb3 _ (List.mem_of_getElem? (i := 140) rfl), tb3 _ (List.mem_of_getElem? (i := 141) rfl), tb1 _ (List.mem_of_getElem? (i := 1) rfl), by decide +kernel⟩
theorem mX10_isLeftover : eMV kX10_isLeftover 1 := ⟨tb3 _ (List.mem_of_getElem? (i := 156) rfl), tb3 _ (List.mem_of_getElem? (i := 154) rfl), tb3 _ (List.mem_of_getElem? (i := 155) rfl), tb1 _ (List.mem_of_getElem? (i := 1) rfl), by decide +kernel⟩
theorem mX10_putTile : eMV kX10_putTile 3 := ⟨tb3 _ (List.mem_of_getElem? (i := 164) rfl), tb3 _ (List.mem_of_getElem? (i := 162) rfl), tb3 _ (List.mem_of_getElem? (i := 163) rfl), tb1 _ (List.mem_of_getElem? (i := 1) rfl), by decide +kernel⟩
theorem mX10_takeTile : eMV kX10_takeTile 1 := ⟨tb3 _ (List.mem_of_getElem? (i := 177) rfl), tb3 _ (List.mem_of_getElem? (i := 175) rfl), tb3 _ (List.mem_of_getElem? (i := 176) rfl), tb1 _ (List.mem_of_getElem? (i := 1) rfl), by decide +kernel⟩
theorem mX10_fitTile : eMV kX10_fitTile 1 := ⟨tb7 _ (List.mem_of_getElem? (i := 215) rfl), tb7 _ (List.mem_of_getElem? (i := 213) rfl), tb7 _ (List.mem_of_getElem? (i := 214) rfl), tb1 _ (List.mem_of_getElem? (i := 1) rfl), by decide +kernel⟩
theorem mX10_playRounds : eMV kX10_playRounds 1 := ⟨tb3 _ (List.mem_of_getElem? (i := 185) rfl), tb3 _ (List.mem_of_getElem? (i := 183) rfl), tb3 _ (List.mem_of_getElem? (i := 184) rfl), tb1 _ (List.mem_of_getElem? (i := 1) rfl), by decide +kernel⟩
theorem mX10_pointsAfter : eMV kX10_pointsAfter 1 := ⟨tb4 _ (List.mem_of_getElem? (i := 46) rfl), tb4 _ (List.mem_of_getElem? (i := 44) rfl), tb4 _ (List.mem_of_getElem? (i := 45) rfl), tb1 _ (List.mem_of_getElem? (i := 1) rfl), by decide +kernel⟩
theorem mX10_roundsUntilRing : eMV kX10_roundsUntilRing 0 := ⟨tb4 _ (List.mem_of_getElem? (i := 71) rfl), tb4 _ (List.mem_of_getElem? (i := 69) rfl), tb4 _ (List.mem_of_getElem? (i := 70) rfl), tb1 _ (List.mem_of_getElem? (i := 1) rfl), by decide +kernel⟩
theorem mX10_bestCell : eMV kX10_bestCell 1 := ⟨tb4 _ (List.mem_of_getElem? (i := 75) rfl), tb4 _ (List.mem_of_getElem? (i := 73) rfl), tb4 _ (List.mem_of_getElem? (i := 74) rfl), tb1 _ (List.mem_of_getElem? (i := 1) rfl), by decide +kernel⟩
theorem mX10_bestTurn : eMV kX10_bestTurn 1 := ⟨tb4 _ (List.mem_of_getElem? (i := 89) rfl), tb4 _ (List.mem_of_getElem? (i := 87) rfl), tb4 _ (List.mem_of_getElem? (i := 88) rfl), tb1 _ (List.mem_of_getElem? (i := 1) rfl), by decide +kernel⟩
theorem mX10_bestTile : eMV kX10_bestTile 0 := ⟨tb4 _ (List.mem_of_getElem? (i := 94) rfl), tb4 _ (List.mem_of_getElem? (i := 92) rfl), tb4 _ (List.mem_of_getElem? (i := 93) rfl), tb1 _ (List.mem_of_getElem? (i := 1) rfl), by decide +kernel⟩
theorem mX10_meanMatch : eMV kX10_meanMatch 0 := ⟨tb4 _ (List.mem_of_getElem? (i := 219) rfl), tb4 _ (List.mem_of_getElem? (i := 217) rfl), tb4 _ (List.mem_of_getElem? (i := 218) rfl), tb1 _ (List.mem_of_getElem? (i := 1) rfl), by decide +kernel⟩
theorem mX10_digest : eMV kX10_digest 0 := ⟨tb4 _ (List.mem_of_getElem? (i := 103) rfl), tb4 _ (List.mem_of_getElem? (i := 101) rfl), tb4 _ (List.mem_of_getElem? (i := 102) rfl), tb1 _ (List.mem_of_getElem? (i := 1) rfl), by decide +kernel⟩
theorem mX10_requireCell : eMV kX10_requireCell 1 := ⟨tb2 _ (List.mem_of_getElem? (i := 212) rfl), tb2 _ (List.mem_of_getElem? (i := 211) rfl), List.mem_append_left _ (List.mem_of_getElem? (i := 3) rfl), tb1 _ (List.mem_of_getElem? (i := 1) rfl), by decide +kernel⟩
theorem mX10_requireTile : eMV kX10_requireTile 1 := ⟨tb3 _ (List.mem_of_getElem? (i := 91) rfl), tb3 _ (List.mem_of_getElem? (i := 90) rfl), List.mem_append_left _ (List.mem_of_getElem? (i := 7) rfl), tb1 _ (List.mem_of_getElem? (i := 1) rfl), by decide +kernel⟩
theorem mX10_requireEdge : eMV kX10_requireEdge 1 := ⟨tb3 _ (List.mem_of_getElem? (i := 71) rfl), tb3 _ (List.mem_of_getElem? (i := 70) rfl), List.mem_append_left _ (List.mem_of_getElem? (i := 6) rfl), tb1 _ (List.mem_of_getElem? (i := 1) rfl), by decide +kernel⟩
theorem mX10_requireWay : eMV kX10_requireWay 3 := ⟨tb3 _ (List.mem_of_getElem? (i := 122) rfl), tb3 _ (List.mem_of_getElem? (i := 121) rfl), List.mem_append_left _ (List.mem_of_getElem? (i := 9) rfl), tb1 _ (List.mem_of_getElem? (i := 1) rfl), by decide +kernel⟩
theorem mX10_requireTileOn : eMV kX10_requireTileOn 1 := ⟨tb3 _ (List.mem_of_getElem? (i := 47) rfl), tb3 _ (List.mem_of_getElem? (i := 46) rfl), List.mem_append_left _ (List.mem_of_getElem? (i := 5) rfl), tb1 _ (List.mem_of_getElem? (i := 1) rfl), by decide +kernel⟩
theorem mX10_requireLying : eMV kX10_requireLying 1 := ⟨tb3 _ (List.mem_of_getElem? (i := 109) rfl), tb3 _ (List.mem_of_getElem? (i := 108) rfl), List.mem_append_left _ (List.mem_of_getElem? (i := 8) rfl), tb1 _ (List.mem_of_getElem? (i := 1) rfl), by decide +kernel⟩
theorem mX10_requireSome : eMV kX10_requireSome 1 := ⟨tb4 _ (List.mem_of_getElem? (i := 84) rfl), tb4 _ (List.mem_of_getElem? (i := 83) rfl), List.mem_append_left _ (List.mem_of_getElem? (i := 19) rfl), tb1 _ (List.mem_of_getElem? (i := 1) rfl), by decide +kernel⟩
theorem mX10_requireRounds : eMV kX10_requireRounds 1 := ⟨tb3 _ (List.mem_of_getElem? (i := 189) rfl), tb3 _ (List.mem_of_getElem? (i := 188) rfl), List.mem_append_left _ (List.mem_of_getElem? (i := 11) rfl), tb1 _ (List.mem_of_getElem? (i := 1) rfl), by decide +kernel⟩
theorem mX11_next : eMV kX11_next 1 := ⟨tb4 _ (List.mem_of_getElem? (i := 129) rfl), tb4 _ (List.mem_of_getElem? (i := 127) rfl), tb4 _ (List.mem_of_getElem? (i := 128) rfl), tb1 _ (List.mem_of_getElem? (i := 14) rfl), by decide +kernel⟩
theorem mX12_board : eMV kX12_board 0 := ⟨tb4 _ (List.mem_of_getElem? (i := 138) rfl), tb4 _ (List.mem_of_getElem? (i := 136) rfl), tb4 _ (List.mem_of_getElem? (i := 137) rfl), tb1 _ (List.mem_of_getElem? (i := 19) rfl), by decide +kernel⟩
theorem mX12_beside : eMV kX12_beside 2 := ⟨tb4 _ (List.mem_of_getElem? (i := 142) rfl), tb4 _ (List.mem_of_getElem? (i := 140) rfl), tb4 _ (List.mem_of_getElem? (i := 141) rfl), tb1 _ (List.mem_of_getElem? (i := 19) rfl), by decide +kernel⟩
theorem mX12_number : eMV kX12_number 3 := ⟨tb4 _ (List.mem_of_getElem? (i := 171) rfl), tb4 _ (List.mem_of_getElem? (i := 169) rfl), tb4 _ (List.mem_of_getElem? (i := 170) rfl), tb1 _ (List.mem_of_getElem? (i := 19) rfl), by decide +kernel⟩
theorem mX12_against : eMV kX12_against 4 := ⟨tb4 _ (List.mem_of_getElem? (i := 184) rfl), tb4 _ (List.mem_of_getElem? (i := 182) rfl), tb4 _ (List.mem_of_getElem? (i := 183) rfl), tb1 _ (List.mem_of_getElem? (i := 19) rfl), by decide +kernel⟩
theorem mX12_many : eMV kX12_many 2 := ⟨tb4 _ (List.mem_of_getElem? (i := 148) rfl), tb4 _ (List.mem_of_getElem? (i := 146) rfl), tb4 _ (List.mem_of_getElem? (i := 147) rfl), tb1 _ (List.mem_of_getElem? (i := 19) rfl), by decide +kernel⟩
theorem mX12_fits : eMV kX12_fits 4 := ⟨tb4 _ (List.mem_of_getElem? (i := 180) rfl), tb4 _ (List.mem_of_getElem? (i := 178) rfl), tb4 _ (List.mem_of_getElem? (i := 179) rfl), tb1 _ (List.mem_of_getElem? (i := 19) rfl), by decide +kernel⟩
theorem mX12_ways : eMV kX12_ways 2 := ⟨tb4 _ (List.mem_of_getElem? (i := 176) rfl), tb4 _ (List.mem_of_getElem? (i := 174) rfl), tb4 _ (List.mem_of_getElem? (i := 175) rfl), tb1 _ (List.mem_of_getElem? (i := 19) rfl), by decide +kernel⟩
theorem mX12_fit : eMV kX12_fit 1 := ⟨tb4 _ (List.mem_of_getElem? (i := 192) rfl), tb4 _ (List.mem_of_getElem? (i := 190) rfl), tb4 _ (List.mem_of_getElem? (i := 191) rfl), tb1 _ (List.mem_of_getElem? (i := 19) rfl), by decide +kernel⟩
theorem mX12_counts : eMV kX12_counts 0 := ⟨tb4 _ (List.mem_of_getElem? (i := 165) rfl), tb4 _ (List.mem_of_getElem? (i := 163) rfl), tb4 _ (List.mem_of_getElem? (i := 164) rfl), tb1 _ (List.mem_of_getElem? (i := 19) rfl), by decide +kernel⟩
theorem mX12_groups : eMV kX12_groups 0 := ⟨tb4 _ (List.mem_of_getElem? (i := 215) rfl), tb4 _ (List.mem_of_getElem? (i := 213) rfl), tb4 _ (List.mem_of_getElem? (i := 214) rfl), tb1 _ (List.mem_of_getElem? (i := 19) rfl), by decide +kernel⟩
theorem mX12_play : eMV kX12_play 0 := ⟨tb4 _ (List.mem_of_getElem? (i := 153) rfl), tb4 _ (List.mem_of_getElem? (i := 151) rfl), tb4 _ (List.mem_of_getElem? (i := 152) rfl), tb1 _ (List.mem_of_getElem? (i := 19) rfl), by decide +kernel⟩
theorem mX12_play_ : eMV kX12_play_ 1 := ⟨tb7 _ (List.mem_of_getElem? (i := 208) rfl), tb7 _ (List.mem_of_getElem? (i := 206) rfl), tb7 _ (List.mem_of_getElem? (i := 207) rfl), tb1 _ (List.mem_of_getElem? (i := 19) rfl), by decide +kernel⟩
theorem mX12_isSame : eMV kX12_isSame 1 := ⟨tb4 _ (List.mem_of_getElem? (i := 201) rfl), tb4 _ (List.mem_of_getElem? (i := 199) rfl), tb4 _ (List.mem_of_getElem? (i := 200) rfl), tb1 _ (List.mem_of_getElem? (i := 19) rfl), by decide +kernel⟩
theorem mX13_sum : eMS kX13_sum 3 := ⟨tb7 _ (List.mem_of_getElem? (i := 56) rfl), tb7 _ (List.mem_of_getElem? (i := 55) rfl), tb1 _ (List.mem_of_getElem? (i := 27) rfl), by decide +kernel⟩
theorem mX13_test : eMS kX13_test 3 := ⟨tb7 _ (List.mem_of_getElem? (i := 64) rfl), tb7 _ (List.mem_of_getElem? (i := 63) rfl), tb1 _ (List.mem_of_getElem? (i := 27) rfl), by decide +kernel⟩
theorem mX13_text : eMV kX13_text 0 := ⟨tb7 _ (List.mem_of_getElem? (i := 110) rfl), tb7 _ (List.mem_of_getElem? (i := 108) rfl), tb7 _ (List.mem_of_getElem? (i := 109) rfl), tb1 _ (List.mem_of_getElem? (i := 27) rfl), by decide +kernel⟩
theorem mX13_value : eMV kX13_value 1 := ⟨tb4 _ (List.mem_of_getElem? (i := 161) rfl), tb4 _ (List.mem_of_getElem? (i := 159) rfl), tb4 _ (List.mem_of_getElem? (i := 160) rfl), tb1 _ (List.mem_of_getElem? (i := 27) rfl), by decide +kernel⟩
theorem mX13_both : eMS kX13_both 3 := ⟨tb4 _ (List.mem_of_getElem? (i := 188) rfl), tb4 _ (List.mem_of_getElem? (i := 187) rfl), tb1 _ (List.mem_of_getElem? (i := 27) rfl), by decide +kernel⟩
theorem mX14_text : eMV kX14_text 0 := ⟨tb7 _ (List.mem_of_getElem? (i := 82) rfl), tb7 _ (List.mem_of_getElem? (i := 80) rfl), tb7 _ (List.mem_of_getElem? (i := 81) rfl), tb1 _ (List.mem_of_getElem? (i := 26) rfl), by decide +kernel⟩
theorem mX14_rest : eMS kX14_rest 2 := ⟨tb4 _ (List.mem_of_getElem? (i := 195) rfl), tb4 _ (List.mem_of_getElem? (i := 194) rfl), tb1 _ (List.mem_of_getElem? (i := 26) rfl), by decide +kernel⟩
theorem mX14_isDone : eMV kX14_isDone 1 := ⟨tb4 _ (List.mem_of_getElem? (i := 157) rfl), tb4 _ (List.mem_of_getElem? (i := 155) rfl), tb4 _ (List.mem_of_getElem? (i := 156) rfl), tb1 _ (List.mem_of_getElem? (i := 26) rfl), by decide +kernel⟩
theorem mJ6_getChars_ba4f3 : eMS kJ6_getChars_ba4f3 3 := ⟨tb7 _ (List.mem_of_getElem? (i := 8) rfl), tb7 _ (List.mem_of_getElem? (i := 7) rfl), tb1 _ (List.mem_of_getElem? (i := 25) rfl), by decide +kernel⟩
theorem mJ6_stringSize_0f7a4 : eMS kJ6_stringSize_0f7a4 1 := ⟨tb7 _ (List.mem_of_getElem? (i := 5) rfl), tb7 _ (List.mem_of_getElem? (i := 4) rfl), tb1 _ (List.mem_of_getElem? (i := 25) rfl), by decide +kernel⟩
theorem mJ6_bitCount_0f7a4 : eMS kJ6_bitCount_0f7a4 1 := ⟨tb3 _ (List.mem_of_getElem? (i := 149) rfl), tb3 _ (List.mem_of_getElem? (i := 148) rfl), tb1 _ (List.mem_of_getElem? (i := 25) rfl), by decide +kernel⟩
theorem mJ9_floorMod_7cf53 : eMS kJ9_floorMod_7cf53 2 := ⟨tb4 _ (List.mem_of_getElem? (i := 27) rfl), tb4 _ (List.mem_of_getElem? (i := 26) rfl), tb1 _ (List.mem_of_getElem? (i := 12) rfl), by decide +kernel⟩
theorem mJ9_max_7cf53 : eMS kJ9_max_7cf53 2 := ⟨tb2 _ (List.mem_of_getElem? (i := 179) rfl), tb2 _ (List.mem_of_getElem? (i := 178) rfl), tb1 _ (List.mem_of_getElem? (i := 12) rfl), by decide +kernel⟩
theorem mJ9_min_7cf53 : eMS kJ9_min_7cf53 2 := ⟨tb2 _ (List.mem_of_getElem? (i := 60) rfl), tb2 _ (List.mem_of_getElem? (i := 59) rfl), tb1 _ (List.mem_of_getElem? (i := 12) rfl), by decide +kernel⟩
theorem mJ0_length_8abf5 : eMV kJ0_length_8abf5 0 := ⟨tb4 _ (List.mem_of_getElem? (i := 239) rfl), tb4 _ (List.mem_of_getElem? (i := 237) rfl), tb4 _ (List.mem_of_getElem? (i := 238) rfl), tb1 _ (List.mem_of_getElem? (i := 17) rfl), by decide +kernel⟩
theorem mJ0_charAt_5068e : eMV kJ0_charAt_5068e 1 := ⟨tb5 _ (List.mem_of_getElem? (i := 9) rfl), tb5 _ (List.mem_of_getElem? (i := 7) rfl), tb5 _ (List.mem_of_getElem? (i := 8) rfl), tb1 _ (List.mem_of_getElem? (i := 17) rfl), by decide +kernel⟩
theorem mJ0_getBytes_840e7 : eMV kJ0_getBytes_840e7 3 := ⟨tb6 _ (List.mem_of_getElem? (i := 233) rfl), tb6 _ (List.mem_of_getElem? (i := 231) rfl), tb6 _ (List.mem_of_getElem? (i := 232) rfl), tb1 _ (List.mem_of_getElem? (i := 17) rfl), by decide +kernel⟩
theorem mJ0_coder_7d493 : eMV kJ0_coder_7d493 0 := ⟨tb5 _ (List.mem_of_getElem? (i := 3) rfl), tb5 _ (List.mem_of_getElem? (i := 1) rfl), tb5 _ (List.mem_of_getElem? (i := 2) rfl), tb1 _ (List.mem_of_getElem? (i := 17) rfl), by decide +kernel⟩
theorem mJ0_isLatin1_aae02 : eMV kJ0_isLatin1_aae02 0 := ⟨tb5 _ (List.mem_of_getElem? (i := 13) rfl), tb5 _ (List.mem_of_getElem? (i := 11) rfl), tb5 _ (List.mem_of_getElem? (i := 12) rfl), tb1 _ (List.mem_of_getElem? (i := 17) rfl), by decide +kernel⟩
theorem mJ0_checkIndex_df160 : eMS kJ0_checkIndex_df160 2 := ⟨tb5 _ (List.mem_of_getElem? (i := 19) rfl), tb5 _ (List.mem_of_getElem? (i := 18) rfl), tb1 _ (List.mem_of_getElem? (i := 17) rfl), by decide +kernel⟩
theorem mJ0_checkBoundsOffCount_cabcc : eMS kJ0_checkBoundsOffCount_cabcc 3 := ⟨tb6 _ (List.mem_of_getElem? (i := 226) rfl), tb6 _ (List.mem_of_getElem? (i := 225) rfl), tb1 _ (List.mem_of_getElem? (i := 17) rfl), by decide +kernel⟩
theorem mJ0_checkBoundsBeginEnd_23922 : eMS kJ0_checkBoundsBeginEnd_23922 3 := ⟨tb6 _ (List.mem_of_getElem? (i := 187) rfl), tb6 _ (List.mem_of_getElem? (i := 186) rfl), tb1 _ (List.mem_of_getElem? (i := 17) rfl), by decide +kernel⟩
theorem mJ4_append_15ec4 : eMV kJ4_append_15ec4 1 := ⟨tb6 _ (List.mem_of_getElem? (i := 135) rfl), tb6 _ (List.mem_of_getElem? (i := 133) rfl), tb6 _ (List.mem_of_getElem? (i := 134) rfl), tb1 _ (List.mem_of_getElem? (i := 16) rfl), by decide +kernel⟩
theorem mJ4_append_bf812 : eMV kJ4_append_bf812 1 := ⟨tb6 _ (List.mem_of_getElem? (i := 239) rfl), tb6 _ (List.mem_of_getElem? (i := 237) rfl), tb6 _ (List.mem_of_getElem? (i := 238) rfl), tb1 _ (List.mem_of_getElem? (i := 16) rfl), by decide +kernel⟩
theorem mJ4_toString_0e30d : eMV kJ4_toString_0e30d 0 := ⟨tb7 _ (List.mem_of_getElem? (i := 119) rfl), tb7 _ (List.mem_of_getElem? (i := 117) rfl), tb7 _ (List.mem_of_getElem? (i := 118) rfl), tb1 _ (List.mem_of_getElem? (i := 16) rfl), by decide +kernel⟩
theorem mJ1_charAt_3b067 : eMS kJ1_charAt_3b067 2 := ⟨tb5 _ (List.mem_of_getElem? (i := 16) rfl), tb5 _ (List.mem_of_getElem? (i := 15) rfl), tb1 _ (List.mem_of_getElem? (i := 23) rfl), by decide +kernel⟩
theorem mJ1_inflate_0e8fd : eMS kJ1_inflate_0e8fd 5 := ⟨tb6 _ (List.mem_of_getElem? (i := 217) rfl), tb6 _ (List.mem_of_getElem? (i := 216) rfl), tb1 _ (List.mem_of_getElem? (i := 23) rfl), by decide +kernel⟩
theorem mJ2_newBytesFor_77867 : eMS kJ2_newBytesFor_77867 1 := ⟨tb6 _ (List.mem_of_getElem? (i := 210) rfl), tb6 _ (List.mem_of_getElem? (i := 209) rfl), tb1 _ (List.mem_of_getElem? (i := 18) rfl), by decide +kernel⟩
theorem mJ2_newBytesLength_0f7a4 : eMS kJ2_newBytesLength_0f7a4 1 := ⟨tb6 _ (List.mem_of_getElem? (i := 213) rfl), tb6 _ (List.mem_of_getElem? (i := 212) rfl), tb1 _ (List.mem_of_getElem? (i := 18) rfl), by decide +kernel⟩
theorem mJ2_putChar_b72d1 : eMS kJ2_putChar_b72d1 3 := ⟨tb6 _ (List.mem_of_getElem? (i := 193) rfl), tb6 _ (List.mem_of_getElem? (i := 192) rfl), tb1 _ (List.mem_of_getElem? (i := 18) rfl), by decide +kernel⟩
theorem mJ2_getChar_3b067 : eMS kJ2_getChar_3b067 2 := ⟨tb5 _ (List.mem_of_getElem? (i := 37) rfl), tb5 _ (List.mem_of_getElem? (i := 36) rfl), tb1 _ (List.mem_of_getElem? (i := 18) rfl), by decide +kernel⟩
theorem mJ2_length_9d52b : eMS kJ2_length_9d52b 1 := ⟨tb5 _ (List.mem_of_getElem? (i := 33) rfl), tb5 _ (List.mem_of_getElem? (i := 32) rfl), tb1 _ (List.mem_of_getElem? (i := 18) rfl), by decide +kernel⟩
theorem mJ2_coderFromArrayLen_85cad : eMS kJ2_coderFromArrayLen_85cad 2 := ⟨tb7 _ (List.mem_of_getElem? (i := 161) rfl), tb7 _ (List.mem_of_getElem? (i := 160) rfl), tb1 _ (List.mem_of_getElem? (i := 18) rfl), by decide +kernel⟩
theorem mJ2_compress_39247 : eMS kJ2_compress_39247 3 := ⟨tb7 _ (List.mem_of_getElem? (i := 154) rfl), tb7 _ (List.mem_of_getElem? (i := 153) rfl), tb1 _ (List.mem_of_getElem? (i := 18) rfl), by decide +kernel⟩
theorem mJ2_compress_5af95 : eMS kJ2_compress_5af95 5 := ⟨tb7 _ (List.mem_of_getElem? (i := 157) rfl), tb7 _ (List.mem_of_getElem? (i := 156) rfl), tb1 _ (List.mem_of_getElem? (i := 18) rfl), by decide +kernel⟩
theorem mJ2_getChars_46870 : eMS kJ2_getChars_46870 4 := ⟨tb7 _ (List.mem_of_getElem? (i := 15) rfl), tb7 _ (List.mem_of_getElem? (i := 14) rfl), tb1 _ (List.mem_of_getElem? (i := 18) rfl), by decide +kernel⟩
theorem mJ2_putCharsAt_cd4e5 : eMS kJ2_putCharsAt_cd4e5 6 := ⟨tb6 _ (List.mem_of_getElem? (i := 181) rfl), tb6 _ (List.mem_of_getElem? (i := 180) rfl), tb1 _ (List.mem_of_getElem? (i := 18) rfl), by decide +kernel⟩
theorem mJ2_charAt_3b067 : eMS kJ2_charAt_3b067 2 := ⟨tb5 _ (List.mem_of_getElem? (i := 27) rfl), tb5 _ (List.mem_of_getElem? (i := 26) rfl), tb1 _ (List.mem_of_getElem? (i := 18) rfl), by decide +kernel⟩
theorem mJ2_inflate_0e8fd : eMS kJ2_inflate_0e8fd 5 := ⟨tb6 _ (List.mem_of_getElem? (i := 220) rfl), tb6 _ (List.mem_of_getElem? (i := 219) rfl), tb1 _ (List.mem_of_getElem? (i := 18) rfl), by decide +kernel⟩
theorem mJ2_getChars_ba4f3 : eMS kJ2_getChars_ba4f3 3 := ⟨tb7 _ (List.mem_of_getElem? (i := 18) rfl), tb7 _ (List.mem_of_getElem? (i := 17) rfl), tb1 _ (List.mem_of_getElem? (i := 18) rfl), by decide +kernel⟩
theorem mJ2_checkIndex_2214a : eMS kJ2_checkIndex_2214a 2 := ⟨tb5 _ (List.mem_of_getElem? (i := 30) rfl), tb5 _ (List.mem_of_getElem? (i := 29) rfl), tb1 _ (List.mem_of_getElem? (i := 18) rfl), by decide +kernel⟩
theorem mJ2_checkBoundsBeginEnd_d044e : eMS kJ2_checkBoundsBeginEnd_d044e 3 := ⟨tb6 _ (List.mem_of_getElem? (i := 184) rfl), tb6 _ (List.mem_of_getElem? (i := 183) rfl), tb1 _ (List.mem_of_getElem? (i := 18) rfl), by decide +kernel⟩
theorem mJ2_checkBoundsOffCount_d044e : eMS kJ2_checkBoundsOffCount_d044e 3 := ⟨tb6 _ (List.mem_of_getElem? (i := 223) rfl), tb6 _ (List.mem_of_getElem? (i := 222) rfl), tb1 _ (List.mem_of_getElem? (i := 18) rfl), by decide +kernel⟩
theorem mJ7_fill_53178 : eMS kJ7_fill_53178 2 := ⟨tb2 _ (List.mem_of_getElem? (i := 67) rfl), tb2 _ (List.mem_of_getElem? (i := 66) rfl), tb1 _ (List.mem_of_getElem? (i := 13) rfl), by decide +kernel⟩
theorem mJ7_copyOf_9075b : eMS kJ7_copyOf_9075b 2 := ⟨tb6 _ (List.mem_of_getElem? (i := 163) rfl), tb6 _ (List.mem_of_getElem? (i := 162) rfl), tb1 _ (List.mem_of_getElem? (i := 13) rfl), by decide +kernel⟩
theorem mJ7_checkLength_df160 : eMS kJ7_checkLength_df160 2 := ⟨tb7 _ (List.mem_of_getElem? (i := 151) rfl), tb7 _ (List.mem_of_getElem? (i := 150) rfl), tb1 _ (List.mem_of_getElem? (i := 13) rfl), by decide +kernel⟩
theorem mJ7_copyOfRange_39247 : eMS kJ7_copyOfRange_39247 3 := ⟨tb7 _ (List.mem_of_getElem? (i := 145) rfl), tb7 _ (List.mem_of_getElem? (i := 144) rfl), tb1 _ (List.mem_of_getElem? (i := 13) rfl), by decide +kernel⟩
theorem mJ7_copyOfRangeByte_39247 : eMS kJ7_copyOfRangeByte_39247 3 := ⟨tb7 _ (List.mem_of_getElem? (i := 148) rfl), tb7 _ (List.mem_of_getElem? (i := 147) rfl), tb1 _ (List.mem_of_getElem? (i := 13) rfl), by decide +kernel⟩
theorem mJ8_newLength_cabcc : eMS kJ8_newLength_cabcc 3 := ⟨tb6 _ (List.mem_of_getElem? (i := 154) rfl), tb6 _ (List.mem_of_getElem? (i := 153) rfl), tb1 _ (List.mem_of_getElem? (i := 20) rfl), by decide +kernel⟩
theorem mJ8_hugeLength_7cf53 : eMS kJ8_hugeLength_7cf53 2 := ⟨tb6 _ (List.mem_of_getElem? (i := 159) rfl), tb6 _ (List.mem_of_getElem? (i := 158) rfl), tb1 _ (List.mem_of_getElem? (i := 20) rfl), by decide +kernel⟩
theorem mJ3_checkIndex_8e157 : eMS kJ3_checkIndex_8e157 3 := ⟨tb5 _ (List.mem_of_getElem? (i := 24) rfl), tb5 _ (List.mem_of_getElem? (i := 23) rfl), tb1 _ (List.mem_of_getElem? (i := 22) rfl), by decide +kernel⟩
theorem mJ3_checkFromToIndex_8c36e : eMS kJ3_checkFromToIndex_8c36e 4 := ⟨tb6 _ (List.mem_of_getElem? (i := 190) rfl), tb6 _ (List.mem_of_getElem? (i := 189) rfl), tb1 _ (List.mem_of_getElem? (i := 22) rfl), by decide +kernel⟩
theorem mJ3_checkFromIndexSize_8c36e : eMS kJ3_checkFromIndexSize_8c36e 4 := ⟨tb6 _ (List.mem_of_getElem? (i := 229) rfl), tb6 _ (List.mem_of_getElem? (i := 228) rfl), tb1 _ (List.mem_of_getElem? (i := 22) rfl), by decide +kernel⟩
theorem mL_below : eMS kL_below 2 := ⟨tb4 _ (List.mem_of_getElem? (i := 133) rfl), tb4 _ (List.mem_of_getElem? (i := 132) rfl), tb1 _ (List.mem_of_getElem? (i := 0) rfl), by decide +kernel⟩
theorem mL_cell : eMS kL_cell 2 := ⟨tb4 _ (List.mem_of_getElem? (i := 231) rfl), tb4 _ (List.mem_of_getElem? (i := 230) rfl), tb1 _ (List.mem_of_getElem? (i := 0) rfl), by decide +kernel⟩
theorem mL_taught : eMS kL_taught 2 := ⟨tb4 _ (List.mem_of_getElem? (i := 235) rfl), tb4 _ (List.mem_of_getElem? (i := 234) rfl), tb1 _ (List.mem_of_getElem? (i := 0) rfl), by decide +kernel⟩
theorem mL_drawn : eMS kL_drawn 4 := ⟨tb6 _ (List.mem_of_getElem? (i := 93) rfl), tb6 _ (List.mem_of_getElem? (i := 92) rfl), tb1 _ (List.mem_of_getElem? (i := 0) rfl), by decide +kernel⟩
theorem lML_120 : Cond.methodLink RL 120 yX10_init ∈ lw_tbl := tb1 _ (List.mem_of_getElem? (i := 37) rfl)
theorem lMX10_9 : Cond.methodLinkNest RX10 9 yX8_init "RingDomino" ∈ lw_tbl := tb1 _ (List.mem_of_getElem? (i := 45) rfl)
theorem lFX8_9 : Cond.fieldLink RX8 9 "RingDomino$Tape" "bytes" "[B" ∈ lw_tbl := tb1 _ (List.mem_of_getElem? (i := 49) rfl)
theorem lFX8_13 : Cond.fieldLink RX8 13 "RingDomino$Tape" "size" "I" ∈ lw_tbl := tb1 _ (List.mem_of_getElem? (i := 50) rfl)
theorem lFX9_41 : Cond.fieldLink RX9 41 "RingDomino$Tape" "size" "I" ∈ lw_tbl := tb1 _ (List.mem_of_getElem? (i := 51) rfl)
theorem lFX10_83 : Cond.fieldLink RX10 83 "RingDomino$Tape" "size" "I" ∈ lw_tbl := tb1 _ (List.mem_of_getElem? (i := 52) rfl)
theorem lMX10_18 : Cond.methodLink RX10 18 yX9_init ∈ lw_tbl := tb1 _ (List.mem_of_getElem? (i := 61) rfl)
theorem lFX9_27 : Cond.fieldLink RX9 27 "RingDomino$Tokens" "tape" "LRingDomino$Tape;" ∈ lw_tbl := tb1 _ (List.mem_of_getElem? (i := 67) rfl)
theorem lFX9_11 : Cond.fieldLink RX9 11 "RingDomino$Tokens" "kinds" "[LRingDomino$Kind;" ∈ lw_tbl := tb1 _ (List.mem_of_getElem? (i := 68) rfl)
theorem lFX9_17 : Cond.fieldLink RX9 17 "RingDomino$Tokens" "starts" "[I" ∈ lw_tbl := tb1 _ (List.mem_of_getElem? (i := 69) rfl)
theorem lFX9_21 : Cond.fieldLink RX9 21 "RingDomino$Tokens" "ends" "[I" ∈ lw_tbl := tb1 _ (List.mem_of_getElem? (i := 70) rfl)
theorem lFX9_24 : Cond.fieldLink RX9 24 "RingDomino$Tokens" "values" "[I" ∈ lw_tbl := tb1 _ (List.mem_of_getElem? (i := 71) rfl)
theorem lFX9_31 : Cond.fieldLink RX9 31 "RingDomino$Tokens" "count" "I" ∈ lw_tbl := tb1 _ (List.mem_of_getElem? (i := 72) rfl)
theorem lFX5_42 : Cond.fieldLink RX5 42 "RingDomino$Tokens" "count" "I" ∈ lw_tbl := tb1 _ (List.mem_of_getElem? (i := 73) rfl)
theorem lMX10_27 : Cond.methodLink RX10 27 yX7_init ∈ lw_tbl := tb1 _ (List.mem_of_getElem? (i := 90) rfl)
theorem lMX7_37 : Cond.methodLinkNest RX7 37 yX6_init "RingDomino" ∈ lw_tbl := tb1 _ (List.mem_of_getElem? (i := 98) rfl)
theorem lFX6_7 : Cond.fieldLink RX6 7 "RingDomino$Kind" "END" "LRingDomino$Kind;" ∈ lw_tbl := tb1 _ (List.mem_of_getElem? (i := 102) rfl)
theorem lFX6_13 : Cond.fieldLink RX6 13 "RingDomino$Order" "kind" "LRingDomino$Kind;" ∈ lw_tbl := tb1 _ (List.mem_of_getElem? (i := 104) rfl)
theorem lFX2_87 : Cond.fieldLink RX2 87 "RingDomino$Order" "kind" "LRingDomino$Kind;" ∈ lw_tbl := tb1 _ (List.mem_of_getElem? (i := 105) rfl)
theorem lFX7_50 : Cond.fieldLink RX7 50 "RingDomino$Order" "kind" "LRingDomino$Kind;" ∈ lw_tbl := tb1 _ (List.mem_of_getElem? (i := 106) rfl)
theorem lFX6_18 : Cond.fieldLink RX6 18 "RingDomino$Order" "tile" "I" ∈ lw_tbl := tb1 _ (List.mem_of_getElem? (i := 107) rfl)
theorem lFX2_59 : Cond.fieldLink RX2 59 "RingDomino$Order" "tile" "I" ∈ lw_tbl := tb1 _ (List.mem_of_getElem? (i := 108) rfl)
theorem lFX7_54 : Cond.fieldLink RX7 54 "RingDomino$Order" "tile" "I" ∈ lw_tbl := tb1 _ (List.mem_of_getElem? (i := 109) rfl)
theorem lFX6_22 : Cond.fieldLink RX6 22 "RingDomino$Order" "sums" "I" ∈ lw_tbl := tb1 _ (List.mem_of_getElem? (i := 110) rfl)
theorem lFX2_105 : Cond.fieldLink RX2 105 "RingDomino$Order" "sums" "I" ∈ lw_tbl := tb1 _ (List.mem_of_getElem? (i := 111) rfl)
theorem lFX7_57 : Cond.fieldLink RX7 57 "RingDomino$Order" "sums" "I" ∈ lw_tbl := tb1 _ (List.mem_of_getElem? (i := 112) rfl)
theorem lFX6_25 : Cond.fieldLink RX6 25 "RingDomino$Order" "test" "I" ∈ lw_tbl := tb1 _ (List.mem_of_getElem? (i := 113) rfl)
theorem lFX2_68 : Cond.fieldLink RX2 68 "RingDomino$Order" "test" "I" ∈ lw_tbl := tb1 _ (List.mem_of_getElem? (i := 114) rfl)
theorem lFX7_60 : Cond.fieldLink RX7 60 "RingDomino$Order" "test" "I" ∈ lw_tbl := tb1 _ (List.mem_of_getElem? (i := 115) rfl)
theorem lFX6_28 : Cond.fieldLink RX6 28 "RingDomino$Order" "end" "I" ∈ lw_tbl := tb1 _ (List.mem_of_getElem? (i := 116) rfl)
theorem lFX2_71 : Cond.fieldLink RX2 71 "RingDomino$Order" "end" "I" ∈ lw_tbl := tb1 _ (List.mem_of_getElem? (i := 117) rfl)
theorem lFX7_63 : Cond.fieldLink RX7 63 "RingDomino$Order" "end" "I" ∈ lw_tbl := tb1 _ (List.mem_of_getElem? (i := 118) rfl)
theorem lFX7_11 : Cond.fieldLink RX7 11 "RingDomino$Program" "columns" "I" ∈ lw_tbl := tb1 _ (List.mem_of_getElem? (i := 130) rfl)
theorem lFX1_48 : Cond.fieldLink RX1 48 "RingDomino$Program" "columns" "I" ∈ lw_tbl := tb1 _ (List.mem_of_getElem? (i := 131) rfl)
theorem lFX7_15 : Cond.fieldLink RX7 15 "RingDomino$Program" "rows" "I" ∈ lw_tbl := tb1 _ (List.mem_of_getElem? (i := 132) rfl)
theorem lFX1_55 : Cond.fieldLink RX1 55 "RingDomino$Program" "rows" "I" ∈ lw_tbl := tb1 _ (List.mem_of_getElem? (i := 133) rfl)
theorem lFX7_38 : Cond.fieldLink RX7 38 "RingDomino$Program" "sides" "I" ∈ lw_tbl := tb1 _ (List.mem_of_getElem? (i := 134) rfl)
theorem lFX7_18 : Cond.fieldLink RX7 18 "RingDomino$Program" "tileNumbers" "[I" ∈ lw_tbl := tb1 _ (List.mem_of_getElem? (i := 135) rfl)
theorem lFX7_41 : Cond.fieldLink RX7 41 "RingDomino$Program" "tileNumberCount" "I" ∈ lw_tbl := tb1 _ (List.mem_of_getElem? (i := 136) rfl)
theorem lFX7_24 : Cond.fieldLink RX7 24 "RingDomino$Program" "orders" "[LRingDomino$Order;" ∈ lw_tbl := tb1 _ (List.mem_of_getElem? (i := 137) rfl)
theorem lFX2_42 : Cond.fieldLink RX2 42 "RingDomino$Program" "orders" "[LRingDomino$Order;" ∈ lw_tbl := tb1 _ (List.mem_of_getElem? (i := 138) rfl)
theorem lFX7_44 : Cond.fieldLink RX7 44 "RingDomino$Program" "orderCount" "I" ∈ lw_tbl := tb1 _ (List.mem_of_getElem? (i := 139) rfl)
theorem lFX2_39 : Cond.fieldLink RX2 39 "RingDomino$Program" "orderCount" "I" ∈ lw_tbl := tb1 _ (List.mem_of_getElem? (i := 140) rfl)
theorem lFX7_30 : Cond.fieldLink RX7 30 "RingDomino$Program" "steps" "[LRingDomino$Kind;" ∈ lw_tbl := tb1 _ (List.mem_of_getElem? (i := 141) rfl)
theorem lFX7_34 : Cond.fieldLink RX7 34 "RingDomino$Program" "operands" "[I" ∈ lw_tbl := tb1 _ (List.mem_of_getElem? (i := 142) rfl)
theorem lFX7_47 : Cond.fieldLink RX7 47 "RingDomino$Program" "stepCount" "I" ∈ lw_tbl := tb1 _ (List.mem_of_getElem? (i := 143) rfl)
theorem lMX10_34 : Cond.methodLink RX10 34 yX3_init ∈ lw_tbl := tb1 _ (List.mem_of_getElem? (i := 167) rfl)
theorem lFX3_9 : Cond.fieldLink RX3 9 "RingDomino$Kind" "END" "LRingDomino$Kind;" ∈ lw_tbl := tb1 _ (List.mem_of_getElem? (i := 171) rfl)
theorem lFX3_20 : Cond.fieldLink RX3 20 "RingDomino$Grammar" "tokens" "LRingDomino$Tokens;" ∈ lw_tbl := tb1 _ (List.mem_of_getElem? (i := 172) rfl)
theorem lFX3_24 : Cond.fieldLink RX3 24 "RingDomino$Grammar" "draft" "LRingDomino$Program;" ∈ lw_tbl := tb1 _ (List.mem_of_getElem? (i := 173) rfl)
theorem lFX3_15 : Cond.fieldLink RX3 15 "RingDomino$Grammar" "kind" "LRingDomino$Kind;" ∈ lw_tbl := tb1 _ (List.mem_of_getElem? (i := 174) rfl)
theorem lFX3_28 : Cond.fieldLink RX3 28 "RingDomino$Grammar" "next" "I" ∈ lw_tbl := tb1 _ (List.mem_of_getElem? (i := 175) rfl)
theorem lFX10_105 : Cond.fieldLink RX10 105 "RingDomino$Grammar" "next" "I" ∈ lw_tbl := tb1 _ (List.mem_of_getElem? (i := 176) rfl)
theorem lMX10_43 : Cond.methodLink RX10 43 yX5_init ∈ lw_tbl := tb1 _ (List.mem_of_getElem? (i := 188) rfl)
theorem lFX5_15 : Cond.fieldLink RX5 15 "RingDomino$Kind" "END" "LRingDomino$Kind;" ∈ lw_tbl := tb1 _ (List.mem_of_getElem? (i := 192) rfl)
theorem lFX5_24 : Cond.fieldLink RX5 24 "RingDomino$Meaning" "tokens" "LRingDomino$Tokens;" ∈ lw_tbl := tb1 _ (List.mem_of_getElem? (i := 193) rfl)
theorem lFX5_28 : Cond.fieldLink RX5 28 "RingDomino$Meaning" "draft" "LRingDomino$Program;" ∈ lw_tbl := tb1 _ (List.mem_of_getElem? (i := 194) rfl)
theorem lFX5_9 : Cond.fieldLink RX5 9 "RingDomino$Meaning" "names" "[I" ∈ lw_tbl := tb1 _ (List.mem_of_getElem? (i := 195) rfl)
theorem lFX5_32 : Cond.fieldLink RX5 32 "RingDomino$Meaning" "nameCount" "I" ∈ lw_tbl := tb1 _ (List.mem_of_getElem? (i := 196) rfl)
theorem lFX5_36 : Cond.fieldLink RX5 36 "RingDomino$Meaning" "orderCount" "I" ∈ lw_tbl := tb1 _ (List.mem_of_getElem? (i := 197) rfl)
theorem lFX5_21 : Cond.fieldLink RX5 21 "RingDomino$Meaning" "line" "LRingDomino$Kind;" ∈ lw_tbl := tb1 _ (List.mem_of_getElem? (i := 198) rfl)
theorem lFX5_39 : Cond.fieldLink RX5 39 "RingDomino$Meaning" "token" "I" ∈ lw_tbl := tb1 _ (List.mem_of_getElem? (i := 199) rfl)
theorem lFX10_108 : Cond.fieldLink RX10 108 "RingDomino$Meaning" "token" "I" ∈ lw_tbl := tb1 _ (List.mem_of_getElem? (i := 200) rfl)
theorem lMX10_50 : Cond.methodLinkNest RX10 50 yX1_init "RingDomino" ∈ lw_tbl := tb1 _ (List.mem_of_getElem? (i := 218) rfl)
theorem lFX1_54 : Cond.fieldLink RX1 54 "RingDomino$Board" "columns" "I" ∈ lw_tbl := tb1 _ (List.mem_of_getElem? (i := 222) rfl)
theorem lFX10_119 : Cond.fieldLink RX10 119 "RingDomino$Board" "columns" "I" ∈ lw_tbl := tb1 _ (List.mem_of_getElem? (i := 223) rfl)
theorem lFX2_115 : Cond.fieldLink RX2 115 "RingDomino$Board" "columns" "I" ∈ lw_tbl := tb1 _ (List.mem_of_getElem? (i := 224) rfl)
theorem lFX1_58 : Cond.fieldLink RX1 58 "RingDomino$Board" "rows" "I" ∈ lw_tbl := tb1 _ (List.mem_of_getElem? (i := 225) rfl)
theorem lFX10_122 : Cond.fieldLink RX10 122 "RingDomino$Board" "rows" "I" ∈ lw_tbl := tb1 _ (List.mem_of_getElem? (i := 226) rfl)
theorem lFX2_112 : Cond.fieldLink RX2 112 "RingDomino$Board" "rows" "I" ∈ lw_tbl := tb1 _ (List.mem_of_getElem? (i := 227) rfl)
theorem lFX1_65 : Cond.fieldLink RX1 65 "RingDomino$Board" "cellCount" "I" ∈ lw_tbl := tb1 _ (List.mem_of_getElem? (i := 228) rfl)
theorem lFX2_118 : Cond.fieldLink RX2 118 "RingDomino$Board" "cellCount" "I" ∈ lw_tbl := tb1 _ (List.mem_of_getElem? (i := 229) rfl)
theorem lFX10_280 : Cond.fieldLink RX10 280 "RingDomino$Board" "cellCount" "I" ∈ lw_tbl := tb1 _ (List.mem_of_getElem? (i := 230) rfl)
theorem lFX1_72 : Cond.fieldLink RX1 72 "RingDomino$Board" "tileCount" "I" ∈ lw_tbl := tb1 _ (List.mem_of_getElem? (i := 231) rfl)
theorem lFX10_125 : Cond.fieldLink RX10 125 "RingDomino$Board" "tileCount" "I" ∈ lw_tbl := tb1 _ (List.mem_of_getElem? (i := 232) rfl)
theorem lFX1_74 : Cond.fieldLink RX1 74 "RingDomino$Board" "placed" "I" ∈ lw_tbl := tb1 _ (List.mem_of_getElem? (i := 233) rfl)
theorem lFX10_131 : Cond.fieldLink RX10 131 "RingDomino$Board" "placed" "I" ∈ lw_tbl := tb1 _ (List.mem_of_getElem? (i := 234) rfl)
theorem lFX2_156 : Cond.fieldLink RX2 156 "RingDomino$Board" "placed" "I" ∈ lw_tbl := tb1 _ (List.mem_of_getElem? (i := 235) rfl)
theorem lFX1_9 : Cond.fieldLink RX1 9 "RingDomino$Board" "tileOn" "[I" ∈ lw_tbl := tb1 _ (List.mem_of_getElem? (i := 236) rfl)
theorem lFX10_149 : Cond.fieldLink RX10 149 "RingDomino$Board" "tileOn" "[I" ∈ lw_tbl := tb1 _ (List.mem_of_getElem? (i := 237) rfl)
theorem lFX1_15 : Cond.fieldLink RX1 15 "RingDomino$Board" "cellUnder" "[I" ∈ lw_tbl := tb1 _ (List.mem_of_getElem? (i := 238) rfl)
theorem lFX10_181 : Cond.fieldLink RX10 181 "RingDomino$Board" "cellUnder" "[I" ∈ lw_tbl := tb1 _ (List.mem_of_getElem? (i := 239) rfl)
theorem lFX1_18 : Cond.fieldLink RX1 18 "RingDomino$Board" "turnOn" "[I" ∈ lw_tbl := tb2 _ (List.mem_of_getElem? (i := 0) rfl)
theorem lFX10_159 : Cond.fieldLink RX10 159 "RingDomino$Board" "turnOn" "[I" ∈ lw_tbl := tb2 _ (List.mem_of_getElem? (i := 1) rfl)
theorem lFX1_21 : Cond.fieldLink RX1 21 "RingDomino$Board" "tileNumbers" "[I" ∈ lw_tbl := tb2 _ (List.mem_of_getElem? (i := 2) rfl)
theorem lFX1_24 : Cond.fieldLink RX1 24 "RingDomino$Board" "turnsWith" "[I" ∈ lw_tbl := tb2 _ (List.mem_of_getElem? (i := 3) rfl)
theorem lFX1_27 : Cond.fieldLink RX1 27 "RingDomino$Board" "beside" "[I" ∈ lw_tbl := tb2 _ (List.mem_of_getElem? (i := 4) rfl)
theorem lFX1_30 : Cond.fieldLink RX1 30 "RingDomino$Board" "facing" "[I" ∈ lw_tbl := tb2 _ (List.mem_of_getElem? (i := 5) rfl)
theorem lFX1_33 : Cond.fieldLink RX1 33 "RingDomino$Board" "tilesBeside" "[I" ∈ lw_tbl := tb2 _ (List.mem_of_getElem? (i := 6) rfl)
theorem lFX1_36 : Cond.fieldLink RX1 36 "RingDomino$Board" "keptCells" "[I" ∈ lw_tbl := tb2 _ (List.mem_of_getElem? (i := 7) rfl)
theorem lFX1_39 : Cond.fieldLink RX1 39 "RingDomino$Board" "keptTurns" "[I" ∈ lw_tbl := tb2 _ (List.mem_of_getElem? (i := 8) rfl)
theorem lFX1_42 : Cond.fieldLink RX1 42 "RingDomino$Board" "queue" "[I" ∈ lw_tbl := tb2 _ (List.mem_of_getElem? (i := 9) rfl)
theorem lFX1_45 : Cond.fieldLink RX1 45 "RingDomino$Board" "groupOf" "[I" ∈ lw_tbl := tb2 _ (List.mem_of_getElem? (i := 10) rfl)
theorem lMX10_57 : Cond.methodLink RX10 57 yX2_init ∈ lw_tbl := tb2 _ (List.mem_of_getElem? (i := 48) rfl)
theorem lMX2_11 : Cond.methodLink RX2 11 yX7_init ∈ lw_tbl := tb2 _ (List.mem_of_getElem? (i := 53) rfl)
theorem lMX2_26 : Cond.methodLink RX2 26 yX1_begin ∈ lw_tbl := tb2 _ (List.mem_of_getElem? (i := 54) rfl)
theorem lMX1_59 : Cond.methodLink RX1 59 yJ9_min_7cf53 ∈ lw_tbl := tb2 _ (List.mem_of_getElem? (i := 58) rfl)
theorem lMX1_68 : Cond.methodLink RX1 68 yX7_tileCount ∈ lw_tbl := tb2 _ (List.mem_of_getElem? (i := 61) rfl)
theorem lMX1_77 : Cond.methodLink RX1 77 yJ7_fill_53178 ∈ lw_tbl := tb2 _ (List.mem_of_getElem? (i := 65) rfl)
theorem lMX1_83 : Cond.methodLink RX1 83 yX1_findCellsBeside ∈ lw_tbl := tb2 _ (List.mem_of_getElem? (i := 68) rfl)
theorem lFX1_91 : Cond.fieldLink RX1 91 "RingDomino$Board" "COLUMN_STEPS" "[I" ∈ lw_tbl := tb2 _ (List.mem_of_getElem? (i := 72) rfl)
theorem lFX1_94 : Cond.fieldLink RX1 94 "RingDomino$Board" "ROW_STEPS" "[I" ∈ lw_tbl := tb2 _ (List.mem_of_getElem? (i := 74) rfl)
theorem lMX1_87 : Cond.methodLink RX1 87 yX1_learnTile ∈ lw_tbl := tb2 _ (List.mem_of_getElem? (i := 76) rfl)
theorem lMX1_97 : Cond.methodLink RX1 97 yX7_tileNumber ∈ lw_tbl := tb2 _ (List.mem_of_getElem? (i := 80) rfl)
theorem lMX1_101 : Cond.methodLink RX1 101 yX1_numberOf ∈ lw_tbl := tb2 _ (List.mem_of_getElem? (i := 84) rfl)
theorem lFX2_22 : Cond.fieldLink RX2 22 "RingDomino$Game" "board" "LRingDomino$Board;" ∈ lw_tbl := tb2 _ (List.mem_of_getElem? (i := 88) rfl)
theorem lFX2_12 : Cond.fieldLink RX2 12 "RingDomino$Game" "program" "LRingDomino$Program;" ∈ lw_tbl := tb2 _ (List.mem_of_getElem? (i := 89) rfl)
theorem lFX2_18 : Cond.fieldLink RX2 18 "RingDomino$Game" "stack" "[I" ∈ lw_tbl := tb2 _ (List.mem_of_getElem? (i := 90) rfl)
theorem lFX2_143 : Cond.fieldLink RX2 143 "RingDomino$Game" "height" "I" ∈ lw_tbl := tb2 _ (List.mem_of_getElem? (i := 91) rfl)
theorem lFX2_50 : Cond.fieldLink RX2 50 "RingDomino$Game" "keptRounds" "I" ∈ lw_tbl := tb2 _ (List.mem_of_getElem? (i := 92) rfl)
theorem lFX2_35 : Cond.fieldLink RX2 35 "RingDomino$Game" "roundsGone" "I" ∈ lw_tbl := tb2 _ (List.mem_of_getElem? (i := 93) rfl)
theorem lFX10_128 : Cond.fieldLink RX10 128 "RingDomino$Game" "roundsGone" "I" ∈ lw_tbl := tb2 _ (List.mem_of_getElem? (i := 94) rfl)
theorem lFX10_10 : Cond.fieldLink RX10 10 "RingDomino" "tape" "LRingDomino$Tape;" ∈ lw_tbl := tb2 _ (List.mem_of_getElem? (i := 108) rfl)
theorem lFX10_21 : Cond.fieldLink RX10 21 "RingDomino" "tokens" "LRingDomino$Tokens;" ∈ lw_tbl := tb2 _ (List.mem_of_getElem? (i := 109) rfl)
theorem lFX10_28 : Cond.fieldLink RX10 28 "RingDomino" "draft" "LRingDomino$Program;" ∈ lw_tbl := tb2 _ (List.mem_of_getElem? (i := 110) rfl)
theorem lFX10_37 : Cond.fieldLink RX10 37 "RingDomino" "grammar" "LRingDomino$Grammar;" ∈ lw_tbl := tb2 _ (List.mem_of_getElem? (i := 111) rfl)
theorem lFX10_44 : Cond.fieldLink RX10 44 "RingDomino" "meaning" "LRingDomino$Meaning;" ∈ lw_tbl := tb2 _ (List.mem_of_getElem? (i := 112) rfl)
theorem lFX10_51 : Cond.fieldLink RX10 51 "RingDomino" "board" "LRingDomino$Board;" ∈ lw_tbl := tb2 _ (List.mem_of_getElem? (i := 113) rfl)
theorem lFX10_60 : Cond.fieldLink RX10 60 "RingDomino" "game" "LRingDomino$Game;" ∈ lw_tbl := tb2 _ (List.mem_of_getElem? (i := 114) rfl)
theorem lFX10_64 : Cond.fieldLink RX10 64 "RingDomino" "errorPosition" "I" ∈ lw_tbl := tb2 _ (List.mem_of_getElem? (i := 115) rfl)
theorem lML_144 : Cond.methodLink RL 144 yX10_columns ∈ lw_tbl := tb2 _ (List.mem_of_getElem? (i := 133) rfl)
theorem lML_146 : Cond.methodLink RL 146 yX10_rows ∈ lw_tbl := tb2 _ (List.mem_of_getElem? (i := 137) rfl)
theorem lML_142 : Cond.methodLink RL 142 yX10_tiles ∈ lw_tbl := tb2 _ (List.mem_of_getElem? (i := 141) rfl)
theorem lML_229 : Cond.methodLink RL 229 yX10_rounds ∈ lw_tbl := tb2 _ (List.mem_of_getElem? (i := 145) rfl)
theorem lML_184 : Cond.methodLink RL 184 yX10_placedTiles ∈ lw_tbl := tb2 _ (List.mem_of_getElem? (i := 149) rfl)
theorem lML_187 : Cond.methodLink RL 187 yX10_matches ∈ lw_tbl := tb2 _ (List.mem_of_getElem? (i := 153) rfl)
theorem lMX10_134 : Cond.methodLink RX10 134 yX1_countMatches ∈ lw_tbl := tb2 _ (List.mem_of_getElem? (i := 157) rfl)
theorem lMX1_126 : Cond.methodLink RX1 126 yX1_matchesOn ∈ lw_tbl := tb2 _ (List.mem_of_getElem? (i := 161) rfl)
theorem lML_193 : Cond.methodLink RL 193 yX10_points ∈ lw_tbl := tb2 _ (List.mem_of_getElem? (i := 165) rfl)
theorem lMX10_137 : Cond.methodLink RX10 137 yX1_countPoints ∈ lw_tbl := tb2 _ (List.mem_of_getElem? (i := 169) rfl)
theorem lMX1_132 : Cond.methodLink RX1 132 yX1_sumOfMatches ∈ lw_tbl := tb2 _ (List.mem_of_getElem? (i := 173) rfl)
theorem lMX1_117 : Cond.methodLink RX1 117 yJ9_max_7cf53 ∈ lw_tbl := tb2 _ (List.mem_of_getElem? (i := 177) rfl)
theorem lMX1_135 : Cond.methodLink RX1 135 yX1_countRings ∈ lw_tbl := tb2 _ (List.mem_of_getElem? (i := 180) rfl)
theorem lMX1_129 : Cond.methodLink RX1 129 yX1_isEncircled ∈ lw_tbl := tb2 _ (List.mem_of_getElem? (i := 184) rfl)
theorem lML_190 : Cond.methodLink RL 190 yX10_rings ∈ lw_tbl := tb2 _ (List.mem_of_getElem? (i := 188) rfl)
theorem lMX10_140 : Cond.methodLink RX10 140 yX1_countRings ∈ lw_tbl := tb2 _ (List.mem_of_getElem? (i := 192) rfl)
theorem lML_196 : Cond.methodLink RL 196 yX10_groups ∈ lw_tbl := tb2 _ (List.mem_of_getElem? (i := 193) rfl)
theorem lMX10_143 : Cond.methodLink RX10 143 yX1_countGroups ∈ lw_tbl := tb2 _ (List.mem_of_getElem? (i := 197) rfl)
theorem lMX1_138 : Cond.methodLink RX1 138 yX1_markGroup ∈ lw_tbl := tb2 _ (List.mem_of_getElem? (i := 201) rfl)
theorem lML_162 : Cond.methodLink RL 162 yX10_hasTile ∈ lw_tbl := tb2 _ (List.mem_of_getElem? (i := 205) rfl)
theorem lMX10_146 : Cond.methodLink RX10 146 yX10_requireCell ∈ lw_tbl := tb2 _ (List.mem_of_getElem? (i := 209) rfl)
theorem lML_165 : Cond.methodLink RL 165 yX10_tileAt ∈ lw_tbl := tb3 _ (List.mem_of_getElem? (i := 40) rfl)
theorem lMX10_153 : Cond.methodLink RX10 153 yX10_requireTileOn ∈ lw_tbl := tb3 _ (List.mem_of_getElem? (i := 44) rfl)
theorem lML_181 : Cond.methodLink RL 181 yX10_numberAt ∈ lw_tbl := tb3 _ (List.mem_of_getElem? (i := 64) rfl)
theorem lMX10_156 : Cond.methodLink RX10 156 yX10_requireEdge ∈ lw_tbl := tb3 _ (List.mem_of_getElem? (i := 68) rfl)
theorem lMX10_162 : Cond.methodLink RX10 162 yX1_numberOf ∈ lw_tbl := tb3 _ (List.mem_of_getElem? (i := 73) rfl)
theorem lML_156 : Cond.methodLink RL 156 yX10_matchesOf ∈ lw_tbl := tb3 _ (List.mem_of_getElem? (i := 74) rfl)
theorem lMX10_166 : Cond.methodLink RX10 166 yX1_matchesOn ∈ lw_tbl := tb3 _ (List.mem_of_getElem? (i := 78) rfl)
theorem lML_159 : Cond.methodLink RL 159 yX10_isRing ∈ lw_tbl := tb3 _ (List.mem_of_getElem? (i := 79) rfl)
theorem lMX10_169 : Cond.methodLink RX10 169 yX1_isEncircled ∈ lw_tbl := tb3 _ (List.mem_of_getElem? (i := 83) rfl)
theorem lML_168 : Cond.methodLink RL 168 yX10_isPlaced ∈ lw_tbl := tb3 _ (List.mem_of_getElem? (i := 84) rfl)
theorem lMX10_172 : Cond.methodLink RX10 172 yX10_requireTile ∈ lw_tbl := tb3 _ (List.mem_of_getElem? (i := 88) rfl)
theorem lMX10_288 : Cond.methodLink RX10 288 yX1_knows ∈ lw_tbl := tb3 _ (List.mem_of_getElem? (i := 92) rfl)
theorem lMX10_175 : Cond.methodLink RX10 175 yX1_lies ∈ lw_tbl := tb3 _ (List.mem_of_getElem? (i := 97) rfl)
theorem lMX1_105 : Cond.methodLink RX1 105 yX1_knows ∈ lw_tbl := tb3 _ (List.mem_of_getElem? (i := 101) rfl)
theorem lML_171 : Cond.methodLink RL 171 yX10_cellOf ∈ lw_tbl := tb3 _ (List.mem_of_getElem? (i := 102) rfl)
theorem lMX10_178 : Cond.methodLink RX10 178 yX10_requireLying ∈ lw_tbl := tb3 _ (List.mem_of_getElem? (i := 106) rfl)
theorem lML_174 : Cond.methodLink RL 174 yX10_turnOf ∈ lw_tbl := tb3 _ (List.mem_of_getElem? (i := 111) rfl)
theorem lML_199 : Cond.methodLink RL 199 yX10_fits ∈ lw_tbl := tb3 _ (List.mem_of_getElem? (i := 115) rfl)
theorem lMX10_184 : Cond.methodLink RX10 184 yX10_requireWay ∈ lw_tbl := tb3 _ (List.mem_of_getElem? (i := 119) rfl)
theorem lMX10_188 : Cond.methodLink RX10 188 yX1_fitsSo ∈ lw_tbl := tb3 _ (List.mem_of_getElem? (i := 123) rfl)
theorem lMX1_109 : Cond.methodLink RX1 109 yX1_turnsFitting ∈ lw_tbl := tb3 _ (List.mem_of_getElem? (i := 127) rfl)
theorem lML_202 : Cond.methodLink RL 202 yX10_edgeAgainst ∈ lw_tbl := tb3 _ (List.mem_of_getElem? (i := 131) rfl)
theorem lMX10_192 : Cond.methodLink RX10 192 yX1_firstClash ∈ lw_tbl := tb3 _ (List.mem_of_getElem? (i := 135) rfl)
theorem lML_208 : Cond.methodLink RL 208 yX10_waysOf ∈ lw_tbl := tb3 _ (List.mem_of_getElem? (i := 139) rfl)
theorem lMX10_195 : Cond.methodLink RX10 195 yX1_countWays ∈ lw_tbl := tb3 _ (List.mem_of_getElem? (i := 143) rfl)
theorem lMX1_112 : Cond.methodLink RX1 112 yJ6_bitCount_0f7a4 ∈ lw_tbl := tb3 _ (List.mem_of_getElem? (i := 147) rfl)
theorem lCJ6_265 : Cond.constant RJ6 265 1431655765 ∈ lw_tbl := tb3 _ (List.mem_of_getElem? (i := 150) rfl)
theorem lCJ6_266 : Cond.constant RJ6 266 858993459 ∈ lw_tbl := tb3 _ (List.mem_of_getElem? (i := 151) rfl)
theorem lCJ6_267 : Cond.constant RJ6 267 252645135 ∈ lw_tbl := tb3 _ (List.mem_of_getElem? (i := 152) rfl)
theorem lML_211 : Cond.methodLink RL 211 yX10_isLeftover ∈ lw_tbl := tb3 _ (List.mem_of_getElem? (i := 153) rfl)
theorem lMX10_198 : Cond.methodLink RX10 198 yX1_firstCell ∈ lw_tbl := tb3 _ (List.mem_of_getElem? (i := 157) rfl)
theorem lML_111 : Cond.methodLink RL 111 yX10_putTile ∈ lw_tbl := tb3 _ (List.mem_of_getElem? (i := 161) rfl)
theorem lMX10_211 : Cond.methodLink RX10 211 yX1_pointsFor ∈ lw_tbl := tb3 _ (List.mem_of_getElem? (i := 166) rfl)
theorem lMX10_214 : Cond.methodLink RX10 214 yX1_put ∈ lw_tbl := tb3 _ (List.mem_of_getElem? (i := 170) rfl)
theorem lML_115 : Cond.methodLink RL 115 yX10_takeTile ∈ lw_tbl := tb3 _ (List.mem_of_getElem? (i := 174) rfl)
theorem lMX10_217 : Cond.methodLink RX10 217 yX1_lift ∈ lw_tbl := tb3 _ (List.mem_of_getElem? (i := 178) rfl)
theorem lML_87 : Cond.methodLink RL 87 yX10_playRounds ∈ lw_tbl := tb3 _ (List.mem_of_getElem? (i := 182) rfl)
theorem lMX10_227 : Cond.methodLink RX10 227 yX10_requireRounds ∈ lw_tbl := tb3 _ (List.mem_of_getElem? (i := 186) rfl)
theorem lMX10_230 : Cond.methodLink RX10 230 yX2_playRound ∈ lw_tbl := tb3 _ (List.mem_of_getElem? (i := 206) rfl)
theorem lMX2_46 : Cond.methodLink RX2 46 yX2_carriesOut ∈ lw_tbl := tb3 _ (List.mem_of_getElem? (i := 210) rfl)
theorem lMX2_64 : Cond.methodLink RX2 64 yX1_knows ∈ lw_tbl := tb3 _ (List.mem_of_getElem? (i := 214) rfl)
theorem lMX2_74 : Cond.methodLink RX2 74 yX2_reckon ∈ lw_tbl := tb3 _ (List.mem_of_getElem? (i := 215) rfl)
theorem lMX2_146 : Cond.methodLink RX2 146 yX7_step ∈ lw_tbl := tb3 _ (List.mem_of_getElem? (i := 219) rfl)
theorem lFX7_72 : Cond.fieldLink RX7 72 "RingDomino$Kind" "END" "LRingDomino$Kind;" ∈ lw_tbl := tb3 _ (List.mem_of_getElem? (i := 223) rfl)
theorem lFX2_82 : Cond.fieldLink RX2 82 "RingDomino$1" "$SwitchMap$RingDomino$Kind" "[I" ∈ lw_tbl := tb3 _ (List.mem_of_getElem? (i := 224) rfl)
theorem lMX2_150 : Cond.methodLink RX2 150 yX7_operand ∈ lw_tbl := tb3 _ (List.mem_of_getElem? (i := 232) rfl)
theorem lMX2_153 : Cond.methodLink RX2 153 yX2_push ∈ lw_tbl := tb3 _ (List.mem_of_getElem? (i := 236) rfl)
theorem lMX2_159 : Cond.methodLink RX2 159 yX1_countMatches ∈ lw_tbl := tb4 _ (List.mem_of_getElem? (i := 0) rfl)
theorem lMX2_162 : Cond.methodLink RX2 162 yX1_countPoints ∈ lw_tbl := tb4 _ (List.mem_of_getElem? (i := 1) rfl)
theorem lMX2_165 : Cond.methodLink RX2 165 yX1_countRings ∈ lw_tbl := tb4 _ (List.mem_of_getElem? (i := 2) rfl)
theorem lMX2_168 : Cond.methodLink RX2 168 yX1_countWays ∈ lw_tbl := tb4 _ (List.mem_of_getElem? (i := 3) rfl)
theorem lMX2_129 : Cond.methodLink RX2 129 yX1_lies ∈ lw_tbl := tb4 _ (List.mem_of_getElem? (i := 4) rfl)
theorem lMX2_136 : Cond.methodLink RX2 136 yX1_firstCell ∈ lw_tbl := tb4 _ (List.mem_of_getElem? (i := 5) rfl)
theorem lMX2_78 : Cond.methodLink RX2 78 yX2_pop ∈ lw_tbl := tb4 _ (List.mem_of_getElem? (i := 6) rfl)
theorem lMX2_171 : Cond.methodLink RX2 171 yX2_combined ∈ lw_tbl := tb4 _ (List.mem_of_getElem? (i := 10) rfl)
theorem lMX2_175 : Cond.methodLink RX2 175 yJ9_min_7cf53 ∈ lw_tbl := tb4 _ (List.mem_of_getElem? (i := 13) rfl)
theorem lMX2_180 : Cond.methodLink RX2 180 yJ9_max_7cf53 ∈ lw_tbl := tb4 _ (List.mem_of_getElem? (i := 14) rfl)
theorem lMX2_183 : Cond.methodLink RX2 183 yX2_holdsBetween ∈ lw_tbl := tb4 _ (List.mem_of_getElem? (i := 15) rfl)
theorem lMX2_96 : Cond.methodLink RX2 96 yX2_puts ∈ lw_tbl := tb4 _ (List.mem_of_getElem? (i := 18) rfl)
theorem lMX2_108 : Cond.methodLink RX2 108 yX2_remainder ∈ lw_tbl := tb4 _ (List.mem_of_getElem? (i := 22) rfl)
theorem lMX2_187 : Cond.methodLink RX2 187 yJ9_floorMod_7cf53 ∈ lw_tbl := tb4 _ (List.mem_of_getElem? (i := 25) rfl)
theorem lMX2_121 : Cond.methodLink RX2 121 yX1_fitsSo ∈ lw_tbl := tb4 _ (List.mem_of_getElem? (i := 28) rfl)
theorem lMX2_125 : Cond.methodLink RX2 125 yX1_put ∈ lw_tbl := tb4 _ (List.mem_of_getElem? (i := 29) rfl)
theorem lMX2_99 : Cond.methodLink RX2 99 yX2_takes ∈ lw_tbl := tb4 _ (List.mem_of_getElem? (i := 30) rfl)
theorem lMX2_132 : Cond.methodLink RX2 132 yX1_lift ∈ lw_tbl := tb4 _ (List.mem_of_getElem? (i := 34) rfl)
theorem lMX2_102 : Cond.methodLink RX2 102 yX2_fitsIn ∈ lw_tbl := tb4 _ (List.mem_of_getElem? (i := 35) rfl)
theorem lMX2_140 : Cond.methodLink RX2 140 yX1_firstTurn ∈ lw_tbl := tb4 _ (List.mem_of_getElem? (i := 39) rfl)
theorem lML_226 : Cond.methodLink RL 226 yX10_pointsAfter ∈ lw_tbl := tb4 _ (List.mem_of_getElem? (i := 43) rfl)
theorem lMX10_233 : Cond.methodLink RX10 233 yX2_keep ∈ lw_tbl := tb4 _ (List.mem_of_getElem? (i := 47) rfl)
theorem lMX2_53 : Cond.methodLink RX2 53 yX1_keep ∈ lw_tbl := tb4 _ (List.mem_of_getElem? (i := 51) rfl)
theorem lMX10_236 : Cond.methodLink RX10 236 yX2_bringBack ∈ lw_tbl := tb4 _ (List.mem_of_getElem? (i := 58) rfl)
theorem lMX2_56 : Cond.methodLink RX2 56 yX1_bringBack ∈ lw_tbl := tb4 _ (List.mem_of_getElem? (i := 62) rfl)
theorem lMX1_148 : Cond.methodLink RX1 148 yX1_lift ∈ lw_tbl := tb4 _ (List.mem_of_getElem? (i := 66) rfl)
theorem lMX1_151 : Cond.methodLink RX1 151 yX1_put ∈ lw_tbl := tb4 _ (List.mem_of_getElem? (i := 67) rfl)
theorem lML_223 : Cond.methodLink RL 223 yX10_roundsUntilRing ∈ lw_tbl := tb4 _ (List.mem_of_getElem? (i := 68) rfl)
theorem lML_217 : Cond.methodLink RL 217 yX10_bestCell ∈ lw_tbl := tb4 _ (List.mem_of_getElem? (i := 72) rfl)
theorem lMX10_239 : Cond.methodLink RX10 239 yX1_richestCell ∈ lw_tbl := tb4 _ (List.mem_of_getElem? (i := 76) rfl)
theorem lMX1_120 : Cond.methodLink RX1 120 yX1_pointsFor ∈ lw_tbl := tb4 _ (List.mem_of_getElem? (i := 80) rfl)
theorem lMX10_220 : Cond.methodLink RX10 220 yX10_requireSome ∈ lw_tbl := tb4 _ (List.mem_of_getElem? (i := 81) rfl)
theorem lML_220 : Cond.methodLink RL 220 yX10_bestTurn ∈ lw_tbl := tb4 _ (List.mem_of_getElem? (i := 86) rfl)
theorem lMX10_223 : Cond.methodLink RX10 223 yX1_firstTurn ∈ lw_tbl := tb4 _ (List.mem_of_getElem? (i := 90) rfl)
theorem lML_214 : Cond.methodLink RL 214 yX10_bestTile ∈ lw_tbl := tb4 _ (List.mem_of_getElem? (i := 91) rfl)
theorem lMX10_242 : Cond.methodLink RX10 242 yX1_richestTile ∈ lw_tbl := tb4 _ (List.mem_of_getElem? (i := 95) rfl)
theorem lMX1_123 : Cond.methodLink RX1 123 yX1_richestCell ∈ lw_tbl := tb4 _ (List.mem_of_getElem? (i := 99) rfl)
theorem lML_152 : Cond.methodLink RL 152 yX10_digest ∈ lw_tbl := tb4 _ (List.mem_of_getElem? (i := 100) rfl)
theorem lCX10_248 : Cond.constantLong RX10 248 1009 ∈ lw_tbl := tb4 _ (List.mem_of_getElem? (i := 104) rfl)
theorem lCX10_250 : Cond.constantLong RX10 250 31 ∈ lw_tbl := tb4 _ (List.mem_of_getElem? (i := 105) rfl)
theorem lMX10_252 : Cond.methodLink RX10 252 yX10_columns ∈ lw_tbl := tb4 _ (List.mem_of_getElem? (i := 106) rfl)
theorem lMX10_254 : Cond.methodLink RX10 254 yX10_rows ∈ lw_tbl := tb4 _ (List.mem_of_getElem? (i := 107) rfl)
theorem lMX10_256 : Cond.methodLink RX10 256 yX10_tiles ∈ lw_tbl := tb4 _ (List.mem_of_getElem? (i := 108) rfl)
theorem lMX10_259 : Cond.methodLink RX10 259 yX10_rounds ∈ lw_tbl := tb4 _ (List.mem_of_getElem? (i := 109) rfl)
theorem lMX10_262 : Cond.methodLink RX10 262 yX10_placedTiles ∈ lw_tbl := tb4 _ (List.mem_of_getElem? (i := 110) rfl)
theorem lMX10_265 : Cond.methodLink RX10 265 yX10_matches ∈ lw_tbl := tb4 _ (List.mem_of_getElem? (i := 111) rfl)
theorem lMX10_268 : Cond.methodLink RX10 268 yX10_points ∈ lw_tbl := tb4 _ (List.mem_of_getElem? (i := 112) rfl)
theorem lMX10_271 : Cond.methodLink RX10 271 yX10_rings ∈ lw_tbl := tb4 _ (List.mem_of_getElem? (i := 113) rfl)
theorem lMX10_274 : Cond.methodLink RX10 274 yX10_groups ∈ lw_tbl := tb4 _ (List.mem_of_getElem? (i := 114) rfl)
theorem lMX10_277 : Cond.methodLink RX10 277 yX10_bestTile ∈ lw_tbl := tb4 _ (List.mem_of_getElem? (i := 115) rfl)
theorem lML_127 : Cond.methodLink RL 127 yX11_init ∈ lw_tbl := tb4 _ (List.mem_of_getElem? (i := 118) rfl)
theorem lFX11_7 : Cond.fieldLink RX11 7 "RingDominoLaw$Dice" "state" "I" ∈ lw_tbl := tb4 _ (List.mem_of_getElem? (i := 122) rfl)
theorem lML_35 : Cond.methodLink RL 35 yX11_next ∈ lw_tbl := tb4 _ (List.mem_of_getElem? (i := 126) rfl)
theorem lCX11_13 : Cond.constant RX11 13 1103515245 ∈ lw_tbl := tb4 _ (List.mem_of_getElem? (i := 130) rfl)
theorem lMX11_14 : Cond.methodLinkNest RX11 14 yL_below "RingDominoLaw" ∈ lw_tbl := tb4 _ (List.mem_of_getElem? (i := 131) rfl)
theorem lCL_7 : Cond.constant RL 7 2147483647 ∈ lw_tbl := tb4 _ (List.mem_of_getElem? (i := 134) rfl)
theorem lML_104 : Cond.methodLink RL 104 yX12_board ∈ lw_tbl := tb4 _ (List.mem_of_getElem? (i := 135) rfl)
theorem lML_177 : Cond.methodLink RL 177 yX12_beside ∈ lw_tbl := tb4 _ (List.mem_of_getElem? (i := 139) rfl)
theorem lFX12_36 : Cond.fieldLink RX12 36 "RingDominoLaw$Game" "WAY" "[[I" ∈ lw_tbl := tb4 _ (List.mem_of_getElem? (i := 143) rfl)
theorem lML_205 : Cond.methodLink RL 205 yX12_many ∈ lw_tbl := tb4 _ (List.mem_of_getElem? (i := 145) rfl)
theorem lMX12_39 : Cond.methodLink RX12 39 yX12_beside ∈ lw_tbl := tb4 _ (List.mem_of_getElem? (i := 149) rfl)
theorem lML_232 : Cond.methodLink RL 232 yX12_play ∈ lw_tbl := tb4 _ (List.mem_of_getElem? (i := 150) rfl)
theorem lMX12_63 : Cond.methodLink RX12 63 yX14_isDone ∈ lw_tbl := tb4 _ (List.mem_of_getElem? (i := 154) rfl)
theorem lMX14_80 : Cond.methodLink RX14 80 yX13_value ∈ lw_tbl := tb4 _ (List.mem_of_getElem? (i := 158) rfl)
theorem lMX13_103 : Cond.methodLink RX13 103 yX12_counts ∈ lw_tbl := tb4 _ (List.mem_of_getElem? (i := 162) rfl)
theorem lMX12_59 : Cond.methodLink RX12 59 yX12_board ∈ lw_tbl := tb4 _ (List.mem_of_getElem? (i := 166) rfl)
theorem lMX12_47 : Cond.methodLink RX12 47 yX12_many ∈ lw_tbl := tb4 _ (List.mem_of_getElem? (i := 167) rfl)
theorem lMX12_43 : Cond.methodLink RX12 43 yX12_number ∈ lw_tbl := tb4 _ (List.mem_of_getElem? (i := 168) rfl)
theorem lMX13_113 : Cond.methodLink RX13 113 yX12_board ∈ lw_tbl := tb4 _ (List.mem_of_getElem? (i := 172) rfl)
theorem lMX13_116 : Cond.methodLink RX13 116 yX12_ways ∈ lw_tbl := tb4 _ (List.mem_of_getElem? (i := 173) rfl)
theorem lMX12_55 : Cond.methodLink RX12 55 yX12_fits ∈ lw_tbl := tb4 _ (List.mem_of_getElem? (i := 177) rfl)
theorem lMX12_51 : Cond.methodLink RX12 51 yX12_against ∈ lw_tbl := tb4 _ (List.mem_of_getElem? (i := 181) rfl)
theorem lMX13_120 : Cond.methodLink RX13 120 yX13_value ∈ lw_tbl := tb4 _ (List.mem_of_getElem? (i := 185) rfl)
theorem lMX13_128 : Cond.methodLink RX13 128 yX13_both ∈ lw_tbl := tb4 _ (List.mem_of_getElem? (i := 186) rfl)
theorem lMX14_84 : Cond.methodLink RX14 84 yX12_fit ∈ lw_tbl := tb4 _ (List.mem_of_getElem? (i := 189) rfl)
theorem lMX14_91 : Cond.methodLink RX14 91 yX14_rest ∈ lw_tbl := tb4 _ (List.mem_of_getElem? (i := 193) rfl)
theorem lMX14_98 : Cond.methodLink RX14 98 yX12_board ∈ lw_tbl := tb4 _ (List.mem_of_getElem? (i := 196) rfl)
theorem lMX14_102 : Cond.methodLink RX14 102 yX12_fits ∈ lw_tbl := tb4 _ (List.mem_of_getElem? (i := 197) rfl)
theorem lML_234 : Cond.methodLink RL 234 yX12_isSame ∈ lw_tbl := tb4 _ (List.mem_of_getElem? (i := 198) rfl)
theorem lMX12_71 : Cond.methodLink RX12 71 yX12_counts ∈ lw_tbl := tb4 _ (List.mem_of_getElem? (i := 202) rfl)
theorem lMX12_74 : Cond.methodLink RX12 74 yX10_columns ∈ lw_tbl := tb4 _ (List.mem_of_getElem? (i := 203) rfl)
theorem lMX12_78 : Cond.methodLink RX12 78 yX10_rows ∈ lw_tbl := tb4 _ (List.mem_of_getElem? (i := 204) rfl)
theorem lMX12_80 : Cond.methodLink RX12 80 yX10_tiles ∈ lw_tbl := tb4 _ (List.mem_of_getElem? (i := 205) rfl)
theorem lMX12_82 : Cond.methodLink RX12 82 yX10_rounds ∈ lw_tbl := tb4 _ (List.mem_of_getElem? (i := 206) rfl)
theorem lMX12_84 : Cond.methodLink RX12 84 yX10_matches ∈ lw_tbl := tb4 _ (List.mem_of_getElem? (i := 207) rfl)
theorem lMX12_87 : Cond.methodLink RX12 87 yX10_points ∈ lw_tbl := tb4 _ (List.mem_of_getElem? (i := 208) rfl)
theorem lMX12_90 : Cond.methodLink RX12 90 yX10_rings ∈ lw_tbl := tb4 _ (List.mem_of_getElem? (i := 209) rfl)
theorem lMX12_93 : Cond.methodLink RX12 93 yX10_placedTiles ∈ lw_tbl := tb4 _ (List.mem_of_getElem? (i := 210) rfl)
theorem lMX12_96 : Cond.methodLink RX12 96 yX10_groups ∈ lw_tbl := tb4 _ (List.mem_of_getElem? (i := 211) rfl)
theorem lMX12_99 : Cond.methodLink RX12 99 yX12_groups ∈ lw_tbl := tb4 _ (List.mem_of_getElem? (i := 212) rfl)
theorem lMX12_100 : Cond.methodLink RX12 100 yX10_meanMatch ∈ lw_tbl := tb4 _ (List.mem_of_getElem? (i := 216) rfl)
theorem lMX10_245 : Cond.methodLink RX10 245 yX1_sumOfMatches ∈ lw_tbl := tb4 _ (List.mem_of_getElem? (i := 220) rfl)
theorem lMX12_104 : Cond.methodLink RX12 104 yX10_hasTile ∈ lw_tbl := tb4 _ (List.mem_of_getElem? (i := 221) rfl)
theorem lMX12_108 : Cond.methodLink RX12 108 yX10_isRing ∈ lw_tbl := tb4 _ (List.mem_of_getElem? (i := 222) rfl)
theorem lMX12_111 : Cond.methodLink RX12 111 yX10_matchesOf ∈ lw_tbl := tb4 _ (List.mem_of_getElem? (i := 223) rfl)
theorem lMX12_115 : Cond.methodLink RX12 115 yX10_tileAt ∈ lw_tbl := tb4 _ (List.mem_of_getElem? (i := 224) rfl)
theorem lMX12_118 : Cond.methodLink RX12 118 yX10_numberAt ∈ lw_tbl := tb4 _ (List.mem_of_getElem? (i := 225) rfl)
theorem lMX12_121 : Cond.methodLink RX12 121 yX10_isPlaced ∈ lw_tbl := tb4 _ (List.mem_of_getElem? (i := 226) rfl)
theorem lMX12_124 : Cond.methodLink RX12 124 yX10_cellOf ∈ lw_tbl := tb4 _ (List.mem_of_getElem? (i := 227) rfl)
theorem lMX12_127 : Cond.methodLink RX12 127 yX10_turnOf ∈ lw_tbl := tb4 _ (List.mem_of_getElem? (i := 228) rfl)
theorem lML_121 : Cond.methodLink RL 121 yL_cell ∈ lw_tbl := tb4 _ (List.mem_of_getElem? (i := 229) rfl)
theorem lCL_8 : Cond.constant RL 8 790386105 ∈ lw_tbl := tb4 _ (List.mem_of_getElem? (i := 232) rfl)
theorem lML_138 : Cond.methodLink RL 138 yL_taught ∈ lw_tbl := tb4 _ (List.mem_of_getElem? (i := 233) rfl)
theorem lML_9 : Cond.methodLink RL 9 yJ0_length_8abf5 ∈ lw_tbl := tb4 _ (List.mem_of_getElem? (i := 236) rfl)
theorem lMJ0_335 : Cond.methodLink RJ0 335 yJ0_coder_7d493 ∈ lw_tbl := tb5 _ (List.mem_of_getElem? (i := 0) rfl)
theorem lFJ0_38 : Cond.fieldLink RJ0 38 "java/lang/String" "COMPACT_STRINGS" "Z" ∈ lw_tbl := tb5 _ (List.mem_of_getElem? (i := 4) rfl)
theorem lML_15 : Cond.methodLink RL 15 yJ0_charAt_5068e ∈ lw_tbl := tb5 _ (List.mem_of_getElem? (i := 6) rfl)
theorem lMJ0_492 : Cond.methodLink RJ0 492 yJ0_isLatin1_aae02 ∈ lw_tbl := tb5 _ (List.mem_of_getElem? (i := 10) rfl)
theorem lMJ0_495 : Cond.methodLink RJ0 495 yJ1_charAt_3b067 ∈ lw_tbl := tb5 _ (List.mem_of_getElem? (i := 14) rfl)
theorem lMJ1_9 : Cond.methodLink RJ1 9 yJ0_checkIndex_df160 ∈ lw_tbl := tb5 _ (List.mem_of_getElem? (i := 17) rfl)
theorem lFJ0_1053 : Cond.fieldLink RJ0 1053 "jdk/internal/util/Preconditions" "SIOOBE_FORMATTER" "Ljava/util/function/BiFunction;" ∈ lw_tbl := tb5 _ (List.mem_of_getElem? (i := 20) rfl)
theorem lMJ0_1059 : Cond.methodLink RJ0 1059 yJ3_checkIndex_8e157 ∈ lw_tbl := tb5 _ (List.mem_of_getElem? (i := 22) rfl)
theorem lMJ0_498 : Cond.methodLink RJ0 498 yJ2_charAt_3b067 ∈ lw_tbl := tb5 _ (List.mem_of_getElem? (i := 25) rfl)
theorem lMJ2_67 : Cond.methodLink RJ2 67 yJ2_checkIndex_2214a ∈ lw_tbl := tb5 _ (List.mem_of_getElem? (i := 28) rfl)
theorem lMJ2_48 : Cond.methodLink RJ2 48 yJ2_length_9d52b ∈ lw_tbl := tb5 _ (List.mem_of_getElem? (i := 31) rfl)
theorem lMJ2_414 : Cond.methodLink RJ2 414 yJ0_checkIndex_df160 ∈ lw_tbl := tb5 _ (List.mem_of_getElem? (i := 34) rfl)
theorem lMJ2_71 : Cond.methodLink RJ2 71 yJ2_getChar_3b067 ∈ lw_tbl := tb5 _ (List.mem_of_getElem? (i := 35) rfl)
theorem lFJ2_44 : Cond.fieldLink RJ2 44 "java/lang/StringUTF16" "$assertionsDisabled" "Z" ∈ lw_tbl := tb5 _ (List.mem_of_getElem? (i := 38) rfl)
theorem lFJ2_59 : Cond.fieldLink RJ2 59 "java/lang/StringUTF16" "HI_BYTE_SHIFT" "I" ∈ lw_tbl := tb5 _ (List.mem_of_getElem? (i := 40) rfl)
theorem lFJ2_63 : Cond.fieldLink RJ2 63 "java/lang/StringUTF16" "LO_BYTE_SHIFT" "I" ∈ lw_tbl := tb5 _ (List.mem_of_getElem? (i := 42) rfl)
theorem lML_19 : Cond.methodLink RL 19 yX10_feed ∈ lw_tbl := tb5 _ (List.mem_of_getElem? (i := 44) rfl)
theorem lMX10_68 : Cond.methodLink RX10 68 yX8_hasRoomFor ∈ lw_tbl := tb5 _ (List.mem_of_getElem? (i := 48) rfl)
theorem lMX10_79 : Cond.methodLink RX10 79 yX8_append ∈ lw_tbl := tb5 _ (List.mem_of_getElem? (i := 53) rfl)
theorem lML_25 : Cond.methodLink RL 25 yX10_trim ∈ lw_tbl := tb5 _ (List.mem_of_getElem? (i := 57) rfl)
theorem lML_29 : Cond.methodLink RL 29 yX10_teach ∈ lw_tbl := tb5 _ (List.mem_of_getElem? (i := 62) rfl)
theorem lMX10_91 : Cond.methodLink RX10 91 yX9_cutTape ∈ lw_tbl := tb5 _ (List.mem_of_getElem? (i := 66) rfl)
theorem lMX9_35 : Cond.methodLink RX9 35 yX8_behindBlanks ∈ lw_tbl := tb5 _ (List.mem_of_getElem? (i := 70) rfl)
theorem lMX8_17 : Cond.methodLink RX8 17 yX8_byteAt ∈ lw_tbl := tb5 _ (List.mem_of_getElem? (i := 74) rfl)
theorem lMX9_44 : Cond.methodLink RX9 44 yX9_endOfToken ∈ lw_tbl := tb5 _ (List.mem_of_getElem? (i := 78) rfl)
theorem lMX9_69 : Cond.methodLink RX9 69 yX8_isLetter ∈ lw_tbl := tb5 _ (List.mem_of_getElem? (i := 82) rfl)
theorem lMX9_73 : Cond.methodLink RX9 73 yX8_behindWord ∈ lw_tbl := tb5 _ (List.mem_of_getElem? (i := 86) rfl)
theorem lMX8_21 : Cond.methodLink RX8 21 yX8_isLetter ∈ lw_tbl := tb5 _ (List.mem_of_getElem? (i := 90) rfl)
theorem lMX8_25 : Cond.methodLink RX8 25 yX8_isDigit ∈ lw_tbl := tb5 _ (List.mem_of_getElem? (i := 91) rfl)
theorem lMX9_76 : Cond.methodLink RX9 76 yX8_isDigit ∈ lw_tbl := tb5 _ (List.mem_of_getElem? (i := 95) rfl)
theorem lMX9_79 : Cond.methodLink RX9 79 yX8_behindDigits ∈ lw_tbl := tb5 _ (List.mem_of_getElem? (i := 96) rfl)
theorem lMX9_82 : Cond.methodLink RX9 82 yX8_byteAt ∈ lw_tbl := tb5 _ (List.mem_of_getElem? (i := 100) rfl)
theorem lMX9_47 : Cond.methodLink RX9 47 yX9_kindBetween ∈ lw_tbl := tb5 _ (List.mem_of_getElem? (i := 101) rfl)
theorem lFX9_51 : Cond.fieldLink RX9 51 "RingDomino$Kind" "WRONG" "LRingDomino$Kind;" ∈ lw_tbl := tb5 _ (List.mem_of_getElem? (i := 105) rfl)
theorem lFX9_85 : Cond.fieldLink RX9 85 "RingDomino$Kind" "NAME" "LRingDomino$Kind;" ∈ lw_tbl := tb5 _ (List.mem_of_getElem? (i := 107) rfl)
theorem lMX9_88 : Cond.methodLink RX9 88 yX9_kindWritten ∈ lw_tbl := tb5 _ (List.mem_of_getElem? (i := 109) rfl)
theorem lFX9_92 : Cond.fieldLinkNest RX9 92 "RingDomino$Kind" "ALL" "[LRingDomino$Kind;" "RingDomino" ∈ lw_tbl := tb5 _ (List.mem_of_getElem? (i := 113) rfl)
theorem lMX9_99 : Cond.methodLink RX9 99 yX8_says ∈ lw_tbl := tb5 _ (List.mem_of_getElem? (i := 115) rfl)
theorem lMX8_28 : Cond.methodLink RX8 28 yJ0_length_8abf5 ∈ lw_tbl := tb5 _ (List.mem_of_getElem? (i := 119) rfl)
theorem lMX8_34 : Cond.methodLink RX8 34 yJ0_charAt_5068e ∈ lw_tbl := tb5 _ (List.mem_of_getElem? (i := 120) rfl)
theorem lFX9_62 : Cond.fieldLink RX9 62 "RingDomino$Kind" "NUMBER" "LRingDomino$Kind;" ∈ lw_tbl := tb5 _ (List.mem_of_getElem? (i := 121) rfl)
theorem lMX9_55 : Cond.methodLink RX9 55 yX9_add ∈ lw_tbl := tb5 _ (List.mem_of_getElem? (i := 123) rfl)
theorem lMX9_65 : Cond.methodLink RX9 65 yX9_numberBetween ∈ lw_tbl := tb5 _ (List.mem_of_getElem? (i := 127) rfl)
theorem lFX9_59 : Cond.fieldLink RX9 59 "RingDomino$Kind" "END" "LRingDomino$Kind;" ∈ lw_tbl := tb5 _ (List.mem_of_getElem? (i := 131) rfl)
theorem lMX10_94 : Cond.methodLink RX10 94 yX7_clear ∈ lw_tbl := tb5 _ (List.mem_of_getElem? (i := 132) rfl)
theorem lMX10_97 : Cond.methodLink RX10 97 yX3_readsGame ∈ lw_tbl := tb5 _ (List.mem_of_getElem? (i := 136) rfl)
theorem lMX3_32 : Cond.methodLink RX3 32 yX9_kindOf ∈ lw_tbl := tb5 _ (List.mem_of_getElem? (i := 140) rfl)
theorem lFX3_38 : Cond.fieldLink RX3 38 "RingDomino$Kind" "BOARD" "LRingDomino$Kind;" ∈ lw_tbl := tb5 _ (List.mem_of_getElem? (i := 144) rfl)
theorem lMX3_41 : Cond.methodLink RX3 41 yX3_accept ∈ lw_tbl := tb5 _ (List.mem_of_getElem? (i := 146) rfl)
theorem lFX3_45 : Cond.fieldLink RX3 45 "RingDomino$Kind" "NUMBER" "LRingDomino$Kind;" ∈ lw_tbl := tb5 _ (List.mem_of_getElem? (i := 150) rfl)
theorem lFX3_48 : Cond.fieldLink RX3 48 "RingDomino$Kind" "BY" "LRingDomino$Kind;" ∈ lw_tbl := tb5 _ (List.mem_of_getElem? (i := 151) rfl)
theorem lFX3_51 : Cond.fieldLink RX3 51 "RingDomino$Kind" "SEMICOLON" "LRingDomino$Kind;" ∈ lw_tbl := tb5 _ (List.mem_of_getElem? (i := 153) rfl)
theorem lFX3_54 : Cond.fieldLink RX3 54 "RingDomino$Kind" "TILE" "LRingDomino$Kind;" ∈ lw_tbl := tb5 _ (List.mem_of_getElem? (i := 155) rfl)
theorem lMX3_57 : Cond.methodLink RX3 57 yX3_readsTile ∈ lw_tbl := tb5 _ (List.mem_of_getElem? (i := 157) rfl)
theorem lFX3_64 : Cond.fieldLink RX3 64 "RingDomino$Kind" "NAME" "LRingDomino$Kind;" ∈ lw_tbl := tb5 _ (List.mem_of_getElem? (i := 161) rfl)
theorem lMX3_61 : Cond.methodLink RX3 61 yX3_readsOrder ∈ lw_tbl := tb5 _ (List.mem_of_getElem? (i := 162) rfl)
theorem lFX3_67 : Cond.fieldLink RX3 67 "RingDomino$Kind" "PUT" "LRingDomino$Kind;" ∈ lw_tbl := tb5 _ (List.mem_of_getElem? (i := 166) rfl)
theorem lFX3_70 : Cond.fieldLink RX3 70 "RingDomino$Kind" "TAKE" "LRingDomino$Kind;" ∈ lw_tbl := tb5 _ (List.mem_of_getElem? (i := 168) rfl)
theorem lFX3_73 : Cond.fieldLink RX3 73 "RingDomino$Kind" "FIT" "LRingDomino$Kind;" ∈ lw_tbl := tb5 _ (List.mem_of_getElem? (i := 170) rfl)
theorem lMX3_76 : Cond.methodLink RX3 76 yX7_beginOrder ∈ lw_tbl := tb5 _ (List.mem_of_getElem? (i := 172) rfl)
theorem lFX3_82 : Cond.fieldLink RX3 82 "RingDomino$Kind" "AT" "LRingDomino$Kind;" ∈ lw_tbl := tb5 _ (List.mem_of_getElem? (i := 176) rfl)
theorem lMX3_85 : Cond.methodLink RX3 85 yX3_readsSum ∈ lw_tbl := tb5 _ (List.mem_of_getElem? (i := 178) rfl)
theorem lMX3_157 : Cond.methodLink RX3 157 yX3_readsProduct ∈ lw_tbl := tb5 _ (List.mem_of_getElem? (i := 182) rfl)
theorem lMX3_166 : Cond.methodLink RX3 166 yX3_readsValue ∈ lw_tbl := tb5 _ (List.mem_of_getElem? (i := 186) rfl)
theorem lFX3_123 : Cond.fieldLink RX3 123 "RingDomino$1" "$SwitchMap$RingDomino$Kind" "[I" ∈ lw_tbl := tb5 _ (List.mem_of_getElem? (i := 190) rfl)
theorem lMX3_113 : Cond.methodLink RX3 113 yX7_add ∈ lw_tbl := tb5 _ (List.mem_of_getElem? (i := 192) rfl)
theorem lFX3_175 : Cond.fieldLink RX3 175 "RingDomino$Kind" "WAYS" "LRingDomino$Kind;" ∈ lw_tbl := tb5 _ (List.mem_of_getElem? (i := 196) rfl)
theorem lFX3_178 : Cond.fieldLink RX3 178 "RingDomino$Kind" "OF" "LRingDomino$Kind;" ∈ lw_tbl := tb5 _ (List.mem_of_getElem? (i := 198) rfl)
theorem lFX3_163 : Cond.fieldLink RX3 163 "RingDomino$Kind" "MINUS" "LRingDomino$Kind;" ∈ lw_tbl := tb5 _ (List.mem_of_getElem? (i := 200) rfl)
theorem lFX3_181 : Cond.fieldLink RX3 181 "RingDomino$Kind" "NEGATE" "LRingDomino$Kind;" ∈ lw_tbl := tb5 _ (List.mem_of_getElem? (i := 202) rfl)
theorem lFX3_184 : Cond.fieldLink RX3 184 "RingDomino$Kind" "OPEN" "LRingDomino$Kind;" ∈ lw_tbl := tb5 _ (List.mem_of_getElem? (i := 204) rfl)
theorem lFX3_187 : Cond.fieldLink RX3 187 "RingDomino$Kind" "CLOSE" "LRingDomino$Kind;" ∈ lw_tbl := tb5 _ (List.mem_of_getElem? (i := 206) rfl)
theorem lFX3_89 : Cond.fieldLink RX3 89 "RingDomino$Kind" "COMMA" "LRingDomino$Kind;" ∈ lw_tbl := tb5 _ (List.mem_of_getElem? (i := 208) rfl)
theorem lFX3_169 : Cond.fieldLink RX3 169 "RingDomino$Kind" "TIMES" "LRingDomino$Kind;" ∈ lw_tbl := tb5 _ (List.mem_of_getElem? (i := 210) rfl)
theorem lFX3_172 : Cond.fieldLink RX3 172 "RingDomino$Kind" "OVER" "LRingDomino$Kind;" ∈ lw_tbl := tb5 _ (List.mem_of_getElem? (i := 212) rfl)
theorem lFX3_160 : Cond.fieldLink RX3 160 "RingDomino$Kind" "PLUS" "LRingDomino$Kind;" ∈ lw_tbl := tb5 _ (List.mem_of_getElem? (i := 214) rfl)
theorem lFX3_92 : Cond.fieldLink RX3 92 "RingDomino$Kind" "TURNED" "LRingDomino$Kind;" ∈ lw_tbl := tb5 _ (List.mem_of_getElem? (i := 216) rfl)
theorem lMX3_95 : Cond.methodLink RX3 95 yX7_beginTest ∈ lw_tbl := tb5 _ (List.mem_of_getElem? (i := 218) rfl)
theorem lFX3_98 : Cond.fieldLink RX3 98 "RingDomino$Kind" "WHEN" "LRingDomino$Kind;" ∈ lw_tbl := tb5 _ (List.mem_of_getElem? (i := 222) rfl)
theorem lMX3_101 : Cond.methodLink RX3 101 yX3_readsTest ∈ lw_tbl := tb5 _ (List.mem_of_getElem? (i := 224) rfl)
theorem lMX3_107 : Cond.methodLink RX3 107 yX3_readsBoth ∈ lw_tbl := tb5 _ (List.mem_of_getElem? (i := 228) rfl)
theorem lMX3_117 : Cond.methodLink RX3 117 yX3_readsSingle ∈ lw_tbl := tb5 _ (List.mem_of_getElem? (i := 232) rfl)
theorem lFX3_133 : Cond.fieldLink RX3 133 "RingDomino$Kind" "NOT" "LRingDomino$Kind;" ∈ lw_tbl := tb5 _ (List.mem_of_getElem? (i := 236) rfl)
theorem lFX3_136 : Cond.fieldLink RX3 136 "RingDomino$Kind" "OPEN_TEST" "LRingDomino$Kind;" ∈ lw_tbl := tb5 _ (List.mem_of_getElem? (i := 238) rfl)
theorem lFX3_139 : Cond.fieldLink RX3 139 "RingDomino$Kind" "CLOSE_TEST" "LRingDomino$Kind;" ∈ lw_tbl := tb6 _ (List.mem_of_getElem? (i := 0) rfl)
theorem lFX3_142 : Cond.fieldLink RX3 142 "RingDomino$Kind" "LESS" "LRingDomino$Kind;" ∈ lw_tbl := tb6 _ (List.mem_of_getElem? (i := 2) rfl)
theorem lFX3_145 : Cond.fieldLink RX3 145 "RingDomino$Kind" "MORE" "LRingDomino$Kind;" ∈ lw_tbl := tb6 _ (List.mem_of_getElem? (i := 4) rfl)
theorem lFX3_148 : Cond.fieldLink RX3 148 "RingDomino$Kind" "EQUAL" "LRingDomino$Kind;" ∈ lw_tbl := tb6 _ (List.mem_of_getElem? (i := 6) rfl)
theorem lFX3_151 : Cond.fieldLink RX3 151 "RingDomino$Kind" "AT_MOST" "LRingDomino$Kind;" ∈ lw_tbl := tb6 _ (List.mem_of_getElem? (i := 8) rfl)
theorem lFX3_154 : Cond.fieldLink RX3 154 "RingDomino$Kind" "AT_LEAST" "LRingDomino$Kind;" ∈ lw_tbl := tb6 _ (List.mem_of_getElem? (i := 10) rfl)
theorem lFX3_120 : Cond.fieldLink RX3 120 "RingDomino$Kind" "AND" "LRingDomino$Kind;" ∈ lw_tbl := tb6 _ (List.mem_of_getElem? (i := 12) rfl)
theorem lFX3_110 : Cond.fieldLink RX3 110 "RingDomino$Kind" "OR" "LRingDomino$Kind;" ∈ lw_tbl := tb6 _ (List.mem_of_getElem? (i := 14) rfl)
theorem lMX3_104 : Cond.methodLink RX3 104 yX7_endOrder ∈ lw_tbl := tb6 _ (List.mem_of_getElem? (i := 16) rfl)
theorem lMX10_101 : Cond.methodLink RX10 101 yX5_firstError ∈ lw_tbl := tb6 _ (List.mem_of_getElem? (i := 20) rfl)
theorem lMX5_47 : Cond.methodLink RX5 47 yX5_errorAtToken ∈ lw_tbl := tb6 _ (List.mem_of_getElem? (i := 24) rfl)
theorem lMX5_57 : Cond.methodLink RX5 57 yX9_kindOf ∈ lw_tbl := tb6 _ (List.mem_of_getElem? (i := 28) rfl)
theorem lFX5_61 : Cond.fieldLink RX5 61 "RingDomino$1" "$SwitchMap$RingDomino$Kind" "[I" ∈ lw_tbl := tb6 _ (List.mem_of_getElem? (i := 29) rfl)
theorem lMX5_69 : Cond.methodLink RX5 69 yX5_tileNamed ∈ lw_tbl := tb6 _ (List.mem_of_getElem? (i := 31) rfl)
theorem lMX5_89 : Cond.methodLink RX5 89 yX9_areSameWords ∈ lw_tbl := tb6 _ (List.mem_of_getElem? (i := 35) rfl)
theorem lMX9_103 : Cond.methodLink RX9 103 yX8_saysSame ∈ lw_tbl := tb6 _ (List.mem_of_getElem? (i := 39) rfl)
theorem lMX5_72 : Cond.methodLink RX5 72 yX5_errorOfName ∈ lw_tbl := tb6 _ (List.mem_of_getElem? (i := 43) rfl)
theorem lFX5_82 : Cond.fieldLink RX5 82 "RingDomino$Kind" "TILE" "LRingDomino$Kind;" ∈ lw_tbl := tb6 _ (List.mem_of_getElem? (i := 47) rfl)
theorem lMX5_85 : Cond.methodLink RX5 85 yX9_setValue ∈ lw_tbl := tb6 _ (List.mem_of_getElem? (i := 48) rfl)
theorem lMX5_76 : Cond.methodLink RX5 76 yX9_valueOf ∈ lw_tbl := tb6 _ (List.mem_of_getElem? (i := 52) rfl)
theorem lMX5_79 : Cond.methodLink RX5 79 yX5_errorOfNumber ∈ lw_tbl := tb6 _ (List.mem_of_getElem? (i := 56) rfl)
theorem lFX5_93 : Cond.fieldLink RX5 93 "RingDomino$Kind" "BOARD" "LRingDomino$Kind;" ∈ lw_tbl := tb6 _ (List.mem_of_getElem? (i := 60) rfl)
theorem lMX5_96 : Cond.methodLink RX5 96 yX7_addSide ∈ lw_tbl := tb6 _ (List.mem_of_getElem? (i := 61) rfl)
theorem lMX5_100 : Cond.methodLink RX5 100 yX7_addTileNumber ∈ lw_tbl := tb6 _ (List.mem_of_getElem? (i := 65) rfl)
theorem lMX5_51 : Cond.methodLink RX5 51 yX7_resolve ∈ lw_tbl := tb6 _ (List.mem_of_getElem? (i := 69) rfl)
theorem lMX7_66 : Cond.methodLink RX7 66 yX9_valueOf ∈ lw_tbl := tb6 _ (List.mem_of_getElem? (i := 73) rfl)
theorem lMX10_111 : Cond.methodLink RX10 111 yX9_startOf ∈ lw_tbl := tb6 _ (List.mem_of_getElem? (i := 74) rfl)
theorem lMX10_115 : Cond.methodLink RX10 115 yX2_begin ∈ lw_tbl := tb6 _ (List.mem_of_getElem? (i := 78) rfl)
theorem lMX2_32 : Cond.methodLink RX2 32 yX7_copy ∈ lw_tbl := tb6 _ (List.mem_of_getElem? (i := 82) rfl)
theorem lMX7_81 : Cond.methodLink RX7 81 yX6_copy ∈ lw_tbl := tb6 _ (List.mem_of_getElem? (i := 87) rfl)
theorem lML_131 : Cond.methodLink RL 131 yL_drawn ∈ lw_tbl := tb6 _ (List.mem_of_getElem? (i := 91) rfl)
theorem lML_34 : Cond.methodLinkNest RL 34 yX12_init "RingDominoLaw" ∈ lw_tbl := tb6 _ (List.mem_of_getElem? (i := 96) rfl)
theorem lFX12_7 : Cond.fieldLink RX12 7 "RingDominoLaw$Game" "columns" "I" ∈ lw_tbl := tb6 _ (List.mem_of_getElem? (i := 104) rfl)
theorem lFX14_88 : Cond.fieldLink RX14 88 "RingDominoLaw$Game" "columns" "I" ∈ lw_tbl := tb6 _ (List.mem_of_getElem? (i := 105) rfl)
theorem lFL_40 : Cond.fieldLink RL 40 "RingDominoLaw$Game" "columns" "I" ∈ lw_tbl := tb6 _ (List.mem_of_getElem? (i := 106) rfl)
theorem lFX13_107 : Cond.fieldLink RX13 107 "RingDominoLaw$Game" "columns" "I" ∈ lw_tbl := tb6 _ (List.mem_of_getElem? (i := 107) rfl)
theorem lFX12_13 : Cond.fieldLink RX12 13 "RingDominoLaw$Game" "rows" "I" ∈ lw_tbl := tb6 _ (List.mem_of_getElem? (i := 108) rfl)
theorem lFX14_95 : Cond.fieldLink RX14 95 "RingDominoLaw$Game" "rows" "I" ∈ lw_tbl := tb6 _ (List.mem_of_getElem? (i := 109) rfl)
theorem lFL_44 : Cond.fieldLink RL 44 "RingDominoLaw$Game" "rows" "I" ∈ lw_tbl := tb6 _ (List.mem_of_getElem? (i := 110) rfl)
theorem lFX13_110 : Cond.fieldLink RX13 110 "RingDominoLaw$Game" "rows" "I" ∈ lw_tbl := tb6 _ (List.mem_of_getElem? (i := 111) rfl)
theorem lFX12_18 : Cond.fieldLink RX12 18 "RingDominoLaw$Game" "tiles" "[[I" ∈ lw_tbl := tb6 _ (List.mem_of_getElem? (i := 112) rfl)
theorem lFX14_74 : Cond.fieldLink RX14 74 "RingDominoLaw$Game" "tiles" "[[I" ∈ lw_tbl := tb6 _ (List.mem_of_getElem? (i := 113) rfl)
theorem lFL_64 : Cond.fieldLink RL 64 "RingDominoLaw$Game" "tiles" "[[I" ∈ lw_tbl := tb6 _ (List.mem_of_getElem? (i := 114) rfl)
theorem lFX13_124 : Cond.fieldLink RX13 124 "RingDominoLaw$Game" "tiles" "[[I" ∈ lw_tbl := tb6 _ (List.mem_of_getElem? (i := 115) rfl)
theorem lFX13_98 : Cond.fieldLink RX13 98 "RingDominoLaw$Game" "rounds" "I" ∈ lw_tbl := tb6 _ (List.mem_of_getElem? (i := 116) rfl)
theorem lFX12_33 : Cond.fieldLink RX12 33 "RingDominoLaw$Game" "rounds" "I" ∈ lw_tbl := tb6 _ (List.mem_of_getElem? (i := 117) rfl)
theorem lFX12_24 : Cond.fieldLink RX12 24 "RingDominoLaw$Game" "orders" "[LRingDominoLaw$Order;" ∈ lw_tbl := tb6 _ (List.mem_of_getElem? (i := 118) rfl)
theorem lFL_76 : Cond.fieldLink RL 76 "RingDominoLaw$Game" "orders" "[LRingDominoLaw$Order;" ∈ lw_tbl := tb6 _ (List.mem_of_getElem? (i := 119) rfl)
theorem lML_49 : Cond.methodLink RL 49 yJ4_append_15ec4 ∈ lw_tbl := tb6 _ (List.mem_of_getElem? (i := 132) rfl)
theorem lMJ4_29 : Cond.methodLink RJ4 29 yJ5_append_cf1ce ∈ lw_tbl := tb6 _ (List.mem_of_getElem? (i := 136) rfl)
theorem lMJ5_204 : Cond.methodLink RJ5 204 yJ5_appendNull_278bc ∈ lw_tbl := tb6 _ (List.mem_of_getElem? (i := 140) rfl)
theorem lMJ5_100 : Cond.methodLink RJ5 100 yJ5_ensureCapacityInternal_d00df ∈ lw_tbl := tb6 _ (List.mem_of_getElem? (i := 144) rfl)
theorem lMJ5_104 : Cond.methodLink RJ5 104 yJ5_newCapacity_0f7a4 ∈ lw_tbl := tb6 _ (List.mem_of_getElem? (i := 148) rfl)
theorem lMJ5_114 : Cond.methodLink RJ5 114 yJ8_newLength_cabcc ∈ lw_tbl := tb6 _ (List.mem_of_getElem? (i := 152) rfl)
theorem lMJ8_194 : Cond.methodLink RJ8 194 yJ9_max_7cf53 ∈ lw_tbl := tb6 _ (List.mem_of_getElem? (i := 155) rfl)
theorem lCJ8_200 : Cond.constant RJ8 200 2147483639 ∈ lw_tbl := tb6 _ (List.mem_of_getElem? (i := 156) rfl)
theorem lMJ8_201 : Cond.methodLink RJ8 201 yJ8_hugeLength_7cf53 ∈ lw_tbl := tb6 _ (List.mem_of_getElem? (i := 157) rfl)
theorem lCJ5_39 : Cond.constant RJ5 39 2147483647 ∈ lw_tbl := tb6 _ (List.mem_of_getElem? (i := 160) rfl)
theorem lMJ5_108 : Cond.methodLink RJ5 108 yJ7_copyOf_9075b ∈ lw_tbl := tb6 _ (List.mem_of_getElem? (i := 161) rfl)
theorem lMJ7_304 : Cond.methodLink RJ7 304 yJ9_min_7cf53 ∈ lw_tbl := tb6 _ (List.mem_of_getElem? (i := 171) rfl)
theorem lMJ5_83 : Cond.methodLink RJ5 83 yJ5_isLatin1_aae02 ∈ lw_tbl := tb6 _ (List.mem_of_getElem? (i := 173) rfl)
theorem lFJ5_18 : Cond.fieldLink RJ5 18 "java/lang/String" "COMPACT_STRINGS" "Z" ∈ lw_tbl := tb6 _ (List.mem_of_getElem? (i := 178) rfl)
theorem lMJ5_226 : Cond.methodLink RJ5 226 yJ2_putCharsAt_cd4e5 ∈ lw_tbl := tb6 _ (List.mem_of_getElem? (i := 179) rfl)
theorem lMJ2_96 : Cond.methodLink RJ2 96 yJ2_checkBoundsBeginEnd_d044e ∈ lw_tbl := tb6 _ (List.mem_of_getElem? (i := 182) rfl)
theorem lMJ2_241 : Cond.methodLink RJ2 241 yJ0_checkBoundsBeginEnd_23922 ∈ lw_tbl := tb6 _ (List.mem_of_getElem? (i := 185) rfl)
theorem lMJ0_1062 : Cond.methodLink RJ0 1062 yJ3_checkFromToIndex_8c36e ∈ lw_tbl := tb6 _ (List.mem_of_getElem? (i := 188) rfl)
theorem lMJ2_111 : Cond.methodLink RJ2 111 yJ2_putChar_b72d1 ∈ lw_tbl := tb6 _ (List.mem_of_getElem? (i := 191) rfl)
theorem lMJ5_32 : Cond.methodLink RJ5 32 yJ0_length_8abf5 ∈ lw_tbl := tb6 _ (List.mem_of_getElem? (i := 194) rfl)
theorem lMJ5_208 : Cond.methodLink RJ5 208 yJ5_putStringAt_47b60 ∈ lw_tbl := tb6 _ (List.mem_of_getElem? (i := 195) rfl)
theorem lMJ5_397 : Cond.methodLink RJ5 397 yJ5_inflateIfNeededFor_a7421 ∈ lw_tbl := tb6 _ (List.mem_of_getElem? (i := 199) rfl)
theorem lMJ5_40 : Cond.methodLink RJ5 40 yJ0_coder_7d493 ∈ lw_tbl := tb6 _ (List.mem_of_getElem? (i := 203) rfl)
theorem lMJ5_195 : Cond.methodLink RJ5 195 yJ5_inflate_da8c8 ∈ lw_tbl := tb6 _ (List.mem_of_getElem? (i := 204) rfl)
theorem lMJ5_26 : Cond.methodLink RJ5 26 yJ2_newBytesFor_77867 ∈ lw_tbl := tb6 _ (List.mem_of_getElem? (i := 208) rfl)
theorem lMJ2_11 : Cond.methodLink RJ2 11 yJ2_newBytesLength_0f7a4 ∈ lw_tbl := tb6 _ (List.mem_of_getElem? (i := 211) rfl)
theorem lCJ2_20 : Cond.constant RJ2 20 1073741823 ∈ lw_tbl := tb6 _ (List.mem_of_getElem? (i := 214) rfl)
theorem lMJ5_125 : Cond.methodLink RJ5 125 yJ1_inflate_0e8fd ∈ lw_tbl := tb6 _ (List.mem_of_getElem? (i := 215) rfl)
theorem lMJ1_240 : Cond.methodLink RJ1 240 yJ2_inflate_0e8fd ∈ lw_tbl := tb6 _ (List.mem_of_getElem? (i := 218) rfl)
theorem lMJ2_173 : Cond.methodLink RJ2 173 yJ2_checkBoundsOffCount_d044e ∈ lw_tbl := tb6 _ (List.mem_of_getElem? (i := 221) rfl)
theorem lMJ2_419 : Cond.methodLink RJ2 419 yJ0_checkBoundsOffCount_cabcc ∈ lw_tbl := tb6 _ (List.mem_of_getElem? (i := 224) rfl)
theorem lMJ0_1065 : Cond.methodLink RJ0 1065 yJ3_checkFromIndexSize_8c36e ∈ lw_tbl := tb6 _ (List.mem_of_getElem? (i := 227) rfl)
theorem lMJ5_399 : Cond.methodLink RJ5 399 yJ0_getBytes_840e7 ∈ lw_tbl := tb6 _ (List.mem_of_getElem? (i := 230) rfl)
theorem lMJ0_106 : Cond.methodLink RJ0 106 yJ1_inflate_0e8fd ∈ lw_tbl := tb6 _ (List.mem_of_getElem? (i := 235) rfl)
theorem lML_55 : Cond.methodLink RL 55 yJ4_append_bf812 ∈ lw_tbl := tb6 _ (List.mem_of_getElem? (i := 236) rfl)
theorem lMJ4_53 : Cond.methodLink RJ4 53 yJ5_append_c97b9 ∈ lw_tbl := tb7 _ (List.mem_of_getElem? (i := 0) rfl)
theorem lMJ5_245 : Cond.methodLink RJ5 245 yJ6_stringSize_0f7a4 ∈ lw_tbl := tb7 _ (List.mem_of_getElem? (i := 3) rfl)
theorem lMJ5_248 : Cond.methodLink RJ5 248 yJ6_getChars_ba4f3 ∈ lw_tbl := tb7 _ (List.mem_of_getElem? (i := 6) rfl)
theorem lFJ6_83 : Cond.fieldLink RJ6 83 "java/lang/Integer" "DigitOnes" "[B" ∈ lw_tbl := tb7 _ (List.mem_of_getElem? (i := 9) rfl)
theorem lFJ6_87 : Cond.fieldLink RJ6 87 "java/lang/Integer" "DigitTens" "[B" ∈ lw_tbl := tb7 _ (List.mem_of_getElem? (i := 11) rfl)
theorem lMJ5_251 : Cond.methodLink RJ5 251 yJ2_getChars_46870 ∈ lw_tbl := tb7 _ (List.mem_of_getElem? (i := 13) rfl)
theorem lMJ2_393 : Cond.methodLink RJ2 393 yJ2_getChars_ba4f3 ∈ lw_tbl := tb7 _ (List.mem_of_getElem? (i := 16) rfl)
theorem lFJ2_403 : Cond.fieldLink RJ2 403 "java/lang/Integer" "DigitOnes" "[B" ∈ lw_tbl := tb7 _ (List.mem_of_getElem? (i := 19) rfl)
theorem lFJ2_407 : Cond.fieldLink RJ2 407 "java/lang/Integer" "DigitTens" "[B" ∈ lw_tbl := tb7 _ (List.mem_of_getElem? (i := 20) rfl)
theorem lML_80 : Cond.methodLink RL 80 yX14_init ∈ lw_tbl := tb7 _ (List.mem_of_getElem? (i := 29) rfl)
theorem lMX14_15 : Cond.methodLink RX14 15 yX11_next ∈ lw_tbl := tb7 _ (List.mem_of_getElem? (i := 35) rfl)
theorem lMX14_28 : Cond.methodLink RX14 28 yX13_init ∈ lw_tbl := tb7 _ (List.mem_of_getElem? (i := 37) rfl)
theorem lFX13_7 : Cond.fieldLink RX13 7 "RingDominoLaw$Node" "sort" "I" ∈ lw_tbl := tb7 _ (List.mem_of_getElem? (i := 41) rfl)
theorem lFX13_13 : Cond.fieldLink RX13 13 "RingDominoLaw$Node" "n" "I" ∈ lw_tbl := tb7 _ (List.mem_of_getElem? (i := 42) rfl)
theorem lFX13_16 : Cond.fieldLink RX13 16 "RingDominoLaw$Node" "a" "LRingDominoLaw$Node;" ∈ lw_tbl := tb7 _ (List.mem_of_getElem? (i := 43) rfl)
theorem lFX13_20 : Cond.fieldLink RX13 20 "RingDominoLaw$Node" "b" "LRingDominoLaw$Node;" ∈ lw_tbl := tb7 _ (List.mem_of_getElem? (i := 44) rfl)
theorem lMX14_31 : Cond.methodLink RX14 31 yX13_sum ∈ lw_tbl := tb7 _ (List.mem_of_getElem? (i := 54) rfl)
theorem lMX13_23 : Cond.methodLink RX13 23 yX11_next ∈ lw_tbl := tb7 _ (List.mem_of_getElem? (i := 57) rfl)
theorem lCX13_29 : Cond.constant RX13 29 1000000 ∈ lw_tbl := tb7 _ (List.mem_of_getElem? (i := 59) rfl)
theorem lMX13_30 : Cond.methodLink RX13 30 yX13_init ∈ lw_tbl := tb7 _ (List.mem_of_getElem? (i := 60) rfl)
theorem lMX13_33 : Cond.methodLink RX13 33 yX13_sum ∈ lw_tbl := tb7 _ (List.mem_of_getElem? (i := 61) rfl)
theorem lMX14_35 : Cond.methodLink RX14 35 yX13_test ∈ lw_tbl := tb7 _ (List.mem_of_getElem? (i := 62) rfl)
theorem lMX13_37 : Cond.methodLink RX13 37 yX13_test ∈ lw_tbl := tb7 _ (List.mem_of_getElem? (i := 65) rfl)
theorem lFX14_21 : Cond.fieldLink RX14 21 "RingDominoLaw$Order" "does" "I" ∈ lw_tbl := tb7 _ (List.mem_of_getElem? (i := 66) rfl)
theorem lFX14_25 : Cond.fieldLink RX14 25 "RingDominoLaw$Order" "tile" "I" ∈ lw_tbl := tb7 _ (List.mem_of_getElem? (i := 67) rfl)
theorem lFX14_9 : Cond.fieldLink RX14 9 "RingDominoLaw$Order" "sums" "[LRingDominoLaw$Node;" ∈ lw_tbl := tb7 _ (List.mem_of_getElem? (i := 68) rfl)
theorem lFX14_38 : Cond.fieldLink RX14 38 "RingDominoLaw$Order" "test" "LRingDominoLaw$Node;" ∈ lw_tbl := tb7 _ (List.mem_of_getElem? (i := 69) rfl)
theorem lML_83 : Cond.methodLink RL 83 yX14_text ∈ lw_tbl := tb7 _ (List.mem_of_getElem? (i := 79) rfl)
theorem lMX14_45 : Cond.methodLink RX14 45 yJ4_init_da8c8 ∈ lw_tbl := tb7 _ (List.mem_of_getElem? (i := 86) rfl)
theorem lMJ4_1 : Cond.methodLink RJ4 1 yJ5_init_d00df ∈ lw_tbl := tb7 _ (List.mem_of_getElem? (i := 89) rfl)
theorem lFJ5_15 : Cond.fieldLink RJ5 15 "java/lang/AbstractStringBuilder" "value" "[B" ∈ lw_tbl := tb7 _ (List.mem_of_getElem? (i := 93) rfl)
theorem lFJ5_22 : Cond.fieldLink RJ5 22 "java/lang/AbstractStringBuilder" "coder" "B" ∈ lw_tbl := tb7 _ (List.mem_of_getElem? (i := 94) rfl)
theorem lFJ0_1048 : Cond.fieldLink RJ0 1048 "java/lang/AbstractStringBuilder" "maybeLatin1" "Z" ∈ lw_tbl := tb7 _ (List.mem_of_getElem? (i := 95) rfl)
theorem lFJ5_79 : Cond.fieldLink RJ5 79 "java/lang/AbstractStringBuilder" "count" "I" ∈ lw_tbl := tb7 _ (List.mem_of_getElem? (i := 96) rfl)
theorem lMX14_48 : Cond.methodLink RX14 48 yJ4_append_15ec4 ∈ lw_tbl := tb7 _ (List.mem_of_getElem? (i := 106) rfl)
theorem lMX14_52 : Cond.methodLink RX14 52 yX13_text ∈ lw_tbl := tb7 _ (List.mem_of_getElem? (i := 107) rfl)
theorem lMX13_42 : Cond.methodLink RX13 42 yJ4_init_da8c8 ∈ lw_tbl := tb7 _ (List.mem_of_getElem? (i := 112) rfl)
theorem lMX13_45 : Cond.methodLink RX13 45 yJ4_append_15ec4 ∈ lw_tbl := tb7 _ (List.mem_of_getElem? (i := 114) rfl)
theorem lMX13_49 : Cond.methodLink RX13 49 yJ4_append_bf812 ∈ lw_tbl := tb7 _ (List.mem_of_getElem? (i := 115) rfl)
theorem lMX13_52 : Cond.methodLink RX13 52 yJ4_toString_0e30d ∈ lw_tbl := tb7 _ (List.mem_of_getElem? (i := 116) rfl)
theorem lMJ4_137 : Cond.methodLink RJ4 137 yJ0_init_81219 ∈ lw_tbl := tb7 _ (List.mem_of_getElem? (i := 122) rfl)
theorem lMJ0_489 : Cond.methodLink RJ0 489 yJ0_init_db425 ∈ lw_tbl := tb7 _ (List.mem_of_getElem? (i := 125) rfl)
theorem lMJ0_552 : Cond.methodLink RJ0 552 yJ5_getValue_6d5f1 ∈ lw_tbl := tb7 _ (List.mem_of_getElem? (i := 129) rfl)
theorem lMJ0_549 : Cond.methodLink RJ0 549 yJ5_length_8abf5 ∈ lw_tbl := tb7 _ (List.mem_of_getElem? (i := 134) rfl)
theorem lMJ4_343 : Cond.methodLink RJ4 343 yJ5_length_8abf5 ∈ lw_tbl := tb7 _ (List.mem_of_getElem? (i := 140) rfl)
theorem lMJ0_1047 : Cond.methodLink RJ0 1047 yJ5_isLatin1_aae02 ∈ lw_tbl := tb7 _ (List.mem_of_getElem? (i := 142) rfl)
theorem lMJ0_54 : Cond.methodLink RJ0 54 yJ7_copyOfRange_39247 ∈ lw_tbl := tb7 _ (List.mem_of_getElem? (i := 143) rfl)
theorem lMJ7_339 : Cond.methodLink RJ7 339 yJ7_copyOfRangeByte_39247 ∈ lw_tbl := tb7 _ (List.mem_of_getElem? (i := 146) rfl)
theorem lMJ7_343 : Cond.methodLink RJ7 343 yJ7_checkLength_df160 ∈ lw_tbl := tb7 _ (List.mem_of_getElem? (i := 149) rfl)
theorem lMJ0_1051 : Cond.methodLink RJ0 1051 yJ2_compress_39247 ∈ lw_tbl := tb7 _ (List.mem_of_getElem? (i := 152) rfl)
theorem lMJ2_123 : Cond.methodLink RJ2 123 yJ2_compress_5af95 ∈ lw_tbl := tb7 _ (List.mem_of_getElem? (i := 155) rfl)
theorem lMJ2_126 : Cond.methodLink RJ2 126 yJ7_copyOfRange_39247 ∈ lw_tbl := tb7 _ (List.mem_of_getElem? (i := 158) rfl)
theorem lMJ0_47 : Cond.methodLink RJ0 47 yJ2_coderFromArrayLen_85cad ∈ lw_tbl := tb7 _ (List.mem_of_getElem? (i := 159) rfl)
theorem lFJ0_9 : Cond.fieldLink RJ0 9 "java/lang/String" "value" "[B" ∈ lw_tbl := tb7 _ (List.mem_of_getElem? (i := 162) rfl)
theorem lFJ0_15 : Cond.fieldLink RJ0 15 "java/lang/String" "coder" "B" ∈ lw_tbl := tb7 _ (List.mem_of_getElem? (i := 163) rfl)
theorem lMX13_60 : Cond.methodLink RX13 60 yX13_text ∈ lw_tbl := tb7 _ (List.mem_of_getElem? (i := 175) rfl)
theorem lFX13_87 : Cond.fieldLinkNest RX13 87 "RingDominoLaw" "WORDS" "[Ljava/lang/String;" "RingDominoLaw" ∈ lw_tbl := tb7 _ (List.mem_of_getElem? (i := 188) rfl)
theorem lFX13_95 : Cond.fieldLinkNest RX13 95 "RingDominoLaw" "SIGNS" "[Ljava/lang/String;" "RingDominoLaw" ∈ lw_tbl := tb7 _ (List.mem_of_getElem? (i := 191) rfl)
theorem lMX14_56 : Cond.methodLink RX14 56 yJ4_toString_0e30d ∈ lw_tbl := tb7 _ (List.mem_of_getElem? (i := 193) rfl)
theorem lMX14_63 : Cond.methodLink RX14 63 yJ4_append_bf812 ∈ lw_tbl := tb7 _ (List.mem_of_getElem? (i := 196) rfl)
theorem lML_148 : Cond.methodLink RL 148 yL_act ∈ lw_tbl := tb7 _ (List.mem_of_getElem? (i := 201) rfl)
theorem lML_90 : Cond.methodLink RL 90 yX12_play_ ∈ lw_tbl := tb7 _ (List.mem_of_getElem? (i := 205) rfl)
theorem lMX12_67 : Cond.methodLink RX12 67 yX12_play ∈ lw_tbl := tb7 _ (List.mem_of_getElem? (i := 209) rfl)
theorem lML_93 : Cond.methodLink RL 93 yX12_counts ∈ lw_tbl := tb7 _ (List.mem_of_getElem? (i := 210) rfl)
theorem lML_97 : Cond.methodLink RL 97 yX12_fit ∈ lw_tbl := tb7 _ (List.mem_of_getElem? (i := 211) rfl)
theorem lML_101 : Cond.methodLink RL 101 yX10_fitTile ∈ lw_tbl := tb7 _ (List.mem_of_getElem? (i := 212) rfl)
theorem lML_107 : Cond.methodLink RL 107 yX12_fits ∈ lw_tbl := tb7 _ (List.mem_of_getElem? (i := 216) rfl)
theorem lML_130 : Cond.methodLink RL 130 yJ4_init_da8c8 ∈ lw_tbl := tb7 _ (List.mem_of_getElem? (i := 218) rfl)
theorem lML_135 : Cond.methodLink RL 135 yJ4_toString_0e30d ∈ lw_tbl := tb7 _ (List.mem_of_getElem? (i := 219) rfl)
theorem lFX9_95 : Cond.fieldLink RX9 95 "RingDomino$Kind" "text" "Ljava/lang/String;" ∈ lw_tbl := tb7 _ (List.mem_of_getElem? (i := 230) rfl)
theorem lFJx29ce0_7 : Cond.fieldLink RJx29ce0 7 "java/lang/Enum" "ordinal" "I" ∈ lw_tbl := tb7 _ (List.mem_of_getElem? (i := 231) rfl)
