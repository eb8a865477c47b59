/-! THE ABSTRACT MACHINE: what the bytecode does, over cells that have numbers; tables by program (wip/whole/gen) -/
def im_RB : Nat := 1000
/-- cells made, their slots, the kind and size of each (0 .. 10 an object of that class, 11 ints, 12 Fishers, 13 Sheets), what they hold -/
abbrev im_M : Type := Nat × Nat × (Nat → Nat × Nat) × (Nat → Nat → Value)
abbrev im_C : Type := Nat × List (Option Value) × List Value × im_M
abbrev im_R : Type := im_C ⊕ ((Option Value × im_M) ⊕ (Nat × List Value × im_C))
abbrev im_E : Type := Nat × (Nat → Int32)
def im_cns : List String := [RX0, RX1, RX2, RX3, RX4, RX5, RX6, RX7, RX8, RX9, RX10, RL, "java/lang/Math", "java/lang/String", "java/lang/StringLatin1", "java/util/Arrays", "java/lang/StringUTF16", "java/lang/Character", "java/lang/System", "jdk/internal/util/Preconditions"]
def im_cn (o : Nat) : String := im_cns.getD o ""
def im_ms : List (Nat × MethodName × ByteArray × Nat × Option FieldType) := [(9, yX9_init, cX9_init, 2, none),
  (8, yX8_init, cX8_init, 2, none),
  (5, yX5_init, cX5_init, 1, none),
  (2, yX2_init, cX2_init, 1, none),
  (1, yX1_init, cX1_init, 1, none),
  (6, yX6_init, cX6_init, 1, none),
  (0, yX0_init, cX0_init, 1, none),
  (3, yX3_init, cX3_init, 1, none),
  (7, yX7_init, cX7_init, 1, none),
  (4, yX4_init, cX4_init, 1, none),
  (9, yX9_rain, cX9_rain, 5, some .int),
  (9, yX9_within, cX9_within, 3, some .boolean),
  (9, yX9_fail, cX9_fail, 2, some .int),
  (5, yX5_rainAt, cX5_rainAt, 4, some .int),
  (5, yX5_putRain, cX5_putRain, 5, none),
  (9, yX9_set, cX9_set, 4, some .int),
  (8, yX8_maySet, cX8_maySet, 2, some .boolean),
  (8, yX8_setting, cX8_setting, 2, some .int),
  (8, yX8_putSetting, cX8_putSetting, 3, none),
  (9, yX9_now, cX9_now, 2, some .int),
  (8, yX8_reading, cX8_reading, 2, some .int),
  (8, yX8_flow, cX8_flow, 1, some .int),
  (8, yX8_hourOfDay, cX8_hourOfDay, 1, some .int),
  (12, yJ9_floorMod_7cf53, cJ9_floorMod_7cf53, 3, some .int),
  (5, yX5_flowAt, cX5_flowAt, 4, some .int),
  (8, yX8_currentOf, cX8_currentOf, 2, some .int),
  (12, yJ9_max_7cf53, cJ9_max_7cf53, 2, some .int),
  (8, yX8_strikes, cX8_strikes, 1, some .int),
  (8, yX8_strikesBy, cX8_strikesBy, 2, some .int),
  (8, yX8_stands, cX8_stands, 1, some .boolean),
  (8, yX8_rung, cX8_rung, 5, some .int),
  (1, yX1_isText, cX1_isText, 1, some .boolean),
  (1, yX1_worth, cX1_worth, 7, some .int),
  (1, yX1_joined, cX1_joined, 3, some .int),
  (9, yX9_held, cX9_held, 3, some .int),
  (12, yJ9_min_7cf53, cJ9_min_7cf53, 2, some .int),
  (8, yX8_noteOf, cX8_noteOf, 2, some .int),
  (9, yX9_led, cX9_led, 3, some .int),
  (5, yX5_leading, cX5_leading, 6, some .int),
  (9, yX9_thing, cX9_thing, 4, some .int),
  (9, yX9_shows, cX9_shows, 3, some .int),
  (8, yX8_thingShows, cX8_thingShows, 2, some .boolean),
  (9, yX9_fisher, cX9_fisher, 4, some .int),
  (0, yX0_begin, cX0_begin, 3, none),
  (0, yX0_turnInto, cX0_turnInto, 2, none),
  (9, yX9_ofFisher, cX9_ofFisher, 4, some .int),
  (8, yX8_fisherAt, cX8_fisherAt, 2, some (.object RX0)),
  (8, yX8_trait, cX8_trait, 3, some .int),
  (8, yX8_hearsNow, cX8_hearsNow, 3, some .boolean),
  (0, yX0_hearsIt, cX0_hearsIt, 4, some .boolean),
  (8, yX8_bidNow, cX8_bidNow, 2, some .int),
  (2, yX2_above, cX2_above, 2, some .int),
  (2, yX2_reduced, cX2_reduced, 7, some .int),
  (2, yX2_below, cX2_below, 2, some .int),
  (0, yX0_bidAt, cX0_bidAt, 4, some .int),
  (0, yX0_wish, cX0_wish, 2, some .int),
  (9, yX9_change, cX9_change, 6, some .int),
  (9, yX9_become, cX9_become, 5, some .int),
  (9, yX9_as, cX9_as, 4, some .int),
  (0, yX0_isOf, cX0_isOf, 4, some .boolean),
  (9, yX9_bids, cX9_bids, 5, some .int),
  (9, yX9_sell, cX9_sell, 8, some .int),
  (9, yX9_feed, cX9_feed, 4, some .int),
  (6, yX6_append, cX6_append, 5, none),
  (9, yX9_text, cX9_text, 3, some .int),
  (3, yX3_faultOf, cX3_faultOf, 3, some .int),
  (1, yX1_clear, cX1_clear, 1, none),
  (3, yX3_readOr, cX3_readOr, 3, none),
  (3, yX3_readAnd, cX3_readAnd, 3, none),
  (3, yX3_readCompared, cX3_readCompared, 3, none),
  (3, yX3_readSum, cX3_readSum, 4, none),
  (3, yX3_readProduct, cX3_readProduct, 4, none),
  (3, yX3_readUnit, cX3_readUnit, 4, none),
  (3, yX3_next, cX3_next, 1, some .int),
  (6, yX6_byteAt, cX6_byteAt, 2, some .int),
  (13, yJ0_indexOf_0f7a4, cJ0_indexOf_0f7a4, 2, some .int),
  (13, yJ0_indexOf_7cf53, cJ0_indexOf_7cf53, 3, some .int),
  (13, yJ0_isLatin1_aae02, cJ0_isLatin1_aae02, 1, some .boolean),
  (13, yJ0_length_8abf5, cJ0_length_8abf5, 1, some .int),
  (13, yJ0_coder_7d493, cJ0_coder_7d493, 1, some .byte),
  (14, yJ1_indexOf_4cfef, cJ1_indexOf_4cfef, 4, some .int),
  (14, yJ1_canEncode_9a6ad, cJ1_canEncode_9a6ad, 1, some .boolean),
  (14, yJ1_indexOfChar_4cfef, cJ1_indexOfChar_4cfef, 6, some .int),
  (16, yJ2_indexOf_4cfef, cJ2_indexOf_4cfef, 4, some .int),
  (16, yJ2_indexOfChar_4cfef, cJ2_indexOfChar_4cfef, 4, some .int),
  (16, yJ2_checkBoundsBeginEnd_d044e, cJ2_checkBoundsBeginEnd_d044e, 3, none),
  (16, yJ2_length_9d52b, cJ2_length_9d52b, 1, some .int),
  (13, yJ0_checkBoundsBeginEnd_23922, cJ0_checkBoundsBeginEnd_23922, 3, none),
  (19, yJ3_checkFromToIndex_8c36e, cJ3_checkFromToIndex_8c36e, 4, some .int),
  (16, yJ2_indexOfCharUnsafe_4cfef, cJ2_indexOfCharUnsafe_4cfef, 5, some .int),
  (16, yJ2_getChar_3b067, cJ2_getChar_3b067, 2, some .char),
  (16, yJ2_indexOfSupplementary_4cfef, cJ2_indexOfSupplementary_4cfef, 7, some .int),
  (17, yJ11_isValidCodePoint_9a6ad, cJ11_isValidCodePoint_9a6ad, 2, some .boolean),
  (17, yJ11_highSurrogate_5068e, cJ11_highSurrogate_5068e, 1, some .char),
  (17, yJ11_lowSurrogate_5068e, cJ11_lowSurrogate_5068e, 1, some .char),
  (3, yX3_readNumber, cX3_readNumber, 4, none),
  (1, yX1_add, cX1_add, 2, none),
  (3, yX3_readClosing, cX3_readClosing, 1, none),
  (1, yX1_copyOf, cX1_copyOf, 2, none),
  (9, yX9_law, cX9_law, 5, some .int),
  (8, yX8_letOut, cX8_letOut, 5, some .int),
  (9, yX9_hours, cX9_hours, 2, some .int),
  (9, yX9_passHours, cX9_passHours, 4, some .int),
  (8, yX8_loosen, cX8_loosen, 4, none),
  (8, yX8_passHour, cX8_passHour, 6, none),
  (0, yX0_hark, cX0_hark, 3, none),
  (2, yX2_add, cX2_add, 3, none),
  (9, yX9_loose, cX9_loose, 2, some .int),
  (9, yX9_then, cX9_then, 3, some .int),
  (9, yX9_goAhead, cX9_goAhead, 3, none),
  (8, yX8_copyOf, cX8_copyOf, 3, none),
  (5, yX5_copyOf, cX5_copyOf, 2, none),
  (2, yX2_copyOf, cX2_copyOf, 2, none),
  (6, yX6_copyOf, cX6_copyOf, 2, none),
  (0, yX0_copyOf, cX0_copyOf, 2, none),
  (9, yX9_thenFisher, cX9_thenFisher, 5, some .int),
  (9, yX9_falls, cX9_falls, 3, some .int),
  (9, yX9_book, cX9_book, 3, some .int),
  (9, yX9_odds, cX9_odds, 3, some .long),
  (9, yX9_gateFor, cX9_gateFor, 5, some .int),
  (9, yX9_gateKeeps, cX9_gateKeeps, 6, some .boolean),
  (9, yX9_shown, cX9_shown, 4, some .int),
  (9, yX9_seed, cX9_seed, 3, some .int),
  (9, yX9_voice, cX9_voice, 5, some .int),
  (7, yX7_speak, cX7_speak, 5, some .int),
  (7, yX7_say, cX7_say, 6, some .int),
  (7, yX7_bodyOf, cX7_bodyOf, 5, some .int),
  (7, yX7_worked, cX7_worked, 5, some .int),
  (9, yX9_trace, cX9_trace, 2, some .int),
  (9, yX9_sheet, cX9_sheet, 5, some .int),
  (9, yX9_sheetAt, cX9_sheetAt, 2, some (.object RX4)),
  (4, yX4_lay, cX4_lay, 3, none),
  (15, yJ7_fill_53178, cJ7_fill_53178, 4, none),
  (9, yX9_put, cX9_put, 5, some .int),
  (4, yX4_isMissing, cX4_isMissing, 1, some .boolean),
  (4, yX4_lowest, cX4_lowest, 2, some .int),
  (9, yX9_move, cX9_move, 8, some .int),
  (4, yX4_holds, cX4_holds, 3, some .boolean),
  (9, yX9_rains, cX9_rains, 5, some .int),
  (9, yX9_judge, cX9_judge, 4, some .int),
  (9, yX9_image, cX9_image, 1, some .int),
  (9, yX9_restore, cX9_restore, 1, some .int),
  (9, yX9_tell, cX9_tell, 3, some .int),
  (9, yX9_check, cX9_check, 3, some .int),
  (9, yX9_count, cX9_count, 2, some .int),
  (8, yX8_heardOfAll, cX8_heardOfAll, 3, some .int),
  (8, yX8_pursesOfAll, cX8_pursesOfAll, 3, some .int),
  (9, yX9_told, cX9_told, 2, some .int),
  (10, yX10_init, cX10_init, 2, none),
  (10, yX10_feed, cX10_feed, 5, some .int),
  (10, yX10_in, cX10_in, 6, some .boolean),
  (10, yX10_finds, cX10_finds, 2, some .int),
  (10, yX10_text, cX10_text, 5, some .int),
  (10, yX10_worked, cX10_worked, 5, some .int),
  (10, yX10_either, cX10_either, 3, some .int),
  (10, yX10_both, cX10_both, 3, some .int),
  (10, yX10_compared, cX10_compared, 4, some .int),
  (10, yX10_sum, cX10_sum, 4, some .int),
  (10, yX10_product, cX10_product, 4, some .int),
  (10, yX10_unit, cX10_unit, 5, some .int),
  (10, yX10_here, cX10_here, 1, some .int),
  (10, yX10_wrong, cX10_wrong, 1, some .int),
  (10, yX10_takes, cX10_takes, 2, some .boolean),
  (10, yX10_nameOf, cX10_nameOf, 2, some .int),
  (10, yX10_law, cX10_law, 5, some .int),
  (10, yX10_gives, cX10_gives, 6, some .int),
  (10, yX10_held, cX10_held, 3, some .int),
  (10, yX10_lesser, cX10_lesser, 2, some .int),
  (10, yX10_greater, cX10_greater, 2, some .int),
  (10, yX10_rain, cX10_rain, 5, some .int),
  (10, yX10_rainAt, cX10_rainAt, 3, some .int),
  (10, yX10_set, cX10_set, 5, some .int),
  (10, yX10_now, cX10_now, 2, some .int),
  (10, yX10_toldNow, cX10_toldNow, 2, some .int),
  (10, yX10_flowAt, cX10_flowAt, 4, some .int),
  (10, yX10_current, cX10_current, 1, some .int),
  (10, yX10_strikes, cX10_strikes, 1, some .int),
  (10, yX10_stands, cX10_stands, 1, some .boolean),
  (10, yX10_note, cX10_note, 2, some .int),
  (10, yX10_led, cX10_led, 4, some .int),
  (10, yX10_thing, cX10_thing, 4, some .int),
  (10, yX10_shows, cX10_shows, 3, some .int),
  (10, yX10_fisher, cX10_fisher, 4, some .int),
  (10, yX10_becomes, cX10_becomes, 4, none),
  (10, yX10_ofFisher, cX10_ofFisher, 3, some .int),
  (10, yX10_isFisher, cX10_isFisher, 2, some .boolean),
  (10, yX10_toldOf, cX10_toldOf, 3, some .int),
  (10, yX10_of, cX10_of, 3, some .int),
  (10, yX10_hears, cX10_hears, 5, some .boolean),
  (10, yX10_bidNow, cX10_bidNow, 2, some .int),
  (10, yX10_oddsOf, cX10_oddsOf, 5, some .int),
  (10, yX10_common, cX10_common, 5, some .int),
  (10, yX10_bidOf, cX10_bidOf, 7, some .int),
  (10, yX10_change, cX10_change, 6, some .int),
  (10, yX10_become, cX10_become, 4, some .int),
  (10, yX10_as, cX10_as, 4, some .int),
  (10, yX10_above, cX10_above, 1, some .int),
  (10, yX10_bids, cX10_bids, 4, some .int),
  (10, yX10_sell, cX10_sell, 6, some .int),
  (10, yX10_hours, cX10_hours, 2, some .int),
  (10, yX10_goes, cX10_goes, 4, some .int),
  (10, yX10_otherwise, cX10_otherwise, 3, none),
  (10, yX10_drawn, cX10_drawn, 1, some .int),
  (10, yX10_goesBy, cX10_goesBy, 6, none),
  (10, yX10_heardBy, cX10_heardBy, 3, none),
  (10, yX10_loose, cX10_loose, 2, some .int),
  (10, yX10_then, cX10_then, 4, some .int),
  (10, yX10_copies, cX10_copies, 3, none),
  (10, yX10_goesOn, cX10_goesOn, 3, none),
  (10, yX10_thenFisher, cX10_thenFisher, 5, some .int),
  (10, yX10_falls, cX10_falls, 4, some .int),
  (10, yX10_book, cX10_book, 3, some .int),
  (10, yX10_odds, cX10_odds, 3, some .long),
  (10, yX10_gateFor, cX10_gateFor, 5, some .int),
  (10, yX10_keeps, cX10_keeps, 7, some .boolean),
  (10, yX10_shown, cX10_shown, 5, some .int),
  (10, yX10_seed, cX10_seed, 3, some .int),
  (10, yX10_voice, cX10_voice, 5, some .int),
  (10, yX10_own, cX10_own, 1, some .int),
  (10, yX10_heard, cX10_heard, 3, some .int),
  (10, yX10_ran, cX10_ran, 2, none),
  (10, yX10_bid, cX10_bid, 4, some .int),
  (10, yX10_rows, cX10_rows, 3, some .int),
  (10, yX10_tells, cX10_tells, 4, some .int),
  (10, yX10_trace, cX10_trace, 2, some .int),
  (10, yX10_sheet, cX10_sheet, 5, some .int),
  (10, yX10_isSheet, cX10_isSheet, 1, some .boolean),
  (10, yX10_put, cX10_put, 4, some .int),
  (10, yX10_move, cX10_move, 7, some .int),
  (10, yX10_rains, cX10_rains, 4, some .int),
  (10, yX10_judge, cX10_judge, 3, some .int),
  (10, yX10_image, cX10_image, 1, some .int),
  (10, yX10_restore, cX10_restore, 1, some .int),
  (10, yX10_tell, cX10_tell, 2, some .int),
  (10, yX10_check, cX10_check, 4, some .int),
  (10, yX10_count, cX10_count, 2, some .int),
  (10, yX10_sumOf, cX10_sumOf, 4, some .int),
  (10, yX10_told, cX10_told, 2, some .int),
  (11, x, cL_law, 4, some .boolean)]
def im_md : Nat × MethodName × ByteArray × Nat × Option FieldType := (0, ⟨"", "", ""⟩, ⟨#[]⟩, 0, none)
def im_m (i : Nat) : Nat × MethodName × ByteArray × Nat × Option FieldType := im_ms.getD i im_md
def im_ow (i : Nat) : Nat := (im_m i).1
def im_y (i : Nat) : MethodName := (im_m i).2.1
def im_cc (i : Nat) : ByteArray := (im_m i).2.2.1
def im_ml (i : Nat) : Nat := (im_m i).2.2.2.1
def im_rt (i : Nat) : Option FieldType := (im_m i).2.2.2.2
/-- calls: class and entry; 0 static, 1 virtual, 2 a constructor, 3 and 4 the same of a nest mate (static, constructor), 5 of Object, 6 arraycopy; the method; how many arguments -/
def im_lks : List (Nat × Nat × Nat × Nat × Nat) := [(11, 9, 2, 0, 0), (9, 1, 5, 0, 0), (9, 9, 2, 1, 0), (8, 3, 5, 0, 0), (8, 11, 4, 2, 0), (5, 3, 5, 0, 0), (8, 20, 4, 3, 0), (2, 3, 5, 0, 0), (8, 27, 4, 4, 0), (1, 3, 5, 0, 0), (8, 37, 4, 5, 0), (6, 3, 5, 0, 0), (8, 68, 4, 6, 0), (0, 3, 5, 0, 0), (9, 24, 4, 7, 0), (3, 3, 5, 0, 0), (3, 11, 4, 4, 0), (9, 31, 4, 8, 0), (7, 3, 5, 0, 0), (9, 46, 4, 9, 0), (4, 3, 5, 0, 0), (11, 13, 1, 10, 3), (9, 56, 0, 11, 3), (9, 68, 1, 12, 1), (9, 76, 1, 13, 2), (5, 24, 3, 11, 3), (9, 81, 1, 14, 3), (11, 18, 1, 15, 2), (9, 85, 0, 16, 2), (8, 112, 3, 11, 3), (9, 89, 1, 17, 1), (9, 92, 1, 18, 2), (11, 23, 1, 19, 1), (9, 96, 1, 20, 1), (8, 120, 1, 21, 0), (8, 147, 1, 22, 0), (8, 141, 0, 23, 2), (8, 150, 1, 24, 1), (5, 28, 1, 13, 2), (8, 124, 1, 25, 1), (8, 153, 0, 26, 2), (8, 128, 1, 27, 0), (8, 156, 1, 28, 1), (8, 134, 1, 29, 0), (8, 159, 1, 30, 3), (8, 163, 1, 31, 0), (8, 166, 1, 32, 3), (1, 28, 0, 33, 3), (8, 169, 3, 34, 3), (9, 47, 0, 35, 2), (9, 53, 0, 26, 2), (8, 131, 1, 36, 1), (11, 28, 1, 37, 1), (9, 99, 1, 38, 1), (11, 32, 1, 39, 2), (11, 36, 1, 40, 0), (9, 105, 1, 41, 1), (11, 41, 1, 42, 2), (9, 117, 1, 43, 2), (0, 9, 1, 44, 1), (11, 45, 1, 45, 2), (9, 122, 1, 46, 1), (9, 126, 1, 47, 2), (8, 226, 1, 48, 1), (8, 195, 1, 49, 2), (8, 230, 1, 50, 1), (8, 199, 1, 51, 1), (2, 28, 3, 11, 3), (2, 32, 0, 52, 3), (8, 202, 1, 53, 1), (2, 36, 0, 26, 2), (8, 205, 1, 54, 2), (0, 52, 1, 55, 1), (0, 56, 3, 34, 3), (11, 49, 1, 56, 3), (11, 53, 1, 57, 2), (9, 139, 1, 44, 1), (11, 57, 1, 58, 2), (9, 143, 1, 59, 1), (0, 34, 3, 11, 3), (11, 61, 1, 60, 3), (9, 149, 1, 54, 2), (11, 65, 1, 61, 0), (9, 155, 1, 50, 1), (11, 71, 1, 62, 2), (9, 168, 1, 63, 2), (11, 76, 1, 64, 1), (9, 176, 1, 65, 2), (3, 36, 1, 66, 0), (3, 39, 1, 67, 1), (3, 52, 1, 68, 1), (3, 62, 1, 69, 1), (3, 65, 1, 70, 1), (3, 68, 1, 71, 1), (3, 71, 1, 72, 1), (3, 55, 1, 73, 0), (3, 48, 1, 74, 1), (6, 25, 3, 11, 3), (3, 74, 1, 75, 1), (13, 633, 1, 76, 2), (13, 492, 1, 77, 0), (13, 505, 1, 78, 0), (13, 335, 1, 79, 0), (13, 637, 0, 80, 4), (14, 88, 0, 81, 1), (14, 92, 0, 26, 2), (14, 38, 0, 35, 2), (14, 95, 0, 82, 4), (13, 640, 0, 83, 4), (16, 224, 0, 26, 2), (16, 183, 0, 35, 2), (16, 228, 0, 84, 4), (16, 96, 0, 85, 3), (16, 48, 0, 86, 1), (16, 241, 0, 87, 3), (13, 1062, 0, 88, 4), (16, 244, 0, 89, 4), (16, 71, 0, 90, 2), (16, 232, 0, 91, 4), (16, 164, 0, 92, 1), (16, 157, 0, 93, 1), (16, 161, 0, 94, 1), (3, 79, 3, 11, 3), (3, 83, 1, 95, 0), (3, 59, 1, 96, 1), (3, 86, 1, 97, 0), (9, 190, 1, 98, 1), (1, 18, 6, 0, 5), (11, 80, 1, 99, 4), (9, 195, 1, 30, 3), (9, 199, 1, 100, 3), (11, 85, 1, 101, 1), (9, 202, 1, 102, 2), (9, 209, 1, 103, 0), (8, 180, 1, 13, 2), (8, 191, 1, 14, 3), (9, 65, 1, 104, 0), (8, 172, 1, 105, 2), (0, 42, 1, 49, 2), (0, 46, 0, 35, 2), (8, 176, 1, 106, 1), (8, 183, 1, 100, 3), (8, 186, 0, 35, 2), (11, 89, 1, 107, 1), (11, 93, 1, 108, 2), (9, 215, 1, 109, 1), (9, 61, 1, 110, 1), (8, 69, 1, 111, 1), (5, 18, 6, 0, 5), (8, 73, 1, 112, 1), (2, 22, 6, 0, 5), (8, 76, 1, 98, 1), (8, 79, 1, 113, 1), (6, 15, 6, 0, 5), (8, 82, 1, 114, 1), (8, 88, 6, 0, 5), (11, 97, 1, 115, 3), (11, 101, 1, 116, 1), (9, 218, 1, 29, 0), (11, 105, 1, 117, 2), (11, 109, 1, 118, 2), (9, 234, 1, 51, 1), (9, 237, 1, 53, 1), (11, 114, 1, 119, 3), (9, 240, 1, 120, 4), (11, 118, 1, 121, 2), (11, 122, 1, 122, 1), (11, 126, 1, 123, 3), (9, 250, 1, 124, 4), (7, 32, 1, 125, 4), (7, 36, 0, 126, 2), (7, 44, 3, 11, 3), (7, 40, 1, 127, 3), (11, 130, 1, 128, 1), (11, 134, 1, 129, 3), (9, 258, 1, 130, 1), (9, 262, 1, 131, 2), (4, 19, 3, 34, 3), (4, 26, 0, 132, 2), (11, 138, 1, 133, 3), (9, 265, 1, 134, 0), (9, 272, 1, 135, 1), (11, 142, 1, 136, 5), (9, 278, 1, 137, 2), (9, 281, 6, 0, 5), (11, 147, 1, 138, 2), (11, 151, 1, 139, 1), (9, 287, 1, 27, 0), (9, 291, 1, 36, 1), (11, 155, 1, 140, 0), (11, 159, 1, 141, 0), (11, 163, 1, 142, 1), (11, 167, 1, 143, 0), (11, 171, 1, 144, 1), (9, 303, 1, 145, 0), (9, 306, 1, 146, 0), (11, 175, 1, 147, 1), (11, 12, 2, 148, 0), (10, 1, 5, 0, 0), (11, 75, 1, 149, 2), (10, 41, 0, 150, 3), (10, 104, 1, 151, 1), (11, 79, 1, 152, 1), (10, 109, 1, 153, 3), (10, 91, 1, 154, 0), (10, 66, 1, 155, 0), (10, 73, 1, 156, 0), (10, 76, 1, 157, 0), (10, 79, 1, 158, 0), (10, 82, 1, 159, 0), (10, 58, 1, 160, 0), (10, 88, 1, 161, 0), (10, 69, 1, 162, 1), (10, 94, 1, 163, 1), (11, 84, 1, 164, 4), (10, 123, 1, 165, 4), (10, 113, 0, 166, 3), (10, 116, 0, 167, 2), (10, 120, 0, 168, 2), (11, 17, 1, 169, 3), (10, 127, 1, 170, 2), (11, 22, 1, 171, 2), (11, 27, 1, 172, 1), (10, 162, 1, 173, 1), (10, 130, 1, 174, 1), (10, 137, 1, 175, 0), (10, 140, 1, 176, 0), (10, 133, 1, 177, 0), (10, 157, 1, 178, 0), (11, 31, 1, 179, 1), (11, 35, 1, 180, 2), (11, 40, 1, 181, 0), (11, 44, 1, 182, 2), (10, 169, 1, 183, 3), (11, 48, 1, 184, 2), (10, 191, 1, 185, 1), (10, 196, 1, 186, 2), (10, 173, 1, 187, 2), (10, 185, 1, 188, 1), (10, 188, 1, 189, 1), (10, 179, 1, 190, 2), (10, 176, 0, 191, 2), (10, 182, 1, 192, 3), (11, 52, 1, 193, 3), (11, 56, 1, 194, 2), (11, 60, 1, 195, 2), (10, 203, 0, 196, 1), (11, 64, 1, 197, 3), (11, 68, 1, 198, 0), (11, 88, 1, 199, 1), (10, 224, 1, 200, 2), (10, 221, 1, 201, 0), (10, 216, 1, 202, 0), (10, 212, 1, 203, 0), (10, 208, 1, 204, 0), (11, 92, 1, 205, 1), (11, 96, 1, 206, 2), (10, 228, 0, 207, 2), (10, 232, 1, 208, 1), (11, 100, 1, 209, 3), (11, 104, 1, 210, 1), (11, 108, 1, 211, 2), (11, 113, 1, 212, 2), (11, 117, 1, 213, 3), (10, 236, 1, 214, 4), (11, 121, 1, 215, 2), (11, 125, 1, 216, 1), (11, 129, 1, 217, 3), (10, 252, 1, 218, 0), (10, 249, 1, 219, 2), (10, 246, 1, 220, 1), (10, 255, 1, 221, 2), (10, 258, 1, 222, 2), (10, 261, 1, 223, 2), (11, 133, 1, 224, 1), (11, 137, 1, 225, 3), (10, 266, 0, 226, 1), (11, 141, 1, 227, 3), (11, 146, 1, 228, 5), (11, 150, 1, 229, 2), (11, 154, 1, 230, 1), (11, 158, 1, 231, 0), (11, 162, 1, 232, 0), (11, 166, 1, 233, 1), (11, 170, 1, 234, 0), (11, 174, 1, 235, 1), (10, 272, 1, 236, 1), (11, 178, 1, 237, 1)]
def im_lk (o x : Nat) : Option (Nat × Nat × Nat) := (im_lks.find? (fun e => e.1 == o && e.2.1 == x)).map (fun e => e.2.2)
/-- fields: class and entry; class, slot, final -/
def im_fls : List (Nat × Nat × Nat × Nat × Bool) := [(5, 9, 5, 0, true), (8, 117, 5, 0, true), (5, 15, 5, 1, true), (2, 9, 2, 0, true), (9, 226, 2, 0, true), (2, 15, 2, 1, true), (9, 231, 2, 1, true), (2, 18, 2, 2, false), (8, 138, 2, 2, false), (1, 9, 1, 0, true), (1, 15, 1, 1, true), (1, 24, 1, 2, false), (6, 9, 6, 0, true), (6, 21, 6, 1, false), (3, 43, 6, 1, false), (9, 163, 6, 1, false), (7, 19, 0, 0, false), (0, 28, 0, 0, false), (9, 136, 0, 0, false), (8, 208, 0, 0, false), (7, 25, 0, 1, false), (0, 31, 0, 1, false), (9, 146, 0, 1, false), (8, 211, 0, 1, false), (0, 15, 0, 2, false), (9, 130, 0, 2, false), (8, 214, 0, 2, false), (0, 19, 0, 3, false), (9, 133, 0, 3, false), (8, 217, 0, 3, false), (0, 22, 0, 4, false), (8, 220, 0, 4, false), (0, 25, 0, 5, false), (9, 152, 0, 5, false), (8, 223, 0, 5, false), (8, 12, 8, 0, true), (9, 72, 8, 0, true), (8, 21, 8, 1, true), (9, 222, 8, 1, true), (8, 28, 8, 2, true), (9, 180, 8, 2, true), (8, 32, 8, 3, true), (9, 184, 8, 3, true), (8, 38, 8, 4, true), (9, 159, 8, 4, true), (8, 44, 8, 5, true), (9, 113, 8, 5, true), (8, 85, 8, 6, false), (9, 109, 8, 6, false), (8, 48, 8, 7, true), (9, 102, 8, 7, true), (8, 52, 8, 8, true), (9, 300, 8, 8, true), (8, 94, 8, 9, false), (9, 297, 8, 9, false), (8, 97, 8, 10, false), (9, 206, 8, 10, false), (8, 55, 8, 11, false), (9, 212, 8, 11, false), (8, 59, 8, 12, false), (9, 244, 8, 12, false), (8, 100, 8, 13, false), (8, 103, 8, 14, false), (8, 106, 8, 15, false), (8, 109, 8, 16, false), (8, 62, 8, 17, false), (8, 65, 8, 18, false), (9, 247, 8, 18, false), (3, 12, 3, 0, true), (9, 187, 3, 0, true), (3, 24, 3, 1, false), (3, 20, 3, 2, false), (3, 28, 3, 3, false), (3, 32, 3, 4, false), (7, 9, 7, 0, true), (9, 255, 7, 0, true), (7, 15, 7, 1, false), (9, 254, 7, 1, false), (7, 24, 7, 2, false), (7, 28, 7, 3, false), (7, 29, 7, 4, false), (4, 9, 4, 0, true), (9, 269, 4, 0, true), (4, 15, 4, 1, false), (9, 275, 4, 1, false), (4, 23, 4, 2, false), (9, 268, 4, 2, false), (9, 10, 9, 0, true), (9, 16, 9, 1, true), (9, 19, 9, 2, true), (9, 25, 9, 3, true), (9, 32, 9, 4, true), (9, 38, 9, 5, true), (9, 42, 9, 6, true), (9, 294, 9, 7, false), (10, 7, 10, 0, true), (10, 13, 10, 1, true), (10, 16, 10, 2, true), (10, 269, 10, 3, false), (10, 19, 10, 4, true), (10, 55, 10, 5, false), (10, 45, 10, 6, false), (10, 49, 10, 7, false), (10, 52, 10, 8, false), (10, 85, 10, 9, false), (10, 62, 10, 10, false), (10, 22, 10, 11, true), (10, 25, 10, 12, true), (10, 240, 10, 13, false), (10, 243, 10, 14, false), (10, 28, 10, 15, true), (10, 31, 10, 16, true), (10, 34, 10, 17, true), (10, 37, 10, 18, true)]
def im_fl (o x : Nat) : Option (Nat × Nat × Bool) := (im_fls.find? (fun e => e.1 == o && e.2.1 == x)).map (fun e => e.2.2)
def im_kcs : List (Nat × Nat × Int32) := [(9, 60, -1000000000), (8, 116, 99999), (16, 227, 65536), (17, 110, 55232), (17, 76, 56320), (8, 190, 1103515245), (8, 189, 999999), (4, 32, 65535), (10, 40, -1000000000), (10, 215, 1103515245), (10, 211, 999999)]
def im_kss : List (Nat × Nat × Nat) := [(3, 18, 0), (9, 172, 1), (9, 174, 2)]
def im_kls : List (Nat × Nat × Int64) := [(10, 102, 8), (10, 107, 255), (10, 98, 48), (10, 100, 57), (10, 143, 2), (10, 145, 23), (10, 147, 9), (10, 149, 5), (10, 151, 600), (10, 153, 90), (10, 155, 99999), (10, 160, 12), (10, 165, 69), (10, 167, 99), (10, 194, 7), (10, 199, 9999), (10, 201, 6), (10, 206, 999), (10, 219, 240), (10, 264, 3), (11, 69, 4294967295)]
def im_kc (o x : Nat) : Option Int32 := (im_kcs.find? (fun e => e.1 == o && e.2.1 == x)).map (fun e => e.2.2)
def im_ks (o x : Nat) : Option Nat := (im_kss.find? (fun e => e.1 == o && e.2.1 == x)).map (fun e => e.2.2)
def im_kl (o x : Nat) : Option Int64 := (im_kls.find? (fun e => e.1 == o && e.2.1 == x)).map (fun e => e.2.2)
/-- statics: KIND_ABOVE, BODIES, COMPACT_STRINGS -/
def im_gss : List (Nat × Nat × Nat) := [(0, 38, 0), (13, 38, 2), (7, 48, 1), (7, 51, 0)]
def im_gs (o x : Nat) : Option Nat := (im_gss.find? (fun e => e.1 == o && e.2.1 == x)).map (fun e => e.2.2)
def im_nws : List (Nat × Nat × Nat) := [(11, 7, 9), (9, 7, 8), (8, 9, 5), (8, 18, 2), (8, 25, 1), (8, 35, 6), (8, 42, 0), (9, 22, 3), (3, 9, 1), (9, 29, 7), (9, 36, 4), (11, 10, 10)]
def im_nw (o x : Nat) : Option Nat := (im_nws.find? (fun e => e.1 == o && e.2.1 == x)).map (fun e => e.2.2)
def im_szs : List Nat := [6, 3, 3, 5, 3, 2, 2, 5, 19, 8, 19]
def im_tys : List (Nat → FieldType) := [tyX0, tyX1, tyX2, tyX3, tyX4, tyX5, tyX6, tyX7, tyX8, tyX9, tyX10]
def im_ty (ci k : Nat) : FieldType := (im_tys.getD ci (fun _ => .int)) k
def im_KA (j : Nat) : Int32 := ([-1, 0, 0, 0, 1, 2, 3] : List Int32).getD j 0
def im_BO (j : Nat) : Int32 := ([10, 11, 12, 13, 0, 20, 0, 0, 30, 0, 0, 0, 0, 0, 40, 0, 0, 50, 0, 0, 0, 0, 0, 60, 0, 0, 70, 71] : List Int32).getD j 0
def im_SB (j : Nat) : List Int32 := ([[], [99, 115, 108], [108, 102, 103]] : List (List Int32)).getD j []
/-- arrays that nobody writes: two tables, the script, the bytes of three texts: 0 ints, 1 bytes; how many; which -/
def im_ro (X : im_E) (j : Nat) : Option (Nat × Nat × (Nat → Int32)) := match j with
  | 0 => some (0, 7, im_KA)
  | 1 => some (0, 28, im_BO)
  | 2 => some (0, X.1, X.2)
  | 3 => some (1, 0, fun k => (im_SB 0).getD k 0)
  | 4 => some (1, 3, fun k => (im_SB 1).getD k 0)
  | 5 => some (1, 3, fun k => (im_SB 2).getD k 0)
  | _ => none
def im_up (μ : Nat → Nat → Value) (k i : Nat) (v : Value) : Nat → Nat → Value := fun a => if a = k then (fun b => if b = i then v else μ k b) else μ a
def im_int : Value → Int32
  | .int x => x
  | _ => 0
def im_rf : Value → Value
  | .ref k => .ref k
  | _ => .null
def im_go (b : Bool) (c : im_C) : Option im_R := if b = true then some (.inl c) else none
def im_jmp (pc : Nat) (off : Int) (f : Nat → Option im_R) : Option im_R := if 0 ≤ (pc : Int) + off then f ((pc : Int) + off).toNat else none
def im_ldI (ls : List (Option Value)) (k : Nat) (f : Int32 → Option im_R) : Option im_R := match ls[k]? with
  | some (some (.int x)) => f x
  | _ => none
def im_ldL (ls : List (Option Value)) (k : Nat) (f : Int64 → Option im_R) : Option im_R := match ls[k]? with
  | some (some (.long x)) => f x
  | _ => none
def im_ldA (ls : List (Option Value)) (k : Nat) (f : Value → Option im_R) : Option im_R := match ls[k]? with
  | some (some (.ref a)) => f (.ref a)
  | some (some .null) => f .null
  | _ => none
def im_cl (v : Option Value) : Option Value := match v with
  | some w => if w.category = 2 then none else some w
  | none => none
/-- a store of one slot: a long ahead of it, or of which it was the first half, is lost -/
def im_s1 (ls : List (Option Value)) (k : Nat) (v : Value) : List (Option Value) := match k with
  | 0 => ls.set 0 (some v)
  | j + 1 => (ls.set j ((ls[j]?).bind im_cl)).set (j + 1) (some v)
def im_i2 (st : List Value) (f : Int32 → Int32 → List Value → Option im_R) : Option im_R := match st with
  | .int y :: .int x :: r => f x y r
  | _ => none
def im_i1 (st : List Value) (f : Int32 → List Value → Option im_R) : Option im_R := match st with
  | .int x :: r => f x r
  | _ => none
def im_l2 (st : List Value) (f : Int64 → Int64 → List Value → Option im_R) : Option im_R := match st with
  | .long y :: .long x :: r => f x y r
  | _ => none
def im_l1 (st : List Value) (f : Int64 → List Value → Option im_R) : Option im_R := match st with
  | .long x :: r => f x r
  | _ => none
def im_li (st : List Value) (f : Int64 → Int32 → List Value → Option im_R) : Option im_R := match st with
  | .int y :: .long x :: r => f x y r
  | _ => none
def im_a1 (st : List Value) (f : Value → List Value → Option im_R) : Option im_R := match st with
  | .ref a :: r => f (.ref a) r
  | .null :: r => f .null r
  | _ => none
def im_cmp (c : ClassFile.Cond) (x y : Int32) : Bool := match c with
  | .eq => decide (x = y)
  | .ne => decide (¬ x = y)
  | .lt => decide (x < y)
  | .ge => decide (y ≤ x)
  | .gt => decide (y < x)
  | .le => decide (x ≤ y)
def im_csum (st : List Value) : Nat := (st.map fun v => v.category).sum
def im_al : List Value → List (Option Value)
  | [] => []
  | v :: vs => if v.category = 2 then some v :: none :: im_al vs else some v :: im_al vs
def im_ent (n : Nat) (as : List Value) : List (Option Value) := im_al as ++ List.replicate (n - (im_al as).length) none
/-- the cell of an object, an array -/
def im_obj (M : im_M) (a ci k : Nat) : Bool := decide (a < M.1) && decide (M.1 ≤ im_RB) && (M.2.2.1 a).1 == ci && decide (k < (M.2.2.1 a).2)
def im_arr (M : im_M) (a kd : Nat) (i : Int32) : Bool := decide (a < M.1) && decide (M.1 ≤ im_RB) && (M.2.2.1 a).1 == kd && !(decide (i < 0)) && decide (i.toNatClampNeg < (M.2.2.1 a).2)
def im_roA (X : im_E) (a kd : Nat) (i : Int32) : Option Int32 := if im_RB ≤ a then match im_ro X (a - im_RB) with
    | some (q, n, f) => if q = kd ∧ ¬ i < 0 ∧ i.toNatClampNeg < n then some (f i.toNatClampNeg) else none
    | none => none
  else none
def im_set (M : im_M) (k i : Nat) (v : Value) : im_M := (M.1, M.2.1, M.2.2.1, im_up M.2.2.2 k i v)
/-- a new cell -/
def im_new (M : im_M) (kd n : Nat) (f : Nat → Value) : im_M := (M.1 + 1, M.2.1 + n, (fun k => if k = M.1 then (kd, n) else M.2.2.1 k), (fun k => if k = M.1 then f else M.2.2.2 k))
def im_cpy (μ : Nat → Nat → Value) (a b sp dp n : Nat) : Nat → Nat → Value := fun k i => if k = b then .int (va_cpy (fun j => im_int (μ a j)) (fun j => im_int (μ b j)) sp dp n i) else μ k i
def im_putv (ty : FieldType) (v : Value) : Bool := match v with
  | .ref _ => fits ty v
  | .null => fits ty v
  | .int x => narrow ty (.int x) == .int x && fits ty (.int x)
  | _ => false
def im_call (i pc idx : Nat) (ls : List (Option Value)) (st : List Value) (M : im_M) : Option im_R := match im_lk (im_ow i) idx with
  | none => none
  | some (k, j, n) =>
    if k = 0 ∨ k = 3 then
      if n ≤ st.length ∧ im_csum (st.drop n) ≤ 8 then some (.inr (.inr (j, (st.take n).reverse, (pc + 3, ls, st.drop n, M)))) else none
    else if k = 6 then
      match st with
      | .int n :: .int dp :: .ref b :: .int sp :: .ref a :: r =>
        if im_csum r ≤ 8 ∧ M.1 ≤ im_RB ∧ a < M.1 ∧ b < M.1 ∧ (M.2.2.1 a).1 = 11 ∧ (M.2.2.1 b).1 = 11 ∧ ¬ sp < 0 ∧ ¬ dp < 0 ∧ ¬ n < 0 ∧ sp.toNatClampNeg + n.toNatClampNeg ≤ (M.2.2.1 a).2 ∧ dp.toNatClampNeg + n.toNatClampNeg ≤ (M.2.2.1 b).2 then
          some (.inl (pc + 3, ls, r, (M.1, M.2.1, M.2.2.1, im_cpy M.2.2.2 a b sp.toNatClampNeg dp.toNatClampNeg n.toNatClampNeg)))
        else none
      | _ => none
    else none
def im_vcall (i pc idx : Nat) (ls : List (Option Value)) (st : List Value) (M : im_M) : Option im_R := match im_lk (im_ow i) idx with
  | none => none
  | some (k, j, n) =>
    if k = 1 ∧ n ≤ st.length ∧ im_csum (st.drop (n + 1)) ≤ 8 then
      match st.drop n with
      | .ref a :: r => if (a < M.1 ∧ M.1 ≤ im_RB ∧ (M.2.2.1 a).1 < 11 ∧ im_ow j = (M.2.2.1 a).1) ∨ (im_RB + 6 ≤ a ∧ a < im_RB + 9 ∧ im_ow j = 13) then some (.inr (.inr (j, .ref a :: (st.take n).reverse, (pc + 3, ls, r, M)))) else none
      | _ => none
    else none
def im_scall (i pc idx : Nat) (ls : List (Option Value)) (st : List Value) (M : im_M) : Option im_R := match im_lk (im_ow i) idx with
  | none => none
  | some (k, j, n) =>
    if k = 5 then
      match st with
      | .ref _ :: r => if im_csum r ≤ 8 then some (.inr (.inr (1000, [], (pc + 3, ls, r, M)))) else none
      | _ => none
    else if (k = 2 ∨ k = 4) ∧ n ≤ st.length ∧ im_csum (st.drop (n + 1)) ≤ 8 then
      match st.drop n with
      | .ref a :: r => some (.inr (.inr (j, .ref a :: (st.take n).reverse, (pc + 3, ls, r, M))))
      | _ => none
    else none
def im_ret1 (i len : Nat) (ls : List (Option Value)) (st : List Value) (M : im_M) : Option im_R := match st with
  | [.int x] => match im_rt i with
    | some ty => if len = 1 ∧ (ty = .int ∨ ty = .boolean ∨ ty = .byte ∨ ty = .char) ∧ narrow ty (.int x) = .int x then some (.inr (.inl (some (.int x), M))) else none
    | none => none
  | _ => none
def im_reta (i len : Nat) (st : List Value) (M : im_M) : Option im_R := match st with
  | [.ref a] => if len = 1 ∧ (im_rt i = some (.object RX0) ∨ im_rt i = some (.object RX4)) then some (.inr (.inl (some (.ref a), M))) else none
  | [.null] => if len = 1 ∧ (im_rt i = some (.object RX0) ∨ im_rt i = some (.object RX4)) then some (.inr (.inl (some .null, M))) else none
  | _ => none
def im_getf (X : im_E) (i pc idx len : Nat) (ls : List (Option Value)) (st : List Value) (M : im_M) : Option im_R := match st with
  | .ref a :: r =>
    if im_ow i = 13 then
      if idx = 9 ∧ im_RB + 6 ≤ a ∧ a < im_RB + 9 then im_go (len == 3) (pc + 3, ls, .ref (a - 3) :: r, M) else if idx = 15 ∧ im_RB + 6 ≤ a ∧ a < im_RB + 9 then im_go (len == 3) (pc + 3, ls, .int 0 :: r, M) else none
    else match im_fl (im_ow i) idx with
      | some (ci, k, _) => im_go (len == 3 && im_obj M a ci k) (pc + 3, ls, M.2.2.2 a k :: r, M)
      | none => none
  | _ => none
def im_putf (i pc idx len : Nat) (ls : List (Option Value)) (st : List Value) (M : im_M) : Option im_R := match st with
  | v :: .ref a :: r => match im_fl (im_ow i) idx with
    | some (ci, k, fin) => im_go (len == 3 && im_obj M a ci k && im_putv (im_ty ci k) v && (!fin || ((im_y i).name == "<init>" && im_ow i == ci))) (pc + 3, ls, r, im_set M a k v)
    | none => none
  | _ => none
def im_ald (X : im_E) (kd pc len : Nat) (ls : List (Option Value)) (st : List Value) (M : im_M) : Option im_R := match st with
  | .int j :: .ref a :: r => if kd = 0 ∧ a < im_RB then im_go (len == 1 && im_arr M a 11 j) (pc + 1, ls, .int (im_int (M.2.2.2 a j.toNatClampNeg)) :: r, M)
    else match im_roA X a kd j with
      | some x => im_go (len == 1) (pc + 1, ls, .int x :: r, M)
      | none => none
  | _ => none
def im_alen (X : im_E) (pc len : Nat) (ls : List (Option Value)) (st : List Value) (M : im_M) : Option im_R := match st with
  | .ref a :: r => if a < im_RB then im_go (len == 1 && decide (a < M.1) && decide (M.1 ≤ im_RB) && decide (11 ≤ (M.2.2.1 a).1) && decide ((M.2.2.1 a).1 < 14)) (pc + 1, ls, .int (Int32.ofNat (M.2.2.1 a).2) :: r, M)
    else match im_ro X (a - im_RB) with
      | some (_, n, _) => im_go (len == 1) (pc + 1, ls, .int (Int32.ofNat n) :: r, M)
      | none => none
  | _ => none
def im_in (X : im_E) (i pc : Nat) (ins : Instr) (len : Nat) (ls : List (Option Value)) (st : List Value) (M : im_M) : Option im_R := match ins with
  | .iconst n => im_go (len == 1) (pc + 1, ls, .int (Int32.ofInt n) :: st, M)
  | .bipush n => im_go (len == 2) (pc + 2, ls, .int (Int8.ofInt n).toInt32 :: st, M)
  | .sipush n => im_go (len == 3) (pc + 3, ls, .int (Int16.ofInt n).toInt32 :: st, M)
  | .lconst n => im_go (len == 1) (pc + 1, ls, .long (Int64.ofNat (n : Nat)) :: st, M)
  | .aconst_null => im_go (len == 1) (pc + 1, ls, .null :: st, M)
  | .ldc x => match im_kc (im_ow i) x with
    | some v => im_go (len == 2) (pc + 2, ls, .int v :: st, M)
    | none => match im_ks (im_ow i) x with
      | some q => im_go (len == 2) (pc + 2, ls, .ref (im_RB + 6 + q) :: st, M)
      | none => none
  | .ldc2_w x => match im_kl (im_ow i) x with
    | some v => im_go (len == 3) (pc + 3, ls, .long v :: st, M)
    | none => none
  | .iload_n k => im_ldI ls k fun x => im_go (len == 1) (pc + 1, ls, .int x :: st, M)
  | .iload k => im_ldI ls k fun x => im_go (len == 2) (pc + 2, ls, .int x :: st, M)
  | .lload_n k => im_ldL ls k fun x => im_go (len == 1) (pc + 1, ls, .long x :: st, M)
  | .lload k => im_ldL ls k fun x => im_go (len == 2) (pc + 2, ls, .long x :: st, M)
  | .aload_n k => im_ldA ls k fun v => im_go (len == 1) (pc + 1, ls, v :: st, M)
  | .aload k => im_ldA ls k fun v => im_go (len == 2) (pc + 2, ls, v :: st, M)
  | .istore_n k => im_i1 st fun x r => im_go (len == 1 && decide ((k : Nat) < ls.length)) (pc + 1, im_s1 ls k (.int x), r, M)
  | .istore k => im_i1 st fun x r => im_go (len == 2 && decide (k < ls.length)) (pc + 2, im_s1 ls k (.int x), r, M)
  | .astore_n k => im_a1 st fun v r => im_go (len == 1 && decide ((k : Nat) < ls.length)) (pc + 1, im_s1 ls k v, r, M)
  | .astore k => im_a1 st fun v r => im_go (len == 2 && decide (k < ls.length)) (pc + 2, im_s1 ls k v, r, M)
  | .iinc k n => im_ldI ls k fun x => im_go (len == 3) (pc + 3, im_s1 ls k (.int (x + Int32.ofInt n)), st, M)
  | .iadd => im_i2 st fun x y r => im_go (len == 1) (pc + 1, ls, .int (x + y) :: r, M)
  | .isub => im_i2 st fun x y r => im_go (len == 1) (pc + 1, ls, .int (x - y) :: r, M)
  | .imul => im_i2 st fun x y r => im_go (len == 1) (pc + 1, ls, .int (x * y) :: r, M)
  | .iand => im_i2 st fun x y r => im_go (len == 1) (pc + 1, ls, .int (x &&& y) :: r, M)
  | .ior => im_i2 st fun x y r => im_go (len == 1) (pc + 1, ls, .int (x ||| y) :: r, M)
  | .ixor => im_i2 st fun x y r => im_go (len == 1) (pc + 1, ls, .int (x ^^^ y) :: r, M)
  | .idiv => im_i2 st fun x y r => if y = 0 then none else im_go (len == 1) (pc + 1, ls, .int (x / y) :: r, M)
  | .irem => im_i2 st fun x y r => if y = 0 then none else im_go (len == 1) (pc + 1, ls, .int (x - x / y * y) :: r, M)
  | .ishl => im_i2 st fun x y r => im_go (len == 1) (pc + 1, ls, .int (x <<< (y &&& 31)) :: r, M)
  | .ishr => im_i2 st fun x y r => im_go (len == 1) (pc + 1, ls, .int (x >>> (y &&& 31)) :: r, M)
  | .iushr => im_i2 st fun x y r => im_go (len == 1) (pc + 1, ls, .int (x.toUInt32 >>> (y.toUInt32 &&& Int32.toUInt32 31)).toInt32 :: r, M)
  | .ineg => im_i1 st fun x r => im_go (len == 1) (pc + 1, ls, .int (-x) :: r, M)
  | .i2l => im_i1 st fun x r => im_go (len == 1) (pc + 1, ls, .long x.toInt64 :: r, M)
  | .i2b => im_i1 st fun x r => im_go (len == 1) (pc + 1, ls, .int x.toInt8.toInt32 :: r, M)
  | .i2s => im_i1 st fun x r => im_go (len == 1) (pc + 1, ls, .int x.toInt16.toInt32 :: r, M)
  | .i2c => im_i1 st fun x r => im_go (len == 1) (pc + 1, ls, .int (x.toUInt32 % 65536).toInt32 :: r, M)
  | .l2i => im_l1 st fun x r => im_go (len == 1) (pc + 1, ls, .int x.toInt32 :: r, M)
  | .land => im_l2 st fun x y r => im_go (len == 1) (pc + 1, ls, .long (x &&& y) :: r, M)
  | .lor => im_l2 st fun x y r => im_go (len == 1) (pc + 1, ls, .long (x ||| y) :: r, M)
  | .lshl => im_li st fun x y r => im_go (len == 1) (pc + 1, ls, .long (x <<< (y.toInt64 &&& 63)) :: r, M)
  | .lshr => im_li st fun x y r => im_go (len == 1) (pc + 1, ls, .long (x >>> (y.toInt64 &&& 63)) :: r, M)
  | .lushr => im_li st fun x y r => im_go (len == 1) (pc + 1, ls, .long (x.toUInt64 >>> (y.toInt64.toUInt64 &&& Int64.toUInt64 63)).toInt64 :: r, M)
  | .lcmp => im_l2 st fun x y r => im_go (len == 1) (pc + 1, ls, .int (lg_cmp x y) :: r, M)
  | .dup => match st with
    | v :: r => im_go (len == 1 && v.category == 1) (pc + 1, ls, v :: v :: r, M)
    | _ => none
  | .dup2 => match st with
    | v :: u :: r => im_go (len == 1 && v.category == 1 && u.category == 1) (pc + 1, ls, v :: u :: v :: u :: r, M)
    | _ => none
  | .pop => match st with
    | v :: r => im_go (len == 1 && v.category == 1) (pc + 1, ls, r, M)
    | _ => none
  | .ifCond c off => im_i1 st fun x r => im_jmp pc off fun t => if im_cmp c x 0 = true then im_go (len == 3) (t, ls, r, M) else im_go (len == 3) (pc + 3, ls, r, M)
  | .if_icmp c off => im_i2 st fun x y r => im_jmp pc off fun t => if im_cmp c x y = true then im_go (len == 3) (t, ls, r, M) else im_go (len == 3) (pc + 3, ls, r, M)
  | .ifnull off => im_a1 st fun v r => im_jmp pc off fun t => match v with
    | .null => im_go (len == 3) (t, ls, r, M)
    | _ => im_go (len == 3) (pc + 3, ls, r, M)
  | .ifnonnull off => im_a1 st fun v r => im_jmp pc off fun t => match v with
    | .null => im_go (len == 3) (pc + 3, ls, r, M)
    | _ => im_go (len == 3) (t, ls, r, M)
  | .goto off => im_jmp pc off fun t => im_go (len == 3) (t, ls, st, M)
  | .tableswitch d lo hi offs => im_i1 st fun x r => if x.toInt < lo ∨ hi < x.toInt then im_jmp pc d fun t => im_go true (t, ls, r, M) else match offs[(x.toInt - lo).toNat]? with
    | some off => im_jmp pc off fun t => im_go true (t, ls, r, M)
    | none => none
  | .lookupswitch d ps => im_i1 st fun x r => if (ps.toList.zip (ps.toList.drop 1)).all (fun (a, next) => a.1 < next.1) = true then im_jmp pc (Op.lookupswitch.offset ps.toList d x.toInt) fun t => im_go true (t, ls, r, M) else none
  | .getfield x => im_getf X i pc x len ls st M
  | .putfield x => im_putf i pc x len ls st M
  | .getstatic x => match im_gs (im_ow i) x with
    | some 0 => im_go (len == 3) (pc + 3, ls, .ref im_RB :: st, M)
    | some 1 => im_go (len == 3) (pc + 3, ls, .ref (im_RB + 1) :: st, M)
    | some 2 => im_go (len == 3) (pc + 3, ls, .int 1 :: st, M)
    | _ => none
  | .iaload => im_ald X 0 pc len ls st M
  | .baload => im_ald X 1 pc len ls st M
  | .iastore => match st with
    | .int x :: .int j :: .ref a :: r => im_go (len == 1 && im_arr M a 11 j) (pc + 1, ls, r, im_set M a j.toNatClampNeg (.int x))
    | _ => none
  | .aaload => match st with
    | .int j :: .ref a :: r => im_go (len == 1 && (im_arr M a 12 j || im_arr M a 13 j)) (pc + 1, ls, im_rf (M.2.2.2 a j.toNatClampNeg) :: r, M)
    | _ => none
  | .aastore => match st with
    | .ref v :: .int j :: .ref a :: r => im_go (len == 1 && decide (v < M.1) && ((im_arr M a 12 j && (M.2.2.1 v).1 == 0) || (im_arr M a 13 j && (M.2.2.1 v).1 == 4))) (pc + 1, ls, r, im_set M a j.toNatClampNeg (.ref v))
    | _ => none
  | .arraylength => im_alen X pc len ls st M
  | .new x => match im_nw (im_ow i) x with
    | some ci => im_go (len == 3 && decide (M.1 < im_RB) && decide (ci < 11)) (pc + 3, ls, .ref M.1 :: st, im_new M ci (im_szs.getD ci 0) (fun k => defaultValue (im_ty ci k)))
    | none => none
  | .newarray t => match t with
    | .int => im_i1 st fun n r => im_go (len == 2 && decide (M.1 < im_RB) && !(decide (n < 0)) && decide (n.toNatClampNeg ≤ 1000)) (pc + 2, ls, .ref M.1 :: r, im_new M 11 n.toNatClampNeg (fun _ => .int 0))
    | _ => none
  | .anewarray x => match im_nw (im_ow i) x with
    | some ci => im_i1 st fun n r => im_go (len == 3 && decide (M.1 < im_RB) && (ci == 0 || ci == 4) && !(decide (n < 0)) && decide (n.toNatClampNeg ≤ 1000)) (pc + 3, ls, .ref M.1 :: r, im_new M (if ci = 0 then 12 else 13) n.toNatClampNeg (fun _ => .null))
    | none => none
  | .invokestatic x => if len = 3 then im_call i pc x ls st M else none
  | .invokevirtual x => if len = 3 then im_vcall i pc x ls st M else none
  | .invokespecial x => if len = 3 then im_scall i pc x ls st M else none
  | .ireturn => im_ret1 i len ls st M
  | .areturn => im_reta i len st M
  | .lreturn => match st with
    | [.long x] => if len = 1 ∧ im_rt i = some .long then some (.inr (.inl (some (.long x), M))) else none
    | _ => none
  | .return_ => match st with
    | [] => if len = 1 ∧ im_rt i = none then some (.inr (.inl (none, M))) else none
    | _ => none
  | _ => none
def im_step (X : im_E) (i : Nat) (c : im_C) : Option im_R := match decode (im_cc i) c.1 with
  | .ok (ins, len) => im_in X i c.1 ins len c.2.1 c.2.2.1 c.2.2.2
  | _ => none
/-- n steps at most, calls d deep at most -/
def im_run (X : im_E) : Nat → Nat → Nat → im_C → Option (Option Value × im_M)
  | 0, _, _, _ => none
  | n + 1, d, i, c => match im_step X i c with
    | some (.inl c') => im_run X n d i c'
    | some (.inr (.inl r)) => some r
    | some (.inr (.inr (j, as, (pc, ls, rest, M)))) => match d with
      | 0 => none
      | d' + 1 => if j = 1000 then im_run X n (d' + 1) i (pc, ls, rest, M) else
        if (im_al as).length ≤ im_ml j then match im_run X n d' j (0, im_ent (im_ml j) as, [], M) with
          | some (v, M') => im_run X n (d' + 1) i (pc, ls, v.toList ++ rest, M')
          | none => none
        else none
    | none => none
