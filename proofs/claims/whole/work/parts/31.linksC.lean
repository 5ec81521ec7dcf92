abbrev mX0_init : zD := (yX0_init, cX0_init, 1, none, RX0, { frames := 1, cells := 8, slots := 2130, locals := 20 }, 8, 2130)
abbrev mX0_lavaBehind : zD := (yX0_lavaBehind, cX0_lavaBehind, 3, (some .int), RX0, { frames := 0, cells := 0, slots := 0, locals := 0 }, 0, 0)
abbrev mX0_groundBehind : zD := (yX0_groundBehind, cX0_groundBehind, 3, (some .int), RX0, { frames := 0, cells := 0, slots := 0, locals := 0 }, 0, 0)
abbrev mX0_stepLava : zD := (yX0_stepLava, cX0_stepLava, 4, none, RX0, { frames := 3, cells := 0, slots := 0, locals := 71 }, 0, 0)
abbrev mX0_stepOnce : zD := (yX0_stepOnce, cX0_stepOnce, 6, none, RX0, { frames := 2, cells := 0, slots := 0, locals := 46 }, 0, 0)
abbrev mX0_give : zD := (yX0_give, cX0_give, 6, none, RX0, { frames := 1, cells := 0, slots := 0, locals := 21 }, 0, 0)
abbrev mX0_lowestBeside : zD := (yX0_lowestBeside, cX0_lowestBeside, 5, (some .int), RX0, { frames := 1, cells := 0, slots := 0, locals := 22 }, 0, 0)
abbrev mX0_lowerOf : zD := (yX0_lowerOf, cX0_lowerOf, 3, (some .int), RX0, { frames := 0, cells := 0, slots := 0, locals := 0 }, 0, 0)
abbrev mX0_rest : zD := (yX0_rest, cX0_rest, 4, none, RX0, { frames := 1, cells := 0, slots := 0, locals := 21 }, 0, 0)
abbrev mX0_shutsLike : zD := (yX0_shutsLike, cX0_shutsLike, 5, (some .boolean), RX0, { frames := 0, cells := 0, slots := 0, locals := 0 }, 0, 0)
abbrev mX0_openTill : zD := (yX0_openTill, cX0_openTill, 3, (some .int), RX0, { frames := 1, cells := 0, slots := 0, locals := 21 }, 0, 0)
abbrev mX0_leadOut : zD := (yX0_leadOut, cX0_leadOut, 5, none, RX0, { frames := 4, cells := 0, slots := 0, locals := 92 }, 0, 0)
abbrev mX0_joinHours : zD := (yX0_joinHours, cX0_joinHours, 8, none, RX0, { frames := 3, cells := 0, slots := 0, locals := 64 }, 0, 0)
abbrev mX0_bringPeople : zD := (yX0_bringPeople, cX0_bringPeople, 8, none, RX0, { frames := 2, cells := 0, slots := 0, locals := 46 }, 0, 0)
abbrev mX0_joinByRoad : zD := (yX0_joinByRoad, cX0_joinByRoad, 13, none, RX0, { frames := 2, cells := 0, slots := 0, locals := 46 }, 0, 0)
abbrev mX1_init : zD := (yX1_init, cX1_init, 1, none, RX1, { frames := 1, cells := 4, slots := 198, locals := 20 }, 4, 198)
abbrev mX1_lay : zD := (yX1_lay, cX1_lay, 3, (some .boolean), RX1, { frames := 1, cells := 0, slots := 0, locals := 23 }, 0, 0)
abbrev mX1_has : zD := (yX1_has, cX1_has, 2, (some .boolean), RX1, { frames := 1, cells := 0, slots := 0, locals := 22 }, 0, 0)
abbrev mX1_column : zD := (yX1_column, cX1_column, 2, (some .int), RX1, { frames := 0, cells := 0, slots := 0, locals := 0 }, 0, 0)
abbrev mX1_row : zD := (yX1_row, cX1_row, 2, (some .int), RX1, { frames := 0, cells := 0, slots := 0, locals := 0 }, 0, 0)
abbrev mX1_build : zD := (yX1_build, cX1_build, 4, (some .boolean), RX1, { frames := 2, cells := 0, slots := 0, locals := 43 }, 0, 0)
abbrev mX1_bit : zD := (yX1_bit, cX1_bit, 1, (some .int), RX1, { frames := 0, cells := 0, slots := 0, locals := 0 }, 0, 0)
abbrev mX1_hasWork : zD := (yX1_hasWork, cX1_hasWork, 3, (some .boolean), RX1, { frames := 2, cells := 0, slots := 0, locals := 43 }, 0, 0)
abbrev mX1_mayPut : zD := (yX1_mayPut, cX1_mayPut, 3, (some .boolean), RX1, { frames := 3, cells := 0, slots := 0, locals := 65 }, 0, 0)
abbrev mX1_setWork : zD := (yX1_setWork, cX1_setWork, 4, none, RX1, { frames := 1, cells := 0, slots := 0, locals := 20 }, 0, 0)
abbrev mX1_groundOf : zD := (yX1_groundOf, cX1_groundOf, 3, (some .int), RX1, { frames := 0, cells := 0, slots := 0, locals := 0 }, 0, 0)
abbrev mX1_addCandidate : zD := (yX1_addCandidate, cX1_addCandidate, 3, (some .int), RX1, { frames := 2, cells := 0, slots := 0, locals := 43 }, 0, 0)
abbrev mX1_putNumbered : zD := (yX1_putNumbered, cX1_putNumbered, 5, (some .boolean), RX1, { frames := 4, cells := 0, slots := 0, locals := 87 }, 0, 0)
abbrev mX1_takeNumbered : zD := (yX1_takeNumbered, cX1_takeNumbered, 2, none, RX1, { frames := 2, cells := 0, slots := 0, locals := 43 }, 0, 0)
abbrev mX2_init : zD := (yX2_init, cX2_init, 1, none, RX2, { frames := 1, cells := 8, slots := 4274, locals := 20 }, 8, 4274)
abbrev mX2_node : zD := (yX2_node, cX2_node, 2, (some .int), RX2, { frames := 0, cells := 0, slots := 0, locals := 0 }, 0, 0)
abbrev mX2_clear : zD := (yX2_clear, cX2_clear, 1, none, RX2, { frames := 1, cells := 0, slots := 0, locals := 23 }, 0, 0)
abbrev mX2_join : zD := (yX2_join, cX2_join, 4, none, RX2, { frames := 1, cells := 0, slots := 0, locals := 23 }, 0, 0)
abbrev mX2_addArc : zD := (yX2_addArc, cX2_addArc, 4, none, RX2, { frames := 0, cells := 0, slots := 0, locals := 0 }, 0, 0)
abbrev mX2_mostThrough : zD := (yX2_mostThrough, cX2_mostThrough, 3, (some .int), RX2, { frames := 3, cells := 0, slots := 0, locals := 70 }, 0, 0)
abbrev mX2_isReached : zD := (yX2_isReached, cX2_isReached, 2, (some .boolean), RX2, { frames := 0, cells := 0, slots := 0, locals := 0 }, 0, 0)
abbrev mX2_layByHours : zD := (yX2_layByHours, cX2_layByHours, 2, none, RX2, { frames := 0, cells := 0, slots := 0, locals := 0 }, 0, 0)
abbrev mX2_layByDistance : zD := (yX2_layByDistance, cX2_layByDistance, 7, (some .boolean), RX2, { frames := 1, cells := 0, slots := 0, locals := 23 }, 0, 0)
abbrev mX2_pushRound : zD := (yX2_pushRound, cX2_pushRound, 6, (some .int), RX2, { frames := 2, cells := 0, slots := 0, locals := 45 }, 0, 0)
abbrev mX2_deeperArc : zD := (yX2_deeperArc, cX2_deeperArc, 4, (some .int), RX2, { frames := 1, cells := 0, slots := 0, locals := 22 }, 0, 0)
abbrev mX2_leadsDeeper : zD := (yX2_leadsDeeper, cX2_leadsDeeper, 3, (some .boolean), RX2, { frames := 0, cells := 0, slots := 0, locals := 0 }, 0, 0)
abbrev mX2_pushAlong : zD := (yX2_pushAlong, cX2_pushAlong, 4, (some .int), RX2, { frames := 1, cells := 0, slots := 0, locals := 21 }, 0, 0)
abbrev mX3_init : zD := (yX3_init, cX3_init, 1, none, RX3, { frames := 1, cells := 12, slots := 132, locals := 20 }, 12, 132)
abbrev mX3_clear : zD := (yX3_clear, cX3_clear, 1, none, RX3, { frames := 0, cells := 0, slots := 0, locals := 0 }, 0, 0)
abbrev mX3_has : zD := (yX3_has, cX3_has, 2, (some .boolean), RX3, { frames := 1, cells := 0, slots := 0, locals := 22 }, 0, 0)
abbrev mX3_isTown : zD := (yX3_isTown, cX3_isTown, 2, (some .boolean), RX3, { frames := 2, cells := 0, slots := 0, locals := 43 }, 0, 0)
abbrev mX3_addTown : zD := (yX3_addTown, cX3_addTown, 5, (some .int), RX3, { frames := 0, cells := 0, slots := 0, locals := 0 }, 0, 0)
abbrev mX3_addShelter : zD := (yX3_addShelter, cX3_addShelter, 3, (some .int), RX3, { frames := 1, cells := 0, slots := 0, locals := 24 }, 0, 0)
abbrev mX3_forgetWarnings : zD := (yX3_forgetWarnings, cX3_forgetWarnings, 1, none, RX3, { frames := 1, cells := 0, slots := 0, locals := 23 }, 0, 0)
abbrev mX3_someUnwarned : zD := (yX3_someUnwarned, cX3_someUnwarned, 2, (some .boolean), RX3, { frames := 0, cells := 0, slots := 0, locals := 0 }, 0, 0)
abbrev mX3_warn : zD := (yX3_warn, cX3_warn, 4, none, RX3, { frames := 0, cells := 0, slots := 0, locals := 0 }, 0, 0)
abbrev mX3_addRoad : zD := (yX3_addRoad, cX3_addRoad, 7, (some .int), RX3, { frames := 0, cells := 0, slots := 0, locals := 0 }, 0, 0)
abbrev mX3_leavesIn : zD := (yX3_leavesIn, cX3_leavesIn, 4, (some .boolean), RX3, { frames := 0, cells := 0, slots := 0, locals := 0 }, 0, 0)
abbrev mX3_allPeople : zD := (yX3_allPeople, cX3_allPeople, 3, (some .int), RX3, { frames := 0, cells := 0, slots := 0, locals := 0 }, 0, 0)
abbrev mX4_init : zD := (yX4_init, cX4_init, 1, none, RX4, { frames := 1, cells := 0, slots := 0, locals := 20 }, 0, 0)
abbrev mX4_start : zD := (yX4_start, cX4_start, 3, none, RX4, { frames := 0, cells := 0, slots := 0, locals := 0 }, 0, 0)
abbrev mX4_offer : zD := (yX4_offer, cX4_offer, 5, none, RX4, { frames := 0, cells := 0, slots := 0, locals := 0 }, 0, 0)
abbrev mX4_part : zD := (yX4_part, cX4_part, 2, (some .int), RX4, { frames := 0, cells := 0, slots := 0, locals := 0 }, 0, 0)
abbrev mX5_init : zD := (yX5_init, cX5_init, 1, none, RX5, { frames := 2, cells := 6, slots := 2017, locals := 40 }, 6, 2017)
abbrev mX5_hasPost : zD := (yX5_hasPost, cX5_hasPost, 2, (some .boolean), RX5, { frames := 1, cells := 0, slots := 0, locals := 22 }, 0, 0)
abbrev mX5_addPost : zD := (yX5_addPost, cX5_addPost, 2, (some .int), RX5, { frames := 1, cells := 0, slots := 0, locals := 22 }, 0, 0)
abbrev mX5_tell : zD := (yX5_tell, cX5_tell, 8, (some .int), RX5, { frames := 2, cells := 0, slots := 0, locals := 43 }, 0, 0)
abbrev mX5_known : zD := (yX5_known, cX5_known, 6, (some .int), RX5, { frames := 0, cells := 0, slots := 0, locals := 0 }, 0, 0)
abbrev mX5_overWindow : zD := (yX5_overWindow, cX5_overWindow, 9, (some .long), RX5, { frames := 1, cells := 0, slots := 0, locals := 25 }, 0, 0)
abbrev mX6_init : zD := (yX6_init, cX6_init, 1, none, RX6, { frames := 1, cells := 6, slots := 280, locals := 20 }, 6, 280)
abbrev mX6_clear : zD := (yX6_clear, cX6_clear, 1, none, RX6, { frames := 0, cells := 0, slots := 0, locals := 0 }, 0, 0)
abbrev mX6_write : zD := (yX6_write, cX6_write, 4, none, RX6, { frames := 0, cells := 0, slots := 0, locals := 0 }, 0, 0)
abbrev mX6_endLine : zD := (yX6_endLine, cX6_endLine, 2, none, RX6, { frames := 0, cells := 0, slots := 0, locals := 0 }, 0, 0)
abbrev mX6_greatestLevel : zD := (yX6_greatestLevel, cX6_greatestLevel, 8, (some .int), RX6, { frames := 4, cells := 0, slots := 0, locals := 107 }, 0, 0)
abbrev mX6_value : zD := (yX6_value, cX6_value, 8, (some .long), RX6, { frames := 3, cells := 0, slots := 0, locals := 80 }, 0, 0)
abbrev mX6_push : zD := (yX6_push, cX6_push, 3, none, RX6, { frames := 0, cells := 0, slots := 0, locals := 0 }, 0, 0)
abbrev mX6_pop : zD := (yX6_pop, cX6_pop, 1, (some .long), RX6, { frames := 0, cells := 0, slots := 0, locals := 0 }, 0, 0)
abbrev mX6_knotValue : zD := (yX6_knotValue, cX6_knotValue, 8, (some .long), RX6, { frames := 2, cells := 0, slots := 0, locals := 53 }, 0, 0)
abbrev mX6_join : zD := (yX6_join, cX6_join, 5, (some .long), RX6, { frames := 1, cells := 0, slots := 0, locals := 27 }, 0, 0)
abbrev mX6_asNumber : zD := (yX6_asNumber, cX6_asNumber, 1, (some .long), RX6, { frames := 0, cells := 0, slots := 0, locals := 0 }, 0, 0)
abbrev mX6_product : zD := (yX6_product, cX6_product, 8, (some .long), RX6, { frames := 0, cells := 0, slots := 0, locals := 0 }, 0, 0)
abbrev mX7_init : zD := (yX7_init, cX7_init, 1, none, RX7, { frames := 2, cells := 4, slots := 588, locals := 40 }, 4, 588)
abbrev mX7_readBook : zD := (yX7_readBook, cX7_readBook, 4, (some .int), RX7, { frames := 7, cells := 0, slots := 0, locals := 151 }, 0, 0)
abbrev mX7_take : zD := (yX7_take, cX7_take, 2, (some .int), RX7, { frames := 4, cells := 0, slots := 0, locals := 92 }, 0, 0)
abbrev mX7_takeLineWord : zD := (yX7_takeLineWord, cX7_takeLineWord, 2, (some .int), RX7, { frames := 0, cells := 0, slots := 0, locals := 0 }, 0, 0)
abbrev mX7_judgeNumber : zD := (yX7_judgeNumber, cX7_judgeNumber, 3, (some .int), RX7, { frames := 1, cells := 0, slots := 0, locals := 22 }, 0, 0)
abbrev mX7_takeKeep : zD := (yX7_takeKeep, cX7_takeKeep, 2, (some .int), RX7, { frames := 2, cells := 0, slots := 0, locals := 44 }, 0, 0)
abbrev mX7_takeKeepEnd : zD := (yX7_takeKeepEnd, cX7_takeKeepEnd, 1, (some .int), RX7, { frames := 0, cells := 0, slots := 0, locals := 0 }, 0, 0)
abbrev mX7_takeLevel : zD := (yX7_takeLevel, cX7_takeLevel, 1, (some .int), RX7, { frames := 2, cells := 0, slots := 0, locals := 44 }, 0, 0)
abbrev mX7_takeAheadOfOperand : zD := (yX7_takeAheadOfOperand, cX7_takeAheadOfOperand, 3, (some .int), RX7, { frames := 2, cells := 0, slots := 0, locals := 44 }, 0, 0)
abbrev mX7_takeOpen : zD := (yX7_takeOpen, cX7_takeOpen, 1, (some .int), RX7, { frames := 1, cells := 0, slots := 0, locals := 21 }, 0, 0)
abbrev mX7_takePlainNumber : zD := (yX7_takePlainNumber, cX7_takePlainNumber, 2, (some .int), RX7, { frames := 1, cells := 0, slots := 0, locals := 23 }, 0, 0)
abbrev mX7_takeOfWindow : zD := (yX7_takeOfWindow, cX7_takeOfWindow, 3, (some .int), RX7, { frames := 2, cells := 0, slots := 0, locals := 44 }, 0, 0)
abbrev mX7_takeBehindOperand : zD := (yX7_takeBehindOperand, cX7_takeBehindOperand, 3, (some .int), RX7, { frames := 3, cells := 0, slots := 0, locals := 70 }, 0, 0)
abbrev mX7_takeSign : zD := (yX7_takeSign, cX7_takeSign, 6, (some .int), RX7, { frames := 2, cells := 0, slots := 0, locals := 45 }, 0, 0)
abbrev mX7_countKnot : zD := (yX7_countKnot, cX7_countKnot, 2, (some .int), RX7, { frames := 0, cells := 0, slots := 0, locals := 0 }, 0, 0)
abbrev mX7_await : zD := (yX7_await, cX7_await, 2, none, RX7, { frames := 0, cells := 0, slots := 0, locals := 0 }, 0, 0)
abbrev mX7_settle : zD := (yX7_settle, cX7_settle, 3, none, RX7, { frames := 1, cells := 0, slots := 0, locals := 23 }, 0, 0)
abbrev mX7_strength : zD := (yX7_strength, cX7_strength, 1, (some .int), RX7, { frames := 0, cells := 0, slots := 0, locals := 0 }, 0, 0)
abbrev mX8_init : zD := (yX8_init, cX8_init, 1, none, RX8, { frames := 1, cells := 0, slots := 0, locals := 20 }, 0, 0)
abbrev mX8_clear : zD := (yX8_clear, cX8_clear, 1, none, RX8, { frames := 0, cells := 0, slots := 0, locals := 0 }, 0, 0)
abbrev mX8_add : zD := (yX8_add, cX8_add, 4, none, RX8, { frames := 0, cells := 0, slots := 0, locals := 0 }, 0, 0)
abbrev mX8_part : zD := (yX8_part, cX8_part, 2, (some .long), RX8, { frames := 0, cells := 0, slots := 0, locals := 0 }, 0, 0)
abbrev mX9_init : zD := (yX9_init, cX9_init, 1, none, RX9, { frames := 1, cells := 1, slots := 500, locals := 20 }, 1, 500)
abbrev mX9_hasSpace : zD := (yX9_hasSpace, cX9_hasSpace, 2, (some .boolean), RX9, { frames := 0, cells := 0, slots := 0, locals := 0 }, 0, 0)
abbrev mX9_append : zD := (yX9_append, cX9_append, 3, none, RX9, { frames := 0, cells := 0, slots := 0, locals := 0 }, 0, 0)
abbrev mX9_startText : zD := (yX9_startText, cX9_startText, 2, none, RX9, { frames := 1, cells := 0, slots := 0, locals := 21 }, 0, 0)
abbrev mX9_next : zD := (yX9_next, cX9_next, 1, none, RX9, { frames := 6, cells := 0, slots := 0, locals := 131 }, 0, 0)
abbrev mX9_isLetter : zD := (yX9_isLetter, cX9_isLetter, 1, (some .boolean), RX9, { frames := 0, cells := 0, slots := 0, locals := 0 }, 0, 0)
abbrev mX9_isDigit : zD := (yX9_isDigit, cX9_isDigit, 1, (some .boolean), RX9, { frames := 0, cells := 0, slots := 0, locals := 0 }, 0, 0)
abbrev mX9_readWord : zD := (yX9_readWord, cX9_readWord, 4, none, RX9, { frames := 5, cells := 0, slots := 0, locals := 108 }, 0, 0)
abbrev mX9_isWordAt : zD := (yX9_isWordAt, cX9_isWordAt, 4, (some .boolean), RX9, { frames := 4, cells := 0, slots := 0, locals := 85 }, 0, 0)
abbrev mX9_readNumber : zD := (yX9_readNumber, cX9_readNumber, 1, none, RX9, { frames := 1, cells := 0, slots := 0, locals := 21 }, 0, 0)
abbrev mX9_readSign : zD := (yX9_readSign, cX9_readSign, 2, none, RX9, { frames := 1, cells := 0, slots := 0, locals := 21 }, 0, 0)
abbrev mX9_takes : zD := (yX9_takes, cX9_takes, 2, (some .boolean), RX9, { frames := 0, cells := 0, slots := 0, locals := 0 }, 0, 0)
abbrev mX10_init : zD := (yX10_init, cX10_init, 1, none, RX10, { frames := 1, cells := 0, slots := 0, locals := 20 }, 0, 0)
abbrev mX10_firstHour : zD := (yX10_firstHour, cX10_firstHour, 1, (some .int), RX10, { frames := 1, cells := 0, slots := 0, locals := 21 }, 0, 0)
abbrev mX10_lastHour : zD := (yX10_lastHour, cX10_lastHour, 1, (some .int), RX10, { frames := 0, cells := 0, slots := 0, locals := 0 }, 0, 0)
abbrev mX11_init : zD := (yX11_init, cX11_init, 2, none, RX11, { frames := 3, cells := 101, slots := 16800, locals := 60 }, 101, 16800)
abbrev mX11_feed : zD := (yX11_feed, cX11_feed, 7, (some .int), RX11, { frames := 1, cells := 0, slots := 0, locals := 22 }, 0, 0)
abbrev mX11_rules : zD := (yX11_rules, cX11_rules, 4, (some .int), RX11, { frames := 8, cells := 0, slots := 0, locals := 174 }, 0, 0)
abbrev mX11_fault : zD := (yX11_fault, cX11_fault, 2, (some .int), RX11, { frames := 0, cells := 0, slots := 0, locals := 0 }, 0, 0)
abbrev mX11_hours : zD := (yX11_hours, cX11_hours, 2, (some .int), RX11, { frames := 1, cells := 0, slots := 0, locals := 22 }, 0, 0)
abbrev mX11_post : zD := (yX11_post, cX11_post, 3, (some .int), RX11, { frames := 3, cells := 0, slots := 0, locals := 63 }, 0, 0)
abbrev mX11_read : zD := (yX11_read, cX11_read, 6, (some .int), RX11, { frames := 3, cells := 0, slots := 0, locals := 70 }, 0, 0)
abbrev mX11_reading : zD := (yX11_reading, cX11_reading, 4, (some .int), RX11, { frames := 2, cells := 0, slots := 0, locals := 43 }, 0, 0)
abbrev mX11_raw : zD := (yX11_raw, cX11_raw, 3, (some .int), RX11, { frames := 5, cells := 0, slots := 0, locals := 134 }, 0, 0)
abbrev mX11_tries : zD := (yX11_tries, cX11_tries, 4, (some .long), RX11, { frames := 4, cells := 0, slots := 0, locals := 107 }, 0, 0)
abbrev mX11_level : zD := (yX11_level, cX11_level, 4, (some .int), RX11, { frames := 6, cells := 0, slots := 0, locals := 156 }, 0, 0)
abbrev mX11_land : zD := (yX11_land, cX11_land, 3, (some .boolean), RX11, { frames := 3, cells := 0, slots := 0, locals := 63 }, 0, 0)
abbrev mX11_ground : zD := (yX11_ground, cX11_ground, 5, (some .boolean), RX11, { frames := 3, cells := 0, slots := 0, locals := 66 }, 0, 0)
abbrev mX11_work : zD := (yX11_work, cX11_work, 5, (some .boolean), RX11, { frames := 4, cells := 0, slots := 0, locals := 87 }, 0, 0)
abbrev mX11_world : zD := (yX11_world, cX11_world, 7, (some .int), RX11, { frames := 3, cells := 0, slots := 0, locals := 63 }, 0, 0)
abbrev mX11_lava : zD := (yX11_lava, cX11_lava, 6, (some .int), RX11, { frames := 5, cells := 0, slots := 0, locals := 116 }, 0, 0)
abbrev mX11_reached : zD := (yX11_reached, cX11_reached, 3, (some .int), RX11, { frames := 5, cells := 0, slots := 0, locals := 116 }, 0, 0)
abbrev mX11_town : zD := (yX11_town, cX11_town, 5, (some .int), RX11, { frames := 2, cells := 0, slots := 0, locals := 43 }, 0, 0)
abbrev mX11_shelter : zD := (yX11_shelter, cX11_shelter, 2, (some .int), RX11, { frames := 2, cells := 0, slots := 0, locals := 46 }, 0, 0)
abbrev mX11_road : zD := (yX11_road, cX11_road, 7, (some .int), RX11, { frames := 2, cells := 0, slots := 0, locals := 43 }, 0, 0)
abbrev mX11_warned : zD := (yX11_warned, cX11_warned, 2, (some .int), RX11, { frames := 7, cells := 0, slots := 0, locals := 177 }, 0, 0)
abbrev mX11_ledOut : zD := (yX11_ledOut, cX11_ledOut, 4, (some .int), RX11, { frames := 7, cells := 0, slots := 0, locals := 177 }, 0, 0)
abbrev mX11_cut : zD := (yX11_cut, cX11_cut, 5, (some .int), RX11, { frames := 7, cells := 0, slots := 0, locals := 177 }, 0, 0)
abbrev mX11_cost : zD := (yX11_cost, cX11_cost, 2, (some .int), RX11, { frames := 7, cells := 0, slots := 0, locals := 177 }, 0, 0)
abbrev mX11_candidate : zD := (yX11_candidate, cX11_candidate, 3, (some .int), RX11, { frames := 3, cells := 0, slots := 0, locals := 65 }, 0, 0)
abbrev mX11_best : zD := (yX11_best, cX11_best, 4, (some .int), RX11, { frames := 7, cells := 0, slots := 0, locals := 177 }, 0, 0)
abbrev mX11_wind : zD := (yX11_wind, cX11_wind, 4, (some .boolean), RX11, { frames := 1, cells := 0, slots := 0, locals := 22 }, 0, 0)
abbrev mX11_ash : zD := (yX11_ash, cX11_ash, 10, (some .int), RX11, { frames := 2, cells := 0, slots := 0, locals := 45 }, 0, 0)
abbrev mX11_look : zD := (yX11_look, cX11_look, 3, (some .int), RX11, { frames := 2, cells := 0, slots := 0, locals := 43 }, 0, 0)
abbrev mX11_count : zD := (yX11_count, cX11_count, 2, (some .int), RX11, { frames := 0, cells := 0, slots := 0, locals := 0 }, 0, 0)
abbrev mX11_within : zD := (yX11_within, cX11_within, 3, (some .boolean), RX11, { frames := 0, cells := 0, slots := 0, locals := 0 }, 0, 0)
abbrev mX11_isHour : zD := (yX11_isHour, cX11_isHour, 1, (some .boolean), RX11, { frames := 1, cells := 0, slots := 0, locals := 22 }, 0, 0)
abbrev mX11_isWorld : zD := (yX11_isWorld, cX11_isWorld, 2, (some .boolean), RX11, { frames := 1, cells := 0, slots := 0, locals := 22 }, 0, 0)
abbrev mX11_stepsDownwind : zD := (yX11_stepsDownwind, cX11_stepsDownwind, 4, (some .int), RX11, { frames := 1, cells := 0, slots := 0, locals := 22 }, 0, 0)
abbrev mX11_rawInOwnHour : zD := (yX11_rawInOwnHour, cX11_rawInOwnHour, 3, (some .int), RX11, { frames := 5, cells := 0, slots := 0, locals := 134 }, 0, 0)
abbrev mX11_noteWarnings : zD := (yX11_noteWarnings, cX11_noteWarnings, 2, none, RX11, { frames := 6, cells := 0, slots := 0, locals := 156 }, 0, 0)
abbrev mX11_alertsChanged : zD := (yX11_alertsChanged, cX11_alertsChanged, 2, none, RX11, { frames := 2, cells := 0, slots := 0, locals := 42 }, 0, 0)
abbrev mX11_lavaChanged : zD := (yX11_lavaChanged, cX11_lavaChanged, 2, none, RX11, { frames := 2, cells := 0, slots := 0, locals := 42 }, 0, 0)
abbrev mX11_escapeChanged : zD := (yX11_escapeChanged, cX11_escapeChanged, 2, none, RX11, { frames := 1, cells := 0, slots := 0, locals := 21 }, 0, 0)
abbrev mX11_forgetPlans : zD := (yX11_forgetPlans, cX11_forgetPlans, 2, none, RX11, { frames := 0, cells := 0, slots := 0, locals := 0 }, 0, 0)
abbrev mX11_steppedForecast : zD := (yX11_steppedForecast, cX11_steppedForecast, 3, (some (.object "VolcanoWatch$Forecast")), RX11, { frames := 4, cells := 0, slots := 0, locals := 94 }, 0, 0)
abbrev mX11_ledForecast : zD := (yX11_ledForecast, cX11_ledForecast, 3, (some (.object "VolcanoWatch$Forecast")), RX11, { frames := 5, cells := 0, slots := 0, locals := 116 }, 0, 0)
abbrev mX11_lostCost : zD := (yX11_lostCost, cX11_lostCost, 4, (some .int), RX11, { frames := 6, cells := 0, slots := 0, locals := 138 }, 0, 0)
abbrev mX11_buriedCost : zD := (yX11_buriedCost, cX11_buriedCost, 3, (some .int), RX11, { frames := 5, cells := 0, slots := 0, locals := 116 }, 0, 0)
abbrev mX11_tryMoreWorks : zD := (yX11_tryMoreWorks, cX11_tryMoreWorks, 7, none, RX11, { frames := 6, cells := 0, slots := 0, locals := 143 }, 0, 0)
abbrev mX11_weigh : zD := (yX11_weigh, cX11_weigh, 8, none, RX11, { frames := 5, cells := 0, slots := 0, locals := 116 }, 0, 0)
theorem fl_X0_13 : zFl RX0 13 0 0 := ⟨RX0, TX0, 12, rfl, by decide, zi 2 46 rfl rfl⟩
theorem fl_X0_17 : zFl RX0 17 0 1 := ⟨RX0, TX0, 12, rfl, by decide, zi 2 47 rfl rfl⟩
theorem fl_X0_20 : zFl RX0 20 0 2 := ⟨RX0, TX0, 12, rfl, by decide, zi 2 48 rfl rfl⟩
theorem fl_X0_23 : zFl RX0 23 0 5 := ⟨RX0, TX0, 12, rfl, by decide, zi 2 54 rfl rfl⟩
theorem fl_X0_26 : zFl RX0 26 0 6 := ⟨RX0, TX0, 12, rfl, by decide, zi 2 55 rfl rfl⟩
theorem fl_X0_29 : zFl RX0 29 0 7 := ⟨RX0, TX0, 12, rfl, by decide, zi 2 56 rfl rfl⟩
theorem fl_X0_34 : zFl RX0 34 0 9 := ⟨RX0, TX0, 12, rfl, by decide, zi 2 59 rfl rfl⟩
theorem fl_X0_39 : zFl RX0 39 0 11 := ⟨RX0, TX0, 12, rfl, by decide, zi 2 63 rfl rfl⟩
theorem fl_X0_42 : zFl RX0 42 1 1 := ⟨RX1, TX1, 8, rfl, by decide, zi 2 7 rfl rfl⟩
theorem cv_X0_46 : zCv RX0 46 mX1_groundOf 1 1 := ⟨RX1, TX1, 8, rfl, by decide, rfl, zi 4 198 rfl rfl, zi 4 199 rfl rfl, zi 4 200 rfl rfl, zi 1 8 rfl rfl, zi 4 201 rfl rfl, by decide +kernel, by decide +kernel, by decide +kernel⟩
theorem cv_X0_50 : zCv RX0 50 mX0_stepOnce 0 3 := ⟨RX0, TX0, 12, rfl, by decide, rfl, zi 4 202 rfl rfl, zi 4 204 rfl rfl, zip 2 14 rfl, zi 1 9 rfl rfl, zi 4 205 rfl rfl, by decide +kernel, by decide +kernel, by decide +kernel⟩
theorem fl_X0_54 : zFl RX0 54 0 3 := ⟨RX0, TX0, 12, rfl, by decide, zi 2 50 rfl rfl⟩
theorem fl_X0_57 : zFl RX0 57 1 3 := ⟨RX1, TX1, 8, rfl, by decide, zi 2 11 rfl rfl⟩
theorem fl_X0_60 : zFl RX0 60 0 4 := ⟨RX0, TX0, 12, rfl, by decide, zi 2 52 rfl rfl⟩
theorem ac_X0_64 : Cond.methodLink RX0 64 arraycopyName ∈ zT ∧ Cond.native arraycopyName ∈ zT ∧ Cond.static arraycopyName ∈ zT ∧ Cond.initialized "java/lang/System" ∈ zT := ⟨zi 4 206 rfl rfl, zi 4 208 rfl rfl, zi 4 207 rfl rfl, zi 1 20 rfl rfl⟩
theorem cs_X0_70 : zCs RX0 70 mJ7_fill_53178 2 := ⟨zi 4 209 rfl rfl, zi 1 209 rfl rfl, zi 1 7 rfl rfl, zi 1 210 rfl rfl, by decide +kernel, by decide +kernel, by decide +kernel⟩
theorem fl_X0_76 : zFl RX0 76 10 3 := ⟨RX10, TX10, 5, rfl, by decide, zi 2 200 rfl rfl⟩
theorem fl_X0_81 : zFl RX0 81 10 1 := ⟨RX10, TX10, 5, rfl, by decide, zi 2 196 rfl rfl⟩
theorem fl_X0_84 : zFl RX0 84 10 2 := ⟨RX10, TX10, 5, rfl, by decide, zi 2 198 rfl rfl⟩
theorem cv_X0_87 : zCv RX0 87 mX0_lowestBeside 0 2 := ⟨RX0, TX0, 12, rfl, by decide, rfl, zi 4 210 rfl rfl, zi 4 212 rfl rfl, zip 2 15 rfl, zi 1 9 rfl rfl, zi 4 213 rfl rfl, by decide +kernel, by decide +kernel, by decide +kernel⟩
theorem cv_X0_91 : zCv RX0 91 mX0_give 0 3 := ⟨RX0, TX0, 12, rfl, by decide, rfl, zi 4 222 rfl rfl, zi 4 224 rfl rfl, zip 3 1 rfl, zi 1 9 rfl rfl, zi 4 225 rfl rfl, by decide +kernel, by decide +kernel, by decide +kernel⟩
theorem cv_X0_95 : zCv RX0 95 mX0_rest 0 3 := ⟨RX0, TX0, 12, rfl, by decide, rfl, zi 4 227 rfl rfl, zi 4 229 rfl rfl, zip 3 2 rfl, zi 1 9 rfl rfl, zi 4 230 rfl rfl, by decide +kernel, by decide +kernel, by decide +kernel⟩
theorem ml_X0_98 : Cond.methodLink RX0 98 Lib.Math.min.name ∈ zT ∧ Cond.static Lib.Math.min.name ∈ zT ∧ Cond.initialized "java/lang/Math" ∈ zT ∧ Cond.code Lib.Math.min.name Lib.Math.min.code 2 (some .int) ∈ zT := ⟨zi 4 226 rfl rfl, zi 3 76 rfl rfl, zi 1 15 rfl rfl, zi 3 77 rfl rfl⟩
theorem cv_X0_104 : zCv RX0 104 mX1_column 1 1 := ⟨RX1, TX1, 8, rfl, by decide, rfl, zi 4 214 rfl rfl, zi 4 215 rfl rfl, zi 4 216 rfl rfl, zi 1 8 rfl rfl, zi 4 217 rfl rfl, by decide +kernel, by decide +kernel, by decide +kernel⟩
theorem fl_X0_107 : zFl RX0 107 1 0 := ⟨RX1, TX1, 8, rfl, by decide, zi 2 5 rfl rfl⟩
theorem cv_X0_110 : zCv RX0 110 mX0_lowerOf 0 2 := ⟨RX0, TX0, 12, rfl, by decide, rfl, zi 4 218 rfl rfl, zi 4 220 rfl rfl, zip 3 0 rfl, zi 1 9 rfl rfl, zi 4 221 rfl rfl, by decide +kernel, by decide +kernel, by decide +kernel⟩
theorem fl_X0_113 : zFl RX0 113 3 6 := ⟨RX3, TX3, 14, rfl, by decide, zi 2 107 rfl rfl⟩
theorem fl_X0_116 : zFl RX0 116 3 0 := ⟨RX3, TX3, 14, rfl, by decide, zi 2 96 rfl rfl⟩
theorem fl_X0_119 : zFl RX0 119 3 13 := ⟨RX3, TX3, 14, rfl, by decide, zi 2 121 rfl rfl⟩
theorem fl_X0_122 : zFl RX0 122 3 12 := ⟨RX3, TX3, 14, rfl, by decide, zi 2 119 rfl rfl⟩
theorem cv_X0_125 : zCv RX0 125 mX10_lastHour 10 0 := ⟨RX10, TX10, 5, rfl, by decide, rfl, zi 5 80 rfl rfl, zi 5 81 rfl rfl, zi 5 82 rfl rfl, zi 1 12 rfl rfl, zi 5 83 rfl rfl, by decide +kernel, by decide +kernel, by decide +kernel⟩
theorem fl_X0_129 : zFl RX0 129 10 0 := ⟨RX10, TX10, 5, rfl, by decide, zi 2 194 rfl rfl⟩
theorem cv_X0_132 : zCv RX0 132 mX2_clear 2 0 := ⟨RX2, TX2, 9, rfl, by decide, rfl, zi 5 71 rfl rfl, zi 5 72 rfl rfl, zi 5 73 rfl rfl, zi 1 11 rfl rfl, zi 5 74 rfl rfl, by decide +kernel, by decide +kernel, by decide +kernel⟩
theorem fl_X0_135 : zFl RX0 135 0 8 := ⟨RX0, TX0, 12, rfl, by decide, zi 2 57 rfl rfl⟩
theorem cv_X0_138 : zCv RX0 138 mX0_openTill 0 2 := ⟨RX0, TX0, 12, rfl, by decide, rfl, zi 5 76 rfl rfl, zi 5 78 rfl rfl, zip 3 5 rfl, zi 1 9 rfl rfl, zi 5 79 rfl rfl, by decide +kernel, by decide +kernel, by decide +kernel⟩
theorem cv_X0_141 : zCv RX0 141 mX0_joinHours 0 4 := ⟨RX0, TX0, 12, rfl, by decide, rfl, zi 5 84 rfl rfl, zi 5 86 rfl rfl, zip 3 6 rfl, zi 1 9 rfl rfl, zi 5 87 rfl rfl, by decide +kernel, by decide +kernel, by decide +kernel⟩
theorem cv_X0_145 : zCv RX0 145 mX3_isTown 3 1 := ⟨RX3, TX3, 14, rfl, by decide, rfl, zi 5 105 rfl rfl, zi 5 38 rfl rfl, zi 5 39 rfl rfl, zi 1 10 rfl rfl, zi 5 40 rfl rfl, by decide +kernel, by decide +kernel, by decide +kernel⟩
theorem cv_X0_149 : zCv RX0 149 mX0_bringPeople 0 4 := ⟨RX0, TX0, 12, rfl, by decide, rfl, zi 5 106 rfl rfl, zi 5 108 rfl rfl, zip 3 8 rfl, zi 1 9 rfl rfl, zi 5 109 rfl rfl, by decide +kernel, by decide +kernel, by decide +kernel⟩
theorem cv_X0_152 : zCv RX0 152 mX0_joinByRoad 0 4 := ⟨RX0, TX0, 12, rfl, by decide, rfl, zi 5 111 rfl rfl, zi 5 113 rfl rfl, zip 3 9 rfl, zi 1 9 rfl rfl, zi 5 114 rfl rfl, by decide +kernel, by decide +kernel, by decide +kernel⟩
theorem cv_X0_155 : zCv RX0 155 mX2_mostThrough 2 0 := ⟨RX2, TX2, 9, rfl, by decide, rfl, zi 5 119 rfl rfl, zi 5 120 rfl rfl, zi 5 121 rfl rfl, zi 1 11 rfl rfl, zi 5 122 rfl rfl, by decide +kernel, by decide +kernel, by decide +kernel⟩
theorem cv_X0_158 : zCv RX0 158 mX2_isReached 2 1 := ⟨RX2, TX2, 9, rfl, by decide, rfl, zi 5 150 rfl rfl, zi 5 151 rfl rfl, zi 5 152 rfl rfl, zi 1 11 rfl rfl, zi 5 153 rfl rfl, by decide +kernel, by decide +kernel, by decide +kernel⟩
theorem fl_X0_161 : zFl RX0 161 0 10 := ⟨RX0, TX0, 12, rfl, by decide, zi 2 61 rfl rfl⟩
theorem cv_X0_164 : zCv RX0 164 mX10_firstHour 10 0 := ⟨RX10, TX10, 5, rfl, by decide, rfl, zi 5 88 rfl rfl, zi 5 89 rfl rfl, zi 5 90 rfl rfl, zi 1 12 rfl rfl, zi 5 91 rfl rfl, by decide +kernel, by decide +kernel, by decide +kernel⟩
theorem cs_X0_167 : zCs RX0 167 mX2_node 2 := ⟨zi 5 93 rfl rfl, zi 5 94 rfl rfl, zi 1 11 rfl rfl, zi 5 95 rfl rfl, by decide +kernel, by decide +kernel, by decide +kernel⟩
theorem ci_X0_170 : Cond.constant RX0 170 (Int32.ofInt (1000000)) ∈ zT := zi 5 96 rfl rfl
theorem cv_X0_171 : zCv RX0 171 mX2_join 2 3 := ⟨RX2, TX2, 9, rfl, by decide, rfl, zi 5 97 rfl rfl, zi 5 98 rfl rfl, zi 5 99 rfl rfl, zi 1 11 rfl rfl, zi 5 100 rfl rfl, by decide +kernel, by decide +kernel, by decide +kernel⟩
theorem fl_X0_174 : zFl RX0 174 3 4 := ⟨RX3, TX3, 14, rfl, by decide, zi 2 102 rfl rfl⟩
theorem fl_X0_177 : zFl RX0 177 3 5 := ⟨RX3, TX3, 14, rfl, by decide, zi 2 104 rfl rfl⟩
theorem fl_X0_180 : zFl RX0 180 3 1 := ⟨RX3, TX3, 14, rfl, by decide, zi 2 98 rfl rfl⟩
theorem ml_X0_183 : Cond.methodLink RX0 183 Lib.Math.max.name ∈ zT ∧ Cond.static Lib.Math.max.name ∈ zT ∧ Cond.initialized "java/lang/Math" ∈ zT ∧ Cond.code Lib.Math.max.name Lib.Math.max.code 2 (some .int) ∈ zT := ⟨zi 5 110 rfl rfl, zi 3 79 rfl rfl, zi 1 15 rfl rfl, zi 3 80 rfl rfl⟩
theorem fl_X0_186 : zFl RX0 186 3 9 := ⟨RX3, TX3, 14, rfl, by decide, zi 2 114 rfl rfl⟩
theorem fl_X0_189 : zFl RX0 189 3 7 := ⟨RX3, TX3, 14, rfl, by decide, zi 2 110 rfl rfl⟩
theorem fl_X0_192 : zFl RX0 192 3 8 := ⟨RX3, TX3, 14, rfl, by decide, zi 2 112 rfl rfl⟩
theorem cv_X0_195 : zCv RX0 195 mX3_leavesIn 3 2 := ⟨RX3, TX3, 14, rfl, by decide, rfl, zi 5 115 rfl rfl, zi 5 116 rfl rfl, zi 5 117 rfl rfl, zi 1 10 rfl rfl, zi 5 118 rfl rfl, by decide +kernel, by decide +kernel, by decide +kernel⟩
theorem fl_X0_199 : zFl RX0 199 3 10 := ⟨RX3, TX3, 14, rfl, by decide, zi 2 116 rfl rfl⟩
theorem fl_X1_9 : zFl RX1 9 1 0 := ⟨RX1, TX1, 8, rfl, by decide, zi 2 4 rfl rfl⟩
theorem fl_X1_15 : zFl RX1 15 1 1 := ⟨RX1, TX1, 8, rfl, by decide, zi 2 6 rfl rfl⟩
theorem fl_X1_18 : zFl RX1 18 1 2 := ⟨RX1, TX1, 8, rfl, by decide, zi 2 8 rfl rfl⟩
theorem fl_X1_22 : zFl RX1 22 1 3 := ⟨RX1, TX1, 8, rfl, by decide, zi 2 10 rfl rfl⟩
theorem fl_X1_25 : zFl RX1 25 1 4 := ⟨RX1, TX1, 8, rfl, by decide, zi 2 13 rfl rfl⟩
theorem fl_X1_28 : zFl RX1 28 1 6 := ⟨RX1, TX1, 8, rfl, by decide, zi 2 17 rfl rfl⟩
theorem cs_X1_31 : zCsn RX1 "VolcanoWatch" 31 mX11_within 3 := ⟨by decide +kernel, zi 3 182 rfl rfl, zi 1 1 rfl rfl, zi 3 183 rfl rfl, by decide +kernel, by decide +kernel, by decide +kernel⟩
theorem cs_X1_35 : zCs RX1 35 mJ7_fill_53178 2 := ⟨zi 4 136 rfl rfl, zi 1 209 rfl rfl, zi 1 7 rfl rfl, zi 1 210 rfl rfl, by decide +kernel, by decide +kernel, by decide +kernel⟩
theorem fl_X1_41 : zFl RX1 41 1 5 := ⟨RX1, TX1, 8, rfl, by decide, zi 2 15 rfl rfl⟩
theorem fl_X1_44 : zFl RX1 44 1 7 := ⟨RX1, TX1, 8, rfl, by decide, zi 2 18 rfl rfl⟩
theorem cv_X1_47 : zCv RX1 47 mX1_has 1 1 := ⟨RX1, TX1, 8, rfl, by decide, rfl, zi 4 153 rfl rfl, zi 4 154 rfl rfl, zi 4 155 rfl rfl, zi 1 8 rfl rfl, zi 4 156 rfl rfl, by decide +kernel, by decide +kernel, by decide +kernel⟩
theorem cs_X1_51 : zCs RX1 51 mX1_bit 1 := ⟨zi 4 169 rfl rfl, zi 4 170 rfl rfl, zi 1 8 rfl rfl, zi 4 171 rfl rfl, by decide +kernel, by decide +kernel, by decide +kernel⟩
theorem cv_X1_55 : zCv RX1 55 mX1_hasWork 1 2 := ⟨RX1, TX1, 8, rfl, by decide, rfl, zi 4 165 rfl rfl, zi 4 166 rfl rfl, zi 4 167 rfl rfl, zi 1 8 rfl rfl, zi 4 168 rfl rfl, by decide +kernel, by decide +kernel, by decide +kernel⟩
theorem cv_X1_59 : zCv RX1 59 mX1_mayPut 1 2 := ⟨RX1, TX1, 8, rfl, by decide, rfl, zi 5 201 rfl rfl, zi 4 162 rfl rfl, zi 4 163 rfl rfl, zi 1 8 rfl rfl, zi 4 164 rfl rfl, by decide +kernel, by decide +kernel, by decide +kernel⟩
theorem cv_X1_62 : zCv RX1 62 mX1_setWork 1 3 := ⟨RX1, TX1, 8, rfl, by decide, rfl, zi 5 202 rfl rfl, zi 4 174 rfl rfl, zi 4 175 rfl rfl, zi 1 8 rfl rfl, zi 4 176 rfl rfl, by decide +kernel, by decide +kernel, by decide +kernel⟩
theorem fl_X2_15 : zFl RX2 15 2 0 := ⟨RX2, TX2, 9, rfl, by decide, zi 2 158 rfl rfl⟩
theorem fl_X2_19 : zFl RX2 19 2 1 := ⟨RX2, TX2, 9, rfl, by decide, zi 2 159 rfl rfl⟩
theorem fl_X2_22 : zFl RX2 22 2 2 := ⟨RX2, TX2, 9, rfl, by decide, zi 2 160 rfl rfl⟩
theorem fl_X2_25 : zFl RX2 25 2 3 := ⟨RX2, TX2, 9, rfl, by decide, zi 2 161 rfl rfl⟩
theorem fl_X2_28 : zFl RX2 28 2 5 := ⟨RX2, TX2, 9, rfl, by decide, zi 2 163 rfl rfl⟩
theorem fl_X2_31 : zFl RX2 31 2 6 := ⟨RX2, TX2, 9, rfl, by decide, zi 2 164 rfl rfl⟩
theorem fl_X2_34 : zFl RX2 34 2 7 := ⟨RX2, TX2, 9, rfl, by decide, zi 2 165 rfl rfl⟩
theorem fl_X2_37 : zFl RX2 37 2 8 := ⟨RX2, TX2, 9, rfl, by decide, zi 2 166 rfl rfl⟩
theorem fl_X2_40 : zFl RX2 40 2 4 := ⟨RX2, TX2, 9, rfl, by decide, zi 2 162 rfl rfl⟩
theorem cs_X2_44 : zCs RX2 44 mJ7_fill_53178 2 := ⟨zi 5 75 rfl rfl, zi 1 209 rfl rfl, zi 1 7 rfl rfl, zi 1 210 rfl rfl, by decide +kernel, by decide +kernel, by decide +kernel⟩
theorem cv_X2_50 : zCv RX2 50 mX2_addArc 2 3 := ⟨RX2, TX2, 9, rfl, by decide, rfl, zi 5 101 rfl rfl, zi 5 103 rfl rfl, zip 3 7 rfl, zi 1 11 rfl rfl, zi 5 104 rfl rfl, by decide +kernel, by decide +kernel, by decide +kernel⟩
theorem cv_X2_54 : zCv RX2 54 mX2_layByHours 2 0 := ⟨RX2, TX2, 9, rfl, by decide, rfl, zi 5 123 rfl rfl, zi 5 125 rfl rfl, zip 3 10 rfl, zi 1 11 rfl rfl, zi 5 126 rfl rfl, by decide +kernel, by decide +kernel, by decide +kernel⟩
theorem cv_X2_57 : zCv RX2 57 mX2_pushRound 2 0 := ⟨RX2, TX2, 9, rfl, by decide, rfl, zi 5 127 rfl rfl, zi 5 129 rfl rfl, zip 3 11 rfl, zi 1 11 rfl rfl, zi 5 130 rfl rfl, by decide +kernel, by decide +kernel, by decide +kernel⟩
theorem ci_X2_61 : Cond.constant RX2 61 (Int32.ofInt (1000000)) ∈ zT := zi 5 132 rfl rfl
theorem cv_X2_62 : zCv RX2 62 mX2_layByDistance 2 0 := ⟨RX2, TX2, 9, rfl, by decide, rfl, zi 5 146 rfl rfl, zi 5 148 rfl rfl, zip 3 15 rfl, zi 1 11 rfl rfl, zi 5 149 rfl rfl, by decide +kernel, by decide +kernel, by decide +kernel⟩
theorem ac_X2_66 : Cond.methodLink RX2 66 arraycopyName ∈ zT ∧ Cond.native arraycopyName ∈ zT ∧ Cond.static arraycopyName ∈ zT ∧ Cond.initialized "java/lang/System" ∈ zT := ⟨zi 5 131 rfl rfl, zi 4 208 rfl rfl, zi 4 207 rfl rfl, zi 1 20 rfl rfl⟩
theorem cv_X2_72 : zCv RX2 72 mX2_deeperArc 2 1 := ⟨RX2, TX2, 9, rfl, by decide, rfl, zi 5 133 rfl rfl, zi 5 135 rfl rfl, zip 3 12 rfl, zi 1 11 rfl rfl, zi 5 136 rfl rfl, by decide +kernel, by decide +kernel, by decide +kernel⟩
theorem cv_X2_76 : zCv RX2 76 mX2_pushAlong 2 1 := ⟨RX2, TX2, 9, rfl, by decide, rfl, zi 5 141 rfl rfl, zi 5 143 rfl rfl, zip 3 14 rfl, zi 1 11 rfl rfl, zi 5 144 rfl rfl, by decide +kernel, by decide +kernel, by decide +kernel⟩
theorem cv_X2_79 : zCv RX2 79 mX2_leadsDeeper 2 2 := ⟨RX2, TX2, 9, rfl, by decide, rfl, zi 5 137 rfl rfl, zi 5 139 rfl rfl, zip 3 13 rfl, zi 1 11 rfl rfl, zi 5 140 rfl rfl, by decide +kernel, by decide +kernel, by decide +kernel⟩
theorem ml_X2_83 : Cond.methodLink RX2 83 Lib.Math.min.name ∈ zT ∧ Cond.static Lib.Math.min.name ∈ zT ∧ Cond.initialized "java/lang/Math" ∈ zT ∧ Cond.code Lib.Math.min.name Lib.Math.min.code 2 (some .int) ∈ zT := ⟨zi 5 145 rfl rfl, zi 3 76 rfl rfl, zi 1 15 rfl rfl, zi 3 77 rfl rfl⟩
theorem fl_X3_11 : zFl RX3 11 3 0 := ⟨RX3, TX3, 14, rfl, by decide, zi 2 95 rfl rfl⟩
theorem fl_X3_15 : zFl RX3 15 3 1 := ⟨RX3, TX3, 14, rfl, by decide, zi 2 97 rfl rfl⟩
theorem fl_X3_18 : zFl RX3 18 3 2 := ⟨RX3, TX3, 14, rfl, by decide, zi 2 99 rfl rfl⟩
theorem fl_X3_21 : zFl RX3 21 3 3 := ⟨RX3, TX3, 14, rfl, by decide, zi 2 100 rfl rfl⟩
theorem fl_X3_24 : zFl RX3 24 3 4 := ⟨RX3, TX3, 14, rfl, by decide, zi 2 101 rfl rfl⟩
theorem fl_X3_27 : zFl RX3 27 3 5 := ⟨RX3, TX3, 14, rfl, by decide, zi 2 103 rfl rfl⟩
theorem fl_X3_30 : zFl RX3 30 3 7 := ⟨RX3, TX3, 14, rfl, by decide, zi 2 109 rfl rfl⟩
theorem fl_X3_33 : zFl RX3 33 3 8 := ⟨RX3, TX3, 14, rfl, by decide, zi 2 111 rfl rfl⟩
theorem fl_X3_36 : zFl RX3 36 3 9 := ⟨RX3, TX3, 14, rfl, by decide, zi 2 113 rfl rfl⟩
theorem fl_X3_39 : zFl RX3 39 3 10 := ⟨RX3, TX3, 14, rfl, by decide, zi 2 115 rfl rfl⟩
theorem fl_X3_42 : zFl RX3 42 3 11 := ⟨RX3, TX3, 14, rfl, by decide, zi 2 117 rfl rfl⟩
theorem fl_X3_45 : zFl RX3 45 3 12 := ⟨RX3, TX3, 14, rfl, by decide, zi 2 118 rfl rfl⟩
theorem fl_X3_48 : zFl RX3 48 3 6 := ⟨RX3, TX3, 14, rfl, by decide, zi 2 106 rfl rfl⟩
theorem fl_X3_52 : zFl RX3 52 3 13 := ⟨RX3, TX3, 14, rfl, by decide, zi 2 120 rfl rfl⟩
theorem cs_X3_55 : zCsn RX3 "VolcanoWatch" 55 mX11_within 3 := ⟨by decide +kernel, zi 3 182 rfl rfl, zi 1 1 rfl rfl, zi 3 183 rfl rfl, by decide +kernel, by decide +kernel, by decide +kernel⟩
theorem cv_X3_59 : zCv RX3 59 mX3_has 3 1 := ⟨RX3, TX3, 14, rfl, by decide, rfl, zi 5 41 rfl rfl, zi 5 25 rfl rfl, zi 5 26 rfl rfl, zi 1 10 rfl rfl, zi 5 27 rfl rfl, by decide +kernel, by decide +kernel, by decide +kernel⟩
theorem cv_X3_63 : zCv RX3 63 mX3_addTown 3 4 := ⟨RX3, TX3, 14, rfl, by decide, rfl, zi 5 19 rfl rfl, zi 5 8 rfl rfl, zi 5 9 rfl rfl, zi 1 10 rfl rfl, zi 5 10 rfl rfl, by decide +kernel, by decide +kernel, by decide +kernel⟩
theorem cs_X3_67 : zCs RX3 67 mJ7_fill_53178 2 := ⟨zi 5 50 rfl rfl, zi 1 209 rfl rfl, zi 1 7 rfl rfl, zi 1 210 rfl rfl, by decide +kernel, by decide +kernel, by decide +kernel⟩
theorem fl_X4_9 : zFl RX4 9 4 1 := ⟨RX4, TX4, 5, rfl, by decide, zi 2 220 rfl rfl⟩
theorem fl_X4_15 : zFl RX4 15 4 2 := ⟨RX4, TX4, 5, rfl, by decide, zi 2 221 rfl rfl⟩
theorem fl_X4_18 : zFl RX4 18 4 3 := ⟨RX4, TX4, 5, rfl, by decide, zi 2 222 rfl rfl⟩
theorem fl_X4_21 : zFl RX4 21 4 4 := ⟨RX4, TX4, 5, rfl, by decide, zi 2 224 rfl rfl⟩
theorem fl_X5_11 : zFl RX5 11 5 0 := ⟨RX5, TX5, 8, rfl, by decide, zi 1 211 rfl rfl⟩
theorem fl_X5_15 : zFl RX5 15 5 2 := ⟨RX5, TX5, 8, rfl, by decide, zi 1 214 rfl rfl⟩
theorem fl_X5_18 : zFl RX5 18 5 3 := ⟨RX5, TX5, 8, rfl, by decide, zi 1 215 rfl rfl⟩
theorem fl_X5_21 : zFl RX5 21 5 4 := ⟨RX5, TX5, 8, rfl, by decide, zi 1 216 rfl rfl⟩
theorem fl_X5_24 : zFl RX5 24 5 5 := ⟨RX5, TX5, 8, rfl, by decide, zi 1 217 rfl rfl⟩
theorem fl_X5_30 : zFl RX5 30 5 7 := ⟨RX5, TX5, 8, rfl, by decide, zi 1 220 rfl rfl⟩
theorem cs_X5_34 : zCs RX5 34 mJ7_fill_53178 2 := ⟨zi 1 208 rfl rfl, zi 1 209 rfl rfl, zi 1 7 rfl rfl, zi 1 210 rfl rfl, by decide +kernel, by decide +kernel, by decide +kernel⟩
theorem fl_X5_40 : zFl RX5 40 5 1 := ⟨RX5, TX5, 8, rfl, by decide, zi 1 212 rfl rfl⟩
theorem cs_X5_44 : zCsn RX5 "VolcanoWatch" 44 mX11_within 3 := ⟨by decide +kernel, zi 3 182 rfl rfl, zi 1 1 rfl rfl, zi 3 183 rfl rfl, by decide +kernel, by decide +kernel, by decide +kernel⟩
theorem cv_X5_48 : zCv RX5 48 mX5_hasPost 5 1 := ⟨RX5, TX5, 8, rfl, by decide, rfl, zi 4 40 rfl rfl, zi 4 41 rfl rfl, zi 4 42 rfl rfl, zi 1 5 rfl rfl, zi 4 43 rfl rfl, by decide +kernel, by decide +kernel, by decide +kernel⟩
theorem cs_X5_52 : zCsn RX5 "VolcanoWatch" 52 mX11_isHour 1 := ⟨by decide +kernel, zi 4 45 rfl rfl, zi 1 1 rfl rfl, zi 4 46 rfl rfl, by decide +kernel, by decide +kernel, by decide +kernel⟩
theorem fl_X5_55 : zFl RX5 55 5 6 := ⟨RX5, TX5, 8, rfl, by decide, zi 1 218 rfl rfl⟩
theorem cv_X5_58 : zCv RX5 58 mX8_clear 8 0 := ⟨RX8, TX8, 9, rfl, by decide, rfl, zi 4 77 rfl rfl, zi 4 78 rfl rfl, zi 4 79 rfl rfl, zi 1 6 rfl rfl, zi 4 80 rfl rfl, by decide +kernel, by decide +kernel, by decide +kernel⟩
theorem ml_X5_61 : Cond.methodLink RX5 61 Lib.Math.max.name ∈ zT ∧ Cond.static Lib.Math.max.name ∈ zT ∧ Cond.initialized "java/lang/Math" ∈ zT ∧ Cond.code Lib.Math.max.name Lib.Math.max.code 2 (some .int) ∈ zT := ⟨zi 4 81 rfl rfl, zi 3 79 rfl rfl, zi 1 15 rfl rfl, zi 3 80 rfl rfl⟩
theorem cv_X5_67 : zCv RX5 67 mX5_known 5 3 := ⟨RX5, TX5, 8, rfl, by decide, rfl, zi 4 82 rfl rfl, zi 4 54 rfl rfl, zi 4 55 rfl rfl, zi 1 5 rfl rfl, zi 4 56 rfl rfl, by decide +kernel, by decide +kernel, by decide +kernel⟩
theorem cv_X5_71 : zCv RX5 71 mX8_add 8 2 := ⟨RX8, TX8, 9, rfl, by decide, rfl, zi 4 83 rfl rfl, zi 4 84 rfl rfl, zi 4 85 rfl rfl, zi 1 6 rfl rfl, zi 4 86 rfl rfl, by decide +kernel, by decide +kernel, by decide +kernel⟩
theorem cv_X5_75 : zCv RX5 75 mX8_part 8 1 := ⟨RX8, TX8, 9, rfl, by decide, rfl, zi 4 87 rfl rfl, zi 4 88 rfl rfl, zi 4 89 rfl rfl, zi 1 6 rfl rfl, zi 4 90 rfl rfl, by decide +kernel, by decide +kernel, by decide +kernel⟩
theorem fl_X6_11 : zFl RX6 11 6 0 := ⟨RX6, TX6, 12, rfl, by decide, zi 1 123 rfl rfl⟩
theorem fl_X6_15 : zFl RX6 15 6 1 := ⟨RX6, TX6, 12, rfl, by decide, zi 1 124 rfl rfl⟩
theorem fl_X6_18 : zFl RX6 18 6 2 := ⟨RX6, TX6, 12, rfl, by decide, zi 1 125 rfl rfl⟩
theorem fl_X6_21 : zFl RX6 21 6 3 := ⟨RX6, TX6, 12, rfl, by decide, zi 1 126 rfl rfl⟩
theorem fl_X6_24 : zFl RX6 24 6 4 := ⟨RX6, TX6, 12, rfl, by decide, zi 1 127 rfl rfl⟩
theorem fl_X6_27 : zFl RX6 27 6 5 := ⟨RX6, TX6, 12, rfl, by decide, zi 1 128 rfl rfl⟩
theorem fl_X6_31 : zFl RX6 31 6 7 := ⟨RX6, TX6, 12, rfl, by decide, zi 1 130 rfl rfl⟩
theorem fl_X6_35 : zFl RX6 35 6 8 := ⟨RX6, TX6, 12, rfl, by decide, zi 1 131 rfl rfl⟩
theorem fl_X6_38 : zFl RX6 38 6 9 := ⟨RX6, TX6, 12, rfl, by decide, zi 1 134 rfl rfl⟩
theorem fl_X6_41 : zFl RX6 41 6 10 := ⟨RX6, TX6, 12, rfl, by decide, zi 1 137 rfl rfl⟩
theorem fl_X6_44 : zFl RX6 44 6 11 := ⟨RX6, TX6, 12, rfl, by decide, zi 1 140 rfl rfl⟩
theorem cv_X6_48 : zCv RX6 48 mX6_value 6 4 := ⟨RX6, TX6, 12, rfl, by decide, rfl, zi 4 65 rfl rfl, zi 4 66 rfl rfl, zi 4 67 rfl rfl, zi 1 4 rfl rfl, zi 4 68 rfl rfl, by decide +kernel, by decide +kernel, by decide +kernel⟩
theorem ci_X6_52 : Cond.constantLong RX6 52 (Int64.ofInt (-9223372036854775808)) ∈ zT := zi 4 106 rfl rfl
theorem fl_X6_54 : zFl RX6 54 6 6 := ⟨RX6, TX6, 12, rfl, by decide, zi 1 129 rfl rfl⟩
theorem cv_X6_57 : zCv RX6 57 mX6_knotValue 6 4 := ⟨RX6, TX6, 12, rfl, by decide, rfl, zi 4 69 rfl rfl, zi 4 71 rfl rfl, zip 2 7 rfl, zi 1 4 rfl rfl, zi 4 72 rfl rfl, by decide +kernel, by decide +kernel, by decide +kernel⟩
theorem ci_X6_60 : Cond.constantLong RX6 60 (Int64.ofInt (1000000000000)) ∈ zT := zi 4 105 rfl rfl
theorem ci_X6_62 : Cond.constantLong RX6 62 (Int64.ofInt (-1000000000000)) ∈ zT := zi 4 107 rfl rfl
theorem cv_X6_64 : zCv RX6 64 mX6_push 6 1 := ⟨RX6, TX6, 12, rfl, by decide, rfl, zi 4 108 rfl rfl, zi 4 110 rfl rfl, zip 2 9 rfl, zi 1 4 rfl rfl, zi 4 111 rfl rfl, by decide +kernel, by decide +kernel, by decide +kernel⟩
theorem cv_X6_70 : zCv RX6 70 mX5_overWindow 5 5 := ⟨RX5, TX5, 8, rfl, by decide, rfl, zi 4 73 rfl rfl, zi 4 74 rfl rfl, zi 4 75 rfl rfl, zi 1 5 rfl rfl, zi 4 76 rfl rfl, by decide +kernel, by decide +kernel, by decide +kernel⟩
theorem cv_X6_76 : zCv RX6 76 mX6_pop 6 0 := ⟨RX6, TX6, 12, rfl, by decide, rfl, zi 4 92 rfl rfl, zi 4 94 rfl rfl, zip 2 8 rfl, zi 1 4 rfl rfl, zi 4 95 rfl rfl, by decide +kernel, by decide +kernel, by decide +kernel⟩
theorem cs_X6_80 : zCs RX6 80 mX6_asNumber 1 := ⟨zi 4 96 rfl rfl, zi 4 97 rfl rfl, zi 1 4 rfl rfl, zi 4 98 rfl rfl, by decide +kernel, by decide +kernel, by decide +kernel⟩
theorem cs_X6_84 : zCs RX6 84 mX6_join 3 := ⟨zi 4 99 rfl rfl, zi 4 100 rfl rfl, zi 1 4 rfl rfl, zi 4 101 rfl rfl, by decide +kernel, by decide +kernel, by decide +kernel⟩
theorem cs_X6_88 : zCs RX6 88 mX6_product 2 := ⟨zi 4 102 rfl rfl, zi 4 103 rfl rfl, zi 1 4 rfl rfl, zi 4 104 rfl rfl, by decide +kernel, by decide +kernel, by decide +kernel⟩
theorem fl_X7_12 : zFl RX7 12 7 0 := ⟨RX7, TX7, 13, rfl, by decide, zi 1 73 rfl rfl⟩
theorem fl_X7_18 : zFl RX7 18 7 2 := ⟨RX7, TX7, 13, rfl, by decide, zi 1 77 rfl rfl⟩
theorem fl_X7_24 : zFl RX7 24 7 6 := ⟨RX7, TX7, 13, rfl, by decide, zi 1 82 rfl rfl⟩
theorem fl_X7_28 : zFl RX7 28 7 9 := ⟨RX7, TX7, 13, rfl, by decide, zi 1 85 rfl rfl⟩
theorem cv_X7_32 : zCv RX7 32 mX9_startText 9 1 := ⟨RX9, TX9, 7, rfl, by decide, rfl, zi 3 71 rfl rfl, zi 3 72 rfl rfl, zi 3 73 rfl rfl, zi 1 3 rfl rfl, zi 3 74 rfl rfl, by decide +kernel, by decide +kernel, by decide +kernel⟩
theorem cv_X7_36 : zCv RX7 36 mX6_clear 6 0 := ⟨RX6, TX6, 12, rfl, by decide, rfl, zi 3 81 rfl rfl, zi 3 82 rfl rfl, zi 3 83 rfl rfl, zi 1 4 rfl rfl, zi 3 84 rfl rfl, by decide +kernel, by decide +kernel, by decide +kernel⟩
theorem fl_X7_39 : zFl RX7 39 7 1 := ⟨RX7, TX7, 13, rfl, by decide, zi 1 75 rfl rfl⟩
theorem fl_X7_42 : zFl RX7 42 7 3 := ⟨RX7, TX7, 13, rfl, by decide, zi 1 79 rfl rfl⟩
theorem fl_X7_45 : zFl RX7 45 7 4 := ⟨RX7, TX7, 13, rfl, by decide, zi 1 80 rfl rfl⟩
theorem cv_X7_48 : zCv RX7 48 mX9_next 9 0 := ⟨RX9, TX9, 7, rfl, by decide, rfl, zi 3 85 rfl rfl, zi 3 86 rfl rfl, zi 3 87 rfl rfl, zi 1 3 rfl rfl, zi 3 88 rfl rfl, by decide +kernel, by decide +kernel, by decide +kernel⟩
theorem fl_X7_51 : zFl RX7 51 9 4 := ⟨RX9, TX9, 7, rfl, by decide, zi 1 51 rfl rfl⟩
theorem cv_X7_54 : zCv RX7 54 mX7_take 7 1 := ⟨RX7, TX7, 13, rfl, by decide, rfl, zi 3 165 rfl rfl, zi 3 167 rfl rfl, zip 1 5 rfl, zi 1 2 rfl rfl, zi 3 168 rfl rfl, by decide +kernel, by decide +kernel, by decide +kernel⟩
theorem fl_X7_58 : zFl RX7 58 9 5 := ⟨RX9, TX9, 7, rfl, by decide, zi 1 53 rfl rfl⟩
theorem cv_X7_61 : zCv RX7 61 mX7_takeLineWord 7 1 := ⟨RX7, TX7, 13, rfl, by decide, rfl, zi 3 169 rfl rfl, zi 3 171 rfl rfl, zip 1 6 rfl, zi 1 2 rfl rfl, zi 3 172 rfl rfl, by decide +kernel, by decide +kernel, by decide +kernel⟩
theorem cv_X7_64 : zCv RX7 64 mX7_takeKeep 7 1 := ⟨RX7, TX7, 13, rfl, by decide, rfl, zi 3 173 rfl rfl, zi 3 175 rfl rfl, zip 1 7 rfl, zi 1 2 rfl rfl, zi 3 176 rfl rfl, by decide +kernel, by decide +kernel, by decide +kernel⟩
theorem cv_X7_67 : zCv RX7 67 mX7_takeKeepEnd 7 0 := ⟨RX7, TX7, 13, rfl, by decide, rfl, zi 3 184 rfl rfl, zi 3 186 rfl rfl, zip 1 9 rfl, zi 1 2 rfl rfl, zi 3 187 rfl rfl, by decide +kernel, by decide +kernel, by decide +kernel⟩
theorem cv_X7_71 : zCv RX7 71 mX7_takeLevel 7 0 := ⟨RX7, TX7, 13, rfl, by decide, rfl, zi 3 188 rfl rfl, zi 3 190 rfl rfl, zip 1 10 rfl, zi 1 2 rfl rfl, zi 3 191 rfl rfl, by decide +kernel, by decide +kernel, by decide +kernel⟩
theorem cv_X7_74 : zCv RX7 74 mX7_takeAheadOfOperand 7 1 := ⟨RX7, TX7, 13, rfl, by decide, rfl, zi 3 192 rfl rfl, zi 3 194 rfl rfl, zip 1 11 rfl, zi 1 2 rfl rfl, zi 3 195 rfl rfl, by decide +kernel, by decide +kernel, by decide +kernel⟩
theorem cv_X7_77 : zCv RX7 77 mX7_takeBehindOperand 7 1 := ⟨RX7, TX7, 13, rfl, by decide, rfl, zi 3 217 rfl rfl, zi 3 219 rfl rfl, zip 2 0 rfl, zi 1 2 rfl rfl, zi 3 220 rfl rfl, by decide +kernel, by decide +kernel, by decide +kernel⟩
theorem cv_X7_80 : zCv RX7 80 mX7_takeOfWindow 7 1 := ⟨RX7, TX7, 13, rfl, by decide, rfl, zi 3 236 rfl rfl, zi 3 238 rfl rfl, zip 2 3 rfl, zi 1 2 rfl rfl, zi 3 239 rfl rfl, by decide +kernel, by decide +kernel, by decide +kernel⟩
theorem fl_X7_83 : zFl RX7 83 6 11 := ⟨RX6, TX6, 12, rfl, by decide, zi 1 141 rfl rfl⟩
theorem fl_X7_87 : zFl RX7 87 6 8 := ⟨RX6, TX6, 12, rfl, by decide, zi 1 132 rfl rfl⟩
theorem fl_X7_90 : zFl RX7 90 9 6 := ⟨RX9, TX9, 7, rfl, by decide, zi 1 55 rfl rfl⟩
theorem cs_X7_93 : zCsn RX7 "VolcanoWatch" 93 mX11_within 3 := ⟨by decide +kernel, zi 3 182 rfl rfl, zi 1 1 rfl rfl, zi 3 183 rfl rfl, by decide +kernel, by decide +kernel, by decide +kernel⟩
theorem fl_X7_97 : zFl RX7 97 6 10 := ⟨RX6, TX6, 12, rfl, by decide, zi 1 138 rfl rfl⟩
theorem cv_X7_100 : zCv RX7 100 mX7_judgeNumber 7 2 := ⟨RX7, TX7, 13, rfl, by decide, rfl, zi 3 177 rfl rfl, zi 3 179 rfl rfl, zip 1 8 rfl, zi 1 2 rfl rfl, zi 3 180 rfl rfl, by decide +kernel, by decide +kernel, by decide +kernel⟩
theorem fl_X7_104 : zFl RX7 104 7 5 := ⟨RX7, TX7, 13, rfl, by decide, zi 1 81 rfl rfl⟩
theorem fl_X7_107 : zFl RX7 107 7 7 := ⟨RX7, TX7, 13, rfl, by decide, zi 1 83 rfl rfl⟩
theorem fl_X7_110 : zFl RX7 110 7 8 := ⟨RX7, TX7, 13, rfl, by decide, zi 1 84 rfl rfl⟩
theorem fl_X7_113 : zFl RX7 113 7 10 := ⟨RX7, TX7, 13, rfl, by decide, zi 1 86 rfl rfl⟩
theorem cv_X7_116 : zCv RX7 116 mX7_takeOpen 7 0 := ⟨RX7, TX7, 13, rfl, by decide, rfl, zi 3 196 rfl rfl, zi 3 198 rfl rfl, zip 1 12 rfl, zi 1 2 rfl rfl, zi 3 199 rfl rfl, by decide +kernel, by decide +kernel, by decide +kernel⟩
theorem cv_X7_119 : zCv RX7 119 mX7_takePlainNumber 7 1 := ⟨RX7, TX7, 13, rfl, by decide, rfl, zi 3 204 rfl rfl, zi 3 206 rfl rfl, zip 1 14 rfl, zi 1 2 rfl rfl, zi 3 207 rfl rfl, by decide +kernel, by decide +kernel, by decide +kernel⟩
theorem fl_X7_122 : zFl RX7 122 7 11 := ⟨RX7, TX7, 13, rfl, by decide, zi 1 87 rfl rfl⟩
theorem cv_X7_125 : zCv RX7 125 mX7_countKnot 7 1 := ⟨RX7, TX7, 13, rfl, by decide, rfl, zi 3 213 rfl rfl, zi 3 215 rfl rfl, zip 1 15 rfl, zi 1 2 rfl rfl, zi 3 216 rfl rfl, by decide +kernel, by decide +kernel, by decide +kernel⟩
theorem cv_X7_128 : zCv RX7 128 mX7_await 7 1 := ⟨RX7, TX7, 13, rfl, by decide, rfl, zi 3 200 rfl rfl, zi 3 202 rfl rfl, zip 1 13 rfl, zi 1 2 rfl rfl, zi 3 203 rfl rfl, by decide +kernel, by decide +kernel, by decide +kernel⟩
theorem cv_X7_131 : zCv RX7 131 mX6_write 6 3 := ⟨RX6, TX6, 12, rfl, by decide, rfl, zi 3 208 rfl rfl, zi 3 209 rfl rfl, zi 3 210 rfl rfl, zi 1 4 rfl rfl, zi 3 211 rfl rfl, by decide +kernel, by decide +kernel, by decide +kernel⟩
theorem ci_X7_135 : Cond.constant RX7 135 (Int32.ofInt (99999)) ∈ zT := zi 3 212 rfl rfl
theorem fl_X7_136 : zFl RX7 136 7 12 := ⟨RX7, TX7, 13, rfl, by decide, zi 1 88 rfl rfl⟩
theorem cv_X7_139 : zCv RX7 139 mX7_settle 7 2 := ⟨RX7, TX7, 13, rfl, by decide, rfl, zi 3 221 rfl rfl, zi 3 223 rfl rfl, zip 2 1 rfl, zi 1 2 rfl rfl, zi 3 224 rfl rfl, by decide +kernel, by decide +kernel, by decide +kernel⟩
theorem cv_X7_143 : zCv RX7 143 mX6_endLine 6 1 := ⟨RX6, TX6, 12, rfl, by decide, rfl, zi 3 228 rfl rfl, zi 3 229 rfl rfl, zi 3 230 rfl rfl, zi 1 4 rfl rfl, zi 3 231 rfl rfl, by decide +kernel, by decide +kernel, by decide +kernel⟩
theorem cv_X7_146 : zCv RX7 146 mX7_takeSign 7 1 := ⟨RX7, TX7, 13, rfl, by decide, rfl, zi 3 232 rfl rfl, zi 3 234 rfl rfl, zip 2 2 rfl, zi 1 2 rfl rfl, zi 3 235 rfl rfl, by decide +kernel, by decide +kernel, by decide +kernel⟩
theorem cs_X7_149 : zCs RX7 149 mX7_strength 1 := ⟨zi 3 225 rfl rfl, zi 3 226 rfl rfl, zi 1 2 rfl rfl, zi 3 227 rfl rfl, by decide +kernel, by decide +kernel, by decide +kernel⟩
theorem fl_X7_153 : zFl RX7 153 6 9 := ⟨RX6, TX6, 12, rfl, by decide, zi 1 135 rfl rfl⟩
theorem fl_X8_7 : zFl RX8 7 8 0 := ⟨RX8, TX8, 9, rfl, by decide, zi 1 180 rfl rfl⟩
theorem fl_X8_13 : zFl RX8 13 8 1 := ⟨RX8, TX8, 9, rfl, by decide, zi 1 181 rfl rfl⟩
theorem fl_X8_16 : zFl RX8 16 8 2 := ⟨RX8, TX8, 9, rfl, by decide, zi 1 182 rfl rfl⟩
theorem fl_X8_21 : zFl RX8 21 8 3 := ⟨RX8, TX8, 9, rfl, by decide, zi 1 183 rfl rfl⟩
theorem fl_X8_24 : zFl RX8 24 8 4 := ⟨RX8, TX8, 9, rfl, by decide, zi 1 184 rfl rfl⟩
theorem fl_X8_27 : zFl RX8 27 8 5 := ⟨RX8, TX8, 9, rfl, by decide, zi 1 185 rfl rfl⟩
theorem fl_X8_30 : zFl RX8 30 8 6 := ⟨RX8, TX8, 9, rfl, by decide, zi 1 186 rfl rfl⟩
theorem fl_X8_33 : zFl RX8 33 8 7 := ⟨RX8, TX8, 9, rfl, by decide, zi 1 187 rfl rfl⟩
theorem fl_X8_36 : zFl RX8 36 8 8 := ⟨RX8, TX8, 9, rfl, by decide, zi 1 188 rfl rfl⟩
theorem ci_X8_41 : Cond.constantLong RX8 41 (Int64.ofInt (-9223372036854775808)) ∈ zT := zi 4 91 rfl rfl
theorem fl_X9_9 : zFl RX9 9 9 0 := ⟨RX9, TX9, 7, rfl, by decide, zi 1 46 rfl rfl⟩
theorem fl_X9_13 : zFl RX9 13 9 1 := ⟨RX9, TX9, 7, rfl, by decide, zi 1 47 rfl rfl⟩
theorem ml_X9_17 : Cond.methodLink RX9 17 Lib.Math.min.name ∈ zT ∧ Cond.static Lib.Math.min.name ∈ zT ∧ Cond.initialized "java/lang/Math" ∈ zT ∧ Cond.code Lib.Math.min.name Lib.Math.min.code 2 (some .int) ∈ zT := ⟨zi 3 75 rfl rfl, zi 3 76 rfl rfl, zi 1 15 rfl rfl, zi 3 77 rfl rfl⟩
theorem ml_X9_23 : Cond.methodLink RX9 23 Lib.Math.max.name ∈ zT ∧ Cond.static Lib.Math.max.name ∈ zT ∧ Cond.initialized "java/lang/Math" ∈ zT ∧ Cond.code Lib.Math.max.name Lib.Math.max.code 2 (some .int) ∈ zT := ⟨zi 3 78 rfl rfl, zi 3 79 rfl rfl, zi 1 15 rfl rfl, zi 3 80 rfl rfl⟩
theorem fl_X9_26 : zFl RX9 26 9 2 := ⟨RX9, TX9, 7, rfl, by decide, zi 1 49 rfl rfl⟩
theorem fl_X9_29 : zFl RX9 29 9 3 := ⟨RX9, TX9, 7, rfl, by decide, zi 1 50 rfl rfl⟩
theorem fl_X9_32 : zFl RX9 32 9 5 := ⟨RX9, TX9, 7, rfl, by decide, zi 1 54 rfl rfl⟩
theorem fl_X9_35 : zFl RX9 35 9 4 := ⟨RX9, TX9, 7, rfl, by decide, zi 1 52 rfl rfl⟩
theorem cs_X9_38 : zCs RX9 38 mX9_isLetter 1 := ⟨zi 3 89 rfl rfl, zi 3 90 rfl rfl, zi 1 3 rfl rfl, zi 3 91 rfl rfl, by decide +kernel, by decide +kernel, by decide +kernel⟩
theorem cv_X9_42 : zCv RX9 42 mX9_readWord 9 0 := ⟨RX9, TX9, 7, rfl, by decide, rfl, zi 3 92 rfl rfl, zi 3 94 rfl rfl, zip 1 0 rfl, zi 1 3 rfl rfl, zi 3 95 rfl rfl, by decide +kernel, by decide +kernel, by decide +kernel⟩
theorem cs_X9_45 : zCs RX9 45 mX9_isDigit 1 := ⟨zi 3 149 rfl rfl, zi 3 150 rfl rfl, zi 1 3 rfl rfl, zi 3 151 rfl rfl, by decide +kernel, by decide +kernel, by decide +kernel⟩
theorem cv_X9_48 : zCv RX9 48 mX9_readNumber 9 0 := ⟨RX9, TX9, 7, rfl, by decide, rfl, zi 3 152 rfl rfl, zi 3 154 rfl rfl, zip 1 2 rfl, zi 1 3 rfl rfl, zi 3 155 rfl rfl, by decide +kernel, by decide +kernel, by decide +kernel⟩
theorem cv_X9_51 : zCv RX9 51 mX9_readSign 9 0 := ⟨RX9, TX9, 7, rfl, by decide, rfl, zi 3 157 rfl rfl, zi 3 159 rfl rfl, zip 1 3 rfl, zi 1 3 rfl rfl, zi 3 160 rfl rfl, by decide +kernel, by decide +kernel, by decide +kernel⟩
theorem cv_X9_66 : zCv RX9 66 mX9_isWordAt 9 2 := ⟨RX9, TX9, 7, rfl, by decide, rfl, zi 3 145 rfl rfl, zi 3 147 rfl rfl, zip 1 1 rfl, zi 1 3 rfl rfl, zi 3 148 rfl rfl, by decide +kernel, by decide +kernel, by decide +kernel⟩
theorem fl_X9_70 : zFl RX9 70 9 6 := ⟨RX9, TX9, 7, rfl, by decide, zi 1 56 rfl rfl⟩
theorem ci_X9_73 : Cond.constant RX9 73 (Int32.ofInt (1000000)) ∈ zT := zi 3 156 rfl rfl
theorem cv_X9_74 : zCv RX9 74 mX9_takes 9 1 := ⟨RX9, TX9, 7, rfl, by decide, rfl, zi 3 161 rfl rfl, zi 3 163 rfl rfl, zip 1 4 rfl, zi 1 3 rfl rfl, zi 3 164 rfl rfl, by decide +kernel, by decide +kernel, by decide +kernel⟩
theorem fl_X10_7 : zFl RX10 7 10 0 := ⟨RX10, TX10, 5, rfl, by decide, zi 2 193 rfl rfl⟩
theorem ml_X10_15 : Cond.methodLink RX10 15 Lib.Math.max.name ∈ zT ∧ Cond.static Lib.Math.max.name ∈ zT ∧ Cond.initialized "java/lang/Math" ∈ zT ∧ Cond.code Lib.Math.max.name Lib.Math.max.code 2 (some .int) ∈ zT := ⟨zi 5 92 rfl rfl, zi 3 79 rfl rfl, zi 1 15 rfl rfl, zi 3 80 rfl rfl⟩
theorem fl_X11_10 : zFl RX11 10 11 1 := ⟨RX11, TX11, 18, rfl, by decide, zi 2 237 rfl rfl⟩
theorem fl_X11_19 : zFl RX11 19 11 2 := ⟨RX11, TX11, 18, rfl, by decide, zi 2 238 rfl rfl⟩
theorem fl_X11_23 : zFl RX11 23 11 3 := ⟨RX11, TX11, 18, rfl, by decide, zi 2 239 rfl rfl⟩
theorem fl_X11_29 : zFl RX11 29 11 4 := ⟨RX11, TX11, 18, rfl, by decide, zi 3 0 rfl rfl⟩
theorem fl_X11_33 : zFl RX11 33 11 5 := ⟨RX11, TX11, 18, rfl, by decide, zi 3 1 rfl rfl⟩
theorem fl_X11_40 : zFl RX11 40 11 8 := ⟨RX11, TX11, 18, rfl, by decide, zi 3 4 rfl rfl⟩
theorem fl_X11_46 : zFl RX11 46 11 9 := ⟨RX11, TX11, 18, rfl, by decide, zi 3 5 rfl rfl⟩
theorem fl_X11_52 : zFl RX11 52 11 10 := ⟨RX11, TX11, 18, rfl, by decide, zi 3 6 rfl rfl⟩
theorem fl_X11_57 : zFl RX11 57 11 12 := ⟨RX11, TX11, 18, rfl, by decide, zi 3 8 rfl rfl⟩
theorem fl_X11_64 : zFl RX11 64 11 13 := ⟨RX11, TX11, 18, rfl, by decide, zi 3 9 rfl rfl⟩
theorem fl_X11_71 : zFl RX11 71 11 14 := ⟨RX11, TX11, 18, rfl, by decide, zi 3 10 rfl rfl⟩
theorem fl_X11_77 : zFl RX11 77 11 15 := ⟨RX11, TX11, 18, rfl, by decide, zi 3 11 rfl rfl⟩
theorem fl_X11_81 : zFl RX11 81 11 16 := ⟨RX11, TX11, 18, rfl, by decide, zi 3 12 rfl rfl⟩
theorem fl_X11_84 : zFl RX11 84 11 17 := ⟨RX11, TX11, 18, rfl, by decide, zi 3 13 rfl rfl⟩
theorem fl_X11_89 : zFl RX11 89 7 0 := ⟨RX7, TX7, 13, rfl, by decide, zi 1 74 rfl rfl⟩
theorem cv_X11_93 : zCv RX11 93 mX9_hasSpace 9 1 := ⟨RX9, TX9, 7, rfl, by decide, rfl, zi 3 55 rfl rfl, zi 3 56 rfl rfl, zi 3 57 rfl rfl, zi 1 3 rfl rfl, zi 3 58 rfl rfl, by decide +kernel, by decide +kernel, by decide +kernel⟩
theorem cv_X11_99 : zCv RX11 99 mX9_append 9 1 := ⟨RX9, TX9, 7, rfl, by decide, rfl, zi 3 59 rfl rfl, zi 3 60 rfl rfl, zi 3 61 rfl rfl, zi 1 3 rfl rfl, zi 3 62 rfl rfl, by decide +kernel, by decide +kernel, by decide +kernel⟩
theorem fl_X11_103 : zFl RX11 103 9 1 := ⟨RX9, TX9, 7, rfl, by decide, zi 1 48 rfl rfl⟩
theorem cv_X11_107 : zCv RX11 107 mX7_readBook 7 2 := ⟨RX7, TX7, 13, rfl, by decide, rfl, zi 3 67 rfl rfl, zi 3 68 rfl rfl, zi 3 69 rfl rfl, zi 1 2 rfl rfl, zi 3 70 rfl rfl, by decide +kernel, by decide +kernel, by decide +kernel⟩
theorem cv_X11_111 : zCv RX11 111 mX11_alertsChanged 11 1 := ⟨RX11, TX11, 18, rfl, by decide, rfl, zi 4 0 rfl rfl, zi 4 2 rfl rfl, zip 2 4 rfl, zi 1 1 rfl rfl, zi 4 3 rfl rfl, by decide +kernel, by decide +kernel, by decide +kernel⟩
theorem fl_X11_114 : zFl RX11 114 7 1 := ⟨RX7, TX7, 13, rfl, by decide, zi 1 76 rfl rfl⟩
theorem fl_X11_117 : zFl RX11 117 7 2 := ⟨RX7, TX7, 13, rfl, by decide, zi 1 78 rfl rfl⟩
theorem cs_X11_120 : zCs RX11 120 mX11_within 3 := ⟨zi 4 22 rfl rfl, zi 3 182 rfl rfl, zi 1 1 rfl rfl, zi 3 183 rfl rfl, by decide +kernel, by decide +kernel, by decide +kernel⟩
theorem fl_X11_124 : zFl RX11 124 11 0 := ⟨RX11, TX11, 18, rfl, by decide, zi 2 236 rfl rfl⟩
theorem cv_X11_127 : zCv RX11 127 mX5_addPost 5 1 := ⟨RX5, TX5, 8, rfl, by decide, rfl, zi 4 27 rfl rfl, zi 4 28 rfl rfl, zi 4 29 rfl rfl, zi 1 5 rfl rfl, zi 4 30 rfl rfl, by decide +kernel, by decide +kernel, by decide +kernel⟩
theorem cv_X11_131 : zCv RX11 131 mX5_tell 5 5 := ⟨RX5, TX5, 8, rfl, by decide, rfl, zi 4 36 rfl rfl, zi 4 37 rfl rfl, zi 4 38 rfl rfl, zi 1 5 rfl rfl, zi 4 39 rfl rfl, by decide +kernel, by decide +kernel, by decide +kernel⟩
theorem cv_X11_135 : zCv RX11 135 mX5_hasPost 5 1 := ⟨RX5, TX5, 8, rfl, by decide, rfl, zi 4 51 rfl rfl, zi 4 41 rfl rfl, zi 4 42 rfl rfl, zi 1 5 rfl rfl, zi 4 43 rfl rfl, by decide +kernel, by decide +kernel, by decide +kernel⟩
theorem cs_X11_138 : zCs RX11 138 mX11_isHour 1 := ⟨zi 4 52 rfl rfl, zi 4 45 rfl rfl, zi 1 1 rfl rfl, zi 4 46 rfl rfl, by decide +kernel, by decide +kernel, by decide +kernel⟩
theorem cv_X11_141 : zCv RX11 141 mX5_known 5 3 := ⟨RX5, TX5, 8, rfl, by decide, rfl, zi 4 53 rfl rfl, zi 4 54 rfl rfl, zi 4 55 rfl rfl, zi 1 5 rfl rfl, zi 4 56 rfl rfl, by decide +kernel, by decide +kernel, by decide +kernel⟩
theorem cv_X11_145 : zCv RX11 145 mX6_greatestLevel 6 3 := ⟨RX6, TX6, 12, rfl, by decide, rfl, zi 4 61 rfl rfl, zi 4 62 rfl rfl, zi 4 63 rfl rfl, zi 1 4 rfl rfl, zi 4 64 rfl rfl, by decide +kernel, by decide +kernel, by decide +kernel⟩
theorem fl_X11_149 : zFl RX11 149 6 8 := ⟨RX6, TX6, 12, rfl, by decide, zi 1 133 rfl rfl⟩
theorem ci_X11_152 : Cond.constantLong RX11 152 (Int64.ofInt (-9223372036854775808)) ∈ zT := zi 4 116 rfl rfl
theorem cv_X11_154 : zCv RX11 154 mX6_value 6 4 := ⟨RX6, TX6, 12, rfl, by decide, rfl, zi 4 117 rfl rfl, zi 4 66 rfl rfl, zi 4 67 rfl rfl, zi 1 4 rfl rfl, zi 4 68 rfl rfl, by decide +kernel, by decide +kernel, by decide +kernel⟩
theorem fl_X11_158 : zFl RX11 158 6 10 := ⟨RX6, TX6, 12, rfl, by decide, zi 1 139 rfl rfl⟩
theorem ml_X11_161 : Cond.methodLink RX11 161 Lib.Math.max.name ∈ zT ∧ Cond.static Lib.Math.max.name ∈ zT ∧ Cond.initialized "java/lang/Math" ∈ zT ∧ Cond.code Lib.Math.max.name Lib.Math.max.code 2 (some .int) ∈ zT := ⟨zi 4 122 rfl rfl, zi 3 79 rfl rfl, zi 1 15 rfl rfl, zi 3 80 rfl rfl⟩
theorem cv_X11_167 : zCv RX11 167 mX11_rawInOwnHour 11 1 := ⟨RX11, TX11, 18, rfl, by decide, rfl, zi 4 123 rfl rfl, zi 4 125 rfl rfl, zip 2 10 rfl, zi 1 1 rfl rfl, zi 4 126 rfl rfl, by decide +kernel, by decide +kernel, by decide +kernel⟩
theorem cv_X11_170 : zCv RX11 170 mX1_lay 1 2 := ⟨RX1, TX1, 8, rfl, by decide, rfl, zi 4 131 rfl rfl, zi 4 132 rfl rfl, zi 4 133 rfl rfl, zi 1 8 rfl rfl, zi 4 134 rfl rfl, by decide +kernel, by decide +kernel, by decide +kernel⟩
theorem fl_X11_174 : zFl RX11 174 11 11 := ⟨RX11, TX11, 18, rfl, by decide, zi 3 7 rfl rfl⟩
theorem cv_X11_177 : zCv RX11 177 mX3_clear 3 0 := ⟨RX3, TX3, 14, rfl, by decide, rfl, zi 4 137 rfl rfl, zi 4 138 rfl rfl, zi 4 139 rfl rfl, zi 1 10 rfl rfl, zi 4 140 rfl rfl, by decide +kernel, by decide +kernel, by decide +kernel⟩
theorem cv_X11_180 : zCv RX11 180 mX11_lavaChanged 11 0 := ⟨RX11, TX11, 18, rfl, by decide, rfl, zi 4 141 rfl rfl, zi 4 143 rfl rfl, zip 2 11 rfl, zi 1 1 rfl rfl, zi 4 144 rfl rfl, by decide +kernel, by decide +kernel, by decide +kernel⟩
theorem cv_X11_183 : zCv RX11 183 mX1_build 1 3 := ⟨RX1, TX1, 8, rfl, by decide, rfl, zi 4 149 rfl rfl, zi 4 150 rfl rfl, zi 4 151 rfl rfl, zi 1 8 rfl rfl, zi 4 152 rfl rfl, by decide +kernel, by decide +kernel, by decide +kernel⟩
theorem cv_X11_186 : zCv RX11 186 mX1_mayPut 1 2 := ⟨RX1, TX1, 8, rfl, by decide, rfl, zi 4 161 rfl rfl, zi 4 162 rfl rfl, zi 4 163 rfl rfl, zi 1 8 rfl rfl, zi 4 164 rfl rfl, by decide +kernel, by decide +kernel, by decide +kernel⟩
theorem cv_X11_190 : zCv RX11 190 mX1_hasWork 1 2 := ⟨RX1, TX1, 8, rfl, by decide, rfl, zi 4 172 rfl rfl, zi 4 166 rfl rfl, zi 4 167 rfl rfl, zi 1 8 rfl rfl, zi 4 168 rfl rfl, by decide +kernel, by decide +kernel, by decide +kernel⟩
theorem cv_X11_193 : zCv RX11 193 mX1_setWork 1 3 := ⟨RX1, TX1, 8, rfl, by decide, rfl, zi 4 173 rfl rfl, zi 4 174 rfl rfl, zi 4 175 rfl rfl, zi 1 8 rfl rfl, zi 4 176 rfl rfl, by decide +kernel, by decide +kernel, by decide +kernel⟩
theorem cv_X11_197 : zCv RX11 197 mX1_has 1 1 := ⟨RX1, TX1, 8, rfl, by decide, rfl, zi 4 181 rfl rfl, zi 4 154 rfl rfl, zi 4 155 rfl rfl, zi 1 8 rfl rfl, zi 4 156 rfl rfl, by decide +kernel, by decide +kernel, by decide +kernel⟩
theorem fl_X11_200 : zFl RX11 200 10 0 := ⟨RX10, TX10, 5, rfl, by decide, zi 2 195 rfl rfl⟩
theorem fl_X11_203 : zFl RX11 203 10 1 := ⟨RX10, TX10, 5, rfl, by decide, zi 2 197 rfl rfl⟩
theorem fl_X11_206 : zFl RX11 206 10 2 := ⟨RX10, TX10, 5, rfl, by decide, zi 2 199 rfl rfl⟩
theorem fl_X11_209 : zFl RX11 209 10 3 := ⟨RX10, TX10, 5, rfl, by decide, zi 2 201 rfl rfl⟩
theorem fl_X11_212 : zFl RX11 212 10 4 := ⟨RX10, TX10, 5, rfl, by decide, zi 2 202 rfl rfl⟩
theorem cv_X11_215 : zCv RX11 215 mX11_isWorld 11 1 := ⟨RX11, TX11, 18, rfl, by decide, rfl, zi 4 186 rfl rfl, zi 4 188 rfl rfl, zip 2 12 rfl, zi 1 1 rfl rfl, zi 4 189 rfl rfl, by decide +kernel, by decide +kernel, by decide +kernel⟩
theorem cv_X11_218 : zCv RX11 218 mX11_steppedForecast 11 1 := ⟨RX11, TX11, 18, rfl, by decide, rfl, zi 4 190 rfl rfl, zi 4 192 rfl rfl, zip 2 13 rfl, zi 1 1 rfl rfl, zi 4 193 rfl rfl, by decide +kernel, by decide +kernel, by decide +kernel⟩
theorem cv_X11_222 : zCv RX11 222 mX0_lavaBehind 0 2 := ⟨RX0, TX0, 12, rfl, by decide, rfl, zi 4 231 rfl rfl, zi 4 232 rfl rfl, zi 4 233 rfl rfl, zi 1 9 rfl rfl, zi 4 234 rfl rfl, by decide +kernel, by decide +kernel, by decide +kernel⟩
theorem cv_X11_225 : zCv RX11 225 mX0_groundBehind 0 2 := ⟨RX0, TX0, 12, rfl, by decide, rfl, zi 4 235 rfl rfl, zi 4 236 rfl rfl, zi 4 237 rfl rfl, zi 1 9 rfl rfl, zi 4 238 rfl rfl, by decide +kernel, by decide +kernel, by decide +kernel⟩
theorem fl_X11_228 : zFl RX11 228 0 2 := ⟨RX0, TX0, 12, rfl, by decide, zi 2 49 rfl rfl⟩
theorem cv_X11_231 : zCv RX11 231 mX11_escapeChanged 11 0 := ⟨RX11, TX11, 18, rfl, by decide, rfl, zi 4 5 rfl rfl, zi 4 7 rfl rfl, zip 2 5 rfl, zi 1 1 rfl rfl, zi 4 8 rfl rfl, by decide +kernel, by decide +kernel, by decide +kernel⟩
theorem cv_X11_234 : zCv RX11 234 mX3_addTown 3 4 := ⟨RX3, TX3, 14, rfl, by decide, rfl, zi 5 7 rfl rfl, zi 5 8 rfl rfl, zi 5 9 rfl rfl, zi 1 10 rfl rfl, zi 5 10 rfl rfl, by decide +kernel, by decide +kernel, by decide +kernel⟩
theorem cv_X11_238 : zCv RX11 238 mX3_addShelter 3 1 := ⟨RX3, TX3, 14, rfl, by decide, rfl, zi 5 15 rfl rfl, zi 5 16 rfl rfl, zi 5 17 rfl rfl, zi 1 10 rfl rfl, zi 5 18 rfl rfl, by decide +kernel, by decide +kernel, by decide +kernel⟩
theorem cv_X11_241 : zCv RX11 241 mX3_has 3 1 := ⟨RX3, TX3, 14, rfl, by decide, rfl, zi 5 24 rfl rfl, zi 5 25 rfl rfl, zi 5 26 rfl rfl, zi 1 10 rfl rfl, zi 5 27 rfl rfl, by decide +kernel, by decide +kernel, by decide +kernel⟩
theorem cv_X11_242 : zCv RX11 242 mX3_addRoad 3 6 := ⟨RX3, TX3, 14, rfl, by decide, rfl, zi 5 29 rfl rfl, zi 5 30 rfl rfl, zi 5 31 rfl rfl, zi 1 10 rfl rfl, zi 5 32 rfl rfl, by decide +kernel, by decide +kernel, by decide +kernel⟩
theorem cv_X11_246 : zCv RX11 246 mX3_isTown 3 1 := ⟨RX3, TX3, 14, rfl, by decide, rfl, zi 5 37 rfl rfl, zi 5 38 rfl rfl, zi 5 39 rfl rfl, zi 1 10 rfl rfl, zi 5 40 rfl rfl, by decide +kernel, by decide +kernel, by decide +kernel⟩
theorem cv_X11_249 : zCv RX11 249 mX11_noteWarnings 11 0 := ⟨RX11, TX11, 18, rfl, by decide, rfl, zi 5 42 rfl rfl, zi 5 44 rfl rfl, zip 3 3 rfl, zi 1 1 rfl rfl, zi 5 45 rfl rfl, by decide +kernel, by decide +kernel, by decide +kernel⟩
theorem fl_X11_252 : zFl RX11 252 3 5 := ⟨RX3, TX3, 14, rfl, by decide, zi 2 105 rfl rfl⟩
theorem fl_X11_255 : zFl RX11 255 0 3 := ⟨RX0, TX0, 12, rfl, by decide, zi 2 51 rfl rfl⟩
theorem cv_X11_258 : zCv RX11 258 mX11_ledForecast 11 1 := ⟨RX11, TX11, 18, rfl, by decide, rfl, zi 5 63 rfl rfl, zi 5 65 rfl rfl, zip 3 4 rfl, zi 1 1 rfl rfl, zi 5 66 rfl rfl, by decide +kernel, by decide +kernel, by decide +kernel⟩
theorem fl_X11_261 : zFl RX11 261 0 8 := ⟨RX0, TX0, 12, rfl, by decide, zi 2 58 rfl rfl⟩
theorem cv_X11_264 : zCv RX11 264 mX3_allPeople 3 0 := ⟨RX3, TX3, 14, rfl, by decide, rfl, zi 5 154 rfl rfl, zi 5 155 rfl rfl, zi 5 156 rfl rfl, zi 1 10 rfl rfl, zi 5 157 rfl rfl, by decide +kernel, by decide +kernel, by decide +kernel⟩
theorem cv_X11_268 : zCv RX11 268 mX10_firstHour 10 0 := ⟨RX10, TX10, 5, rfl, by decide, rfl, zi 5 162 rfl rfl, zi 5 89 rfl rfl, zi 5 90 rfl rfl, zi 1 12 rfl rfl, zi 5 91 rfl rfl, by decide +kernel, by decide +kernel, by decide +kernel⟩
theorem cv_X11_271 : zCv RX11 271 mX10_lastHour 10 0 := ⟨RX10, TX10, 5, rfl, by decide, rfl, zi 5 163 rfl rfl, zi 5 81 rfl rfl, zi 5 82 rfl rfl, zi 1 12 rfl rfl, zi 5 83 rfl rfl, by decide +kernel, by decide +kernel, by decide +kernel⟩
theorem fl_X11_274 : zFl RX11 274 0 9 := ⟨RX0, TX0, 12, rfl, by decide, zi 2 60 rfl rfl⟩
theorem cs_X11_277 : zCs RX11 277 mX2_node 2 := ⟨zi 5 164 rfl rfl, zi 5 94 rfl rfl, zi 1 11 rfl rfl, zi 5 95 rfl rfl, by decide +kernel, by decide +kernel, by decide +kernel⟩
theorem cv_X11_280 : zCv RX11 280 mX11_lostCost 11 0 := ⟨RX11, TX11, 18, rfl, by decide, rfl, zi 5 169 rfl rfl, zi 5 171 rfl rfl, zip 4 0 rfl, zi 1 1 rfl rfl, zi 5 172 rfl rfl, by decide +kernel, by decide +kernel, by decide +kernel⟩
theorem cv_X11_283 : zCv RX11 283 mX11_buriedCost 11 0 := ⟨RX11, TX11, 18, rfl, by decide, rfl, zi 5 173 rfl rfl, zi 5 175 rfl rfl, zip 4 1 rfl, zi 1 1 rfl rfl, zi 5 176 rfl rfl, by decide +kernel, by decide +kernel, by decide +kernel⟩
theorem cv_X11_286 : zCv RX11 286 mX1_addCandidate 1 1 := ⟨RX1, TX1, 8, rfl, by decide, rfl, zi 5 181 rfl rfl, zi 5 182 rfl rfl, zi 5 183 rfl rfl, zi 1 8 rfl rfl, zi 5 184 rfl rfl, by decide +kernel, by decide +kernel, by decide +kernel⟩
theorem cv_X11_289 : zCv RX11 289 mX11_forgetPlans 11 0 := ⟨RX11, TX11, 18, rfl, by decide, rfl, zi 4 9 rfl rfl, zi 4 11 rfl rfl, zip 2 6 rfl, zi 1 1 rfl rfl, zi 4 12 rfl rfl, by decide +kernel, by decide +kernel, by decide +kernel⟩
theorem fl_X11_292 : zFl RX11 292 4 0 := ⟨RX4, TX4, 5, rfl, by decide, zi 2 219 rfl rfl⟩
theorem cv_X11_295 : zCv RX11 295 mX4_start 4 2 := ⟨RX4, TX4, 5, rfl, by decide, rfl, zi 5 189 rfl rfl, zi 5 190 rfl rfl, zi 5 191 rfl rfl, zi 1 13 rfl rfl, zi 5 192 rfl rfl, by decide +kernel, by decide +kernel, by decide +kernel⟩
theorem cv_X11_298 : zCv RX11 298 mX11_tryMoreWorks 11 2 := ⟨RX11, TX11, 18, rfl, by decide, rfl, zi 5 193 rfl rfl, zi 5 195 rfl rfl, zip 4 2 rfl, zi 1 1 rfl rfl, zi 5 196 rfl rfl, by decide +kernel, by decide +kernel, by decide +kernel⟩
theorem cv_X11_302 : zCv RX11 302 mX4_part 4 1 := ⟨RX4, TX4, 5, rfl, by decide, rfl, zi 5 219 rfl rfl, zi 5 220 rfl rfl, zi 5 221 rfl rfl, zi 1 13 rfl rfl, zi 5 222 rfl rfl, by decide +kernel, by decide +kernel, by decide +kernel⟩
theorem cv_X11_305 : zCv RX11 305 mX1_column 1 1 := ⟨RX1, TX1, 8, rfl, by decide, rfl, zi 5 231 rfl rfl, zi 4 215 rfl rfl, zi 4 216 rfl rfl, zi 1 8 rfl rfl, zi 4 217 rfl rfl, by decide +kernel, by decide +kernel, by decide +kernel⟩
theorem cv_X11_308 : zCv RX11 308 mX1_row 1 1 := ⟨RX1, TX1, 8, rfl, by decide, rfl, zi 5 232 rfl rfl, zi 5 233 rfl rfl, zi 5 234 rfl rfl, zi 1 8 rfl rfl, zi 5 235 rfl rfl, by decide +kernel, by decide +kernel, by decide +kernel⟩
theorem ml_X11_311 : Cond.methodLink RX11 311 Lib.Math.min.name ∈ zT ∧ Cond.static Lib.Math.min.name ∈ zT ∧ Cond.initialized "java/lang/Math" ∈ zT ∧ Cond.code Lib.Math.min.name Lib.Math.min.code 2 (some .int) ∈ zT := ⟨zi 4 4 rfl rfl, zi 3 76 rfl rfl, zi 1 15 rfl rfl, zi 3 77 rfl rfl⟩
theorem cs_X11_314 : zCs RX11 314 mX11_stepsDownwind 3 := ⟨zi 5 236 rfl rfl, zi 5 237 rfl rfl, zi 1 1 rfl rfl, zi 5 238 rfl rfl, by decide +kernel, by decide +kernel, by decide +kernel⟩
theorem fl_X11_324 : zFl RX11 324 1 2 := ⟨RX1, TX1, 8, rfl, by decide, zi 2 9 rfl rfl⟩
theorem fl_X11_327 : zFl RX11 327 1 3 := ⟨RX1, TX1, 8, rfl, by decide, zi 2 12 rfl rfl⟩
theorem fl_X11_330 : zFl RX11 330 1 4 := ⟨RX1, TX1, 8, rfl, by decide, zi 2 14 rfl rfl⟩
theorem fl_X11_338 : zFl RX11 338 5 1 := ⟨RX5, TX5, 8, rfl, by decide, zi 1 213 rfl rfl⟩
theorem fl_X11_341 : zFl RX11 341 5 6 := ⟨RX5, TX5, 8, rfl, by decide, zi 1 219 rfl rfl⟩
theorem fl_X11_344 : zFl RX11 344 6 9 := ⟨RX6, TX6, 12, rfl, by decide, zi 1 136 rfl rfl⟩
theorem fl_X11_347 : zFl RX11 347 3 6 := ⟨RX3, TX3, 14, rfl, by decide, zi 2 108 rfl rfl⟩
theorem fl_X11_350 : zFl RX11 350 3 13 := ⟨RX3, TX3, 14, rfl, by decide, zi 2 122 rfl rfl⟩
theorem fl_X11_353 : zFl RX11 353 1 7 := ⟨RX1, TX1, 8, rfl, by decide, zi 2 19 rfl rfl⟩
theorem fl_X11_356 : zFl RX11 356 1 5 := ⟨RX1, TX1, 8, rfl, by decide, zi 2 16 rfl rfl⟩
theorem ml_X11_359 : Cond.methodLink RX11 359 Lib.Math.abs.name ∈ zT ∧ Cond.static Lib.Math.abs.name ∈ zT ∧ Cond.initialized "java/lang/Math" ∈ zT ∧ Cond.code Lib.Math.abs.name Lib.Math.abs.code 1 (some .int) ∈ zT := ⟨zi 5 239 rfl rfl, zi 6 0 rfl rfl, zi 1 15 rfl rfl, zi 6 1 rfl rfl⟩
theorem gl_X11_362 : Cond.fieldLink RX11 362 "VolcanoWatch" "STEP_X" "[I" ∈ zT := zi 6 2 rfl rfl
theorem gl_X11_365 : Cond.fieldLink RX11 365 "VolcanoWatch" "STEP_Y" "[I" ∈ zT := zi 6 4 rfl rfl
theorem fl_X11_368 : zFl RX11 368 11 6 := ⟨RX11, TX11, 18, rfl, by decide, zi 3 2 rfl rfl⟩
theorem fl_X11_371 : zFl RX11 371 11 7 := ⟨RX11, TX11, 18, rfl, by decide, zi 3 3 rfl rfl⟩
theorem cv_X11_374 : zCv RX11 374 mX3_forgetWarnings 3 0 := ⟨RX3, TX3, 14, rfl, by decide, rfl, zi 5 46 rfl rfl, zi 5 47 rfl rfl, zi 5 48 rfl rfl, zi 1 10 rfl rfl, zi 5 49 rfl rfl, by decide +kernel, by decide +kernel, by decide +kernel⟩
theorem cv_X11_377 : zCv RX11 377 mX3_someUnwarned 3 0 := ⟨RX3, TX3, 14, rfl, by decide, rfl, zi 5 51 rfl rfl, zi 5 52 rfl rfl, zi 5 53 rfl rfl, zi 1 10 rfl rfl, zi 5 54 rfl rfl, by decide +kernel, by decide +kernel, by decide +kernel⟩
theorem cv_X11_381 : zCv RX11 381 mX3_warn 3 2 := ⟨RX3, TX3, 14, rfl, by decide, rfl, zi 5 55 rfl rfl, zi 5 56 rfl rfl, zi 5 57 rfl rfl, zi 1 10 rfl rfl, zi 5 58 rfl rfl, by decide +kernel, by decide +kernel, by decide +kernel⟩
theorem fl_X11_384 : zFl RX11 384 0 4 := ⟨RX0, TX0, 12, rfl, by decide, zi 2 53 rfl rfl⟩
theorem fl_X11_387 : zFl RX11 387 0 10 := ⟨RX0, TX0, 12, rfl, by decide, zi 2 62 rfl rfl⟩
theorem cv_X11_390 : zCv RX11 390 mX0_stepLava 0 2 := ⟨RX0, TX0, 12, rfl, by decide, rfl, zi 4 194 rfl rfl, zi 4 195 rfl rfl, zi 4 196 rfl rfl, zi 1 9 rfl rfl, zi 4 197 rfl rfl, by decide +kernel, by decide +kernel, by decide +kernel⟩
theorem cv_X11_394 : zCv RX11 394 mX0_leadOut 0 3 := ⟨RX0, TX0, 12, rfl, by decide, rfl, zi 5 67 rfl rfl, zi 5 68 rfl rfl, zi 5 69 rfl rfl, zi 1 9 rfl rfl, zi 5 70 rfl rfl, by decide +kernel, by decide +kernel, by decide +kernel⟩
theorem cv_X11_398 : zCv RX11 398 mX1_putNumbered 1 1 := ⟨RX1, TX1, 8, rfl, by decide, rfl, zi 5 197 rfl rfl, zi 5 198 rfl rfl, zi 5 199 rfl rfl, zi 1 8 rfl rfl, zi 5 200 rfl rfl, by decide +kernel, by decide +kernel, by decide +kernel⟩
theorem cv_X11_401 : zCv RX11 401 mX11_weigh 11 3 := ⟨RX11, TX11, 18, rfl, by decide, rfl, zi 5 203 rfl rfl, zi 5 205 rfl rfl, zip 4 3 rfl, zi 1 1 rfl rfl, zi 5 206 rfl rfl, by decide +kernel, by decide +kernel, by decide +kernel⟩
theorem cv_X11_405 : zCv RX11 405 mX1_takeNumbered 1 1 := ⟨RX1, TX1, 8, rfl, by decide, rfl, zi 5 215 rfl rfl, zi 5 216 rfl rfl, zi 5 217 rfl rfl, zi 1 8 rfl rfl, zi 5 218 rfl rfl, by decide +kernel, by decide +kernel, by decide +kernel⟩
theorem fl_X11_408 : zFln RX11 "VolcanoWatch" 408 4 3 := ⟨RX4, TX4, 5, rfl, by decide, by decide +kernel⟩
theorem cv_X11_411 : zCv RX11 411 mX0_shutsLike 0 2 := ⟨RX0, TX0, 12, rfl, by decide, rfl, zi 5 207 rfl rfl, zi 5 208 rfl rfl, zi 5 209 rfl rfl, zi 1 9 rfl rfl, zi 5 210 rfl rfl, by decide +kernel, by decide +kernel, by decide +kernel⟩
theorem cv_X11_415 : zCv RX11 415 mX4_offer 4 4 := ⟨RX4, TX4, 5, rfl, by decide, rfl, zi 5 211 rfl rfl, zi 5 212 rfl rfl, zi 5 213 rfl rfl, zi 1 13 rfl rfl, zi 5 214 rfl rfl, by decide +kernel, by decide +kernel, by decide +kernel⟩
