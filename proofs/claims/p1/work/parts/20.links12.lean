abbrev mX12_init : zD := (yX12_init, cX12_init, 1, none, RX12, { frames := 1, cells := 62, slots := 14642, locals := 20 }, 62, 14642)
abbrev mX12_thrown : zD := (yX12_thrown, cX12_thrown, 1, (some .int), RX12, { frames := 0, cells := 0, slots := 0, locals := 0 }, 0, 0)
abbrev mX12_feed : zD := (yX12_feed, cX12_feed, 8, (some .int), RX12, { frames := 0, cells := 0, slots := 0, locals := 0 }, 0, 0)
abbrev mX12_isIn : zD := (yX12_isIn, cX12_isIn, 3, (some .boolean), RX12, { frames := 0, cells := 0, slots := 0, locals := 0 }, 0, 0)
abbrev mX12_isHour : zD := (yX12_isHour, cX12_isHour, 1, (some .boolean), RX12, { frames := 0, cells := 0, slots := 0, locals := 0 }, 0, 0)
abbrev mX12_hours : zD := (yX12_hours, cX12_hours, 2, (some .int), RX12, { frames := 1, cells := 0, slots := 0, locals := 22 }, 0, 0)
abbrev mX12_post : zD := (yX12_post, cX12_post, 2, (some .int), RX12, { frames := 1, cells := 0, slots := 0, locals := 22 }, 0, 0)
abbrev mX12_isPost : zD := (yX12_isPost, cX12_isPost, 2, (some .boolean), RX12, { frames := 0, cells := 0, slots := 0, locals := 0 }, 0, 0)
abbrev mX12_read : zD := (yX12_read, cX12_read, 5, (some .int), RX12, { frames := 1, cells := 0, slots := 0, locals := 22 }, 0, 0)
abbrev mX12_know : zD := (yX12_know, cX12_know, 4, none, RX12, { frames := 0, cells := 0, slots := 0, locals := 0 }, 0, 0)
abbrev mX12_reading : zD := (yX12_reading, cX12_reading, 4, (some .int), RX12, { frames := 1, cells := 0, slots := 0, locals := 23 }, 0, 0)
abbrev mX12_wrong : zD := (yX12_wrong, cX12_wrong, 2, (some .boolean), RX12, { frames := 0, cells := 0, slots := 0, locals := 0 }, 0, 0)
abbrev mX12_wordAt : zD := (yX12_wordAt, cX12_wordAt, 8, (some .int), RX12, { frames := 0, cells := 0, slots := 0, locals := 0 }, 0, 0)
abbrev mX12_isSmall : zD := (yX12_isSmall, cX12_isSmall, 2, (some .boolean), RX12, { frames := 0, cells := 0, slots := 0, locals := 0 }, 0, 0)
abbrev mX12_isDigit : zD := (yX12_isDigit, cX12_isDigit, 2, (some .boolean), RX12, { frames := 0, cells := 0, slots := 0, locals := 0 }, 0, 0)
abbrev mX12_isAt : zD := (yX12_isAt, cX12_isAt, 3, (some .boolean), RX12, { frames := 0, cells := 0, slots := 0, locals := 0 }, 0, 0)
abbrev mX12_signOf : zD := (yX12_signOf, cX12_signOf, 2, (some .int), RX12, { frames := 1, cells := 0, slots := 0, locals := 22 }, 0, 0)
abbrev mX12_take : zD := (yX12_take, cX12_take, 2, none, RX12, { frames := 2, cells := 0, slots := 0, locals := 43 }, 0, 0)
abbrev mX12_isSign : zD := (yX12_isSign, cX12_isSign, 2, (some .boolean), RX12, { frames := 0, cells := 0, slots := 0, locals := 0 }, 0, 0)
abbrev mX12_weight : zD := (yX12_weight, cX12_weight, 1, (some .int), RX12, { frames := 0, cells := 0, slots := 0, locals := 0 }, 0, 0)
abbrev mX12_grown : zD := (yX12_grown, cX12_grown, 4, (some .int), RX12, { frames := 1, cells := 0, slots := 0, locals := 21 }, 0, 0)
abbrev mX12_done : zD := (yX12_done, cX12_done, 2, none, RX12, { frames := 0, cells := 0, slots := 0, locals := 0 }, 0, 0)
abbrev mX12_drop : zD := (yX12_drop, cX12_drop, 1, (some .int), RX12, { frames := 0, cells := 0, slots := 0, locals := 0 }, 0, 0)
abbrev mX12_bind : zD := (yX12_bind, cX12_bind, 3, none, RX12, { frames := 1, cells := 0, slots := 0, locals := 21 }, 0, 0)
abbrev mX12_waitFor : zD := (yX12_waitFor, cX12_waitFor, 3, none, RX12, { frames := 0, cells := 0, slots := 0, locals := 0 }, 0, 0)
abbrev mX12_ofOne : zD := (yX12_ofOne, cX12_ofOne, 3, (some .boolean), RX12, { frames := 3, cells := 0, slots := 0, locals := 64 }, 0, 0)
abbrev mX12_number : zD := (yX12_number, cX12_number, 3, (some .boolean), RX12, { frames := 1, cells := 0, slots := 0, locals := 21 }, 0, 0)
abbrev mX12_sign : zD := (yX12_sign, cX12_sign, 2, (some .boolean), RX12, { frames := 3, cells := 0, slots := 0, locals := 64 }, 0, 0)
abbrev mX12_whatRead : zD := (yX12_whatRead, cX12_whatRead, 2, (some .boolean), RX12, { frames := 4, cells := 0, slots := 0, locals := 85 }, 0, 0)
abbrev mX12_valueRead : zD := (yX12_valueRead, cX12_valueRead, 2, (some .boolean), RX12, { frames := 5, cells := 0, slots := 0, locals := 106 }, 0, 0)
abbrev mX12_signNow : zD := (yX12_signNow, cX12_signNow, 1, (some .int), RX12, { frames := 0, cells := 0, slots := 0, locals := 0 }, 0, 0)
abbrev mX12_joins : zD := (yX12_joins, cX12_joins, 4, (some .boolean), RX12, { frames := 3, cells := 0, slots := 0, locals := 64 }, 0, 0)
abbrev mX12_expression : zD := (yX12_expression, cX12_expression, 2, (some .boolean), RX12, { frames := 6, cells := 0, slots := 0, locals := 127 }, 0, 0)
abbrev mX12_line : zD := (yX12_line, cX12_line, 2, (some .boolean), RX12, { frames := 7, cells := 0, slots := 0, locals := 148 }, 0, 0)
abbrev mX12_rules : zD := (yX12_rules, cX12_rules, 3, (some .int), RX12, { frames := 8, cells := 0, slots := 0, locals := 169 }, 0, 0)
abbrev mX12_fault : zD := (yX12_fault, cX12_fault, 2, (some .int), RX12, { frames := 0, cells := 0, slots := 0, locals := 0 }, 0, 0)
abbrev mX12_whatValue : zD := (yX12_whatValue, cX12_whatValue, 24, (some .long), RX12, { frames := 0, cells := 0, slots := 0, locals := 0 }, 0, 0)
abbrev mX12_big : zD := (yX12_big, cX12_big, 2, (some .long), RX12, { frames := 0, cells := 0, slots := 0, locals := 0 }, 0, 0)
abbrev mX12_bounded : zD := (yX12_bounded, cX12_bounded, 2, (some .long), RX12, { frames := 1, cells := 0, slots := 0, locals := 21 }, 0, 0)
abbrev mX12_truth : zD := (yX12_truth, cX12_truth, 1, (some .long), RX12, { frames := 0, cells := 0, slots := 0, locals := 0 }, 0, 0)
abbrev mX12_made : zD := (yX12_made, cX12_made, 5, (some .long), RX12, { frames := 2, cells := 0, slots := 0, locals := 42 }, 0, 0)
abbrev mX12_lineValue : zD := (yX12_lineValue, cX12_lineValue, 8, (some .long), RX12, { frames := 3, cells := 0, slots := 0, locals := 66 }, 0, 0)
abbrev mX12_rawOf : zD := (yX12_rawOf, cX12_rawOf, 7, (some .int), RX12, { frames := 4, cells := 0, slots := 0, locals := 93 }, 0, 0)
abbrev mX12_raw : zD := (yX12_raw, cX12_raw, 3, (some .int), RX12, { frames := 5, cells := 0, slots := 0, locals := 119 }, 0, 0)
abbrev mX12_tries : zD := (yX12_tries, cX12_tries, 4, (some .long), RX12, { frames := 4, cells := 0, slots := 0, locals := 93 }, 0, 0)
abbrev mX12_levelAt : zD := (yX12_levelAt, cX12_levelAt, 5, (some .int), RX12, { frames := 5, cells := 0, slots := 0, locals := 119 }, 0, 0)
abbrev mX12_level : zD := (yX12_level, cX12_level, 2, (some .int), RX12, { frames := 6, cells := 0, slots := 0, locals := 143 }, 0, 0)
abbrev mX12_land : zD := (yX12_land, cX12_land, 4, (some .boolean), RX12, { frames := 1, cells := 0, slots := 0, locals := 22 }, 0, 0)
abbrev mX12_isCell : zD := (yX12_isCell, cX12_isCell, 2, (some .boolean), RX12, { frames := 0, cells := 0, slots := 0, locals := 0 }, 0, 0)
abbrev mX12_ground : zD := (yX12_ground, cX12_ground, 4, (some .boolean), RX12, { frames := 1, cells := 0, slots := 0, locals := 22 }, 0, 0)
abbrev mX12_hasWork : zD := (yX12_hasWork, cX12_hasWork, 3, (some .boolean), RX12, { frames := 0, cells := 0, slots := 0, locals := 0 }, 0, 0)
abbrev mX12_mayWork : zD := (yX12_mayWork, cX12_mayWork, 3, (some .boolean), RX12, { frames := 1, cells := 0, slots := 0, locals := 22 }, 0, 0)
abbrev mX12_setWork : zD := (yX12_setWork, cX12_setWork, 4, none, RX12, { frames := 0, cells := 0, slots := 0, locals := 0 }, 0, 0)
abbrev mX12_work : zD := (yX12_work, cX12_work, 4, (some .boolean), RX12, { frames := 2, cells := 0, slots := 0, locals := 44 }, 0, 0)
abbrev mX12_world : zD := (yX12_world, cX12_world, 6, (some .int), RX12, { frames := 1, cells := 0, slots := 0, locals := 22 }, 0, 0)
abbrev mX12_besideOf : zD := (yX12_besideOf, cX12_besideOf, 4, (some .int), RX12, { frames := 0, cells := 0, slots := 0, locals := 0 }, 0, 0)
abbrev mX12_lowestBy : zD := (yX12_lowestBy, cX12_lowestBy, 6, (some .int), RX12, { frames := 1, cells := 0, slots := 0, locals := 23 }, 0, 0)
abbrev mX12_topOf : zD := (yX12_topOf, cX12_topOf, 2, (some .int), RX12, { frames := 0, cells := 0, slots := 0, locals := 0 }, 0, 0)
abbrev mX12_flows : zD := (yX12_flows, cX12_flows, 11, none, RX12, { frames := 2, cells := 0, slots := 0, locals := 48 }, 0, 0)
abbrev mX12_isWorld : zD := (yX12_isWorld, cX12_isWorld, 2, (some .boolean), RX12, { frames := 0, cells := 0, slots := 0, locals := 0 }, 0, 0)
abbrev mX12_lava : zD := (yX12_lava, cX12_lava, 5, (some .int), RX12, { frames := 3, cells := 0, slots := 0, locals := 78 }, 0, 0)
abbrev mX12_reached : zD := (yX12_reached, cX12_reached, 3, (some .int), RX12, { frames := 3, cells := 0, slots := 0, locals := 78 }, 0, 0)
abbrev mX12_town : zD := (yX12_town, cX12_town, 5, (some .int), RX12, { frames := 1, cells := 0, slots := 0, locals := 22 }, 0, 0)
abbrev mX12_shelter : zD := (yX12_shelter, cX12_shelter, 2, (some .int), RX12, { frames := 1, cells := 0, slots := 0, locals := 22 }, 0, 0)
abbrev mX12_isPlace : zD := (yX12_isPlace, cX12_isPlace, 2, (some .boolean), RX12, { frames := 0, cells := 0, slots := 0, locals := 0 }, 0, 0)
abbrev mX12_road : zD := (yX12_road, cX12_road, 7, (some .int), RX12, { frames := 1, cells := 0, slots := 0, locals := 22 }, 0, 0)
abbrev mX12_allLevels : zD := (yX12_allLevels, cX12_allLevels, 3, none, RX12, { frames := 5, cells := 0, slots := 0, locals := 119 }, 0, 0)
abbrev mX12_warnedAt : zD := (yX12_warnedAt, cX12_warnedAt, 3, (some .int), RX12, { frames := 0, cells := 0, slots := 0, locals := 0 }, 0, 0)
abbrev mX12_warned : zD := (yX12_warned, cX12_warned, 2, (some .int), RX12, { frames := 6, cells := 0, slots := 0, locals := 141 }, 0, 0)
abbrev mX12_arc : zD := (yX12_arc, cX12_arc, 4, none, RX12, { frames := 0, cells := 0, slots := 0, locals := 0 }, 0, 0)
abbrev mX12_nodeOf : zD := (yX12_nodeOf, cX12_nodeOf, 3, (some .int), RX12, { frames := 0, cells := 0, slots := 0, locals := 0 }, 0, 0)
abbrev mX12_shutFrom : zD := (yX12_shutFrom, cX12_shutFrom, 3, (some .int), RX12, { frames := 0, cells := 0, slots := 0, locals := 0 }, 0, 0)
abbrev mX12_isOpen : zD := (yX12_isOpen, cX12_isOpen, 4, (some .boolean), RX12, { frames := 1, cells := 0, slots := 0, locals := 22 }, 0, 0)
abbrev mX12_lays : zD := (yX12_lays, cX12_lays, 6, none, RX12, { frames := 3, cells := 0, slots := 0, locals := 68 }, 0, 0)
abbrev mX12_laysTown : zD := (yX12_laysTown, cX12_laysTown, 4, none, RX12, { frames := 2, cells := 0, slots := 0, locals := 45 }, 0, 0)
abbrev mX12_laysShelter : zD := (yX12_laysShelter, cX12_laysShelter, 3, none, RX12, { frames := 1, cells := 0, slots := 0, locals := 23 }, 0, 0)
abbrev mX12_spreads : zD := (yX12_spreads, cX12_spreads, 5, (some .boolean), RX12, { frames := 0, cells := 0, slots := 0, locals := 0 }, 0, 0)
abbrev mX12_pushes : zD := (yX12_pushes, cX12_pushes, 6, (some .int), RX12, { frames := 0, cells := 0, slots := 0, locals := 0 }, 0, 0)
abbrev mX12_leads : zD := (yX12_leads, cX12_leads, 2, none, RX12, { frames := 4, cells := 0, slots := 0, locals := 93 }, 0, 0)
abbrev mX12_allPeople : zD := (yX12_allPeople, cX12_allPeople, 3, (some .int), RX12, { frames := 0, cells := 0, slots := 0, locals := 0 }, 0, 0)
abbrev mX12_buried : zD := (yX12_buried, cX12_buried, 3, (some .int), RX12, { frames := 0, cells := 0, slots := 0, locals := 0 }, 0, 0)
abbrev mX12_ledOut : zD := (yX12_ledOut, cX12_ledOut, 3, (some .int), RX12, { frames := 6, cells := 0, slots := 0, locals := 141 }, 0, 0)
abbrev mX12_cut : zD := (yX12_cut, cX12_cut, 4, (some .int), RX12, { frames := 6, cells := 0, slots := 0, locals := 141 }, 0, 0)
abbrev mX12_costs : zD := (yX12_costs, cX12_costs, 2, none, RX12, { frames := 5, cells := 0, slots := 0, locals := 114 }, 0, 0)
abbrev mX12_cost : zD := (yX12_cost, cX12_cost, 2, (some .int), RX12, { frames := 6, cells := 0, slots := 0, locals := 141 }, 0, 0)
abbrev mX12_candidate : zD := (yX12_candidate, cX12_candidate, 3, (some .int), RX12, { frames := 1, cells := 0, slots := 0, locals := 21 }, 0, 0)
abbrev mX12_tries1 : zD := (yX12_tries1, cX12_tries1, 5, none, RX12, { frames := 6, cells := 0, slots := 0, locals := 135 }, 0, 0)
abbrev mX12_canBuild : zD := (yX12_canBuild, cX12_canBuild, 2, (some .boolean), RX12, { frames := 2, cells := 0, slots := 0, locals := 44 }, 0, 0)
abbrev mX12_build : zD := (yX12_build, cX12_build, 3, none, RX12, { frames := 1, cells := 0, slots := 0, locals := 23 }, 0, 0)
abbrev mX12_best : zD := (yX12_best, cX12_best, 5, (some .int), RX12, { frames := 7, cells := 0, slots := 0, locals := 159 }, 0, 0)
abbrev mX12_wind : zD := (yX12_wind, cX12_wind, 4, (some .boolean), RX12, { frames := 1, cells := 0, slots := 0, locals := 22 }, 0, 0)
abbrev mX12_stepX : zD := (yX12_stepX, cX12_stepX, 1, (some .int), RX12, { frames := 0, cells := 0, slots := 0, locals := 0 }, 0, 0)
abbrev mX12_stepY : zD := (yX12_stepY, cX12_stepY, 1, (some .int), RX12, { frames := 0, cells := 0, slots := 0, locals := 0 }, 0, 0)
abbrev mX12_ash : zD := (yX12_ash, cX12_ash, 8, (some .int), RX12, { frames := 1, cells := 0, slots := 0, locals := 21 }, 0, 0)
abbrev mX12_throwsOut : zD := (yX12_throwsOut, cX12_throwsOut, 2, (some .int), RX12, { frames := 0, cells := 0, slots := 0, locals := 0 }, 0, 0)
abbrev mX12_look : zD := (yX12_look, cX12_look, 3, (some .int), RX12, { frames := 1, cells := 0, slots := 0, locals := 21 }, 0, 0)
abbrev mX12_count : zD := (yX12_count, cX12_count, 2, (some .int), RX12, { frames := 0, cells := 0, slots := 0, locals := 0 }, 0, 0)
theorem fl_X12_7 : zFl RX12 7 12 0 := ⟨RX12, TX12, 107, rfl, by decide, zi 6 107 rfl rfl⟩
theorem fl_X12_13 : zFl RX12 13 12 5 := ⟨RX12, TX12, 107, rfl, by decide, zi 6 112 rfl rfl⟩
theorem fl_X12_16 : zFl RX12 16 12 7 := ⟨RX12, TX12, 107, rfl, by decide, zi 6 114 rfl rfl⟩
theorem fl_X12_19 : zFl RX12 19 12 8 := ⟨RX12, TX12, 107, rfl, by decide, zi 6 115 rfl rfl⟩
theorem fl_X12_22 : zFl RX12 22 12 9 := ⟨RX12, TX12, 107, rfl, by decide, zi 6 116 rfl rfl⟩
theorem fl_X12_25 : zFl RX12 25 12 10 := ⟨RX12, TX12, 107, rfl, by decide, zi 6 117 rfl rfl⟩
theorem fl_X12_28 : zFl RX12 28 12 11 := ⟨RX12, TX12, 107, rfl, by decide, zi 6 118 rfl rfl⟩
theorem fl_X12_32 : zFl RX12 32 12 12 := ⟨RX12, TX12, 107, rfl, by decide, zi 6 119 rfl rfl⟩
theorem fl_X12_35 : zFl RX12 35 12 13 := ⟨RX12, TX12, 107, rfl, by decide, zi 6 120 rfl rfl⟩
theorem fl_X12_38 : zFl RX12 38 12 14 := ⟨RX12, TX12, 107, rfl, by decide, zi 6 121 rfl rfl⟩
theorem fl_X12_41 : zFl RX12 41 12 16 := ⟨RX12, TX12, 107, rfl, by decide, zi 6 123 rfl rfl⟩
theorem fl_X12_45 : zFl RX12 45 12 22 := ⟨RX12, TX12, 107, rfl, by decide, zi 6 129 rfl rfl⟩
theorem fl_X12_48 : zFl RX12 48 12 23 := ⟨RX12, TX12, 107, rfl, by decide, zi 6 130 rfl rfl⟩
theorem fl_X12_51 : zFl RX12 51 12 24 := ⟨RX12, TX12, 107, rfl, by decide, zi 6 131 rfl rfl⟩
theorem fl_X12_54 : zFl RX12 54 12 25 := ⟨RX12, TX12, 107, rfl, by decide, zi 6 132 rfl rfl⟩
theorem fl_X12_57 : zFl RX12 57 12 26 := ⟨RX12, TX12, 107, rfl, by decide, zi 6 133 rfl rfl⟩
theorem fl_X12_60 : zFl RX12 60 12 27 := ⟨RX12, TX12, 107, rfl, by decide, zi 6 134 rfl rfl⟩
theorem fl_X12_63 : zFl RX12 63 12 28 := ⟨RX12, TX12, 107, rfl, by decide, zi 6 135 rfl rfl⟩
theorem fl_X12_66 : zFl RX12 66 12 29 := ⟨RX12, TX12, 107, rfl, by decide, zi 6 136 rfl rfl⟩
theorem fl_X12_69 : zFl RX12 69 12 30 := ⟨RX12, TX12, 107, rfl, by decide, zi 6 137 rfl rfl⟩
theorem fl_X12_72 : zFl RX12 72 12 31 := ⟨RX12, TX12, 107, rfl, by decide, zi 6 138 rfl rfl⟩
theorem fl_X12_75 : zFl RX12 75 12 40 := ⟨RX12, TX12, 107, rfl, by decide, zi 6 147 rfl rfl⟩
theorem fl_X12_78 : zFl RX12 78 12 41 := ⟨RX12, TX12, 107, rfl, by decide, zi 6 148 rfl rfl⟩
theorem fl_X12_81 : zFl RX12 81 12 43 := ⟨RX12, TX12, 107, rfl, by decide, zi 6 150 rfl rfl⟩
theorem fl_X12_84 : zFl RX12 84 12 45 := ⟨RX12, TX12, 107, rfl, by decide, zi 6 152 rfl rfl⟩
theorem fl_X12_87 : zFl RX12 87 12 50 := ⟨RX12, TX12, 107, rfl, by decide, zi 6 157 rfl rfl⟩
theorem fl_X12_91 : zFl RX12 91 12 51 := ⟨RX12, TX12, 107, rfl, by decide, zi 6 158 rfl rfl⟩
theorem fl_X12_94 : zFl RX12 94 12 52 := ⟨RX12, TX12, 107, rfl, by decide, zi 6 159 rfl rfl⟩
theorem fl_X12_97 : zFl RX12 97 12 53 := ⟨RX12, TX12, 107, rfl, by decide, zi 6 160 rfl rfl⟩
theorem fl_X12_100 : zFl RX12 100 12 54 := ⟨RX12, TX12, 107, rfl, by decide, zi 6 161 rfl rfl⟩
theorem fl_X12_103 : zFl RX12 103 12 55 := ⟨RX12, TX12, 107, rfl, by decide, zi 6 162 rfl rfl⟩
theorem fl_X12_106 : zFl RX12 106 12 56 := ⟨RX12, TX12, 107, rfl, by decide, zi 6 163 rfl rfl⟩
theorem fl_X12_109 : zFl RX12 109 12 59 := ⟨RX12, TX12, 107, rfl, by decide, zi 6 166 rfl rfl⟩
theorem fl_X12_112 : zFl RX12 112 12 60 := ⟨RX12, TX12, 107, rfl, by decide, zi 6 167 rfl rfl⟩
theorem fl_X12_115 : zFl RX12 115 12 61 := ⟨RX12, TX12, 107, rfl, by decide, zi 6 168 rfl rfl⟩
theorem fl_X12_118 : zFl RX12 118 12 62 := ⟨RX12, TX12, 107, rfl, by decide, zi 6 169 rfl rfl⟩
theorem fl_X12_121 : zFl RX12 121 12 63 := ⟨RX12, TX12, 107, rfl, by decide, zi 6 170 rfl rfl⟩
theorem fl_X12_124 : zFl RX12 124 12 64 := ⟨RX12, TX12, 107, rfl, by decide, zi 6 171 rfl rfl⟩
theorem fl_X12_127 : zFl RX12 127 12 65 := ⟨RX12, TX12, 107, rfl, by decide, zi 6 172 rfl rfl⟩
theorem fl_X12_130 : zFl RX12 130 12 66 := ⟨RX12, TX12, 107, rfl, by decide, zi 6 173 rfl rfl⟩
theorem fl_X12_133 : zFl RX12 133 12 67 := ⟨RX12, TX12, 107, rfl, by decide, zi 6 174 rfl rfl⟩
theorem fl_X12_136 : zFl RX12 136 12 68 := ⟨RX12, TX12, 107, rfl, by decide, zi 6 175 rfl rfl⟩
theorem fl_X12_139 : zFl RX12 139 12 70 := ⟨RX12, TX12, 107, rfl, by decide, zi 6 177 rfl rfl⟩
theorem fl_X12_142 : zFl RX12 142 12 71 := ⟨RX12, TX12, 107, rfl, by decide, zi 6 178 rfl rfl⟩
theorem fl_X12_145 : zFl RX12 145 12 72 := ⟨RX12, TX12, 107, rfl, by decide, zi 6 179 rfl rfl⟩
theorem fl_X12_148 : zFl RX12 148 12 73 := ⟨RX12, TX12, 107, rfl, by decide, zi 6 180 rfl rfl⟩
theorem fl_X12_151 : zFl RX12 151 12 74 := ⟨RX12, TX12, 107, rfl, by decide, zi 6 181 rfl rfl⟩
theorem fl_X12_154 : zFl RX12 154 12 75 := ⟨RX12, TX12, 107, rfl, by decide, zi 6 182 rfl rfl⟩
theorem fl_X12_157 : zFl RX12 157 12 77 := ⟨RX12, TX12, 107, rfl, by decide, zi 6 184 rfl rfl⟩
theorem fl_X12_160 : zFl RX12 160 12 78 := ⟨RX12, TX12, 107, rfl, by decide, zi 6 185 rfl rfl⟩
theorem fl_X12_163 : zFl RX12 163 12 79 := ⟨RX12, TX12, 107, rfl, by decide, zi 6 186 rfl rfl⟩
theorem fl_X12_166 : zFl RX12 166 12 80 := ⟨RX12, TX12, 107, rfl, by decide, zi 6 187 rfl rfl⟩
theorem fl_X12_169 : zFl RX12 169 12 81 := ⟨RX12, TX12, 107, rfl, by decide, zi 6 188 rfl rfl⟩
theorem fl_X12_172 : zFl RX12 172 12 82 := ⟨RX12, TX12, 107, rfl, by decide, zi 6 189 rfl rfl⟩
theorem fl_X12_175 : zFl RX12 175 12 83 := ⟨RX12, TX12, 107, rfl, by decide, zi 6 190 rfl rfl⟩
theorem fl_X12_178 : zFl RX12 178 12 84 := ⟨RX12, TX12, 107, rfl, by decide, zi 6 191 rfl rfl⟩
theorem fl_X12_181 : zFl RX12 181 12 86 := ⟨RX12, TX12, 107, rfl, by decide, zi 6 193 rfl rfl⟩
theorem fl_X12_184 : zFl RX12 184 12 87 := ⟨RX12, TX12, 107, rfl, by decide, zi 6 194 rfl rfl⟩
theorem fl_X12_187 : zFl RX12 187 12 88 := ⟨RX12, TX12, 107, rfl, by decide, zi 6 195 rfl rfl⟩
theorem fl_X12_190 : zFl RX12 190 12 89 := ⟨RX12, TX12, 107, rfl, by decide, zi 6 196 rfl rfl⟩
theorem fl_X12_193 : zFl RX12 193 12 90 := ⟨RX12, TX12, 107, rfl, by decide, zi 6 197 rfl rfl⟩
theorem fl_X12_196 : zFl RX12 196 12 91 := ⟨RX12, TX12, 107, rfl, by decide, zi 6 198 rfl rfl⟩
theorem fl_X12_199 : zFl RX12 199 12 97 := ⟨RX12, TX12, 107, rfl, by decide, zi 6 204 rfl rfl⟩
theorem fl_X12_202 : zFl RX12 202 12 105 := ⟨RX12, TX12, 107, rfl, by decide, zi 6 212 rfl rfl⟩
theorem fl_X12_205 : zFl RX12 205 12 106 := ⟨RX12, TX12, 107, rfl, by decide, zi 6 213 rfl rfl⟩
theorem fl_X12_208 : zFl RX12 208 12 2 := ⟨RX12, TX12, 107, rfl, by decide, zi 6 109 rfl rfl⟩
theorem fl_X12_211 : zFl RX12 211 12 1 := ⟨RX12, TX12, 107, rfl, by decide, zi 6 108 rfl rfl⟩
theorem cs_X12_214 : zCs RX12 214 mX12_isIn 3 := ⟨zi 7 201 rfl rfl, zi 7 202 rfl rfl, zi 1 14 rfl rfl, zi 7 203 rfl rfl, by decide +kernel, by decide +kernel, by decide +kernel⟩
theorem fl_X12_218 : zFl RX12 218 12 3 := ⟨RX12, TX12, 107, rfl, by decide, zi 6 110 rfl rfl⟩
theorem fl_X12_221 : zFl RX12 221 12 4 := ⟨RX12, TX12, 107, rfl, by decide, zi 6 111 rfl rfl⟩
theorem cv_X12_224 : zCv RX12 224 mX12_isPost 12 1 := ⟨RX12, TX12, 107, rfl, by decide, rfl, zi 7 212 rfl rfl, zi 7 214 rfl rfl, zip 4 5 rfl, zi 1 14 rfl rfl, zi 7 215 rfl rfl, by decide +kernel, by decide +kernel, by decide +kernel⟩
theorem fl_X12_228 : zFl RX12 228 12 6 := ⟨RX12, TX12, 107, rfl, by decide, zi 6 113 rfl rfl⟩
theorem cs_X12_231 : zCs RX12 231 mX12_isHour 1 := ⟨zi 7 220 rfl rfl, zi 7 221 rfl rfl, zi 1 14 rfl rfl, zi 7 222 rfl rfl, by decide +kernel, by decide +kernel, by decide +kernel⟩
theorem cv_X12_234 : zCv RX12 234 mX12_know 12 1 := ⟨RX12, TX12, 107, rfl, by decide, rfl, zi 7 223 rfl rfl, zi 7 225 rfl rfl, zip 4 6 rfl, zi 1 14 rfl rfl, zi 7 226 rfl rfl, by decide +kernel, by decide +kernel, by decide +kernel⟩
theorem fl_X12_238 : zFl RX12 238 12 15 := ⟨RX12, TX12, 107, rfl, by decide, zi 6 122 rfl rfl⟩
theorem fl_X12_241 : zFl RX12 241 12 21 := ⟨RX12, TX12, 107, rfl, by decide, zi 6 128 rfl rfl⟩
theorem fl_X12_244 : zFl RX12 244 12 17 := ⟨RX12, TX12, 107, rfl, by decide, zi 6 124 rfl rfl⟩
theorem fl_X12_247 : zFl RX12 247 12 18 := ⟨RX12, TX12, 107, rfl, by decide, zi 6 125 rfl rfl⟩
theorem cv_X12_250 : zCv RX12 250 mX12_isAt 12 2 := ⟨RX12, TX12, 107, rfl, by decide, rfl, zi 8 12 rfl rfl, zi 8 14 rfl rfl, zip 4 12 rfl, zi 1 14 rfl rfl, zi 8 15 rfl rfl, by decide +kernel, by decide +kernel, by decide +kernel⟩
theorem fl_X12_254 : zFl RX12 254 12 19 := ⟨RX12, TX12, 107, rfl, by decide, zi 6 126 rfl rfl⟩
theorem cv_X12_257 : zCv RX12 257 mX12_isSmall 12 1 := ⟨RX12, TX12, 107, rfl, by decide, rfl, zi 7 235 rfl rfl, zi 7 237 rfl rfl, zip 4 8 rfl, zi 1 14 rfl rfl, zi 7 238 rfl rfl, by decide +kernel, by decide +kernel, by decide +kernel⟩
theorem cv_X12_260 : zCv RX12 260 mX12_wordAt 12 2 := ⟨RX12, TX12, 107, rfl, by decide, rfl, zi 7 239 rfl rfl, zi 8 1 rfl rfl, zip 4 9 rfl, zi 1 14 rfl rfl, zi 8 2 rfl rfl, by decide +kernel, by decide +kernel, by decide +kernel⟩
theorem fl_X12_264 : zFl RX12 264 12 20 := ⟨RX12, TX12, 107, rfl, by decide, zi 6 127 rfl rfl⟩
theorem cv_X12_267 : zCv RX12 267 mX12_isDigit 12 1 := ⟨RX12, TX12, 107, rfl, by decide, rfl, zi 8 3 rfl rfl, zi 8 5 rfl rfl, zip 4 10 rfl, zi 1 14 rfl rfl, zi 8 6 rfl rfl, by decide +kernel, by decide +kernel, by decide +kernel⟩
theorem ci_X12_270 : Cond.constant RX12 270 (Int32.ofInt (99999)) ∈ zT := zi 8 7 rfl rfl
theorem cv_X12_271 : zCv RX12 271 mX12_signOf 12 1 := ⟨RX12, TX12, 107, rfl, by decide, rfl, zi 8 8 rfl rfl, zi 8 10 rfl rfl, zip 4 11 rfl, zi 1 14 rfl rfl, zi 8 11 rfl rfl, by decide +kernel, by decide +kernel, by decide +kernel⟩
theorem fl_X12_275 : zFl RX12 275 12 38 := ⟨RX12, TX12, 107, rfl, by decide, zi 6 145 rfl rfl⟩
theorem cv_X12_278 : zCv RX12 278 mX12_wrong 12 1 := ⟨RX12, TX12, 107, rfl, by decide, rfl, zi 8 20 rfl rfl, zi 8 22 rfl rfl, zip 4 14 rfl, zi 1 14 rfl rfl, zi 8 23 rfl rfl, by decide +kernel, by decide +kernel, by decide +kernel⟩
theorem fl_X12_281 : zFl RX12 281 12 39 := ⟨RX12, TX12, 107, rfl, by decide, zi 6 146 rfl rfl⟩
theorem fl_X12_284 : zFl RX12 284 12 44 := ⟨RX12, TX12, 107, rfl, by decide, zi 6 151 rfl rfl⟩
theorem fl_X12_287 : zFl RX12 287 12 42 := ⟨RX12, TX12, 107, rfl, by decide, zi 6 149 rfl rfl⟩
theorem cs_X12_290 : zCs RX12 290 mX12_weight 1 := ⟨zi 8 72 rfl rfl, zi 8 73 rfl rfl, zi 1 14 rfl rfl, zi 8 74 rfl rfl, by decide +kernel, by decide +kernel, by decide +kernel⟩
theorem cv_X12_293 : zCv RX12 293 mX12_drop 12 0 := ⟨RX12, TX12, 107, rfl, by decide, rfl, zi 8 79 rfl rfl, zi 8 81 rfl rfl, zip 5 12 rfl, zi 1 14 rfl rfl, zi 8 82 rfl rfl, by decide +kernel, by decide +kernel, by decide +kernel⟩
theorem cv_X12_297 : zCv RX12 297 mX12_done 12 1 := ⟨RX12, TX12, 107, rfl, by decide, rfl, zi 8 60 rfl rfl, zi 8 62 rfl rfl, zip 5 8 rfl, zi 1 14 rfl rfl, zi 8 63 rfl rfl, by decide +kernel, by decide +kernel, by decide +kernel⟩
theorem cv_X12_300 : zCv RX12 300 mX12_grown 12 2 := ⟨RX12, TX12, 107, rfl, by decide, rfl, zi 8 52 rfl rfl, zi 8 54 rfl rfl, zip 5 6 rfl, zi 1 14 rfl rfl, zi 8 55 rfl rfl, by decide +kernel, by decide +kernel, by decide +kernel⟩
theorem cv_X12_303 : zCv RX12 303 mX12_waitFor 12 2 := ⟨RX12, TX12, 107, rfl, by decide, rfl, zi 8 44 rfl rfl, zi 8 46 rfl rfl, zip 5 4 rfl, zi 1 14 rfl rfl, zi 8 47 rfl rfl, by decide +kernel, by decide +kernel, by decide +kernel⟩
theorem fl_X12_307 : zFl RX12 307 12 49 := ⟨RX12, TX12, 107, rfl, by decide, zi 6 156 rfl rfl⟩
theorem cv_X12_311 : zCv RX12 311 mX12_take 12 0 := ⟨RX12, TX12, 107, rfl, by decide, rfl, zi 7 231 rfl rfl, zi 7 233 rfl rfl, zip 4 7 rfl, zi 1 14 rfl rfl, zi 7 234 rfl rfl, by decide +kernel, by decide +kernel, by decide +kernel⟩
theorem cv_X12_314 : zCv RX12 314 mX12_isSign 12 1 := ⟨RX12, TX12, 107, rfl, by decide, rfl, zi 8 32 rfl rfl, zi 8 34 rfl rfl, zip 5 1 rfl, zi 1 14 rfl rfl, zi 8 35 rfl rfl, by decide +kernel, by decide +kernel, by decide +kernel⟩
theorem fl_X12_317 : zFl RX12 317 12 46 := ⟨RX12, TX12, 107, rfl, by decide, zi 6 153 rfl rfl⟩
theorem cv_X12_320 : zCv RX12 320 mX12_sign 12 1 := ⟨RX12, TX12, 107, rfl, by decide, rfl, zi 8 28 rfl rfl, zi 8 30 rfl rfl, zip 5 0 rfl, zi 1 14 rfl rfl, zi 8 31 rfl rfl, by decide +kernel, by decide +kernel, by decide +kernel⟩
theorem cv_X12_323 : zCv RX12 323 mX12_number 12 2 := ⟨RX12, TX12, 107, rfl, by decide, rfl, zi 8 24 rfl rfl, zi 8 26 rfl rfl, zip 4 15 rfl, zi 1 14 rfl rfl, zi 8 27 rfl rfl, by decide +kernel, by decide +kernel, by decide +kernel⟩
theorem fl_X12_326 : zFl RX12 326 12 48 := ⟨RX12, TX12, 107, rfl, by decide, zi 6 155 rfl rfl⟩
theorem fl_X12_329 : zFl RX12 329 12 47 := ⟨RX12, TX12, 107, rfl, by decide, zi 6 154 rfl rfl⟩
theorem cv_X12_332 : zCv RX12 332 mX12_ofOne 12 1 := ⟨RX12, TX12, 107, rfl, by decide, rfl, zi 8 48 rfl rfl, zi 8 50 rfl rfl, zip 5 5 rfl, zi 1 14 rfl rfl, zi 8 51 rfl rfl, by decide +kernel, by decide +kernel, by decide +kernel⟩
theorem cv_X12_335 : zCv RX12 335 mX12_whatRead 12 0 := ⟨RX12, TX12, 107, rfl, by decide, rfl, zi 8 56 rfl rfl, zi 8 58 rfl rfl, zip 5 7 rfl, zi 1 14 rfl rfl, zi 8 59 rfl rfl, by decide +kernel, by decide +kernel, by decide +kernel⟩
theorem cv_X12_339 : zCv RX12 339 mX12_bind 12 1 := ⟨RX12, TX12, 107, rfl, by decide, rfl, zi 8 75 rfl rfl, zi 8 77 rfl rfl, zip 5 11 rfl, zi 1 14 rfl rfl, zi 8 78 rfl rfl, by decide +kernel, by decide +kernel, by decide +kernel⟩
theorem cv_X12_342 : zCv RX12 342 mX12_valueRead 12 0 := ⟨RX12, TX12, 107, rfl, by decide, rfl, zi 8 40 rfl rfl, zi 8 42 rfl rfl, zip 5 3 rfl, zi 1 14 rfl rfl, zi 8 43 rfl rfl, by decide +kernel, by decide +kernel, by decide +kernel⟩
theorem cv_X12_345 : zCv RX12 345 mX12_signNow 12 0 := ⟨RX12, TX12, 107, rfl, by decide, rfl, zi 8 64 rfl rfl, zi 8 66 rfl rfl, zip 5 9 rfl, zi 1 14 rfl rfl, zi 8 67 rfl rfl, by decide +kernel, by decide +kernel, by decide +kernel⟩
theorem cv_X12_348 : zCv RX12 348 mX12_joins 12 1 := ⟨RX12, TX12, 107, rfl, by decide, rfl, zi 8 68 rfl rfl, zi 8 70 rfl rfl, zip 5 10 rfl, zi 1 14 rfl rfl, zi 8 71 rfl rfl, by decide +kernel, by decide +kernel, by decide +kernel⟩
theorem fl_X12_351 : zFl RX12 351 12 36 := ⟨RX12, TX12, 107, rfl, by decide, zi 6 143 rfl rfl⟩
theorem fl_X12_354 : zFl RX12 354 12 35 := ⟨RX12, TX12, 107, rfl, by decide, zi 6 142 rfl rfl⟩
theorem fl_X12_357 : zFl RX12 357 12 33 := ⟨RX12, TX12, 107, rfl, by decide, zi 6 140 rfl rfl⟩
theorem cv_X12_360 : zCv RX12 360 mX12_expression 12 0 := ⟨RX12, TX12, 107, rfl, by decide, rfl, zi 8 36 rfl rfl, zi 8 38 rfl rfl, zip 5 2 rfl, zi 1 14 rfl rfl, zi 8 39 rfl rfl, by decide +kernel, by decide +kernel, by decide +kernel⟩
theorem cv_X12_363 : zCv RX12 363 mX12_line 12 0 := ⟨RX12, TX12, 107, rfl, by decide, rfl, zi 8 16 rfl rfl, zi 8 18 rfl rfl, zip 4 13 rfl, zi 1 14 rfl rfl, zi 8 19 rfl rfl, by decide +kernel, by decide +kernel, by decide +kernel⟩
theorem fl_X12_366 : zFl RX12 366 12 32 := ⟨RX12, TX12, 107, rfl, by decide, zi 6 139 rfl rfl⟩
theorem fl_X12_369 : zFl RX12 369 12 34 := ⟨RX12, TX12, 107, rfl, by decide, zi 6 141 rfl rfl⟩
theorem fl_X12_372 : zFl RX12 372 12 37 := ⟨RX12, TX12, 107, rfl, by decide, zi 6 144 rfl rfl⟩
theorem ci_X12_375 : Cond.constantLong RX12 375 (Int64.ofInt (-9223372036854775808)) ∈ zT := zi 8 99 rfl rfl
theorem cs_X12_377 : zCs RX12 377 mX12_big 1 := ⟨zi 8 113 rfl rfl, zi 8 114 rfl rfl, zi 1 14 rfl rfl, zi 8 115 rfl rfl, by decide +kernel, by decide +kernel, by decide +kernel⟩
theorem ci_X12_381 : Cond.constantLong RX12 381 (Int64.ofInt (1000000000000)) ∈ zT := zi 8 116 rfl rfl
theorem cs_X12_383 : zCs RX12 383 mX12_truth 1 := ⟨zi 8 104 rfl rfl, zi 8 105 rfl rfl, zi 1 14 rfl rfl, zi 8 106 rfl rfl, by decide +kernel, by decide +kernel, by decide +kernel⟩
theorem cs_X12_387 : zCs RX12 387 mX12_bounded 1 := ⟨zi 8 110 rfl rfl, zi 8 111 rfl rfl, zi 1 14 rfl rfl, zi 8 112 rfl rfl, by decide +kernel, by decide +kernel, by decide +kernel⟩
theorem cv_X12_390 : zCv RX12 390 mX12_whatValue 12 4 := ⟨RX12, TX12, 107, rfl, by decide, rfl, zi 8 100 rfl rfl, zi 8 102 rfl rfl, zip 5 15 rfl, zi 1 14 rfl rfl, zi 8 103 rfl rfl, by decide +kernel, by decide +kernel, by decide +kernel⟩
theorem cs_X12_394 : zCs RX12 394 mX12_made 3 := ⟨zi 8 107 rfl rfl, zi 8 108 rfl rfl, zi 1 14 rfl rfl, zi 8 109 rfl rfl, by decide +kernel, by decide +kernel, by decide +kernel⟩
theorem cv_X12_398 : zCv RX12 398 mX12_lineValue 12 2 := ⟨RX12, TX12, 107, rfl, by decide, rfl, zi 8 95 rfl rfl, zi 8 97 rfl rfl, zip 5 14 rfl, zi 1 14 rfl rfl, zi 8 98 rfl rfl, by decide +kernel, by decide +kernel, by decide +kernel⟩
theorem cv_X12_402 : zCv RX12 402 mX12_rawOf 12 2 := ⟨RX12, TX12, 107, rfl, by decide, rfl, zi 8 91 rfl rfl, zi 8 93 rfl rfl, zip 5 13 rfl, zi 1 14 rfl rfl, zi 8 94 rfl rfl, by decide +kernel, by decide +kernel, by decide +kernel⟩
theorem cv_X12_405 : zCv RX12 405 mX12_levelAt 12 1 := ⟨RX12, TX12, 107, rfl, by decide, rfl, zi 8 125 rfl rfl, zi 8 127 rfl rfl, zip 6 0 rfl, zi 1 14 rfl rfl, zi 8 128 rfl rfl, by decide +kernel, by decide +kernel, by decide +kernel⟩
theorem fl_X12_408 : zFl RX12 408 12 57 := ⟨RX12, TX12, 107, rfl, by decide, zi 6 164 rfl rfl⟩
theorem fl_X12_411 : zFl RX12 411 12 58 := ⟨RX12, TX12, 107, rfl, by decide, zi 6 165 rfl rfl⟩
theorem fl_X12_414 : zFl RX12 414 12 69 := ⟨RX12, TX12, 107, rfl, by decide, zi 6 176 rfl rfl⟩
theorem fl_X12_417 : zFl RX12 417 12 76 := ⟨RX12, TX12, 107, rfl, by decide, zi 6 183 rfl rfl⟩
theorem fl_X12_420 : zFl RX12 420 12 96 := ⟨RX12, TX12, 107, rfl, by decide, zi 6 203 rfl rfl⟩
theorem cv_X12_423 : zCv RX12 423 mX12_isCell 12 1 := ⟨RX12, TX12, 107, rfl, by decide, rfl, zi 8 137 rfl rfl, zi 8 139 rfl rfl, zip 6 1 rfl, zi 1 14 rfl rfl, zi 8 140 rfl rfl, by decide +kernel, by decide +kernel, by decide +kernel⟩
theorem cv_X12_426 : zCv RX12 426 mX12_hasWork 12 2 := ⟨RX12, TX12, 107, rfl, by decide, rfl, zi 8 149 rfl rfl, zi 8 151 rfl rfl, zip 6 3 rfl, zi 1 14 rfl rfl, zi 8 152 rfl rfl, by decide +kernel, by decide +kernel, by decide +kernel⟩
theorem cv_X12_430 : zCv RX12 430 mX12_mayWork 12 2 := ⟨RX12, TX12, 107, rfl, by decide, rfl, zi 8 145 rfl rfl, zi 8 147 rfl rfl, zip 6 2 rfl, zi 1 14 rfl rfl, zi 8 148 rfl rfl, by decide +kernel, by decide +kernel, by decide +kernel⟩
theorem cv_X12_433 : zCv RX12 433 mX12_setWork 12 3 := ⟨RX12, TX12, 107, rfl, by decide, rfl, zi 8 153 rfl rfl, zi 8 155 rfl rfl, zip 6 4 rfl, zi 1 14 rfl rfl, zi 8 156 rfl rfl, by decide +kernel, by decide +kernel, by decide +kernel⟩
theorem cv_X12_437 : zCv RX12 437 mX12_besideOf 12 2 := ⟨RX12, TX12, 107, rfl, by decide, rfl, zi 8 177 rfl rfl, zi 8 179 rfl rfl, zip 6 8 rfl, zi 1 14 rfl rfl, zi 8 180 rfl rfl, by decide +kernel, by decide +kernel, by decide +kernel⟩
theorem cv_X12_440 : zCv RX12 440 mX12_topOf 12 1 := ⟨RX12, TX12, 107, rfl, by decide, rfl, zi 8 181 rfl rfl, zi 8 183 rfl rfl, zip 6 9 rfl, zi 1 14 rfl rfl, zi 8 184 rfl rfl, by decide +kernel, by decide +kernel, by decide +kernel⟩
theorem cv_X12_443 : zCv RX12 443 mX12_lowestBy 12 2 := ⟨RX12, TX12, 107, rfl, by decide, rfl, zi 8 173 rfl rfl, zi 8 175 rfl rfl, zip 6 7 rfl, zi 1 14 rfl rfl, zi 8 176 rfl rfl, by decide +kernel, by decide +kernel, by decide +kernel⟩
theorem cv_X12_446 : zCv RX12 446 mX12_isWorld 12 1 := ⟨RX12, TX12, 107, rfl, by decide, rfl, zi 8 165 rfl rfl, zi 8 167 rfl rfl, zip 6 5 rfl, zi 1 14 rfl rfl, zi 8 168 rfl rfl, by decide +kernel, by decide +kernel, by decide +kernel⟩
theorem cv_X12_449 : zCv RX12 449 mX12_flows 12 1 := ⟨RX12, TX12, 107, rfl, by decide, rfl, zi 8 169 rfl rfl, zi 8 171 rfl rfl, zip 6 6 rfl, zi 1 14 rfl rfl, zi 8 172 rfl rfl, by decide +kernel, by decide +kernel, by decide +kernel⟩
theorem cv_X12_452 : zCv RX12 452 mX12_isPlace 12 1 := ⟨RX12, TX12, 107, rfl, by decide, rfl, zi 8 201 rfl rfl, zi 8 203 rfl rfl, zip 6 10 rfl, zi 1 14 rfl rfl, zi 8 204 rfl rfl, by decide +kernel, by decide +kernel, by decide +kernel⟩
theorem cv_X12_455 : zCv RX12 455 mX12_allLevels 12 0 := ⟨RX12, TX12, 107, rfl, by decide, rfl, zi 8 209 rfl rfl, zi 8 211 rfl rfl, zip 6 11 rfl, zi 1 14 rfl rfl, zi 8 212 rfl rfl, by decide +kernel, by decide +kernel, by decide +kernel⟩
theorem cv_X12_458 : zCv RX12 458 mX12_warnedAt 12 1 := ⟨RX12, TX12, 107, rfl, by decide, rfl, zi 8 213 rfl rfl, zi 8 215 rfl rfl, zip 6 12 rfl, zi 1 14 rfl rfl, zi 8 216 rfl rfl, by decide +kernel, by decide +kernel, by decide +kernel⟩
theorem fl_X12_461 : zFl RX12 461 12 85 := ⟨RX12, TX12, 107, rfl, by decide, zi 6 192 rfl rfl⟩
theorem fl_X12_464 : zFl RX12 464 12 92 := ⟨RX12, TX12, 107, rfl, by decide, zi 6 199 rfl rfl⟩
theorem ci_X12_467 : Cond.constant RX12 467 (Int32.ofInt (1000000)) ∈ zT := zi 9 1 rfl rfl
theorem cv_X12_468 : zCv RX12 468 mX12_shutFrom 12 2 := ⟨RX12, TX12, 107, rfl, by decide, rfl, zi 8 237 rfl rfl, zi 8 239 rfl rfl, zip 7 1 rfl, zi 1 14 rfl rfl, zi 9 0 rfl rfl, by decide +kernel, by decide +kernel, by decide +kernel⟩
theorem fl_X12_471 : zFl RX12 471 12 93 := ⟨RX12, TX12, 107, rfl, by decide, zi 6 200 rfl rfl⟩
theorem fl_X12_474 : zFl RX12 474 12 94 := ⟨RX12, TX12, 107, rfl, by decide, zi 6 201 rfl rfl⟩
theorem cv_X12_477 : zCv RX12 477 mX12_laysTown 12 2 := ⟨RX12, TX12, 107, rfl, by decide, rfl, zi 8 229 rfl rfl, zi 8 231 rfl rfl, zip 6 15 rfl, zi 1 14 rfl rfl, zi 8 232 rfl rfl, by decide +kernel, by decide +kernel, by decide +kernel⟩
theorem cv_X12_480 : zCv RX12 480 mX12_laysShelter 12 1 := ⟨RX12, TX12, 107, rfl, by decide, rfl, zi 9 10 rfl rfl, zi 9 12 rfl rfl, zip 7 4 rfl, zi 1 14 rfl rfl, zi 9 13 rfl rfl, by decide +kernel, by decide +kernel, by decide +kernel⟩
theorem cv_X12_483 : zCv RX12 483 mX12_isOpen 12 3 := ⟨RX12, TX12, 107, rfl, by decide, rfl, zi 8 233 rfl rfl, zi 8 235 rfl rfl, zip 7 0 rfl, zi 1 14 rfl rfl, zi 8 236 rfl rfl, by decide +kernel, by decide +kernel, by decide +kernel⟩
theorem cv_X12_486 : zCv RX12 486 mX12_nodeOf 12 2 := ⟨RX12, TX12, 107, rfl, by decide, rfl, zi 9 2 rfl rfl, zi 9 4 rfl rfl, zip 7 2 rfl, zi 1 14 rfl rfl, zi 9 5 rfl rfl, by decide +kernel, by decide +kernel, by decide +kernel⟩
theorem cv_X12_489 : zCv RX12 489 mX12_arc 12 3 := ⟨RX12, TX12, 107, rfl, by decide, rfl, zi 9 6 rfl rfl, zi 9 8 rfl rfl, zip 7 3 rfl, zi 1 14 rfl rfl, zi 9 9 rfl rfl, by decide +kernel, by decide +kernel, by decide +kernel⟩
theorem ci_X12_493 : Cond.constant RX12 493 (Int32.ofInt (1000001)) ∈ zT := zi 9 18 rfl rfl
theorem cv_X12_494 : zCv RX12 494 mX12_lays 12 1 := ⟨RX12, TX12, 107, rfl, by decide, rfl, zi 8 225 rfl rfl, zi 8 227 rfl rfl, zip 6 14 rfl, zi 1 14 rfl rfl, zi 8 228 rfl rfl, by decide +kernel, by decide +kernel, by decide +kernel⟩
theorem fl_X12_497 : zFl RX12 497 12 95 := ⟨RX12, TX12, 107, rfl, by decide, zi 6 202 rfl rfl⟩
theorem cv_X12_500 : zCv RX12 500 mX12_spreads 12 0 := ⟨RX12, TX12, 107, rfl, by decide, rfl, zi 9 14 rfl rfl, zi 9 16 rfl rfl, zip 7 5 rfl, zi 1 14 rfl rfl, zi 9 17 rfl rfl, by decide +kernel, by decide +kernel, by decide +kernel⟩
theorem cv_X12_503 : zCv RX12 503 mX12_pushes 12 0 := ⟨RX12, TX12, 107, rfl, by decide, rfl, zi 9 19 rfl rfl, zi 9 21 rfl rfl, zip 7 6 rfl, zi 1 14 rfl rfl, zi 9 22 rfl rfl, by decide +kernel, by decide +kernel, by decide +kernel⟩
theorem cv_X12_506 : zCv RX12 506 mX12_leads 12 1 := ⟨RX12, TX12, 107, rfl, by decide, rfl, zi 8 221 rfl rfl, zi 8 223 rfl rfl, zip 6 13 rfl, zi 1 14 rfl rfl, zi 8 224 rfl rfl, by decide +kernel, by decide +kernel, by decide +kernel⟩
theorem cv_X12_509 : zCv RX12 509 mX12_allPeople 12 0 := ⟨RX12, TX12, 107, rfl, by decide, rfl, zi 9 23 rfl rfl, zi 9 25 rfl rfl, zip 7 7 rfl, zi 1 14 rfl rfl, zi 9 26 rfl rfl, by decide +kernel, by decide +kernel, by decide +kernel⟩
theorem cv_X12_512 : zCv RX12 512 mX12_buried 12 0 := ⟨RX12, TX12, 107, rfl, by decide, rfl, zi 9 27 rfl rfl, zi 9 29 rfl rfl, zip 7 8 rfl, zi 1 14 rfl rfl, zi 9 30 rfl rfl, by decide +kernel, by decide +kernel, by decide +kernel⟩
theorem fl_X12_515 : zFl RX12 515 12 98 := ⟨RX12, TX12, 107, rfl, by decide, zi 6 205 rfl rfl⟩
theorem fl_X12_518 : zFl RX12 518 12 99 := ⟨RX12, TX12, 107, rfl, by decide, zi 6 206 rfl rfl⟩
theorem cv_X12_521 : zCv RX12 521 mX12_costs 12 0 := ⟨RX12, TX12, 107, rfl, by decide, rfl, zi 9 39 rfl rfl, zi 9 41 rfl rfl, zip 7 9 rfl, zi 1 14 rfl rfl, zi 9 42 rfl rfl, by decide +kernel, by decide +kernel, by decide +kernel⟩
theorem fl_X12_524 : zFl RX12 524 12 100 := ⟨RX12, TX12, 107, rfl, by decide, zi 6 207 rfl rfl⟩
theorem fl_X12_527 : zFl RX12 527 12 103 := ⟨RX12, TX12, 107, rfl, by decide, zi 6 210 rfl rfl⟩
theorem fl_X12_530 : zFl RX12 530 12 104 := ⟨RX12, TX12, 107, rfl, by decide, zi 6 211 rfl rfl⟩
theorem fl_X12_533 : zFl RX12 533 12 101 := ⟨RX12, TX12, 107, rfl, by decide, zi 6 208 rfl rfl⟩
theorem fl_X12_536 : zFl RX12 536 12 102 := ⟨RX12, TX12, 107, rfl, by decide, zi 6 209 rfl rfl⟩
theorem cv_X12_539 : zCv RX12 539 mX12_tries1 12 3 := ⟨RX12, TX12, 107, rfl, by decide, rfl, zi 9 51 rfl rfl, zi 9 53 rfl rfl, zip 7 10 rfl, zi 1 14 rfl rfl, zi 9 54 rfl rfl, by decide +kernel, by decide +kernel, by decide +kernel⟩
theorem cv_X12_542 : zCv RX12 542 mX12_canBuild 12 1 := ⟨RX12, TX12, 107, rfl, by decide, rfl, zi 9 55 rfl rfl, zi 9 57 rfl rfl, zip 7 11 rfl, zi 1 14 rfl rfl, zi 9 58 rfl rfl, by decide +kernel, by decide +kernel, by decide +kernel⟩
theorem cv_X12_545 : zCv RX12 545 mX12_build 12 2 := ⟨RX12, TX12, 107, rfl, by decide, rfl, zi 9 59 rfl rfl, zi 9 61 rfl rfl, zip 7 12 rfl, zi 1 14 rfl rfl, zi 9 62 rfl rfl, by decide +kernel, by decide +kernel, by decide +kernel⟩
theorem cs_X12_549 : zCs RX12 549 mX12_stepX 1 := ⟨zi 9 71 rfl rfl, zi 9 72 rfl rfl, zi 1 14 rfl rfl, zi 9 73 rfl rfl, by decide +kernel, by decide +kernel, by decide +kernel⟩
theorem cs_X12_552 : zCs RX12 552 mX12_stepY 1 := ⟨zi 9 74 rfl rfl, zi 9 75 rfl rfl, zi 1 14 rfl rfl, zi 9 76 rfl rfl, by decide +kernel, by decide +kernel, by decide +kernel⟩
theorem cv_X12_555 : zCv RX12 555 mX12_throwsOut 12 1 := ⟨RX12, TX12, 107, rfl, by decide, rfl, zi 9 81 rfl rfl, zi 9 83 rfl rfl, zip 7 13 rfl, zi 1 14 rfl rfl, zi 9 84 rfl rfl, by decide +kernel, by decide +kernel, by decide +kernel⟩
