/-! the tables are right -/
theorem okX0_init : am_okM mmX0_init = true ∧ am_okT am_MT mmX0_init = true := ⟨by decide +kernel, by decide +kernel⟩
theorem okX0_restart : am_okM mmX0_restart = true ∧ am_okT am_MT mmX0_restart = true := ⟨by decide +kernel, by decide +kernel⟩
theorem okX0_copy : am_okM mmX0_copy = true ∧ am_okT am_MT mmX0_copy = true := ⟨by decide +kernel, by decide +kernel⟩
theorem okX0_placeAt : am_okM mmX0_placeAt = true ∧ am_okT am_MT mmX0_placeAt = true := ⟨by decide +kernel, by decide +kernel⟩
theorem okX0_noted : am_okM mmX0_noted = true ∧ am_okT am_MT mmX0_noted = true := ⟨by decide +kernel, by decide +kernel⟩
theorem okX0_spoke : am_okM mmX0_spoke = true ∧ am_okT am_MT mmX0_spoke = true := ⟨by decide +kernel, by decide +kernel⟩
theorem okX0_note : am_okM mmX0_note = true ∧ am_okT am_MT mmX0_note = true := ⟨by decide +kernel, by decide +kernel⟩
theorem okX0_move : am_okM mmX0_move = true ∧ am_okT am_MT mmX0_move = true := ⟨by decide +kernel, by decide +kernel⟩
theorem okX0_drawOfTen : am_okM mmX0_drawOfTen = true ∧ am_okT am_MT mmX0_drawOfTen = true := ⟨by decide +kernel, by decide +kernel⟩
theorem okX0_off : am_okM mmX0_off = true ∧ am_okT am_MT mmX0_off = true := ⟨by decide +kernel, by decide +kernel⟩
theorem okX0_costTo : am_okM mmX0_costTo = true ∧ am_okT am_MT mmX0_costTo = true := ⟨by decide +kernel, by decide +kernel⟩
theorem okX0_settledFrom : am_okM mmX0_settledFrom = true ∧ am_okT am_MT mmX0_settledFrom = true := ⟨by decide +kernel, by decide +kernel⟩
theorem okX0_widest : am_okM mmX0_widest = true ∧ am_okT am_MT mmX0_widest = true := ⟨by decide +kernel, by decide +kernel⟩
theorem okX0_turnsRound : am_okM mmX0_turnsRound = true ∧ am_okT am_MT mmX0_turnsRound = true := ⟨by decide +kernel, by decide +kernel⟩
theorem okX1_init : am_okM mmX1_init = true ∧ am_okT am_MT mmX1_init = true := ⟨by decide +kernel, by decide +kernel⟩
theorem okX1_add : am_okM mmX1_add = true ∧ am_okT am_MT mmX1_add = true := ⟨by decide +kernel, by decide +kernel⟩
theorem okX1_copy : am_okM mmX1_copy = true ∧ am_okT am_MT mmX1_copy = true := ⟨by decide +kernel, by decide +kernel⟩
theorem okX1_value : am_okM mmX1_value = true ∧ am_okT am_MT mmX1_value = true := ⟨by decide +kernel, by decide +kernel⟩
theorem okX1_thing : am_okM mmX1_thing = true ∧ am_okT am_MT mmX1_thing = true := ⟨by decide +kernel, by decide +kernel⟩
theorem okX1_reckon : am_okM mmX1_reckon = true ∧ am_okT am_MT mmX1_reckon = true := ⟨by decide +kernel, by decide +kernel⟩
theorem okX1_join : am_okM mmX1_join = true ∧ am_okT am_MT mmX1_join = true := ⟨by decide +kernel, by decide +kernel⟩
theorem okX2_init : am_okM mmX2_init = true ∧ am_okT am_MT mmX2_init = true := ⟨by decide +kernel, by decide +kernel⟩
theorem okX2_leastCost : am_okM mmX2_leastCost = true ∧ am_okT am_MT mmX2_leastCost = true := ⟨by decide +kernel, by decide +kernel⟩
theorem okX2_spread : am_okM mmX2_spread = true ∧ am_okT am_MT mmX2_spread = true := ⟨by decide +kernel, by decide +kernel⟩
theorem okX2_reckonCosts : am_okM mmX2_reckonCosts = true ∧ am_okT am_MT mmX2_reckonCosts = true := ⟨by decide +kernel, by decide +kernel⟩
theorem okX2_leastAt : am_okM mmX2_leastAt = true ∧ am_okT am_MT mmX2_leastAt = true := ⟨by decide +kernel, by decide +kernel⟩
theorem okX2_hopedFor : am_okM mmX2_hopedFor = true ∧ am_okT am_MT mmX2_hopedFor = true := ⟨by decide +kernel, by decide +kernel⟩
theorem okX2_inReach : am_okM mmX2_inReach = true ∧ am_okT am_MT mmX2_inReach = true := ⟨by decide +kernel, by decide +kernel⟩
theorem okX3_init : am_okM mmX3_init = true ∧ am_okT am_MT mmX3_init = true := ⟨by decide +kernel, by decide +kernel⟩
theorem okX3_tabulate : am_okM mmX3_tabulate = true ∧ am_okT am_MT mmX3_tabulate = true := ⟨by decide +kernel, by decide +kernel⟩
theorem okX3_worth : am_okM mmX3_worth = true ∧ am_okT am_MT mmX3_worth = true := ⟨by decide +kernel, by decide +kernel⟩
theorem okX3_sum : am_okM mmX3_sum = true ∧ am_okT am_MT mmX3_sum = true := ⟨by decide +kernel, by decide +kernel⟩
theorem okX3_brings : am_okM mmX3_brings = true ∧ am_okT am_MT mmX3_brings = true := ⟨by decide +kernel, by decide +kernel⟩
theorem okX3_bestThing : am_okM mmX3_bestThing = true ∧ am_okT am_MT mmX3_bestThing = true := ⟨by decide +kernel, by decide +kernel⟩
theorem okX3_playBest : am_okM mmX3_playBest = true ∧ am_okT am_MT mmX3_playBest = true := ⟨by decide +kernel, by decide +kernel⟩
theorem okX3_playByTurns : am_okM mmX3_playByTurns = true ∧ am_okT am_MT mmX3_playByTurns = true := ⟨by decide +kernel, by decide +kernel⟩
theorem okX3_changes : am_okM mmX3_changes = true ∧ am_okT am_MT mmX3_changes = true := ⟨by decide +kernel, by decide +kernel⟩
theorem okX3_mostSeeingBoth : am_okM mmX3_mostSeeingBoth = true ∧ am_okT am_MT mmX3_mostSeeingBoth = true := ⟨by decide +kernel, by decide +kernel⟩
theorem okX3_spell : am_okM mmX3_spell = true ∧ am_okT am_MT mmX3_spell = true := ⟨by decide +kernel, by decide +kernel⟩
theorem okX3_ruleNumber : am_okM mmX3_ruleNumber = true ∧ am_okT am_MT mmX3_ruleNumber = true := ⟨by decide +kernel, by decide +kernel⟩
theorem okX4_init : am_okM mmX4_init = true ∧ am_okT am_MT mmX4_init = true := ⟨by decide +kernel, by decide +kernel⟩
theorem okX4_hearsAfter : am_okM mmX4_hearsAfter = true ∧ am_okT am_MT mmX4_hearsAfter = true := ⟨by decide +kernel, by decide +kernel⟩
theorem okX5_init : am_okM mmX5_init = true ∧ am_okT am_MT mmX5_init = true := ⟨by decide +kernel, by decide +kernel⟩
theorem okX5_addFour : am_okM mmX5_addFour = true ∧ am_okT am_MT mmX5_addFour = true := ⟨by decide +kernel, by decide +kernel⟩
theorem okX5_read : am_okM mmX5_read = true ∧ am_okT am_MT mmX5_read = true := ⟨by decide +kernel, by decide +kernel⟩
theorem okX5_startAnew : am_okM mmX5_startAnew = true ∧ am_okT am_MT mmX5_startAnew = true := ⟨by decide +kernel, by decide +kernel⟩
theorem okX5_take : am_okM mmX5_take = true ∧ am_okT am_MT mmX5_take = true := ⟨by decide +kernel, by decide +kernel⟩
theorem okX5_takeDigit : am_okM mmX5_takeDigit = true ∧ am_okT am_MT mmX5_takeDigit = true := ⟨by decide +kernel, by decide +kernel⟩
theorem okX5_takeAhead : am_okM mmX5_takeAhead = true ∧ am_okT am_MT mmX5_takeAhead = true := ⟨by decide +kernel, by decide +kernel⟩
theorem okX5_takeBehind : am_okM mmX5_takeBehind = true ∧ am_okT am_MT mmX5_takeBehind = true := ⟨by decide +kernel, by decide +kernel⟩
theorem okX5_open : am_okM mmX5_open = true ∧ am_okT am_MT mmX5_open = true := ⟨by decide +kernel, by decide +kernel⟩
theorem okX5_close : am_okM mmX5_close = true ∧ am_okT am_MT mmX5_close = true := ⟨by decide +kernel, by decide +kernel⟩
theorem okX5_finishNumber : am_okM mmX5_finishNumber = true ∧ am_okT am_MT mmX5_finishNumber = true := ⟨by decide +kernel, by decide +kernel⟩
theorem okX5_putOff : am_okM mmX5_putOff = true ∧ am_okT am_MT mmX5_putOff = true := ⟨by decide +kernel, by decide +kernel⟩
theorem okX5_finishDownTo : am_okM mmX5_finishDownTo = true ∧ am_okT am_MT mmX5_finishDownTo = true := ⟨by decide +kernel, by decide +kernel⟩
theorem okX5_rankOf : am_okM mmX5_rankOf = true ∧ am_okT am_MT mmX5_rankOf = true := ⟨by decide +kernel, by decide +kernel⟩
theorem okX6_init : am_okM mmX6_init = true ∧ am_okT am_MT mmX6_init = true := ⟨by decide +kernel, by decide +kernel⟩
theorem okX6_swing : am_okM mmX6_swing = true ∧ am_okT am_MT mmX6_swing = true := ⟨by decide +kernel, by decide +kernel⟩
theorem okX6_widest : am_okM mmX6_widest = true ∧ am_okT am_MT mmX6_widest = true := ⟨by decide +kernel, by decide +kernel⟩
theorem okX6_turns : am_okM mmX6_turns = true ∧ am_okT am_MT mmX6_turns = true := ⟨by decide +kernel, by decide +kernel⟩
theorem okX6_calmFrom : am_okM mmX6_calmFrom = true ∧ am_okT am_MT mmX6_calmFrom = true := ⟨by decide +kernel, by decide +kernel⟩
theorem okX7_init : am_okM mmX7_init = true ∧ am_okT am_MT mmX7_init = true := ⟨by decide +kernel, by decide +kernel⟩
theorem okX7_clear : am_okM mmX7_clear = true ∧ am_okT am_MT mmX7_clear = true := ⟨by decide +kernel, by decide +kernel⟩
theorem okX7_add : am_okM mmX7_add = true ∧ am_okT am_MT mmX7_add = true := ⟨by decide +kernel, by decide +kernel⟩
theorem okX7_tellOne : am_okM mmX7_tellOne = true ∧ am_okT am_MT mmX7_tellOne = true := ⟨by decide +kernel, by decide +kernel⟩
theorem okX7_tellTwo : am_okM mmX7_tellTwo = true ∧ am_okT am_MT mmX7_tellTwo = true := ⟨by decide +kernel, by decide +kernel⟩
theorem okX7_tellThree : am_okM mmX7_tellThree = true ∧ am_okT am_MT mmX7_tellThree = true := ⟨by decide +kernel, by decide +kernel⟩
theorem okX7_tellFraction : am_okM mmX7_tellFraction = true ∧ am_okT am_MT mmX7_tellFraction = true := ⟨by decide +kernel, by decide +kernel⟩
theorem okX8_init : am_okM mmX8_init = true ∧ am_okT am_MT mmX8_init = true := ⟨by decide +kernel, by decide +kernel⟩
theorem okX8_minutes : am_okM mmX8_minutes = true ∧ am_okT am_MT mmX8_minutes = true := ⟨by decide +kernel, by decide +kernel⟩
theorem okX8_measure : am_okM mmX8_measure = true ∧ am_okT am_MT mmX8_measure = true := ⟨by decide +kernel, by decide +kernel⟩
theorem okX8_minutesBy : am_okM mmX8_minutesBy = true ∧ am_okT am_MT mmX8_minutesBy = true := ⟨by decide +kernel, by decide +kernel⟩
theorem okX8_findWay : am_okM mmX8_findWay = true ∧ am_okT am_MT mmX8_findWay = true := ⟨by decide +kernel, by decide +kernel⟩
theorem okX9_init : am_okM mmX9_init = true ∧ am_okT am_MT mmX9_init = true := ⟨by decide +kernel, by decide +kernel⟩
theorem okX9_has : am_okM mmX9_has = true ∧ am_okT am_MT mmX9_has = true := ⟨by decide +kernel, by decide +kernel⟩
theorem okX9_hasTwo : am_okM mmX9_hasTwo = true ∧ am_okT am_MT mmX9_hasTwo = true := ⟨by decide +kernel, by decide +kernel⟩
theorem okX9_isNear : am_okM mmX9_isNear = true ∧ am_okT am_MT mmX9_isNear = true := ⟨by decide +kernel, by decide +kernel⟩
theorem okX9_isSeen : am_okM mmX9_isSeen = true ∧ am_okT am_MT mmX9_isSeen = true := ⟨by decide +kernel, by decide +kernel⟩
theorem okX9_isDeed : am_okM mmX9_isDeed = true ∧ am_okT am_MT mmX9_isDeed = true := ⟨by decide +kernel, by decide +kernel⟩
theorem okX9_toldRules : am_okM mmX9_toldRules = true ∧ am_okT am_MT mmX9_toldRules = true := ⟨by decide +kernel, by decide +kernel⟩
theorem okX9_look : am_okM mmX9_look = true ∧ am_okT am_MT mmX9_look = true := ⟨by decide +kernel, by decide +kernel⟩
theorem okX9_hears : am_okM mmX9_hears = true ∧ am_okT am_MT mmX9_hears = true := ⟨by decide +kernel, by decide +kernel⟩
theorem okX9_deed : am_okM mmX9_deed = true ∧ am_okT am_MT mmX9_deed = true := ⟨by decide +kernel, by decide +kernel⟩
theorem okX9_speech : am_okM mmX9_speech = true ∧ am_okT am_MT mmX9_speech = true := ⟨by decide +kernel, by decide +kernel⟩
theorem okX9_pass : am_okM mmX9_pass = true ∧ am_okT am_MT mmX9_pass = true := ⟨by decide +kernel, by decide +kernel⟩
theorem okX9_wind : am_okM mmX9_wind = true ∧ am_okT am_MT mmX9_wind = true := ⟨by decide +kernel, by decide +kernel⟩
theorem okX10_init : am_okM mmX10_init = true ∧ am_okT am_MT mmX10_init = true := ⟨by decide +kernel, by decide +kernel⟩
theorem okX10_person : am_okM mmX10_person = true ∧ am_okT am_MT mmX10_person = true := ⟨by decide +kernel, by decide +kernel⟩
theorem okX10_set : am_okM mmX10_set = true ∧ am_okT am_MT mmX10_set = true := ⟨by decide +kernel, by decide +kernel⟩
theorem okX10_link : am_okM mmX10_link = true ∧ am_okT am_MT mmX10_link = true := ⟨by decide +kernel, by decide +kernel⟩
theorem okX10_beam : am_okM mmX10_beam = true ∧ am_okT am_MT mmX10_beam = true := ⟨by decide +kernel, by decide +kernel⟩
theorem okX10_sheet : am_okM mmX10_sheet = true ∧ am_okT am_MT mmX10_sheet = true := ⟨by decide +kernel, by decide +kernel⟩
theorem okX10_sign : am_okM mmX10_sign = true ∧ am_okT am_MT mmX10_sign = true := ⟨by decide +kernel, by decide +kernel⟩
theorem okX10_end : am_okM mmX10_end = true ∧ am_okT am_MT mmX10_end = true := ⟨by decide +kernel, by decide +kernel⟩
theorem okX10_rule : am_okM mmX10_rule = true ∧ am_okT am_MT mmX10_rule = true := ⟨by decide +kernel, by decide +kernel⟩
theorem okX10_does : am_okM mmX10_does = true ∧ am_okT am_MT mmX10_does = true := ⟨by decide +kernel, by decide +kernel⟩
theorem okX10_go : am_okM mmX10_go = true ∧ am_okT am_MT mmX10_go = true := ⟨by decide +kernel, by decide +kernel⟩
theorem okX10_begin : am_okM mmX10_begin = true ∧ am_okT am_MT mmX10_begin = true := ⟨by decide +kernel, by decide +kernel⟩
theorem okX10_place : am_okM mmX10_place = true ∧ am_okT am_MT mmX10_place = true := ⟨by decide +kernel, by decide +kernel⟩
theorem okX10_was : am_okM mmX10_was = true ∧ am_okT am_MT mmX10_was = true := ⟨by decide +kernel, by decide +kernel⟩
theorem okX10_cost : am_okM mmX10_cost = true ∧ am_okT am_MT mmX10_cost = true := ⟨by decide +kernel, by decide +kernel⟩
theorem okX10_crossed : am_okM mmX10_crossed = true ∧ am_okT am_MT mmX10_crossed = true := ⟨by decide +kernel, by decide +kernel⟩
theorem okX10_by : am_okM mmX10_by = true ∧ am_okT am_MT mmX10_by = true := ⟨by decide +kernel, by decide +kernel⟩
theorem okX10_would : am_okM mmX10_would = true ∧ am_okT am_MT mmX10_would = true := ⟨by decide +kernel, by decide +kernel⟩
theorem okX10_rules : am_okM mmX10_rules = true ∧ am_okT am_MT mmX10_rules = true := ⟨by decide +kernel, by decide +kernel⟩
theorem okX10_pair : am_okM mmX10_pair = true ∧ am_okT am_MT mmX10_pair = true := ⟨by decide +kernel, by decide +kernel⟩
theorem okX10_echo : am_okM mmX10_echo = true ∧ am_okT am_MT mmX10_echo = true := ⟨by decide +kernel, by decide +kernel⟩
theorem okX10_waits : am_okM mmX10_waits = true ∧ am_okT am_MT mmX10_waits = true := ⟨by decide +kernel, by decide +kernel⟩
theorem okX10_swings : am_okM mmX10_swings = true ∧ am_okT am_MT mmX10_swings = true := ⟨by decide +kernel, by decide +kernel⟩
theorem okX10_steer : am_okM mmX10_steer = true ∧ am_okT am_MT mmX10_steer = true := ⟨by decide +kernel, by decide +kernel⟩
theorem okX10_blind : am_okM mmX10_blind = true ∧ am_okT am_MT mmX10_blind = true := ⟨by decide +kernel, by decide +kernel⟩
theorem okX10_pull : am_okM mmX10_pull = true ∧ am_okT am_MT mmX10_pull = true := ⟨by decide +kernel, by decide +kernel⟩
theorem okX10_edge : am_okM mmX10_edge = true ∧ am_okT am_MT mmX10_edge = true := ⟨by decide +kernel, by decide +kernel⟩
theorem okX10_gentle : am_okM mmX10_gentle = true ∧ am_okT am_MT mmX10_gentle = true := ⟨by decide +kernel, by decide +kernel⟩
theorem okX10_weight : am_okM mmX10_weight = true ∧ am_okT am_MT mmX10_weight = true := ⟨by decide +kernel, by decide +kernel⟩
theorem okX10_pays : am_okM mmX10_pays = true ∧ am_okT am_MT mmX10_pays = true := ⟨by decide +kernel, by decide +kernel⟩
theorem okX10_two : am_okM mmX10_two = true ∧ am_okT am_MT mmX10_two = true := ⟨by decide +kernel, by decide +kernel⟩
theorem okX10_stand : am_okM mmX10_stand = true ∧ am_okT am_MT mmX10_stand = true := ⟨by decide +kernel, by decide +kernel⟩
theorem okX10_gap : am_okM mmX10_gap = true ∧ am_okT am_MT mmX10_gap = true := ⟨by decide +kernel, by decide +kernel⟩
theorem okX10_says : am_okM mmX10_says = true ∧ am_okT am_MT mmX10_says = true := ⟨by decide +kernel, by decide +kernel⟩
theorem okX10_soon : am_okM mmX10_soon = true ∧ am_okT am_MT mmX10_soon = true := ⟨by decide +kernel, by decide +kernel⟩
theorem okX10_know : am_okM mmX10_know = true ∧ am_okT am_MT mmX10_know = true := ⟨by decide +kernel, by decide +kernel⟩
theorem okX10_crier : am_okM mmX10_crier = true ∧ am_okT am_MT mmX10_crier = true := ⟨by decide +kernel, by decide +kernel⟩
theorem okX10_deaf : am_okM mmX10_deaf = true ∧ am_okT am_MT mmX10_deaf = true := ⟨by decide +kernel, by decide +kernel⟩
theorem okX10_warn : am_okM mmX10_warn = true ∧ am_okT am_MT mmX10_warn = true := ⟨by decide +kernel, by decide +kernel⟩
theorem okX10_fog : am_okM mmX10_fog = true ∧ am_okT am_MT mmX10_fog = true := ⟨by decide +kernel, by decide +kernel⟩
theorem okX10_chance : am_okM mmX10_chance = true ∧ am_okT am_MT mmX10_chance = true := ⟨by decide +kernel, by decide +kernel⟩
theorem okX10_sure : am_okM mmX10_sure = true ∧ am_okT am_MT mmX10_sure = true := ⟨by decide +kernel, by decide +kernel⟩
theorem okX10_seed : am_okM mmX10_seed = true ∧ am_okT am_MT mmX10_seed = true := ⟨by decide +kernel, by decide +kernel⟩
theorem okX10_keep : am_okM mmX10_keep = true ∧ am_okT am_MT mmX10_keep = true := ⟨by decide +kernel, by decide +kernel⟩
theorem okX10_again : am_okM mmX10_again = true ∧ am_okT am_MT mmX10_again = true := ⟨by decide +kernel, by decide +kernel⟩
theorem okX10_count : am_okM mmX10_count = true ∧ am_okT am_MT mmX10_count = true := ⟨by decide +kernel, by decide +kernel⟩
theorem okX10_row : am_okM mmX10_row = true ∧ am_okT am_MT mmX10_row = true := ⟨by decide +kernel, by decide +kernel⟩
theorem okX10_isWithin : am_okM mmX10_isWithin = true ∧ am_okT am_MT mmX10_isWithin = true := ⟨by decide +kernel, by decide +kernel⟩
theorem okX10_putTo : am_okM mmX10_putTo = true ∧ am_okT am_MT mmX10_putTo = true := ⟨by decide +kernel, by decide +kernel⟩
theorem okX10_withBit : am_okM mmX10_withBit = true ∧ am_okT am_MT mmX10_withBit = true := ⟨by decide +kernel, by decide +kernel⟩
theorem okX10_hasBit : am_okM mmX10_hasBit = true ∧ am_okT am_MT mmX10_hasBit = true := ⟨by decide +kernel, by decide +kernel⟩
theorem okX10_powerOfTen : am_okM mmX10_powerOfTen = true ∧ am_okT am_MT mmX10_powerOfTen = true := ⟨by decide +kernel, by decide +kernel⟩
theorem okX10_sheetEntry : am_okM mmX10_sheetEntry = true ∧ am_okT am_MT mmX10_sheetEntry = true := ⟨by decide +kernel, by decide +kernel⟩
theorem okX10_canSteer : am_okM mmX10_canSteer = true ∧ am_okT am_MT mmX10_canSteer = true := ⟨by decide +kernel, by decide +kernel⟩
theorem okX10_isRuleNumber : am_okM mmX10_isRuleNumber = true ∧ am_okT am_MT mmX10_isRuleNumber = true := ⟨by decide +kernel, by decide +kernel⟩
theorem okX10_tryOut : am_okM mmX10_tryOut = true ∧ am_okT am_MT mmX10_tryOut = true := ⟨by decide +kernel, by decide +kernel⟩
theorem okX10_doneByAll : am_okM mmX10_doneByAll = true ∧ am_okT am_MT mmX10_doneByAll = true := ⟨by decide +kernel, by decide +kernel⟩
theorem okX10_sameMinute : am_okM mmX10_sameMinute = true ∧ am_okT am_MT mmX10_sameMinute = true := ⟨by decide +kernel, by decide +kernel⟩
theorem okX10_saidTooSoon : am_okM mmX10_saidTooSoon = true ∧ am_okT am_MT mmX10_saidTooSoon = true := ⟨by decide +kernel, by decide +kernel⟩
theorem okX10_heardByAll : am_okM mmX10_heardByAll = true ∧ am_okT am_MT mmX10_heardByAll = true := ⟨by decide +kernel, by decide +kernel⟩
theorem okX10_answeredOfHundred : am_okM mmX10_answeredOfHundred = true ∧ am_okT am_MT mmX10_answeredOfHundred = true := ⟨by decide +kernel, by decide +kernel⟩
theorem okX11_thrown : am_okM mmX11_thrown = true ∧ am_okT am_MT mmX11_thrown = true := ⟨by decide +kernel, by decide +kernel⟩
theorem okX11_refuse : am_okM mmX11_refuse = true ∧ am_okT am_MT mmX11_refuse = true := ⟨by decide +kernel, by decide +kernel⟩
theorem okX11_in : am_okM mmX11_in = true ∧ am_okT am_MT mmX11_in = true := ⟨by decide +kernel, by decide +kernel⟩
theorem okX11_has : am_okM mmX11_has = true ∧ am_okT am_MT mmX11_has = true := ⟨by decide +kernel, by decide +kernel⟩
theorem okX11_flag : am_okM mmX11_flag = true ∧ am_okT am_MT mmX11_flag = true := ⟨by decide +kernel, by decide +kernel⟩
theorem okX11_put : am_okM mmX11_put = true ∧ am_okT am_MT mmX11_put = true := ⟨by decide +kernel, by decide +kernel⟩
theorem okX11_enters : am_okM mmX11_enters = true ∧ am_okT am_MT mmX11_enters = true := ⟨by decide +kernel, by decide +kernel⟩
theorem okX11_common : am_okM mmX11_common = true ∧ am_okT am_MT mmX11_common = true := ⟨by decide +kernel, by decide +kernel⟩
theorem okX11_entersFraction : am_okM mmX11_entersFraction = true ∧ am_okT am_MT mmX11_entersFraction = true := ⟨by decide +kernel, by decide +kernel⟩
theorem okX11_isPerson : am_okM mmX11_isPerson = true ∧ am_okT am_MT mmX11_isPerson = true := ⟨by decide +kernel, by decide +kernel⟩
theorem okX11_arePair : am_okM mmX11_arePair = true ∧ am_okT am_MT mmX11_arePair = true := ⟨by decide +kernel, by decide +kernel⟩
theorem okX11_mostOf : am_okM mmX11_mostOf = true ∧ am_okT am_MT mmX11_mostOf = true := ⟨by decide +kernel, by decide +kernel⟩
theorem okX11_person : am_okM mmX11_person = true ∧ am_okT am_MT mmX11_person = true := ⟨by decide +kernel, by decide +kernel⟩
theorem okX11_set : am_okM mmX11_set = true ∧ am_okT am_MT mmX11_set = true := ⟨by decide +kernel, by decide +kernel⟩
theorem okX11_with : am_okM mmX11_with = true ∧ am_okT am_MT mmX11_with = true := ⟨by decide +kernel, by decide +kernel⟩
theorem okX11_link : am_okM mmX11_link = true ∧ am_okT am_MT mmX11_link = true := ⟨by decide +kernel, by decide +kernel⟩
theorem okX11_beam : am_okM mmX11_beam = true ∧ am_okT am_MT mmX11_beam = true := ⟨by decide +kernel, by decide +kernel⟩
theorem okX11_sheet : am_okM mmX11_sheet = true ∧ am_okT am_MT mmX11_sheet = true := ⟨by decide +kernel, by decide +kernel⟩
theorem okX11_sign : am_okM mmX11_sign = true ∧ am_okT am_MT mmX11_sign = true := ⟨by decide +kernel, by decide +kernel⟩
theorem okX11_end : am_okM mmX11_end = true ∧ am_okT am_MT mmX11_end = true := ⟨by decide +kernel, by decide +kernel⟩
theorem okX11_isDigit : am_okM mmX11_isDigit = true ∧ am_okT am_MT mmX11_isDigit = true := ⟨by decide +kernel, by decide +kernel⟩
theorem okX11_among : am_okM mmX11_among = true ∧ am_okT am_MT mmX11_among = true := ⟨by decide +kernel, by decide +kernel⟩
theorem okX11_marks : am_okM mmX11_marks = true ∧ am_okT am_MT mmX11_marks = true := ⟨by decide +kernel, by decide +kernel⟩
theorem okX11_thing : am_okM mmX11_thing = true ∧ am_okT am_MT mmX11_thing = true := ⟨by decide +kernel, by decide +kernel⟩
theorem okX11_ahead : am_okM mmX11_ahead = true ∧ am_okT am_MT mmX11_ahead = true := ⟨by decide +kernel, by decide +kernel⟩
theorem okX11_ranked : am_okM mmX11_ranked = true ∧ am_okT am_MT mmX11_ranked = true := ⟨by decide +kernel, by decide +kernel⟩
theorem okX11_reads : am_okM mmX11_reads = true ∧ am_okT am_MT mmX11_reads = true := ⟨by decide +kernel, by decide +kernel⟩
theorem okX11_rule : am_okM mmX11_rule = true ∧ am_okT am_MT mmX11_rule = true := ⟨by decide +kernel, by decide +kernel⟩
theorem okX11_pays : am_okM mmX11_pays = true ∧ am_okT am_MT mmX11_pays = true := ⟨by decide +kernel, by decide +kernel⟩
theorem okX11_acted : am_okM mmX11_acted = true ∧ am_okT am_MT mmX11_acted = true := ⟨by decide +kernel, by decide +kernel⟩
theorem okX11_worked : am_okM mmX11_worked = true ∧ am_okT am_MT mmX11_worked = true := ⟨by decide +kernel, by decide +kernel⟩
theorem okX11_indexOf : am_okM mmX11_indexOf = true ∧ am_okT am_MT mmX11_indexOf = true := ⟨by decide +kernel, by decide +kernel⟩
theorem okX11_wasOf : am_okM mmX11_wasOf = true ∧ am_okT am_MT mmX11_wasOf = true := ⟨by decide +kernel, by decide +kernel⟩
theorem okX11_placeAt : am_okM mmX11_placeAt = true ∧ am_okT am_MT mmX11_placeAt = true := ⟨by decide +kernel, by decide +kernel⟩
theorem okX11_lateOf : am_okM mmX11_lateOf = true ∧ am_okT am_MT mmX11_lateOf = true := ⟨by decide +kernel, by decide +kernel⟩
theorem okX11_heardBy : am_okM mmX11_heardBy = true ∧ am_okT am_MT mmX11_heardBy = true := ⟨by decide +kernel, by decide +kernel⟩
theorem okX11_looks : am_okM mmX11_looks = true ∧ am_okT am_MT mmX11_looks = true := ⟨by decide +kernel, by decide +kernel⟩
theorem okX11_doesNow : am_okM mmX11_doesNow = true ∧ am_okT am_MT mmX11_doesNow = true := ⟨by decide +kernel, by decide +kernel⟩
theorem okX11_draws : am_okM mmX11_draws = true ∧ am_okT am_MT mmX11_draws = true := ⟨by decide +kernel, by decide +kernel⟩
theorem okX11_blows : am_okM mmX11_blows = true ∧ am_okT am_MT mmX11_blows = true := ⟨by decide +kernel, by decide +kernel⟩
theorem okX11_passes : am_okM mmX11_passes = true ∧ am_okT am_MT mmX11_passes = true := ⟨by decide +kernel, by decide +kernel⟩
theorem okX11_does : am_okM mmX11_does = true ∧ am_okT am_MT mmX11_does = true := ⟨by decide +kernel, by decide +kernel⟩
theorem okX11_go : am_okM mmX11_go = true ∧ am_okT am_MT mmX11_go = true := ⟨by decide +kernel, by decide +kernel⟩
theorem okX11_begins : am_okM mmX11_begins = true ∧ am_okT am_MT mmX11_begins = true := ⟨by decide +kernel, by decide +kernel⟩
theorem okX11_begin : am_okM mmX11_begin = true ∧ am_okT am_MT mmX11_begin = true := ⟨by decide +kernel, by decide +kernel⟩
theorem okX11_place : am_okM mmX11_place = true ∧ am_okT am_MT mmX11_place = true := ⟨by decide +kernel, by decide +kernel⟩
theorem okX11_was : am_okM mmX11_was = true ∧ am_okT am_MT mmX11_was = true := ⟨by decide +kernel, by decide +kernel⟩
theorem okX11_costNow : am_okM mmX11_costNow = true ∧ am_okT am_MT mmX11_costNow = true := ⟨by decide +kernel, by decide +kernel⟩
theorem okX11_cost : am_okM mmX11_cost = true ∧ am_okT am_MT mmX11_cost = true := ⟨by decide +kernel, by decide +kernel⟩
theorem okX11_crossed : am_okM mmX11_crossed = true ∧ am_okT am_MT mmX11_crossed = true := ⟨by decide +kernel, by decide +kernel⟩
theorem okX11_by : am_okM mmX11_by = true ∧ am_okT am_MT mmX11_by = true := ⟨by decide +kernel, by decide +kernel⟩
theorem okX11_putsBy : am_okM mmX11_putsBy = true ∧ am_okT am_MT mmX11_putsBy = true := ⟨by decide +kernel, by decide +kernel⟩
theorem okX11_takesBack : am_okM mmX11_takesBack = true ∧ am_okT am_MT mmX11_takesBack = true := ⟨by decide +kernel, by decide +kernel⟩
theorem okX11_costs : am_okM mmX11_costs = true ∧ am_okT am_MT mmX11_costs = true := ⟨by decide +kernel, by decide +kernel⟩
theorem okX11_would : am_okM mmX11_would = true ∧ am_okT am_MT mmX11_would = true := ⟨by decide +kernel, by decide +kernel⟩
theorem okX11_rules : am_okM mmX11_rules = true ∧ am_okT am_MT mmX11_rules = true := ⟨by decide +kernel, by decide +kernel⟩
theorem okX11_pair : am_okM mmX11_pair = true ∧ am_okT am_MT mmX11_pair = true := ⟨by decide +kernel, by decide +kernel⟩
theorem okX11_echo : am_okM mmX11_echo = true ∧ am_okT am_MT mmX11_echo = true := ⟨by decide +kernel, by decide +kernel⟩
theorem okX11_waits : am_okM mmX11_waits = true ∧ am_okT am_MT mmX11_waits = true := ⟨by decide +kernel, by decide +kernel⟩
theorem okX11_swings : am_okM mmX11_swings = true ∧ am_okT am_MT mmX11_swings = true := ⟨by decide +kernel, by decide +kernel⟩
theorem okX11_sumsWinds : am_okM mmX11_sumsWinds = true ∧ am_okT am_MT mmX11_sumsWinds = true := ⟨by decide +kernel, by decide +kernel⟩
theorem okX11_costOf : am_okM mmX11_costOf = true ∧ am_okT am_MT mmX11_costOf = true := ⟨by decide +kernel, by decide +kernel⟩
theorem okX11_then : am_okM mmX11_then = true ∧ am_okT am_MT mmX11_then = true := ⟨by decide +kernel, by decide +kernel⟩
theorem okX11_steers : am_okM mmX11_steers = true ∧ am_okT am_MT mmX11_steers = true := ⟨by decide +kernel, by decide +kernel⟩
theorem okX11_isSteering : am_okM mmX11_isSteering = true ∧ am_okT am_MT mmX11_isSteering = true := ⟨by decide +kernel, by decide +kernel⟩
theorem okX11_steer : am_okM mmX11_steer = true ∧ am_okT am_MT mmX11_steer = true := ⟨by decide +kernel, by decide +kernel⟩
theorem okX11_power : am_okM mmX11_power = true ∧ am_okT am_MT mmX11_power = true := ⟨by decide +kernel, by decide +kernel⟩
theorem okX11_blind : am_okM mmX11_blind = true ∧ am_okT am_MT mmX11_blind = true := ⟨by decide +kernel, by decide +kernel⟩
theorem okX11_pulls : am_okM mmX11_pulls = true ∧ am_okT am_MT mmX11_pulls = true := ⟨by decide +kernel, by decide +kernel⟩
theorem okX11_greatest : am_okM mmX11_greatest = true ∧ am_okT am_MT mmX11_greatest = true := ⟨by decide +kernel, by decide +kernel⟩
theorem okX11_calm : am_okM mmX11_calm = true ∧ am_okT am_MT mmX11_calm = true := ⟨by decide +kernel, by decide +kernel⟩
theorem okX11_pull : am_okM mmX11_pull = true ∧ am_okT am_MT mmX11_pull = true := ⟨by decide +kernel, by decide +kernel⟩
theorem okX11_edge : am_okM mmX11_edge = true ∧ am_okT am_MT mmX11_edge = true := ⟨by decide +kernel, by decide +kernel⟩
theorem okX11_gentle : am_okM mmX11_gentle = true ∧ am_okT am_MT mmX11_gentle = true := ⟨by decide +kernel, by decide +kernel⟩
theorem okX11_weight : am_okM mmX11_weight = true ∧ am_okT am_MT mmX11_weight = true := ⟨by decide +kernel, by decide +kernel⟩
theorem okX11_worth : am_okM mmX11_worth = true ∧ am_okT am_MT mmX11_worth = true := ⟨by decide +kernel, by decide +kernel⟩
theorem okX11_thingOf : am_okM mmX11_thingOf = true ∧ am_okT am_MT mmX11_thingOf = true := ⟨by decide +kernel, by decide +kernel⟩
theorem okX11_worthOf : am_okM mmX11_worthOf = true ∧ am_okT am_MT mmX11_worthOf = true := ⟨by decide +kernel, by decide +kernel⟩
theorem okX11_ruleAt : am_okM mmX11_ruleAt = true ∧ am_okT am_MT mmX11_ruleAt = true := ⟨by decide +kernel, by decide +kernel⟩
theorem okX11_bestOfTwo : am_okM mmX11_bestOfTwo = true ∧ am_okT am_MT mmX11_bestOfTwo = true := ⟨by decide +kernel, by decide +kernel⟩
theorem okX11_two : am_okM mmX11_two = true ∧ am_okT am_MT mmX11_two = true := ⟨by decide +kernel, by decide +kernel⟩
theorem okX11_partOf : am_okM mmX11_partOf = true ∧ am_okT am_MT mmX11_partOf = true := ⟨by decide +kernel, by decide +kernel⟩
theorem okX11_answers : am_okM mmX11_answers = true ∧ am_okT am_MT mmX11_answers = true := ⟨by decide +kernel, by decide +kernel⟩
theorem okX11_stands : am_okM mmX11_stands = true ∧ am_okT am_MT mmX11_stands = true := ⟨by decide +kernel, by decide +kernel⟩
theorem okX11_isStand : am_okM mmX11_isStand = true ∧ am_okT am_MT mmX11_isStand = true := ⟨by decide +kernel, by decide +kernel⟩
theorem okX11_stand : am_okM mmX11_stand = true ∧ am_okT am_MT mmX11_stand = true := ⟨by decide +kernel, by decide +kernel⟩
theorem okX11_gap : am_okM mmX11_gap = true ∧ am_okT am_MT mmX11_gap = true := ⟨by decide +kernel, by decide +kernel⟩
theorem okX11_stepTo : am_okM mmX11_stepTo = true ∧ am_okT am_MT mmX11_stepTo = true := ⟨by decide +kernel, by decide +kernel⟩
theorem okX11_fars : am_okM mmX11_fars = true ∧ am_okT am_MT mmX11_fars = true := ⟨by decide +kernel, by decide +kernel⟩
theorem okX11_minutesTo : am_okM mmX11_minutesTo = true ∧ am_okT am_MT mmX11_minutesTo = true := ⟨by decide +kernel, by decide +kernel⟩
theorem okX11_says : am_okM mmX11_says = true ∧ am_okT am_MT mmX11_says = true := ⟨by decide +kernel, by decide +kernel⟩
theorem okX11_soon : am_okM mmX11_soon = true ∧ am_okT am_MT mmX11_soon = true := ⟨by decide +kernel, by decide +kernel⟩
theorem okX11_know : am_okM mmX11_know = true ∧ am_okT am_MT mmX11_know = true := ⟨by decide +kernel, by decide +kernel⟩
theorem okX11_crier : am_okM mmX11_crier = true ∧ am_okT am_MT mmX11_crier = true := ⟨by decide +kernel, by decide +kernel⟩
theorem okX11_deaf : am_okM mmX11_deaf = true ∧ am_okT am_MT mmX11_deaf = true := ⟨by decide +kernel, by decide +kernel⟩
theorem okX11_warn : am_okM mmX11_warn = true ∧ am_okT am_MT mmX11_warn = true := ⟨by decide +kernel, by decide +kernel⟩
theorem okX11_fog : am_okM mmX11_fog = true ∧ am_okT am_MT mmX11_fog = true := ⟨by decide +kernel, by decide +kernel⟩
theorem okX11_fogOf : am_okM mmX11_fogOf = true ∧ am_okT am_MT mmX11_fogOf = true := ⟨by decide +kernel, by decide +kernel⟩
theorem okX11_casesBy : am_okM mmX11_casesBy = true ∧ am_okT am_MT mmX11_casesBy = true := ⟨by decide +kernel, by decide +kernel⟩
theorem okX11_chance : am_okM mmX11_chance = true ∧ am_okT am_MT mmX11_chance = true := ⟨by decide +kernel, by decide +kernel⟩
theorem okX11_sure : am_okM mmX11_sure = true ∧ am_okT am_MT mmX11_sure = true := ⟨by decide +kernel, by decide +kernel⟩
theorem okX11_seed : am_okM mmX11_seed = true ∧ am_okT am_MT mmX11_seed = true := ⟨by decide +kernel, by decide +kernel⟩
theorem okX11_keep : am_okM mmX11_keep = true ∧ am_okT am_MT mmX11_keep = true := ⟨by decide +kernel, by decide +kernel⟩
theorem okX11_again : am_okM mmX11_again = true ∧ am_okT am_MT mmX11_again = true := ⟨by decide +kernel, by decide +kernel⟩
theorem okX11_rulesTold : am_okM mmX11_rulesTold = true ∧ am_okT am_MT mmX11_rulesTold = true := ⟨by decide +kernel, by decide +kernel⟩
theorem okX11_count : am_okM mmX11_count = true ∧ am_okT am_MT mmX11_count = true := ⟨by decide +kernel, by decide +kernel⟩
theorem okX11_init : am_okM mmX11_init = true ∧ am_okT am_MT mmX11_init = true := ⟨by decide +kernel, by decide +kernel⟩
theorem okX11_row : am_okM mmX11_row = true ∧ am_okT am_MT mmX11_row = true := ⟨by decide +kernel, by decide +kernel⟩
theorem okJ6_signum_0f7a4 : am_okM mmJ6_signum_0f7a4 = true ∧ am_okT am_MT mmJ6_signum_0f7a4 = true := ⟨by decide +kernel, by decide +kernel⟩
theorem am_mb0 : ∀ (j : Nat) (M : am_M), am_MB0[j]? = some M → am_okM M = true ∧ am_okT am_MT M = true := by
  intro j M h
  match j, h with
  | 0, h => cases h; exact okX0_init
  | 1, h => cases h; exact okX0_restart
  | 2, h => cases h; exact okX0_copy
  | 3, h => cases h; exact okX0_placeAt
  | 4, h => cases h; exact okX0_noted
  | 5, h => cases h; exact okX0_spoke
  | 6, h => cases h; exact okX0_note
  | 7, h => cases h; exact okX0_move
  | 8, h => cases h; exact okX0_drawOfTen
  | 9, h => cases h; exact okX0_off
  | 10, h => cases h; exact okX0_costTo
  | 11, h => cases h; exact okX0_settledFrom
  | 12, h => cases h; exact okX0_widest
  | 13, h => cases h; exact okX0_turnsRound
  | 14, h => cases h; exact okX1_init
  | 15, h => cases h; exact okX1_add
  | n + 16, h => simp [am_MB0] at h
theorem am_mb1 : ∀ (j : Nat) (M : am_M), am_MB1[j]? = some M → am_okM M = true ∧ am_okT am_MT M = true := by
  intro j M h
  match j, h with
  | 0, h => cases h; exact okX1_copy
  | 1, h => cases h; exact okX1_value
  | 2, h => cases h; exact okX1_thing
  | 3, h => cases h; exact okX1_reckon
  | 4, h => cases h; exact okX1_join
  | 5, h => cases h; exact okX2_init
  | 6, h => cases h; exact okX2_leastCost
  | 7, h => cases h; exact okX2_spread
  | 8, h => cases h; exact okX2_reckonCosts
  | 9, h => cases h; exact okX2_leastAt
  | 10, h => cases h; exact okX2_hopedFor
  | 11, h => cases h; exact okX2_inReach
  | 12, h => cases h; exact okX3_init
  | 13, h => cases h; exact okX3_tabulate
  | 14, h => cases h; exact okX3_worth
  | 15, h => cases h; exact okX3_sum
  | n + 16, h => simp [am_MB1] at h
theorem am_mb2 : ∀ (j : Nat) (M : am_M), am_MB2[j]? = some M → am_okM M = true ∧ am_okT am_MT M = true := by
  intro j M h
  match j, h with
  | 0, h => cases h; exact okX3_brings
  | 1, h => cases h; exact okX3_bestThing
  | 2, h => cases h; exact okX3_playBest
  | 3, h => cases h; exact okX3_playByTurns
  | 4, h => cases h; exact okX3_changes
  | 5, h => cases h; exact okX3_mostSeeingBoth
  | 6, h => cases h; exact okX3_spell
  | 7, h => cases h; exact okX3_ruleNumber
  | 8, h => cases h; exact okX4_init
  | 9, h => cases h; exact okX4_hearsAfter
  | 10, h => cases h; exact okX5_init
  | 11, h => cases h; exact okX5_addFour
  | 12, h => cases h; exact okX5_read
  | 13, h => cases h; exact okX5_startAnew
  | 14, h => cases h; exact okX5_take
  | 15, h => cases h; exact okX5_takeDigit
  | n + 16, h => simp [am_MB2] at h
theorem am_mb3 : ∀ (j : Nat) (M : am_M), am_MB3[j]? = some M → am_okM M = true ∧ am_okT am_MT M = true := by
  intro j M h
  match j, h with
  | 0, h => cases h; exact okX5_takeAhead
  | 1, h => cases h; exact okX5_takeBehind
  | 2, h => cases h; exact okX5_open
  | 3, h => cases h; exact okX5_close
  | 4, h => cases h; exact okX5_finishNumber
  | 5, h => cases h; exact okX5_putOff
  | 6, h => cases h; exact okX5_finishDownTo
  | 7, h => cases h; exact okX5_rankOf
  | 8, h => cases h; exact okX6_init
  | 9, h => cases h; exact okX6_swing
  | 10, h => cases h; exact okX6_widest
  | 11, h => cases h; exact okX6_turns
  | 12, h => cases h; exact okX6_calmFrom
  | 13, h => cases h; exact okX7_init
  | 14, h => cases h; exact okX7_clear
  | 15, h => cases h; exact okX7_add
  | n + 16, h => simp [am_MB3] at h
theorem am_mb4 : ∀ (j : Nat) (M : am_M), am_MB4[j]? = some M → am_okM M = true ∧ am_okT am_MT M = true := by
  intro j M h
  match j, h with
  | 0, h => cases h; exact okX7_tellOne
  | 1, h => cases h; exact okX7_tellTwo
  | 2, h => cases h; exact okX7_tellThree
  | 3, h => cases h; exact okX7_tellFraction
  | 4, h => cases h; exact okX8_init
  | 5, h => cases h; exact okX8_minutes
  | 6, h => cases h; exact okX8_measure
  | 7, h => cases h; exact okX8_minutesBy
  | 8, h => cases h; exact okX8_findWay
  | 9, h => cases h; exact okX9_init
  | 10, h => cases h; exact okX9_has
  | 11, h => cases h; exact okX9_hasTwo
  | 12, h => cases h; exact okX9_isNear
  | 13, h => cases h; exact okX9_isSeen
  | 14, h => cases h; exact okX9_isDeed
  | 15, h => cases h; exact okX9_toldRules
  | n + 16, h => simp [am_MB4] at h
theorem am_mb5 : ∀ (j : Nat) (M : am_M), am_MB5[j]? = some M → am_okM M = true ∧ am_okT am_MT M = true := by
  intro j M h
  match j, h with
  | 0, h => cases h; exact okX9_look
  | 1, h => cases h; exact okX9_hears
  | 2, h => cases h; exact okX9_deed
  | 3, h => cases h; exact okX9_speech
  | 4, h => cases h; exact okX9_pass
  | 5, h => cases h; exact okX9_wind
  | 6, h => cases h; exact okX10_init
  | 7, h => cases h; exact okX10_person
  | 8, h => cases h; exact okX10_set
  | 9, h => cases h; exact okX10_link
  | 10, h => cases h; exact okX10_beam
  | 11, h => cases h; exact okX10_sheet
  | 12, h => cases h; exact okX10_sign
  | 13, h => cases h; exact okX10_end
  | 14, h => cases h; exact okX10_rule
  | 15, h => cases h; exact okX10_does
  | n + 16, h => simp [am_MB5] at h
theorem am_mb6 : ∀ (j : Nat) (M : am_M), am_MB6[j]? = some M → am_okM M = true ∧ am_okT am_MT M = true := by
  intro j M h
  match j, h with
  | 0, h => cases h; exact okX10_go
  | 1, h => cases h; exact okX10_begin
  | 2, h => cases h; exact okX10_place
  | 3, h => cases h; exact okX10_was
  | 4, h => cases h; exact okX10_cost
  | 5, h => cases h; exact okX10_crossed
  | 6, h => cases h; exact okX10_by
  | 7, h => cases h; exact okX10_would
  | 8, h => cases h; exact okX10_rules
  | 9, h => cases h; exact okX10_pair
  | 10, h => cases h; exact okX10_echo
  | 11, h => cases h; exact okX10_waits
  | 12, h => cases h; exact okX10_swings
  | 13, h => cases h; exact okX10_steer
  | 14, h => cases h; exact okX10_blind
  | 15, h => cases h; exact okX10_pull
  | n + 16, h => simp [am_MB6] at h
theorem am_mb7 : ∀ (j : Nat) (M : am_M), am_MB7[j]? = some M → am_okM M = true ∧ am_okT am_MT M = true := by
  intro j M h
  match j, h with
  | 0, h => cases h; exact okX10_edge
  | 1, h => cases h; exact okX10_gentle
  | 2, h => cases h; exact okX10_weight
  | 3, h => cases h; exact okX10_pays
  | 4, h => cases h; exact okX10_two
  | 5, h => cases h; exact okX10_stand
  | 6, h => cases h; exact okX10_gap
  | 7, h => cases h; exact okX10_says
  | 8, h => cases h; exact okX10_soon
  | 9, h => cases h; exact okX10_know
  | 10, h => cases h; exact okX10_crier
  | 11, h => cases h; exact okX10_deaf
  | 12, h => cases h; exact okX10_warn
  | 13, h => cases h; exact okX10_fog
  | 14, h => cases h; exact okX10_chance
  | 15, h => cases h; exact okX10_sure
  | n + 16, h => simp [am_MB7] at h
theorem am_mb8 : ∀ (j : Nat) (M : am_M), am_MB8[j]? = some M → am_okM M = true ∧ am_okT am_MT M = true := by
  intro j M h
  match j, h with
  | 0, h => cases h; exact okX10_seed
  | 1, h => cases h; exact okX10_keep
  | 2, h => cases h; exact okX10_again
  | 3, h => cases h; exact okX10_count
  | 4, h => cases h; exact okX10_row
  | 5, h => cases h; exact okX10_isWithin
  | 6, h => cases h; exact okX10_putTo
  | 7, h => cases h; exact okX10_withBit
  | 8, h => cases h; exact okX10_hasBit
  | 9, h => cases h; exact okX10_powerOfTen
  | 10, h => cases h; exact okX10_sheetEntry
  | 11, h => cases h; exact okX10_canSteer
  | 12, h => cases h; exact okX10_isRuleNumber
  | 13, h => cases h; exact okX10_tryOut
  | 14, h => cases h; exact okX10_doneByAll
  | 15, h => cases h; exact okX10_sameMinute
  | n + 16, h => simp [am_MB8] at h
theorem am_mb9 : ∀ (j : Nat) (M : am_M), am_MB9[j]? = some M → am_okM M = true ∧ am_okT am_MT M = true := by
  intro j M h
  match j, h with
  | 0, h => cases h; exact okX10_saidTooSoon
  | 1, h => cases h; exact okX10_heardByAll
  | 2, h => cases h; exact okX10_answeredOfHundred
  | 3, h => cases h; exact okX11_thrown
  | 4, h => cases h; exact okX11_refuse
  | 5, h => cases h; exact okX11_in
  | 6, h => cases h; exact okX11_has
  | 7, h => cases h; exact okX11_flag
  | 8, h => cases h; exact okX11_put
  | 9, h => cases h; exact okX11_enters
  | 10, h => cases h; exact okX11_common
  | 11, h => cases h; exact okX11_entersFraction
  | 12, h => cases h; exact okX11_isPerson
  | 13, h => cases h; exact okX11_arePair
  | 14, h => cases h; exact okX11_mostOf
  | 15, h => cases h; exact okX11_person
  | n + 16, h => simp [am_MB9] at h
theorem am_mb10 : ∀ (j : Nat) (M : am_M), am_MB10[j]? = some M → am_okM M = true ∧ am_okT am_MT M = true := by
  intro j M h
  match j, h with
  | 0, h => cases h; exact okX11_set
  | 1, h => cases h; exact okX11_with
  | 2, h => cases h; exact okX11_link
  | 3, h => cases h; exact okX11_beam
  | 4, h => cases h; exact okX11_sheet
  | 5, h => cases h; exact okX11_sign
  | 6, h => cases h; exact okX11_end
  | 7, h => cases h; exact okX11_isDigit
  | 8, h => cases h; exact okX11_among
  | 9, h => cases h; exact okX11_marks
  | 10, h => cases h; exact okX11_thing
  | 11, h => cases h; exact okX11_ahead
  | 12, h => cases h; exact okX11_ranked
  | 13, h => cases h; exact okX11_reads
  | 14, h => cases h; exact okX11_rule
  | 15, h => cases h; exact okX11_pays
  | n + 16, h => simp [am_MB10] at h
theorem am_mb11 : ∀ (j : Nat) (M : am_M), am_MB11[j]? = some M → am_okM M = true ∧ am_okT am_MT M = true := by
  intro j M h
  match j, h with
  | 0, h => cases h; exact okX11_acted
  | 1, h => cases h; exact okX11_worked
  | 2, h => cases h; exact okX11_indexOf
  | 3, h => cases h; exact okX11_wasOf
  | 4, h => cases h; exact okX11_placeAt
  | 5, h => cases h; exact okX11_lateOf
  | 6, h => cases h; exact okX11_heardBy
  | 7, h => cases h; exact okX11_looks
  | 8, h => cases h; exact okX11_doesNow
  | 9, h => cases h; exact okX11_draws
  | 10, h => cases h; exact okX11_blows
  | 11, h => cases h; exact okX11_passes
  | 12, h => cases h; exact okX11_does
  | 13, h => cases h; exact okX11_go
  | 14, h => cases h; exact okX11_begins
  | 15, h => cases h; exact okX11_begin
  | n + 16, h => simp [am_MB11] at h
theorem am_mb12 : ∀ (j : Nat) (M : am_M), am_MB12[j]? = some M → am_okM M = true ∧ am_okT am_MT M = true := by
  intro j M h
  match j, h with
  | 0, h => cases h; exact okX11_place
  | 1, h => cases h; exact okX11_was
  | 2, h => cases h; exact okX11_costNow
  | 3, h => cases h; exact okX11_cost
  | 4, h => cases h; exact okX11_crossed
  | 5, h => cases h; exact okX11_by
  | 6, h => cases h; exact okX11_putsBy
  | 7, h => cases h; exact okX11_takesBack
  | 8, h => cases h; exact okX11_costs
  | 9, h => cases h; exact okX11_would
  | 10, h => cases h; exact okX11_rules
  | 11, h => cases h; exact okX11_pair
  | 12, h => cases h; exact okX11_echo
  | 13, h => cases h; exact okX11_waits
  | 14, h => cases h; exact okX11_swings
  | 15, h => cases h; exact okX11_sumsWinds
  | n + 16, h => simp [am_MB12] at h
theorem am_mb13 : ∀ (j : Nat) (M : am_M), am_MB13[j]? = some M → am_okM M = true ∧ am_okT am_MT M = true := by
  intro j M h
  match j, h with
  | 0, h => cases h; exact okX11_costOf
  | 1, h => cases h; exact okX11_then
  | 2, h => cases h; exact okX11_steers
  | 3, h => cases h; exact okX11_isSteering
  | 4, h => cases h; exact okX11_steer
  | 5, h => cases h; exact okX11_power
  | 6, h => cases h; exact okX11_blind
  | 7, h => cases h; exact okX11_pulls
  | 8, h => cases h; exact okX11_greatest
  | 9, h => cases h; exact okX11_calm
  | 10, h => cases h; exact okX11_pull
  | 11, h => cases h; exact okX11_edge
  | 12, h => cases h; exact okX11_gentle
  | 13, h => cases h; exact okX11_weight
  | 14, h => cases h; exact okX11_worth
  | 15, h => cases h; exact okX11_thingOf
  | n + 16, h => simp [am_MB13] at h
theorem am_mb14 : ∀ (j : Nat) (M : am_M), am_MB14[j]? = some M → am_okM M = true ∧ am_okT am_MT M = true := by
  intro j M h
  match j, h with
  | 0, h => cases h; exact okX11_worthOf
  | 1, h => cases h; exact okX11_ruleAt
  | 2, h => cases h; exact okX11_bestOfTwo
  | 3, h => cases h; exact okX11_two
  | 4, h => cases h; exact okX11_partOf
  | 5, h => cases h; exact okX11_answers
  | 6, h => cases h; exact okX11_stands
  | 7, h => cases h; exact okX11_isStand
  | 8, h => cases h; exact okX11_stand
  | 9, h => cases h; exact okX11_gap
  | 10, h => cases h; exact okX11_stepTo
  | 11, h => cases h; exact okX11_fars
  | 12, h => cases h; exact okX11_minutesTo
  | 13, h => cases h; exact okX11_says
  | 14, h => cases h; exact okX11_soon
  | 15, h => cases h; exact okX11_know
  | n + 16, h => simp [am_MB14] at h
theorem am_mb15 : ∀ (j : Nat) (M : am_M), am_MB15[j]? = some M → am_okM M = true ∧ am_okT am_MT M = true := by
  intro j M h
  match j, h with
  | 0, h => cases h; exact okX11_crier
  | 1, h => cases h; exact okX11_deaf
  | 2, h => cases h; exact okX11_warn
  | 3, h => cases h; exact okX11_fog
  | 4, h => cases h; exact okX11_fogOf
  | 5, h => cases h; exact okX11_casesBy
  | 6, h => cases h; exact okX11_chance
  | 7, h => cases h; exact okX11_sure
  | 8, h => cases h; exact okX11_seed
  | 9, h => cases h; exact okX11_keep
  | 10, h => cases h; exact okX11_again
  | 11, h => cases h; exact okX11_rulesTold
  | 12, h => cases h; exact okX11_count
  | 13, h => cases h; exact okX11_init
  | 14, h => cases h; exact okX11_row
  | 15, h => cases h; exact okJ6_signum_0f7a4
  | n + 16, h => simp [am_MB15] at h
theorem am_MT_ok : ∀ mi M, am_MT mi = some M → am_okM M = true ∧ am_okT am_MT M = true := by
  intro mi M h
  unfold am_MT at h
  cases h0 : Nat.blt mi 16 with
  | true =>
    rw [h0] at h
    exact am_mb0 _ M h
  | false =>
    rw [h0] at h
    simp only [cond_false] at h
    cases h1 : Nat.blt mi 32 with
    | true =>
      rw [h1] at h
      exact am_mb1 _ M h
    | false =>
      rw [h1] at h
      simp only [cond_false] at h
      cases h2 : Nat.blt mi 48 with
      | true =>
        rw [h2] at h
        exact am_mb2 _ M h
      | false =>
        rw [h2] at h
        simp only [cond_false] at h
        cases h3 : Nat.blt mi 64 with
        | true =>
          rw [h3] at h
          exact am_mb3 _ M h
        | false =>
          rw [h3] at h
          simp only [cond_false] at h
          cases h4 : Nat.blt mi 80 with
          | true =>
            rw [h4] at h
            exact am_mb4 _ M h
          | false =>
            rw [h4] at h
            simp only [cond_false] at h
            cases h5 : Nat.blt mi 96 with
            | true =>
              rw [h5] at h
              exact am_mb5 _ M h
            | false =>
              rw [h5] at h
              simp only [cond_false] at h
              cases h6 : Nat.blt mi 112 with
              | true =>
                rw [h6] at h
                exact am_mb6 _ M h
              | false =>
                rw [h6] at h
                simp only [cond_false] at h
                cases h7 : Nat.blt mi 128 with
                | true =>
                  rw [h7] at h
                  exact am_mb7 _ M h
                | false =>
                  rw [h7] at h
                  simp only [cond_false] at h
                  cases h8 : Nat.blt mi 144 with
                  | true =>
                    rw [h8] at h
                    exact am_mb8 _ M h
                  | false =>
                    rw [h8] at h
                    simp only [cond_false] at h
                    cases h9 : Nat.blt mi 160 with
                    | true =>
                      rw [h9] at h
                      exact am_mb9 _ M h
                    | false =>
                      rw [h9] at h
                      simp only [cond_false] at h
                      cases h10 : Nat.blt mi 176 with
                      | true =>
                        rw [h10] at h
                        exact am_mb10 _ M h
                      | false =>
                        rw [h10] at h
                        simp only [cond_false] at h
                        cases h11 : Nat.blt mi 192 with
                        | true =>
                          rw [h11] at h
                          exact am_mb11 _ M h
                        | false =>
                          rw [h11] at h
                          simp only [cond_false] at h
                          cases h12 : Nat.blt mi 208 with
                          | true =>
                            rw [h12] at h
                            exact am_mb12 _ M h
                          | false =>
                            rw [h12] at h
                            simp only [cond_false] at h
                            cases h13 : Nat.blt mi 224 with
                            | true =>
                              rw [h13] at h
                              exact am_mb13 _ M h
                            | false =>
                              rw [h13] at h
                              simp only [cond_false] at h
                              cases h14 : Nat.blt mi 240 with
                              | true =>
                                rw [h14] at h
                                exact am_mb14 _ M h
                              | false =>
                                rw [h14] at h
                                simp only [cond_false] at h
                                cases h15 : Nat.blt mi 256 with
                                | true =>
                                  rw [h15] at h
                                  exact am_mb15 _ M h
                                | false =>
                                  rw [h15] at h
                                  simp only [cond_false] at h
                                  cases h
