set_option maxRecDepth 100000 in
theorem oX9_init : xokC cX9_init xpp_1 "EchoValleyModel" true 2 kX9_init = true := by decide +kernel
set_option maxRecDepth 100000 in
theorem oX9_finding : xokC cX9_finding xpp_1 "EchoValleyModel" false 2 kX9_finding = true := by decide +kernel
set_option maxRecDepth 100000 in
theorem oX9_within : xokC cX9_within xpp_1 "EchoValleyModel" false 3 kX9_within = true := by decide +kernel
set_option maxRecDepth 100000 in
theorem oX9_has : xokC cX9_has xpp_1 "EchoValleyModel" false 2 kX9_has = true := by decide +kernel
set_option maxRecDepth 100000 in
theorem oX9_become : xokC cX9_become xpp_1 "EchoValleyModel" false 4 kX9_become = true := by decide +kernel
set_option maxRecDepth 100000 in
theorem oX9_isPlace : xokC cX9_isPlace xpp_1 "EchoValleyModel" false 1 kX9_isPlace = true := by decide +kernel
set_option maxRecDepth 100000 in
theorem oX9_isDay : xokC cX9_isDay xpp_1 "EchoValleyModel" false 1 kX9_isDay = true := by decide +kernel
set_option maxRecDepth 100000 in
theorem oX9_isHour : xokC cX9_isHour xpp_1 "EchoValleyModel" false 1 kX9_isHour = true := by decide +kernel
set_option maxRecDepth 100000 in
theorem oX9_isWhen : xokC cX9_isWhen xpp_1 "EchoValleyModel" false 1 kX9_isWhen = true := by decide +kernel
set_option maxRecDepth 100000 in
theorem oX9_isPerson : xokC cX9_isPerson xpp_1 "EchoValleyModel" false 1 kX9_isPerson = true := by decide +kernel
set_option maxRecDepth 100000 in
theorem oX9_isSaying : xokC cX9_isSaying xpp_1 "EchoValleyModel" false 2 kX9_isSaying = true := by decide +kernel
set_option maxRecDepth 100000 in
theorem oX9_isWay : xokC cX9_isWay xpp_1 "EchoValleyModel" false 3 kX9_isWay = true := by decide +kernel
set_option maxRecDepth 100000 in
theorem oX9_ways : xokC cX9_ways xpp_1 "EchoValleyModel" false 4 kX9_ways = true := by decide +kernel
set_option maxRecDepth 100000 in
theorem oX9_way : xokC cX9_way xpp_1 "EchoValleyModel" false 5 kX9_way = true := by decide +kernel
set_option maxRecDepth 100000 in
theorem oX9_farOf : xokC cX9_farOf xpp_1 "EchoValleyModel" false 3 kX9_farOf = true := by decide +kernel
set_option maxRecDepth 100000 in
theorem oX9_measure : xokC cX9_measure xpp_1 "EchoValleyModel" false 4 kX9_measure = true := by decide +kernel
set_option maxRecDepth 100000 in
theorem oX9_steps : xokC cX9_steps xpp_1 "EchoValleyModel" false 3 kX9_steps = true := by decide +kernel
set_option maxRecDepth 100000 in
theorem oX9_days : xokC cX9_days xpp_1 "EchoValleyModel" false 2 kX9_days = true := by decide +kernel
set_option maxRecDepth 100000 in
theorem oX9_rain : xokC cX9_rain xpp_1 "EchoValleyModel" false 3 kX9_rain = true := by decide +kernel
set_option maxRecDepth 100000 in
theorem oX9_drawn : xokC cX9_drawn xpp_1 "EchoValleyModel" false 2 kX9_drawn = true := by decide +kernel
set_option maxRecDepth 100000 in
theorem oX9_weather : xokC cX9_weather xpp_1 "EchoValleyModel" false 6 kX9_weather = true := by decide +kernel
set_option maxRecDepth 100000 in
theorem oX9_keep : xokC cX9_keep xpp_1 "EchoValleyModel" false 2 kX9_keep = true := by decide +kernel
set_option maxRecDepth 100000 in
theorem oX9_of : xokC cX9_of xpp_1 "EchoValleyModel" false 3 kX9_of = true := by decide +kernel
set_option maxRecDepth 100000 in
theorem oX9_says : xokC cX9_says xpp_1 "EchoValleyModel" false 8 kX9_says = true := by decide +kernel
set_option maxRecDepth 100000 in
theorem oX9_say : xokC cX9_say xpp_1 "EchoValleyModel" false 6 kX9_say = true := by decide +kernel
set_option maxRecDepth 100000 in
theorem oX9_lasts : xokC cX9_lasts xpp_1 "EchoValleyModel" false 3 kX9_lasts = true := by decide +kernel
set_option maxRecDepth 100000 in
theorem oX9_reach : xokC cX9_reach xpp_1 "EchoValleyModel" false 4 kX9_reach = true := by decide +kernel
set_option maxRecDepth 100000 in
theorem oX9_sayingOf : xokC cX9_sayingOf xpp_1 "EchoValleyModel" false 3 kX9_sayingOf = true := by decide +kernel
set_option maxRecDepth 100000 in
theorem oX9_turn : xokC cX9_turn xpp_1 "EchoValleyModel" false 3 kX9_turn = true := by decide +kernel
set_option maxRecDepth 100000 in
theorem oX9_ageOf : xokC cX9_ageOf xpp_1 "EchoValleyModel" false 5 kX9_ageOf = true := by decide +kernel
set_option maxRecDepth 100000 in
theorem oX9_age : xokC cX9_age xpp_1 "EchoValleyModel" false 3 kX9_age = true := by decide +kernel
set_option maxRecDepth 100000 in
theorem oX9_isOver : xokC cX9_isOver xpp_1 "EchoValleyModel" false 5 kX9_isOver = true := by decide +kernel
set_option maxRecDepth 100000 in
theorem oX9_overOf : xokC cX9_overOf xpp_1 "EchoValleyModel" false 3 kX9_overOf = true := by decide +kernel
set_option maxRecDepth 100000 in
theorem oX9_over : xokC cX9_over xpp_1 "EchoValleyModel" false 3 kX9_over = true := by decide +kernel
set_option maxRecDepth 100000 in
theorem oX9_isHeard : xokC cX9_isHeard xpp_1 "EchoValleyModel" false 4 kX9_isHeard = true := by decide +kernel
set_option maxRecDepth 100000 in
theorem oX9_until : xokC cX9_until xpp_1 "EchoValleyModel" false 3 kX9_until = true := by decide +kernel
set_option maxRecDepth 100000 in
theorem oX9_near : xokC cX9_near xpp_1 "EchoValleyModel" false 5 kX9_near = true := by decide +kernel
set_option maxRecDepth 100000 in
theorem oX9_reachesOf : xokC cX9_reachesOf xpp_1 "EchoValleyModel" false 2 kX9_reachesOf = true := by decide +kernel
set_option maxRecDepth 100000 in
theorem oX9_reaches : xokC cX9_reaches xpp_1 "EchoValleyModel" false 3 kX9_reaches = true := by decide +kernel
set_option maxRecDepth 100000 in
theorem oX9_drowns : xokC cX9_drowns xpp_1 "EchoValleyModel" false 2 kX9_drowns = true := by decide +kernel
set_option maxRecDepth 100000 in
theorem oX9_isHeardAt : xokC cX9_isHeardAt xpp_1 "EchoValleyModel" false 5 kX9_isHeardAt = true := by decide +kernel
set_option maxRecDepth 100000 in
theorem oX9_heardAt : xokC cX9_heardAt xpp_1 "EchoValleyModel" false 6 kX9_heardAt = true := by decide +kernel
set_option maxRecDepth 100000 in
theorem oX9_heard : xokC cX9_heard xpp_1 "EchoValleyModel" false 3 kX9_heard = true := by decide +kernel
set_option maxRecDepth 100000 in
theorem oX9_which : xokC cX9_which xpp_1 "EchoValleyModel" false 6 kX9_which = true := by decide +kernel
set_option maxRecDepth 100000 in
theorem oX9_words : xokC cX9_words xpp_1 "EchoValleyModel" false 5 kX9_words = true := by decide +kernel
set_option maxRecDepth 100000 in
theorem oX9_plain : xokC cX9_plain xpp_1 "EchoValleyModel" false 5 kX9_plain = true := by decide +kernel
set_option maxRecDepth 100000 in
theorem oX9_alone : xokC cX9_alone xpp_1 "EchoValleyModel" false 4 kX9_alone = true := by decide +kernel
set_option maxRecDepth 100000 in
theorem oX9_full : xokC cX9_full xpp_1 "EchoValleyModel" false 5 kX9_full = true := by decide +kernel
set_option maxRecDepth 100000 in
theorem oX9_whereIs : xokC cX9_whereIs xpp_1 "EchoValleyModel" false 3 kX9_whereIs = true := by decide +kernel
set_option maxRecDepth 100000 in
theorem oX9_isAt : xokC cX9_isAt xpp_1 "EchoValleyModel" false 6 kX9_isAt = true := by decide +kernel
set_option maxRecDepth 100000 in
theorem oX9_manyAt : xokC cX9_manyAt xpp_1 "EchoValleyModel" false 5 kX9_manyAt = true := by decide +kernel
set_option maxRecDepth 100000 in
theorem oX9_person : xokC cX9_person xpp_1 "EchoValleyModel" false 5 kX9_person = true := by decide +kernel
set_option maxRecDepth 100000 in
theorem oX9_where : xokC cX9_where xpp_1 "EchoValleyModel" false 3 kX9_where = true := by decide +kernel
set_option maxRecDepth 100000 in
theorem oX9_hearsIt : xokC cX9_hearsIt xpp_1 "EchoValleyModel" false 5 kX9_hearsIt = true := by decide +kernel
set_option maxRecDepth 100000 in
theorem oX9_hears : xokC cX9_hears xpp_1 "EchoValleyModel" false 5 kX9_hears = true := by decide +kernel
set_option maxRecDepth 100000 in
theorem oX9_first : xokC cX9_first xpp_1 "EchoValleyModel" false 5 kX9_first = true := by decide +kernel
set_option maxRecDepth 100000 in
theorem oX9_who : xokC cX9_who xpp_1 "EchoValleyModel" false 6 kX9_who = true := by decide +kernel
set_option maxRecDepth 100000 in
theorem oX9_said : xokC cX9_said xpp_1 "EchoValleyModel" false 4 kX9_said = true := by decide +kernel
set_option maxRecDepth 100000 in
theorem oX9_tell : xokC cX9_tell xpp_1 "EchoValleyModel" false 6 kX9_tell = true := by decide +kernel
set_option maxRecDepth 100000 in
theorem oX9_isNear : xokC cX9_isNear xpp_1 "EchoValleyModel" false 6 kX9_isNear = true := by decide +kernel
set_option maxRecDepth 100000 in
theorem oX9_needs : xokC cX9_needs xpp_1 "EchoValleyModel" false 6 kX9_needs = true := by decide +kernel
set_option maxRecDepth 100000 in
theorem oX9_walk : xokC cX9_walk xpp_1 "EchoValleyModel" false 9 kX9_walk = true := by decide +kernel
set_option maxRecDepth 100000 in
theorem oX9_step : xokC cX9_step xpp_1 "EchoValleyModel" false 2 kX9_step = true := by decide +kernel
set_option maxRecDepth 100000 in
theorem oX9_crowd : xokC cX9_crowd xpp_1 "EchoValleyModel" false 5 kX9_crowd = true := by decide +kernel
set_option maxRecDepth 100000 in
theorem oX9_seed : xokC cX9_seed xpp_1 "EchoValleyModel" false 2 kX9_seed = true := by decide +kernel
