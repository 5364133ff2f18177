set_option maxRecDepth 100000 in
theorem oX8_steps : xokC cX8_steps xpp_0 "EchoValley" false 4 kX8_steps = true := by decide +kernel
set_option maxRecDepth 100000 in
theorem oX8_days : xokC cX8_days xpp_0 "EchoValley" false 2 kX8_days = true := by decide +kernel
set_option maxRecDepth 100000 in
theorem oX8_rain : xokC cX8_rain xpp_0 "EchoValley" false 4 kX8_rain = true := by decide +kernel
set_option maxRecDepth 100000 in
theorem oX8_weather : xokC cX8_weather xpp_0 "EchoValley" false 5 kX8_weather = true := by decide +kernel
set_option maxRecDepth 100000 in
theorem oX8_keep : xokC cX8_keep xpp_0 "EchoValley" false 3 kX8_keep = true := by decide +kernel
set_option maxRecDepth 100000 in
theorem oX8_say : xokC cX8_say xpp_0 "EchoValley" false 6 kX8_say = true := by decide +kernel
set_option maxRecDepth 100000 in
theorem oX8_sayingOf : xokC cX8_sayingOf xpp_0 "EchoValley" false 3 kX8_sayingOf = true := by decide +kernel
set_option maxRecDepth 100000 in
theorem oX8_turn : xokC cX8_turn xpp_0 "EchoValley" false 4 kX8_turn = true := by decide +kernel
set_option maxRecDepth 100000 in
theorem oX8_age : xokC cX8_age xpp_0 "EchoValley" false 3 kX8_age = true := by decide +kernel
set_option maxRecDepth 100000 in
theorem oX8_over : xokC cX8_over xpp_0 "EchoValley" false 3 kX8_over = true := by decide +kernel
set_option maxRecDepth 100000 in
theorem oX8_until : xokC cX8_until xpp_0 "EchoValley" false 3 kX8_until = true := by decide +kernel
set_option maxRecDepth 100000 in
theorem oX8_reaches : xokC cX8_reaches xpp_0 "EchoValley" false 3 kX8_reaches = true := by decide +kernel
set_option maxRecDepth 100000 in
theorem oX8_drowns : xokC cX8_drowns xpp_0 "EchoValley" false 2 kX8_drowns = true := by decide +kernel
set_option maxRecDepth 100000 in
theorem oX8_heard : xokC cX8_heard xpp_0 "EchoValley" false 3 kX8_heard = true := by decide +kernel
set_option maxRecDepth 100000 in
theorem oX8_which : xokC cX8_which xpp_0 "EchoValley" false 8 kX8_which = true := by decide +kernel
set_option maxRecDepth 100000 in
theorem oX8_words : xokC cX8_words xpp_0 "EchoValley" false 7 kX8_words = true := by decide +kernel
set_option maxRecDepth 100000 in
theorem oX8_plain : xokC cX8_plain xpp_0 "EchoValley" false 7 kX8_plain = true := by decide +kernel
set_option maxRecDepth 100000 in
theorem oX8_alone : xokC cX8_alone xpp_0 "EchoValley" false 3 kX8_alone = true := by decide +kernel
set_option maxRecDepth 100000 in
theorem oX8_full : xokC cX8_full xpp_0 "EchoValley" false 5 kX8_full = true := by decide +kernel
set_option maxRecDepth 100000 in
theorem oX8_person : xokC cX8_person xpp_0 "EchoValley" false 6 kX8_person = true := by decide +kernel
set_option maxRecDepth 100000 in
theorem oX8_where : xokC cX8_where xpp_0 "EchoValley" false 3 kX8_where = true := by decide +kernel
set_option maxRecDepth 100000 in
theorem oX8_hears : xokC cX8_hears xpp_0 "EchoValley" false 5 kX8_hears = true := by decide +kernel
set_option maxRecDepth 100000 in
theorem oX8_first : xokC cX8_first xpp_0 "EchoValley" false 5 kX8_first = true := by decide +kernel
set_option maxRecDepth 100000 in
theorem oX8_who : xokC cX8_who xpp_0 "EchoValley" false 5 kX8_who = true := by decide +kernel
set_option maxRecDepth 100000 in
theorem oX8_said : xokC cX8_said xpp_0 "EchoValley" false 5 kX8_said = true := by decide +kernel
set_option maxRecDepth 100000 in
theorem oX8_tell : xokC cX8_tell xpp_0 "EchoValley" false 5 kX8_tell = true := by decide +kernel
set_option maxRecDepth 100000 in
theorem oX8_needs : xokC cX8_needs xpp_0 "EchoValley" false 5 kX8_needs = true := by decide +kernel
set_option maxRecDepth 100000 in
theorem oX8_walk : xokC cX8_walk xpp_0 "EchoValley" false 4 kX8_walk = true := by decide +kernel
set_option maxRecDepth 100000 in
theorem oX8_step : xokC cX8_step xpp_0 "EchoValley" false 2 kX8_step = true := by decide +kernel
set_option maxRecDepth 100000 in
theorem oX8_crowd : xokC cX8_crowd xpp_0 "EchoValley" false 6 kX8_crowd = true := by decide +kernel
set_option maxRecDepth 100000 in
theorem oX8_seed : xokC cX8_seed xpp_0 "EchoValley" false 3 kX8_seed = true := by decide +kernel
set_option maxRecDepth 100000 in
theorem oX8_feed : xokC cX8_feed xpp_0 "EchoValley" false 3 kX8_feed = true := by decide +kernel
set_option maxRecDepth 100000 in
theorem oX8_wipe : xokC cX8_wipe xpp_0 "EchoValley" false 1 kX8_wipe = true := by decide +kernel
set_option maxRecDepth 100000 in
theorem oX8_text : xokC cX8_text xpp_0 "EchoValley" false 2 kX8_text = true := by decide +kernel
set_option maxRecDepth 100000 in
theorem oX8_hold : xokC cX8_hold xpp_0 "EchoValley" false 3 kX8_hold = true := by decide +kernel
set_option maxRecDepth 100000 in
theorem oX8_as : xokC cX8_as xpp_0 "EchoValley" false 4 kX8_as = true := by decide +kernel
set_option maxRecDepth 100000 in
theorem oX8_sheet : xokC cX8_sheet xpp_0 "EchoValley" false 4 kX8_sheet = true := by decide +kernel
set_option maxRecDepth 100000 in
theorem oX8_write : xokC cX8_write xpp_0 "EchoValley" false 4 kX8_write = true := by decide +kernel
set_option maxRecDepth 100000 in
theorem oX8_copy : xokC cX8_copy xpp_0 "EchoValley" false 8 kX8_copy = true := by decide +kernel
set_option maxRecDepth 100000 in
theorem oX8_load : xokC cX8_load xpp_0 "EchoValley" false 7 kX8_load = true := by decide +kernel
set_option maxRecDepth 100000 in
theorem oX8_judge : xokC cX8_judge xpp_0 "EchoValley" false 7 kX8_judge = true := by decide +kernel
set_option maxRecDepth 100000 in
theorem oX8_image : xokC cX8_image xpp_0 "EchoValley" false 1 kX8_image = true := by decide +kernel
set_option maxRecDepth 100000 in
theorem oX8_undo : xokC cX8_undo xpp_0 "EchoValley" false 1 kX8_undo = true := by decide +kernel
set_option maxRecDepth 100000 in
theorem oX8_tear : xokC cX8_tear xpp_0 "EchoValley" false 2 kX8_tear = true := by decide +kernel
set_option maxRecDepth 100000 in
theorem oX8_count : xokC cX8_count xpp_0 "EchoValley" false 2 kX8_count = true := by decide +kernel
set_option maxRecDepth 100000 in
theorem oX8_status : xokC cX8_status xpp_0 "EchoValley" false 4 kX8_status = true := by decide +kernel
set_option maxRecDepth 100000 in
theorem oX8_finding : xokC cX8_finding xpp_0 "EchoValley" false 3 kX8_finding = true := by decide +kernel
set_option maxRecDepth 100000 in
theorem oX8_isSaying : xokC cX8_isSaying xpp_0 "EchoValley" false 2 kX8_isSaying = true := by decide +kernel
set_option maxRecDepth 100000 in
theorem oX8_isPlace : xokC cX8_isPlace xpp_0 "EchoValley" false 1 kX8_isPlace = true := by decide +kernel
set_option maxRecDepth 100000 in
theorem oX8_isDay : xokC cX8_isDay xpp_0 "EchoValley" false 1 kX8_isDay = true := by decide +kernel
set_option maxRecDepth 100000 in
theorem oX8_isHour : xokC cX8_isHour xpp_0 "EchoValley" false 1 kX8_isHour = true := by decide +kernel
set_option maxRecDepth 100000 in
theorem oX8_isWhen : xokC cX8_isWhen xpp_0 "EchoValley" false 1 kX8_isWhen = true := by decide +kernel
set_option maxRecDepth 100000 in
theorem oX8_isWord : xokC cX8_isWord xpp_0 "EchoValley" false 1 kX8_isWord = true := by decide +kernel
set_option maxRecDepth 100000 in
theorem oX8_isLoud : xokC cX8_isLoud xpp_0 "EchoValley" false 1 kX8_isLoud = true := by decide +kernel
set_option maxRecDepth 100000 in
theorem oX8_isPerson : xokC cX8_isPerson xpp_0 "EchoValley" false 1 kX8_isPerson = true := by decide +kernel
set_option maxRecDepth 100000 in
theorem oX8_isSpot : xokC cX8_isSpot xpp_0 "EchoValley" false 1 kX8_isSpot = true := by decide +kernel
set_option maxRecDepth 100000 in
theorem oX8_isSheet : xokC cX8_isSheet xpp_0 "EchoValley" false 1 kX8_isSheet = true := by decide +kernel
set_option maxRecDepth 100000 in
theorem oX8_dayOf : xokC cX8_dayOf xpp_0 "EchoValley" false 1 kX8_dayOf = true := by decide +kernel
set_option maxRecDepth 100000 in
theorem oX8_hourOf : xokC cX8_hourOf xpp_0 "EchoValley" false 1 kX8_hourOf = true := by decide +kernel
set_option maxRecDepth 100000 in
theorem oX8_isIn : xokC cX8_isIn xpp_0 "EchoValley" false 3 kX8_isIn = true := by decide +kernel
