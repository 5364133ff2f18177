set_option maxRecDepth 100000 in
theorem oX0_isKind : xokC cX0_isKind xpp_2 "EchoValley$Kinds" false 1 kX0_isKind = true := by decide +kernel
set_option maxRecDepth 100000 in
theorem oX0_isUnder : xokC cX0_isUnder xpp_2 "EchoValley$Kinds" false 4 kX0_isUnder = true := by decide +kernel
set_option maxRecDepth 100000 in
theorem oX0_lasting : xokC cX0_lasting xpp_2 "EchoValley$Kinds" false 2 kX0_lasting = true := by decide +kernel
set_option maxRecDepth 100000 in
theorem oX0_reachOf : xokC cX0_reachOf xpp_2 "EchoValley$Kinds" false 2 kX0_reachOf = true := by decide +kernel
set_option maxRecDepth 100000 in
theorem oX0_canDrown : xokC cX0_canDrown xpp_2 "EchoValley$Kinds" false 3 kX0_canDrown = true := by decide +kernel
set_option maxRecDepth 100000 in
theorem oX0_canYield : xokC cX0_canYield xpp_2 "EchoValley$Kinds" false 2 kX0_canYield = true := by decide +kernel
set_option maxRecDepth 100000 in
theorem oX1_init : xokC cX1_init xpp_3 "EchoValley$People" true 1 kX1_init = true := by decide +kernel
set_option maxRecDepth 100000 in
theorem oX1_become : xokC cX1_become xpp_3 "EchoValley$People" false 2 kX1_become = true := by decide +kernel
set_option maxRecDepth 100000 in
theorem oX1_placeOf : xokC cX1_placeOf xpp_3 "EchoValley$People" false 3 kX1_placeOf = true := by decide +kernel
set_option maxRecDepth 100000 in
theorem oX1_put : xokC cX1_put xpp_3 "EchoValley$People" false 6 kX1_put = true := by decide +kernel
set_option maxRecDepth 100000 in
theorem oX1_placesTaken : xokC cX1_placesTaken xpp_3 "EchoValley$People" false 5 kX1_placesTaken = true := by decide +kernel
set_option maxRecDepth 100000 in
theorem oX1_numberAt : xokC cX1_numberAt xpp_3 "EchoValley$People" false 5 kX1_numberAt = true := by decide +kernel
set_option maxRecDepth 100000 in
theorem oX2_init : xokC cX2_init xpp_4 "EchoValley$Reader" true 1 kX2_init = true := by decide +kernel
set_option maxRecDepth 100000 in
theorem oX2_add : xokC cX2_add xpp_4 "EchoValley$Reader" false 4 kX2_add = true := by decide +kernel
set_option maxRecDepth 100000 in
theorem oX2_clear : xokC cX2_clear xpp_4 "EchoValley$Reader" false 2 kX2_clear = true := by decide +kernel
set_option maxRecDepth 100000 in
theorem oX2_readInto : xokC cX2_readInto xpp_4 "EchoValley$Reader" false 3 kX2_readInto = true := by decide +kernel
set_option maxRecDepth 100000 in
theorem oX2_readItem : xokC cX2_readItem xpp_4 "EchoValley$Reader" false 3 kX2_readItem = true := by decide +kernel
set_option maxRecDepth 100000 in
theorem oX2_readWay : xokC cX2_readWay xpp_4 "EchoValley$Reader" false 4 kX2_readWay = true := by decide +kernel
set_option maxRecDepth 100000 in
theorem oX2_readPerson : xokC cX2_readPerson xpp_4 "EchoValley$Reader" false 6 kX2_readPerson = true := by decide +kernel
set_option maxRecDepth 100000 in
theorem oX2_readKeep : xokC cX2_readKeep xpp_4 "EchoValley$Reader" false 3 kX2_readKeep = true := by decide +kernel
set_option maxRecDepth 100000 in
theorem oX2_readRain : xokC cX2_readRain xpp_4 "EchoValley$Reader" false 3 kX2_readRain = true := by decide +kernel
set_option maxRecDepth 100000 in
theorem oX2_readSaying : xokC cX2_readSaying xpp_4 "EchoValley$Reader" false 7 kX2_readSaying = true := by decide +kernel
set_option maxRecDepth 100000 in
theorem oX2_kindAtHand : xokC cX2_kindAtHand xpp_4 "EchoValley$Reader" false 1 kX2_kindAtHand = true := by decide +kernel
set_option maxRecDepth 100000 in
theorem oX2_take : xokC cX2_take xpp_4 "EchoValley$Reader" false 2 kX2_take = true := by decide +kernel
set_option maxRecDepth 100000 in
theorem oX2_isAtHand : xokC cX2_isAtHand xpp_4 "EchoValley$Reader" false 3 kX2_isAtHand = true := by decide +kernel
set_option maxRecDepth 100000 in
theorem oX2_takeNumber : xokC cX2_takeNumber xpp_4 "EchoValley$Reader" false 4 kX2_takeNumber = true := by decide +kernel
set_option maxRecDepth 100000 in
theorem oX2_next : xokC cX2_next xpp_4 "EchoValley$Reader" false 1 kX2_next = true := by decide +kernel
set_option maxRecDepth 100000 in
theorem oX2_reckonValue : xokC cX2_reckonValue xpp_4 "EchoValley$Reader" false 2 kX2_reckonValue = true := by decide +kernel
set_option maxRecDepth 100000 in
theorem oX2_typeAt : xokC cX2_typeAt xpp_4 "EchoValley$Reader" false 3 kX2_typeAt = true := by decide +kernel
set_option maxRecDepth 100000 in
theorem oX3_init : xokC cX3_init xpp_5 "EchoValley$Sayings" true 1 kX3_init = true := by decide +kernel
set_option maxRecDepth 100000 in
theorem oX3_become : xokC cX3_become xpp_5 "EchoValley$Sayings" false 2 kX3_become = true := by decide +kernel
set_option maxRecDepth 100000 in
theorem oX3_isFull : xokC cX3_isFull xpp_5 "EchoValley$Sayings" false 1 kX3_isFull = true := by decide +kernel
set_option maxRecDepth 100000 in
theorem oX3_add : xokC cX3_add xpp_5 "EchoValley$Sayings" false 8 kX3_add = true := by decide +kernel
set_option maxRecDepth 100000 in
theorem oX3_reachOf : xokC cX3_reachOf xpp_5 "EchoValley$Sayings" false 2 kX3_reachOf = true := by decide +kernel
set_option maxRecDepth 100000 in
theorem oX3_firstOver : xokC cX3_firstOver xpp_5 "EchoValley$Sayings" false 3 kX3_firstOver = true := by decide +kernel
set_option maxRecDepth 100000 in
theorem oX3_isOver : xokC cX3_isOver xpp_5 "EchoValley$Sayings" false 3 kX3_isOver = true := by decide +kernel
set_option maxRecDepth 100000 in
theorem oX4_init : xokC cX4_init xpp_6 "EchoValley$Sheet" true 1 kX4_init = true := by decide +kernel
set_option maxRecDepth 100000 in
theorem oX4_areBits : xokC cX4_areBits xpp_6 "EchoValley$Sheet" false 1 kX4_areBits = true := by decide +kernel
set_option maxRecDepth 100000 in
theorem oX4_isMissing : xokC cX4_isMissing xpp_6 "EchoValley$Sheet" false 1 kX4_isMissing = true := by decide +kernel
set_option maxRecDepth 100000 in
theorem oX4_begin : xokC cX4_begin xpp_6 "EchoValley$Sheet" false 3 kX4_begin = true := by decide +kernel
set_option maxRecDepth 100000 in
theorem oX4_hasRange : xokC cX4_hasRange xpp_6 "EchoValley$Sheet" false 3 kX4_hasRange = true := by decide +kernel
set_option maxRecDepth 100000 in
theorem oX4_put : xokC cX4_put xpp_6 "EchoValley$Sheet" false 3 kX4_put = true := by decide +kernel
set_option maxRecDepth 100000 in
theorem oX5_init : xokC cX5_init xpp_7 "EchoValley$Valley" true 1 kX5_init = true := by decide +kernel
set_option maxRecDepth 100000 in
theorem oX5_become : xokC cX5_become xpp_7 "EchoValley$Valley" false 2 kX5_become = true := by decide +kernel
set_option maxRecDepth 100000 in
theorem oX5_draw : xokC cX5_draw xpp_7 "EchoValley$Valley" false 1 kX5_draw = true := by decide +kernel
set_option maxRecDepth 100000 in
theorem oX5_rainyDays : xokC cX5_rainyDays xpp_7 "EchoValley$Valley" false 5 kX5_rainyDays = true := by decide +kernel
set_option maxRecDepth 100000 in
theorem oX5_ageOf : xokC cX5_ageOf xpp_7 "EchoValley$Valley" false 3 kX5_ageOf = true := by decide +kernel
set_option maxRecDepth 100000 in
theorem oX5_lastsOf : xokC cX5_lastsOf xpp_7 "EchoValley$Valley" false 2 kX5_lastsOf = true := by decide +kernel
set_option maxRecDepth 100000 in
theorem oX5_around : xokC cX5_around xpp_7 "EchoValley$Valley" false 2 kX5_around = true := by decide +kernel
set_option maxRecDepth 100000 in
theorem oX5_isHeard : xokC cX5_isHeard xpp_7 "EchoValley$Valley" false 5 kX5_isHeard = true := by decide +kernel
set_option maxRecDepth 100000 in
theorem oX5_isHeardAt : xokC cX5_isHeardAt xpp_7 "EchoValley$Valley" false 4 kX5_isHeardAt = true := by decide +kernel
set_option maxRecDepth 100000 in
theorem oX5_heardSet : xokC cX5_heardSet xpp_7 "EchoValley$Valley" false 6 kX5_heardSet = true := by decide +kernel
set_option maxRecDepth 100000 in
theorem oX5_loudPlaces : xokC cX5_loudPlaces xpp_7 "EchoValley$Valley" false 4 kX5_loudPlaces = true := by decide +kernel
set_option maxRecDepth 100000 in
theorem oX5_heardOn : xokC cX5_heardOn xpp_7 "EchoValley$Valley" false 4 kX5_heardOn = true := by decide +kernel
set_option maxRecDepth 100000 in
theorem oX5_lastDayOf : xokC cX5_lastDayOf xpp_7 "EchoValley$Valley" false 4 kX5_lastDayOf = true := by decide +kernel
set_option maxRecDepth 100000 in
theorem oX5_lastDayOfOnce : xokC cX5_lastDayOfOnce xpp_7 "EchoValley$Valley" false 5 kX5_lastDayOfOnce = true := by decide +kernel
set_option maxRecDepth 100000 in
theorem oX5_doesHear : xokC cX5_doesHear xpp_7 "EchoValley$Valley" false 5 kX5_doesHear = true := by decide +kernel
set_option maxRecDepth 100000 in
theorem oX6_init : xokC cX6_init xpp_8 "EchoValley$Walk" true 1 kX6_init = true := by decide +kernel
set_option maxRecDepth 100000 in
theorem oX6_choose : xokC cX6_choose xpp_8 "EchoValley$Walk" false 6 kX6_choose = true := by decide +kernel
set_option maxRecDepth 100000 in
theorem oX6_gather : xokC cX6_gather xpp_8 "EchoValley$Walk" false 6 kX6_gather = true := by decide +kernel
set_option maxRecDepth 100000 in
theorem oX6_addAround : xokC cX6_addAround xpp_8 "EchoValley$Walk" false 4 kX6_addAround = true := by decide +kernel
set_option maxRecDepth 100000 in
theorem oX6_reckon : xokC cX6_reckon xpp_8 "EchoValley$Walk" false 6 kX6_reckon = true := by decide +kernel
set_option maxRecDepth 100000 in
theorem oX6_bestNext : xokC cX6_bestNext xpp_8 "EchoValley$Walk" false 7 kX6_bestNext = true := by decide +kernel
set_option maxRecDepth 100000 in
theorem oX7_init : xokC cX7_init xpp_9 "EchoValley$Ways" true 1 kX7_init = true := by decide +kernel
set_option maxRecDepth 100000 in
theorem oX7_become : xokC cX7_become xpp_9 "EchoValley$Ways" false 2 kX7_become = true := by decide +kernel
set_option maxRecDepth 100000 in
theorem oX7_has : xokC cX7_has xpp_9 "EchoValley$Ways" false 3 kX7_has = true := by decide +kernel
set_option maxRecDepth 100000 in
theorem oX7_put : xokC cX7_put xpp_9 "EchoValley$Ways" false 4 kX7_put = true := by decide +kernel
set_option maxRecDepth 100000 in
theorem oX7_putHalf : xokC cX7_putHalf xpp_9 "EchoValley$Ways" false 4 kX7_putHalf = true := by decide +kernel
set_option maxRecDepth 100000 in
theorem oX7_isOpen : xokC cX7_isOpen xpp_9 "EchoValley$Ways" false 3 kX7_isOpen = true := by decide +kernel
set_option maxRecDepth 100000 in
theorem oX7_total : xokC cX7_total xpp_9 "EchoValley$Ways" false 3 kX7_total = true := by decide +kernel
set_option maxRecDepth 100000 in
theorem oX7_fewestBetween : xokC cX7_fewestBetween xpp_9 "EchoValley$Ways" false 5 kX7_fewestBetween = true := by decide +kernel
set_option maxRecDepth 100000 in
theorem oX7_within : xokC cX7_within xpp_9 "EchoValley$Ways" false 5 kX7_within = true := by decide +kernel
set_option maxRecDepth 100000 in
theorem oX7_spread : xokC cX7_spread xpp_9 "EchoValley$Ways" false 4 kX7_spread = true := by decide +kernel
set_option maxRecDepth 100000 in
theorem oX8_init : xokC cX8_init xpp_0 "EchoValley" true 2 kX8_init = true := by decide +kernel
set_option maxRecDepth 100000 in
theorem oX8_way : xokC cX8_way xpp_0 "EchoValley" false 5 kX8_way = true := by decide +kernel
