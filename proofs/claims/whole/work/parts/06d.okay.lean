set_option maxRecDepth 100000 in
theorem oX9_feed : xokC cX9_feed xpp_1 "EchoValleyModel" false 4 kX9_feed = true := by decide +kernel
set_option maxRecDepth 100000 in
theorem oX9_wipe : xokC cX9_wipe xpp_1 "EchoValleyModel" false 2 kX9_wipe = true := by decide +kernel
set_option maxRecDepth 100000 in
theorem oX9_byteAt : xokC cX9_byteAt xpp_1 "EchoValleyModel" false 2 kX9_byteAt = true := by decide +kernel
set_option maxRecDepth 100000 in
theorem oX9_next : xokC cX9_next xpp_1 "EchoValleyModel" false 2 kX9_next = true := by decide +kernel
set_option maxRecDepth 100000 in
theorem oX9_isWord : xokC cX9_isWord xpp_1 "EchoValleyModel" false 4 kX9_isWord = true := by decide +kernel
set_option maxRecDepth 100000 in
theorem oX9_must : xokC cX9_must xpp_1 "EchoValleyModel" false 2 kX9_must = true := by decide +kernel
set_option maxRecDepth 100000 in
theorem oX9_number : xokC cX9_number xpp_1 "EchoValleyModel" false 5 kX9_number = true := by decide +kernel
set_option maxRecDepth 100000 in
theorem oX9_item : xokC cX9_item xpp_1 "EchoValleyModel" false 7 kX9_item = true := by decide +kernel
set_option maxRecDepth 100000 in
theorem oX9_readItem : xokC cX9_readItem xpp_1 "EchoValleyModel" false 4 kX9_readItem = true := by decide +kernel
set_option maxRecDepth 100000 in
theorem oX9_readSaying : xokC cX9_readSaying xpp_1 "EchoValleyModel" false 6 kX9_readSaying = true := by decide +kernel
set_option maxRecDepth 100000 in
theorem oX9_readPerson : xokC cX9_readPerson xpp_1 "EchoValleyModel" false 5 kX9_readPerson = true := by decide +kernel
set_option maxRecDepth 100000 in
theorem oX9_isSo : xokC cX9_isSo xpp_1 "EchoValleyModel" false 7 kX9_isSo = true := by decide +kernel
set_option maxRecDepth 100000 in
theorem oX9_text : xokC cX9_text xpp_1 "EchoValleyModel" false 2 kX9_text = true := by decide +kernel
set_option maxRecDepth 100000 in
theorem oX9_hold : xokC cX9_hold xpp_1 "EchoValleyModel" false 3 kX9_hold = true := by decide +kernel
set_option maxRecDepth 100000 in
theorem oX9_above : xokC cX9_above xpp_1 "EchoValleyModel" false 1 kX9_above = true := by decide +kernel
set_option maxRecDepth 100000 in
theorem oX9_as : xokC cX9_as xpp_1 "EchoValleyModel" false 5 kX9_as = true := by decide +kernel
set_option maxRecDepth 100000 in
theorem oX9_isSheet : xokC cX9_isSheet xpp_1 "EchoValleyModel" false 1 kX9_isSheet = true := by decide +kernel
set_option maxRecDepth 100000 in
theorem oX9_cutTo : xokC cX9_cutTo xpp_1 "EchoValleyModel" false 2 kX9_cutTo = true := by decide +kernel
set_option maxRecDepth 100000 in
theorem oX9_sheet : xokC cX9_sheet xpp_1 "EchoValleyModel" false 5 kX9_sheet = true := by decide +kernel
set_option maxRecDepth 100000 in
theorem oX9_write : xokC cX9_write xpp_1 "EchoValleyModel" false 4 kX9_write = true := by decide +kernel
set_option maxRecDepth 100000 in
theorem oX9_copy : xokC cX9_copy xpp_1 "EchoValleyModel" false 7 kX9_copy = true := by decide +kernel
set_option maxRecDepth 100000 in
theorem oX9_load : xokC cX9_load xpp_1 "EchoValleyModel" false 4 kX9_load = true := by decide +kernel
set_option maxRecDepth 100000 in
theorem oX9_judge : xokC cX9_judge xpp_1 "EchoValleyModel" false 7 kX9_judge = true := by decide +kernel
set_option maxRecDepth 100000 in
theorem oX9_copyRow : xokC cX9_copyRow xpp_1 "EchoValleyModel" false 3 kX9_copyRow = true := by decide +kernel
set_option maxRecDepth 100000 in
theorem oX9_image : xokC cX9_image xpp_1 "EchoValleyModel" false 1 kX9_image = true := by decide +kernel
set_option maxRecDepth 100000 in
theorem oX9_undo : xokC cX9_undo xpp_1 "EchoValleyModel" false 1 kX9_undo = true := by decide +kernel
set_option maxRecDepth 100000 in
theorem oX9_tear : xokC cX9_tear xpp_1 "EchoValleyModel" false 2 kX9_tear = true := by decide +kernel
set_option maxRecDepth 100000 in
theorem oX9_count : xokC cX9_count xpp_1 "EchoValleyModel" false 4 kX9_count = true := by decide +kernel
set_option maxRecDepth 100000 in
theorem oX9_status : xokC cX9_status xpp_1 "EchoValleyModel" false 2 kX9_status = true := by decide +kernel
set_option maxRecDepth 100000 in
theorem oJ6_bitCount_0f7a4 : xokC cJ6_bitCount_0f7a4 xpp_12 "java/lang/Integer" false 1 kJ6_bitCount_0f7a4 = true := by decide +kernel
set_option maxRecDepth 100000 in
theorem oJ13_bitCount_95d88 : xokC cJ13_bitCount_95d88 xpp_13 "java/lang/Long" false 2 kJ13_bitCount_95d88 = true := by decide +kernel
set_option maxRecDepth 100000 in
theorem oJ0_length_8abf5 : xokC cJ0_length_8abf5 xpp_15 "java/lang/String" false 1 kJ0_length_8abf5 = true := by decide +kernel
set_option maxRecDepth 100000 in
theorem oJ0_charAt_5068e : xokC cJ0_charAt_5068e xpp_15 "java/lang/String" false 2 kJ0_charAt_5068e = true := by decide +kernel
set_option maxRecDepth 100000 in
theorem oJ0_coder_7d493 : xokC cJ0_coder_7d493 xpp_15 "java/lang/String" false 1 kJ0_coder_7d493 = true := by decide +kernel
set_option maxRecDepth 100000 in
theorem oJ0_isLatin1_aae02 : xokC cJ0_isLatin1_aae02 xpp_15 "java/lang/String" false 1 kJ0_isLatin1_aae02 = true := by decide +kernel
set_option maxRecDepth 100000 in
theorem oJ0_checkIndex_df160 : xokC cJ0_checkIndex_df160 xpp_15 "java/lang/String" false 2 kJ0_checkIndex_df160 = true := by decide +kernel
set_option maxRecDepth 100000 in
theorem oJ1_charAt_3b067 : xokC cJ1_charAt_3b067 xpp_16 "java/lang/StringLatin1" false 2 kJ1_charAt_3b067 = true := by decide +kernel
set_option maxRecDepth 100000 in
theorem oJ7_fill_53178 : xokC cJ7_fill_53178 xpp_19 "java/util/Arrays" false 4 kJ7_fill_53178 = true := by decide +kernel
set_option maxRecDepth 100000 in
theorem oJ3_checkIndex_8e157 : xokC cJ3_checkIndex_8e157 xpp_20 "jdk/internal/util/Preconditions" false 3 kJ3_checkIndex_8e157 = true := by decide +kernel
