theorem zk_X0_copyFrom : zokM mX0_copyFrom := ⟨zw_193, by decide +kernel, ⟨by decide +kernel, by decide +kernel⟩, by decide +kernel, zw_50, fun h => by first | rfl | exact absurd h (by decide +kernel)⟩
theorem zk_X0_isRow : zokM mX0_isRow := ⟨zw_219, by decide +kernel, ⟨by decide +kernel, by decide +kernel⟩, by decide +kernel, zw_50, fun h => by first | rfl | exact absurd h (by decide +kernel)⟩
theorem zk_X0_isNight : zokM mX0_isNight := ⟨zw_257, by decide +kernel, ⟨by decide +kernel, by decide +kernel⟩, by decide +kernel, zw_50, fun h => by first | rfl | exact absurd h (by decide +kernel)⟩
theorem zk_X0_isBlocked : zokM mX0_isBlocked := ⟨zw_227, by decide +kernel, ⟨by decide +kernel, by decide +kernel⟩, by decide +kernel, zw_50, fun h => by first | rfl | exact absurd h (by decide +kernel)⟩
theorem zk_X0_canAt : zokM mX0_canAt := ⟨zw_223, by decide +kernel, ⟨by decide +kernel, by decide +kernel⟩, by decide +kernel, zw_50, fun h => by first | rfl | exact absurd h (by decide +kernel)⟩
theorem zk_X0_worthAt : zokM mX0_worthAt := ⟨zw_295, by decide +kernel, ⟨by decide +kernel, by decide +kernel⟩, by decide +kernel, zw_50, fun h => by first | rfl | exact absurd h (by decide +kernel)⟩
theorem zk_X0_roomAt : zokM mX0_roomAt := ⟨zw_302, by decide +kernel, ⟨by decide +kernel, by decide +kernel⟩, by decide +kernel, zw_50, fun h => by first | rfl | exact absurd h (by decide +kernel)⟩
theorem zk_X0_joyAt : zokM mX0_joyAt := ⟨zw_384, by decide +kernel, ⟨by decide +kernel, by decide +kernel⟩, by decide +kernel, zw_50, fun h => by first | rfl | exact absurd h (by decide +kernel)⟩
theorem zk_X0_tipAhead : zokM mX0_tipAhead := ⟨zw_265, by decide +kernel, ⟨by decide +kernel, by decide +kernel⟩, by decide +kernel, zw_50, fun h => by first | rfl | exact absurd h (by decide +kernel)⟩
theorem zk_X0_childBehind : zokM mX0_childBehind := ⟨zw_512, by decide +kernel, ⟨by decide +kernel, by decide +kernel⟩, by decide +kernel, zw_50, fun h => by first | rfl | exact absurd h (by decide +kernel)⟩
theorem zk_X0_allTips : zokM mX0_allTips := ⟨zw_334, by decide +kernel, ⟨by decide +kernel, by decide +kernel⟩, by decide +kernel, zw_50, fun h => by first | rfl | exact absurd h (by decide +kernel)⟩
theorem zk_X0_allRoom : zokM mX0_allRoom := ⟨zw_554, by decide +kernel, ⟨by decide +kernel, by decide +kernel⟩, by decide +kernel, zw_50, fun h => by first | rfl | exact absurd h (by decide +kernel)⟩
theorem zk_X0_allJoy : zokM mX0_allJoy := ⟨zw_380, by decide +kernel, ⟨by decide +kernel, by decide +kernel⟩, by decide +kernel, zw_50, fun h => by first | rfl | exact absurd h (by decide +kernel)⟩
theorem zk_X0_tippingRows : zokM mX0_tippingRows := ⟨zw_587, by decide +kernel, ⟨by decide +kernel, by decide +kernel⟩, by decide +kernel, zw_50, fun h => by first | rfl | exact absurd h (by decide +kernel)⟩
theorem zk_X0_tippingFrom : zokM mX0_tippingFrom := ⟨zw_358, by decide +kernel, ⟨by decide +kernel, by decide +kernel⟩, by decide +kernel, zw_50, fun h => by first | rfl | exact absurd h (by decide +kernel)⟩
theorem zk_X0_sitDown : zokM mX0_sitDown := ⟨zw_211, by decide +kernel, ⟨by decide +kernel, by decide +kernel⟩, by decide +kernel, zw_50, fun h => by first | rfl | exact absurd h (by decide +kernel)⟩
theorem zk_X0_setTip : zokM mX0_setTip := ⟨zw_215, by decide +kernel, ⟨by decide +kernel, by decide +kernel⟩, by decide +kernel, zw_50, fun h => by first | rfl | exact absurd h (by decide +kernel)⟩
theorem zk_X0_blockOrFree : zokM mX0_blockOrFree := ⟨zw_237, by decide +kernel, ⟨by decide +kernel, by decide +kernel⟩, by decide +kernel, zw_50, fun h => by first | rfl | exact absurd h (by decide +kernel)⟩
theorem zk_X0_block : zokM mX0_block := ⟨zw_241, by decide +kernel, ⟨by decide +kernel, by decide +kernel⟩, by decide +kernel, zw_50, fun h => by first | rfl | exact absurd h (by decide +kernel)⟩
theorem zk_X0_setClock : zokM mX0_setClock := ⟨zw_245, by decide +kernel, ⟨by decide +kernel, by decide +kernel⟩, by decide +kernel, zw_50, fun h => by first | rfl | exact absurd h (by decide +kernel)⟩
theorem zk_X0_changePlaces : zokM mX0_changePlaces := ⟨zw_276, by decide +kernel, ⟨by decide +kernel, by decide +kernel⟩, by decide +kernel, zw_50, fun h => by first | rfl | exact absurd h (by decide +kernel)⟩
theorem zk_X0_sitUp : zokM mX0_sitUp := ⟨zw_280, by decide +kernel, ⟨by decide +kernel, by decide +kernel⟩, by decide +kernel, zw_50, fun h => by first | rfl | exact absurd h (by decide +kernel)⟩
theorem zk_X0_travel : zokM mX0_travel := ⟨zw_249, by decide +kernel, ⟨by decide +kernel, by decide +kernel⟩, by decide +kernel, zw_50, fun h => by first | rfl | exact absurd h (by decide +kernel)⟩
theorem zk_X0_goOn : zokM mX0_goOn := ⟨zw_253, by decide +kernel, ⟨by decide +kernel, by decide +kernel⟩, by decide +kernel, zw_50, fun h => by first | rfl | exact absurd h (by decide +kernel)⟩
theorem zk_X0_roundStirs : zokM mX0_roundStirs := ⟨zw_261, by decide +kernel, ⟨by decide +kernel, by decide +kernel⟩, by decide +kernel, zw_50, fun h => by first | rfl | exact absurd h (by decide +kernel)⟩
theorem zk_X1_refusalUnless : zokM mX1_refusalUnless := ⟨zw_310, by decide +kernel, ⟨by decide +kernel, by decide +kernel⟩, by decide +kernel, zw_51, fun h => by first | rfl | exact absurd h (by decide +kernel)⟩
theorem zk_X1_isPlace : zokM mX1_isPlace := ⟨zw_186, by decide +kernel, ⟨by decide +kernel, by decide +kernel⟩, by decide +kernel, zw_51, fun h => by first | rfl | exact absurd h (by decide +kernel)⟩
theorem zk_X1_hasPart : zokM mX1_hasPart := ⟨zw_624, by decide +kernel, ⟨by decide +kernel, by decide +kernel⟩, by decide +kernel, zw_51, fun h => by first | rfl | exact absurd h (by decide +kernel)⟩
theorem zk_X1_isSkipped : zokM mX1_isSkipped := ⟨zw_538, by decide +kernel, ⟨by decide +kernel, by decide +kernel⟩, by decide +kernel, zw_51, fun h => by first | rfl | exact absurd h (by decide +kernel)⟩
theorem zk_X1_byteAt : zokM mX1_byteAt := ⟨zw_182, by decide +kernel, ⟨by decide +kernel, by decide +kernel⟩, by decide +kernel, zw_51, fun h => by first | rfl | exact absurd h (by decide +kernel)⟩
theorem zk_X1_digitAt : zokM mX1_digitAt := ⟨zw_206, by decide +kernel, ⟨by decide +kernel, by decide +kernel⟩, by decide +kernel, zw_51, fun h => by first | rfl | exact absurd h (by decide +kernel)⟩
theorem zk_X2_coach : zokM mX2_coach := ⟨zw_171, by decide +kernel, ⟨by decide +kernel, by decide +kernel⟩, by decide +kernel, zw_49, fun h => by first | rfl | exact absurd h (by decide +kernel)⟩
theorem zk_X2_seat : zokM mX2_seat := ⟨zw_287, by decide +kernel, ⟨by decide +kernel, by decide +kernel⟩, by decide +kernel, zw_49, fun h => by first | rfl | exact absurd h (by decide +kernel)⟩
theorem zk_X2_comes : zokM mX2_comes := ⟨zw_306, by decide +kernel, ⟨by decide +kernel, by decide +kernel⟩, by decide +kernel, zw_49, fun h => by first | rfl | exact absurd h (by decide +kernel)⟩
theorem zk_X2_tips : zokM mX2_tips := ⟨zw_314, by decide +kernel, ⟨by decide +kernel, by decide +kernel⟩, by decide +kernel, zw_49, fun h => by first | rfl | exact absurd h (by decide +kernel)⟩
theorem zk_X2_blocks : zokM mX2_blocks := ⟨zw_318, by decide +kernel, ⟨by decide +kernel, by decide +kernel⟩, by decide +kernel, zw_49, fun h => by first | rfl | exact absurd h (by decide +kernel)⟩
theorem zk_X2_hour : zokM mX2_hour := ⟨zw_322, by decide +kernel, ⟨by decide +kernel, by decide +kernel⟩, by decide +kernel, zw_49, fun h => by first | rfl | exact absurd h (by decide +kernel)⟩
theorem zk_X2_change : zokM mX2_change := ⟨zw_326, by decide +kernel, ⟨by decide +kernel, by decide +kernel⟩, by decide +kernel, zw_49, fun h => by first | rfl | exact absurd h (by decide +kernel)⟩
theorem zk_X2_rounds : zokM mX2_rounds := ⟨zw_330, by decide +kernel, ⟨by decide +kernel, by decide +kernel⟩, by decide +kernel, zw_49, fun h => by first | rfl | exact absurd h (by decide +kernel)⟩
theorem zk_X2_behind : zokM mX2_behind := ⟨zw_338, by decide +kernel, ⟨by decide +kernel, by decide +kernel⟩, by decide +kernel, zw_49, fun h => by first | rfl | exact absurd h (by decide +kernel)⟩
theorem zk_X2_still : zokM mX2_still := ⟨zw_350, by decide +kernel, ⟨by decide +kernel, by decide +kernel⟩, by decide +kernel, zw_49, fun h => by first | rfl | exact absurd h (by decide +kernel)⟩
theorem zk_X2_run : zokM mX2_run := ⟨zw_354, by decide +kernel, ⟨by decide +kernel, by decide +kernel⟩, by decide +kernel, zw_49, fun h => by first | rfl | exact absurd h (by decide +kernel)⟩
theorem zk_X2_longest : zokM mX2_longest := ⟨zw_362, by decide +kernel, ⟨by decide +kernel, by decide +kernel⟩, by decide +kernel, zw_49, fun h => by first | rfl | exact absurd h (by decide +kernel)⟩
theorem zk_X2_began : zokM mX2_began := ⟨zw_366, by decide +kernel, ⟨by decide +kernel, by decide +kernel⟩, by decide +kernel, zw_49, fun h => by first | rfl | exact absurd h (by decide +kernel)⟩
theorem zk_X2_lost : zokM mX2_lost := ⟨zw_375, by decide +kernel, ⟨by decide +kernel, by decide +kernel⟩, by decide +kernel, zw_49, fun h => by first | rfl | exact absurd h (by decide +kernel)⟩
theorem zk_X2_best : zokM mX2_best := ⟨zw_390, by decide +kernel, ⟨by decide +kernel, by decide +kernel⟩, by decide +kernel, zw_49, fun h => by first | rfl | exact absurd h (by decide +kernel)⟩
theorem zk_X2_laws : zokM mX2_laws := ⟨zw_398, by decide +kernel, ⟨by decide +kernel, by decide +kernel⟩, by decide +kernel, zw_49, fun h => by first | rfl | exact absurd h (by decide +kernel)⟩
theorem zk_X2_pays : zokM mX2_pays := ⟨zw_410, by decide +kernel, ⟨by decide +kernel, by decide +kernel⟩, by decide +kernel, zw_49, fun h => by first | rfl | exact absurd h (by decide +kernel)⟩
theorem zk_X2_price : zokM mX2_price := ⟨zw_426, by decide +kernel, ⟨by decide +kernel, by decide +kernel⟩, by decide +kernel, zw_49, fun h => by first | rfl | exact absurd h (by decide +kernel)⟩
theorem zk_X2_order : zokM mX2_order := ⟨zw_430, by decide +kernel, ⟨by decide +kernel, by decide +kernel⟩, by decide +kernel, zw_49, fun h => by first | rfl | exact absurd h (by decide +kernel)⟩
theorem zk_X2_swap : zokM mX2_swap := ⟨zw_453, by decide +kernel, ⟨by decide +kernel, by decide +kernel⟩, by decide +kernel, zw_49, fun h => by first | rfl | exact absurd h (by decide +kernel)⟩
theorem zk_X2_stops : zokM mX2_stops := ⟨zw_465, by decide +kernel, ⟨by decide +kernel, by decide +kernel⟩, by decide +kernel, zw_49, fun h => by first | rfl | exact absurd h (by decide +kernel)⟩
theorem zk_X2_ask : zokM mX2_ask := ⟨zw_479, by decide +kernel, ⟨by decide +kernel, by decide +kernel⟩, by decide +kernel, zw_49, fun h => by first | rfl | exact absurd h (by decide +kernel)⟩
theorem zk_X2_bestHour : zokM mX2_bestHour := ⟨zw_483, by decide +kernel, ⟨by decide +kernel, by decide +kernel⟩, by decide +kernel, zw_49, fun h => by first | rfl | exact absurd h (by decide +kernel)⟩
theorem zk_X2_two : zokM mX2_two := ⟨zw_491, by decide +kernel, ⟨by decide +kernel, by decide +kernel⟩, by decide +kernel, zw_49, fun h => by first | rfl | exact absurd h (by decide +kernel)⟩
theorem zk_X2_looksRound : zokM mX2_looksRound := ⟨zw_504, by decide +kernel, ⟨by decide +kernel, by decide +kernel⟩, by decide +kernel, zw_49, fun h => by first | rfl | exact absurd h (by decide +kernel)⟩
theorem zk_X2_whatIs : zokM mX2_whatIs := ⟨zw_526, by decide +kernel, ⟨by decide +kernel, by decide +kernel⟩, by decide +kernel, zw_49, fun h => by first | rfl | exact absurd h (by decide +kernel)⟩
theorem zk_X2_mean : zokM mX2_mean := ⟨zw_550, by decide +kernel, ⟨by decide +kernel, by decide +kernel⟩, by decide +kernel, zw_49, fun h => by first | rfl | exact absurd h (by decide +kernel)⟩
theorem zk_X2_tightest : zokM mX2_tightest := ⟨zw_558, by decide +kernel, ⟨by decide +kernel, by decide +kernel⟩, by decide +kernel, zw_49, fun h => by first | rfl | exact absurd h (by decide +kernel)⟩
theorem zk_X2_forged : zokM mX2_forged := ⟨zw_562, by decide +kernel, ⟨by decide +kernel, by decide +kernel⟩, by decide +kernel, zw_49, fun h => by first | rfl | exact absurd h (by decide +kernel)⟩
theorem zk_X2_judge : zokM mX2_judge := ⟨zw_566, by decide +kernel, ⟨by decide +kernel, by decide +kernel⟩, by decide +kernel, zw_49, fun h => by first | rfl | exact absurd h (by decide +kernel)⟩
theorem zk_X2_trips : zokM mX2_trips := ⟨zw_570, by decide +kernel, ⟨by decide +kernel, by decide +kernel⟩, by decide +kernel, zw_49, fun h => by first | rfl | exact absurd h (by decide +kernel)⟩
theorem zk_X2_image : zokM mX2_image := ⟨zw_591, by decide +kernel, ⟨by decide +kernel, by decide +kernel⟩, by decide +kernel, zw_49, fun h => by first | rfl | exact absurd h (by decide +kernel)⟩
theorem zk_X2_restore : zokM mX2_restore := ⟨zw_595, by decide +kernel, ⟨by decide +kernel, by decide +kernel⟩, by decide +kernel, zw_49, fun h => by first | rfl | exact absurd h (by decide +kernel)⟩
theorem zk_X2_count : zokM mX2_count := ⟨zw_599, by decide +kernel, ⟨by decide +kernel, by decide +kernel⟩, by decide +kernel, zw_49, fun h => by first | rfl | exact absurd h (by decide +kernel)⟩
theorem zk_X2_keep : zokM mX2_keep := ⟨zw_603, by decide +kernel, ⟨by decide +kernel, by decide +kernel⟩, by decide +kernel, zw_49, fun h => by first | rfl | exact absurd h (by decide +kernel)⟩
theorem zk_X2_row : zokM mX2_row := ⟨zw_607, by decide +kernel, ⟨by decide +kernel, by decide +kernel⟩, by decide +kernel, zw_49, fun h => by first | rfl | exact absurd h (by decide +kernel)⟩
theorem zk_X2_put : zokM mX2_put := ⟨zw_612, by decide +kernel, ⟨by decide +kernel, by decide +kernel⟩, by decide +kernel, zw_49, fun h => by first | rfl | exact absurd h (by decide +kernel)⟩
theorem zk_X2_copy : zokM mX2_copy := ⟨zw_620, by decide +kernel, ⟨by decide +kernel, by decide +kernel⟩, by decide +kernel, zw_49, fun h => by first | rfl | exact absurd h (by decide +kernel)⟩
theorem zk_X2_cost : zokM mX2_cost := ⟨zw_628, by decide +kernel, ⟨by decide +kernel, by decide +kernel⟩, by decide +kernel, zw_49, fun h => by first | rfl | exact absurd h (by decide +kernel)⟩
theorem zk_X2_shelfAt : zokM mX2_shelfAt := ⟨zw_175, by decide +kernel, ⟨by decide +kernel, by decide +kernel⟩, by decide +kernel, zw_49, fun h => by first | rfl | exact absurd h (by decide +kernel)⟩
theorem zk_X2_isMindRounds : zokM mX2_isMindRounds := ⟨zw_341, by decide +kernel, ⟨by decide +kernel, by decide +kernel⟩, by decide +kernel, zw_49, fun h => by first | rfl | exact absurd h (by decide +kernel)⟩
theorem zk_X2_hasOneBehind : zokM mX2_hasOneBehind := ⟨zw_414, by decide +kernel, ⟨by decide +kernel, by decide +kernel⟩, by decide +kernel, zw_49, fun h => by first | rfl | exact absurd h (by decide +kernel)⟩
theorem zk_X2_thinkOn : zokM mX2_thinkOn := ⟨zw_345, by decide +kernel, ⟨by decide +kernel, by decide +kernel⟩, by decide +kernel, zw_49, fun h => by first | rfl | exact absurd h (by decide +kernel)⟩
theorem zk_X2_thinkOnBlocked : zokM mX2_thinkOnBlocked := ⟨zw_370, by decide +kernel, ⟨by decide +kernel, by decide +kernel⟩, by decide +kernel, zw_49, fun h => by first | rfl | exact absurd h (by decide +kernel)⟩
theorem zk_X2_firstWrongByte : zokM mX2_firstWrongByte := ⟨zw_178, by decide +kernel, ⟨by decide +kernel, by decide +kernel⟩, by decide +kernel, zw_49, fun h => by first | rfl | exact absurd h (by decide +kernel)⟩
theorem zk_X2_digitsBehind : zokM mX2_digitsBehind := ⟨zw_189, by decide +kernel, ⟨by decide +kernel, by decide +kernel⟩, by decide +kernel, zw_49, fun h => by first | rfl | exact absurd h (by decide +kernel)⟩
theorem zk_X2_doStatements : zokM mX2_doStatements := ⟨zw_199, by decide +kernel, ⟨by decide +kernel, by decide +kernel⟩, by decide +kernel, zw_49, fun h => by first | rfl | exact absurd h (by decide +kernel)⟩
theorem zk_X2_doStatement : zokM mX2_doStatement := ⟨zw_202, by decide +kernel, ⟨by decide +kernel, by decide +kernel⟩, by decide +kernel, zw_49, fun h => by first | rfl | exact absurd h (by decide +kernel)⟩
theorem zk_X2_bestTip : zokM mX2_bestTip := ⟨zw_394, by decide +kernel, ⟨by decide +kernel, by decide +kernel⟩, by decide +kernel, zw_49, fun h => by first | rfl | exact absurd h (by decide +kernel)⟩
theorem zk_X2_joyByLaw : zokM mX2_joyByLaw := ⟨zw_406, by decide +kernel, ⟨by decide +kernel, by decide +kernel⟩, by decide +kernel, zw_49, fun h => by first | rfl | exact absurd h (by decide +kernel)⟩
theorem zk_X2_lawWithMostJoy : zokM mX2_lawWithMostJoy := ⟨zw_402, by decide +kernel, ⟨by decide +kernel, by decide +kernel⟩, by decide +kernel, zw_49, fun h => by first | rfl | exact absurd h (by decide +kernel)⟩
theorem zk_X2_wonBehind : zokM mX2_wonBehind := ⟨zw_418, by decide +kernel, ⟨by decide +kernel, by decide +kernel⟩, by decide +kernel, zw_49, fun h => by first | rfl | exact absurd h (by decide +kernel)⟩
theorem zk_X2_lostAhead : zokM mX2_lostAhead := ⟨zw_422, by decide +kernel, ⟨by decide +kernel, by decide +kernel⟩, by decide +kernel, zw_49, fun h => by first | rfl | exact absurd h (by decide +kernel)⟩
theorem zk_X2_findBestSitting : zokM mX2_findBestSitting := ⟨zw_435, by decide +kernel, ⟨by decide +kernel, by decide +kernel⟩, by decide +kernel, zw_49, fun h => by first | rfl | exact absurd h (by decide +kernel)⟩
theorem zk_X2_joyBySitting : zokM mX2_joyBySitting := ⟨zw_439, by decide +kernel, ⟨by decide +kernel, by decide +kernel⟩, by decide +kernel, zw_49, fun h => by first | rfl | exact absurd h (by decide +kernel)⟩
theorem zk_X2_nextSitting : zokM mX2_nextSitting := ⟨zw_445, by decide +kernel, ⟨by decide +kernel, by decide +kernel⟩, by decide +kernel, zw_49, fun h => by first | rfl | exact absurd h (by decide +kernel)⟩
theorem zk_X2_exchangeSitting : zokM mX2_exchangeSitting := ⟨zw_449, by decide +kernel, ⟨by decide +kernel, by decide +kernel⟩, by decide +kernel, zw_49, fun h => by first | rfl | exact absurd h (by decide +kernel)⟩
theorem zk_X2_joyFromUpright : zokM mX2_joyFromUpright := ⟨zw_457, by decide +kernel, ⟨by decide +kernel, by decide +kernel⟩, by decide +kernel, zw_49, fun h => by first | rfl | exact absurd h (by decide +kernel)⟩
theorem zk_X2_joyOfChange : zokM mX2_joyOfChange := ⟨zw_461, by decide +kernel, ⟨by decide +kernel, by decide +kernel⟩, by decide +kernel, zw_49, fun h => by first | rfl | exact absurd h (by decide +kernel)⟩
theorem zk_X2_nobodyTips : zokM mX2_nobodyTips := ⟨zw_475, by decide +kernel, ⟨by decide +kernel, by decide +kernel⟩, by decide +kernel, zw_49, fun h => by first | rfl | exact absurd h (by decide +kernel)⟩
theorem zk_X2_joyAtHour : zokM mX2_joyAtHour := ⟨zw_487, by decide +kernel, ⟨by decide +kernel, by decide +kernel⟩, by decide +kernel, zw_49, fun h => by first | rfl | exact absurd h (by decide +kernel)⟩
theorem zk_X2_neitherWouldRather : zokM mX2_neitherWouldRather := ⟨zw_495, by decide +kernel, ⟨by decide +kernel, by decide +kernel⟩, by decide +kernel, zw_49, fun h => by first | rfl | exact absurd h (by decide +kernel)⟩
theorem zk_X2_joyOfChoice : zokM mX2_joyOfChoice := ⟨zw_499, by decide +kernel, ⟨by decide +kernel, by decide +kernel⟩, by decide +kernel, zw_49, fun h => by first | rfl | exact absurd h (by decide +kernel)⟩
theorem zk_X2_addTip : zokM mX2_addTip := ⟨zw_516, by decide +kernel, ⟨by decide +kernel, by decide +kernel⟩, by decide +kernel, zw_49, fun h => by first | rfl | exact absurd h (by decide +kernel)⟩
theorem zk_X2_partOf : zokM mX2_partOf := ⟨zw_519, by decide +kernel, ⟨by decide +kernel, by decide +kernel⟩, by decide +kernel, zw_49, fun h => by first | rfl | exact absurd h (by decide +kernel)⟩
theorem zk_X2_commonDivisor : zokM mX2_commonDivisor := ⟨zw_522, by decide +kernel, ⟨by decide +kernel, by decide +kernel⟩, by decide +kernel, zw_49, fun h => by first | rfl | exact absurd h (by decide +kernel)⟩
theorem zk_X2_kindsAsTold : zokM mX2_kindsAsTold := ⟨zw_530, by decide +kernel, ⟨by decide +kernel, by decide +kernel⟩, by decide +kernel, zw_49, fun h => by first | rfl | exact absurd h (by decide +kernel)⟩
theorem zk_X2_figuresAsTold : zokM mX2_figuresAsTold := ⟨zw_546, by decide +kernel, ⟨by decide +kernel, by decide +kernel⟩, by decide +kernel, zw_49, fun h => by first | rfl | exact absurd h (by decide +kernel)⟩
theorem zk_X2_wouldTipAsTold : zokM mX2_wouldTipAsTold := ⟨zw_534, by decide +kernel, ⟨by decide +kernel, by decide +kernel⟩, by decide +kernel, zw_49, fun h => by first | rfl | exact absurd h (by decide +kernel)⟩
theorem zk_X2_drawTrip : zokM mX2_drawTrip := ⟨zw_574, by decide +kernel, ⟨by decide +kernel, by decide +kernel⟩, by decide +kernel, zw_49, fun h => by first | rfl | exact absurd h (by decide +kernel)⟩
theorem zk_X2_nextSeed : zokM mX2_nextSeed := ⟨zw_577, by decide +kernel, ⟨by decide +kernel, by decide +kernel⟩, by decide +kernel, zw_49, fun h => by first | rfl | exact absurd h (by decide +kernel)⟩
theorem zk_X2_drawn : zokM mX2_drawn := ⟨zw_581, by decide +kernel, ⟨by decide +kernel, by decide +kernel⟩, by decide +kernel, zw_49, fun h => by first | rfl | exact absurd h (by decide +kernel)⟩
theorem zk_X2_lowestBits : zokM mX2_lowestBits := ⟨zw_616, by decide +kernel, ⟨by decide +kernel, by decide +kernel⟩, by decide +kernel, zw_49, fun h => by first | rfl | exact absurd h (by decide +kernel)⟩
theorem zk_X2_leastOf : zokM mX2_leastOf := ⟨zw_541, by decide +kernel, ⟨by decide +kernel, by decide +kernel⟩, by decide +kernel, zw_49, fun h => by first | rfl | exact absurd h (by decide +kernel)⟩
theorem zk_X2_kneesOf : zokM mX2_kneesOf := ⟨zw_230, by decide +kernel, ⟨by decide +kernel, by decide +kernel⟩, by decide +kernel, zw_49, fun h => by first | rfl | exact absurd h (by decide +kernel)⟩
theorem zk_X2_wantOf : zokM mX2_wantOf := ⟨zw_268, by decide +kernel, ⟨by decide +kernel, by decide +kernel⟩, by decide +kernel, zw_49, fun h => by first | rfl | exact absurd h (by decide +kernel)⟩
theorem zk_X2_worthOf : zokM mX2_worthOf := ⟨zw_298, by decide +kernel, ⟨by decide +kernel, by decide +kernel⟩, by decide +kernel, zw_49, fun h => by first | rfl | exact absurd h (by decide +kernel)⟩
theorem zk_X2_costOf : zokM mX2_costOf := ⟨zw_631, by decide +kernel, ⟨by decide +kernel, by decide +kernel⟩, by decide +kernel, zw_49, fun h => by first | rfl | exact absurd h (by decide +kernel)⟩
theorem zk_X3_isIn : zokM mX3_isIn := ⟨zw_834, by decide +kernel, ⟨by decide +kernel, by decide +kernel⟩, by decide +kernel, zw_52, fun h => by first | rfl | exact absurd h (by decide +kernel)⟩
theorem zk_X3_least : zokM mX3_least := ⟨zw_894, by decide +kernel, ⟨by decide +kernel, by decide +kernel⟩, by decide +kernel, zw_52, fun h => by first | rfl | exact absurd h (by decide +kernel)⟩
theorem zk_X3_most : zokM mX3_most := ⟨zw_873, by decide +kernel, ⟨by decide +kernel, by decide +kernel⟩, by decide +kernel, zw_52, fun h => by first | rfl | exact absurd h (by decide +kernel)⟩
theorem zk_X3_copies : zokM mX3_copies := ⟨zw_849, by decide +kernel, ⟨by decide +kernel, by decide +kernel⟩, by decide +kernel, zw_52, fun h => by first | rfl | exact absurd h (by decide +kernel)⟩
theorem zk_X3_of : zokM mX3_of := ⟨zw_860, by decide +kernel, ⟨by decide +kernel, by decide +kernel⟩, by decide +kernel, zw_52, fun h => by first | rfl | exact absurd h (by decide +kernel)⟩
theorem zk_X3_isRow : zokM mX3_isRow := ⟨zw_864, by decide +kernel, ⟨by decide +kernel, by decide +kernel⟩, by decide +kernel, zw_52, fun h => by first | rfl | exact absurd h (by decide +kernel)⟩
theorem zk_X3_has : zokM mX3_has := ⟨zw_897, by decide +kernel, ⟨by decide +kernel, by decide +kernel⟩, by decide +kernel, zw_52, fun h => by first | rfl | exact absurd h (by decide +kernel)⟩
theorem zk_X3_bits : zokM mX3_bits := ⟨zw_1030, by decide +kernel, ⟨by decide +kernel, by decide +kernel⟩, by decide +kernel, zw_52, fun h => by first | rfl | exact absurd h (by decide +kernel)⟩
theorem zk_X3_knees : zokM mX3_knees := ⟨zw_870, by decide +kernel, ⟨by decide +kernel, by decide +kernel⟩, by decide +kernel, zw_52, fun h => by first | rfl | exact absurd h (by decide +kernel)⟩
theorem zk_X3_isLate : zokM mX3_isLate := ⟨zw_891, by decide +kernel, ⟨by decide +kernel, by decide +kernel⟩, by decide +kernel, zw_52, fun h => by first | rfl | exact absurd h (by decide +kernel)⟩
theorem zk_X3_wants : zokM mX3_wants := ⟨zw_888, by decide +kernel, ⟨by decide +kernel, by decide +kernel⟩, by decide +kernel, zw_52, fun h => by first | rfl | exact absurd h (by decide +kernel)⟩
theorem zk_X3_worth : zokM mX3_worth := ⟨zw_913, by decide +kernel, ⟨by decide +kernel, by decide +kernel⟩, by decide +kernel, zw_52, fun h => by first | rfl | exact absurd h (by decide +kernel)⟩
theorem zk_X3_can : zokM mX3_can := ⟨zw_867, by decide +kernel, ⟨by decide +kernel, by decide +kernel⟩, by decide +kernel, zw_52, fun h => by first | rfl | exact absurd h (by decide +kernel)⟩
theorem zk_X3_worthOf : zokM mX3_worthOf := ⟨zw_910, by decide +kernel, ⟨by decide +kernel, by decide +kernel⟩, by decide +kernel, zw_52, fun h => by first | rfl | exact absurd h (by decide +kernel)⟩
theorem zk_X3_room : zokM mX3_room := ⟨zw_916, by decide +kernel, ⟨by decide +kernel, by decide +kernel⟩, by decide +kernel, zw_52, fun h => by first | rfl | exact absurd h (by decide +kernel)⟩
theorem zk_X3_joy : zokM mX3_joy := ⟨zw_989, by decide +kernel, ⟨by decide +kernel, by decide +kernel⟩, by decide +kernel, zw_52, fun h => by first | rfl | exact absurd h (by decide +kernel)⟩
theorem zk_X3_joyAll : zokM mX3_joyAll := ⟨zw_986, by decide +kernel, ⟨by decide +kernel, by decide +kernel⟩, by decide +kernel, zw_52, fun h => by first | rfl | exact absurd h (by decide +kernel)⟩
theorem zk_X3_tipsAll : zokM mX3_tipsAll := ⟨zw_947, by decide +kernel, ⟨by decide +kernel, by decide +kernel⟩, by decide +kernel, zw_52, fun h => by first | rfl | exact absurd h (by decide +kernel)⟩
theorem zk_X3_tipping : zokM mX3_tipping := ⟨zw_1033, by decide +kernel, ⟨by decide +kernel, by decide +kernel⟩, by decide +kernel, zw_52, fun h => by first | rfl | exact absurd h (by decide +kernel)⟩
theorem zk_X3_round : zokM mX3_round := ⟨zw_885, by decide +kernel, ⟨by decide +kernel, by decide +kernel⟩, by decide +kernel, zw_52, fun h => by first | rfl | exact absurd h (by decide +kernel)⟩
theorem zk_X3_roundsOn : zokM mX3_roundsOn := ⟨zw_881, by decide +kernel, ⟨by decide +kernel, by decide +kernel⟩, by decide +kernel, zw_52, fun h => by first | rfl | exact absurd h (by decide +kernel)⟩
theorem zk_X3_upright : zokM mX3_upright := ⟨zw_903, by decide +kernel, ⟨by decide +kernel, by decide +kernel⟩, by decide +kernel, zw_52, fun h => by first | rfl | exact absurd h (by decide +kernel)⟩
theorem zk_X3_blocksIn : zokM mX3_blocksIn := ⟨zw_978, by decide +kernel, ⟨by decide +kernel, by decide +kernel⟩, by decide +kernel, zw_52, fun h => by first | rfl | exact absurd h (by decide +kernel)⟩
theorem zk_X3_changes : zokM mX3_changes := ⟨zw_900, by decide +kernel, ⟨by decide +kernel, by decide +kernel⟩, by decide +kernel, zw_52, fun h => by first | rfl | exact absurd h (by decide +kernel)⟩
theorem zk_X3_here : zokM mX3_here := ⟨zw_842, by decide +kernel, ⟨by decide +kernel, by decide +kernel⟩, by decide +kernel, zw_52, fun h => by first | rfl | exact absurd h (by decide +kernel)⟩
theorem zk_X3_readsNumber : zokM mX3_readsNumber := ⟨zw_846, by decide +kernel, ⟨by decide +kernel, by decide +kernel⟩, by decide +kernel, zw_52, fun h => by first | rfl | exact absurd h (by decide +kernel)⟩
theorem zk_X3_readsStatement : zokM mX3_readsStatement := ⟨zw_838, by decide +kernel, ⟨by decide +kernel, by decide +kernel⟩, by decide +kernel, zw_52, fun h => by first | rfl | exact absurd h (by decide +kernel)⟩
theorem zk_X3_adds : zokM mX3_adds := ⟨zw_857, by decide +kernel, ⟨by decide +kernel, by decide +kernel⟩, by decide +kernel, zw_52, fun h => by first | rfl | exact absurd h (by decide +kernel)⟩
theorem zk_X3_turnsBlock : zokM mX3_turnsBlock := ⟨zw_877, by decide +kernel, ⟨by decide +kernel, by decide +kernel⟩, by decide +kernel, zw_52, fun h => by first | rfl | exact absurd h (by decide +kernel)⟩
theorem zk_X3_isDone : zokM mX3_isDone := ⟨zw_853, by decide +kernel, ⟨by decide +kernel, by decide +kernel⟩, by decide +kernel, zw_52, fun h => by first | rfl | exact absurd h (by decide +kernel)⟩
theorem zk_X3_coach : zokM mX3_coach := ⟨zw_824, by decide +kernel, ⟨by decide +kernel, by decide +kernel⟩, by decide +kernel, zw_52, fun h => by first | rfl | exact absurd h (by decide +kernel)⟩
theorem zk_X3_seat : zokM mX3_seat := ⟨zw_907, by decide +kernel, ⟨by decide +kernel, by decide +kernel⟩, by decide +kernel, zw_52, fun h => by first | rfl | exact absurd h (by decide +kernel)⟩
theorem zk_X3_comes : zokM mX3_comes := ⟨zw_920, by decide +kernel, ⟨by decide +kernel, by decide +kernel⟩, by decide +kernel, zw_52, fun h => by first | rfl | exact absurd h (by decide +kernel)⟩
theorem zk_X3_tips : zokM mX3_tips := ⟨zw_928, by decide +kernel, ⟨by decide +kernel, by decide +kernel⟩, by decide +kernel, zw_52, fun h => by first | rfl | exact absurd h (by decide +kernel)⟩
theorem zk_X3_blocks : zokM mX3_blocks := ⟨zw_932, by decide +kernel, ⟨by decide +kernel, by decide +kernel⟩, by decide +kernel, zw_52, fun h => by first | rfl | exact absurd h (by decide +kernel)⟩
theorem zk_X3_hour : zokM mX3_hour := ⟨zw_936, by decide +kernel, ⟨by decide +kernel, by decide +kernel⟩, by decide +kernel, zw_52, fun h => by first | rfl | exact absurd h (by decide +kernel)⟩
theorem zk_X3_change : zokM mX3_change := ⟨zw_940, by decide +kernel, ⟨by decide +kernel, by decide +kernel⟩, by decide +kernel, zw_52, fun h => by first | rfl | exact absurd h (by decide +kernel)⟩
theorem zk_X3_rounds : zokM mX3_rounds := ⟨zw_944, by decide +kernel, ⟨by decide +kernel, by decide +kernel⟩, by decide +kernel, zw_52, fun h => by first | rfl | exact absurd h (by decide +kernel)⟩
theorem zk_X3_takes : zokM mX3_takes := ⟨zw_955, by decide +kernel, ⟨by decide +kernel, by decide +kernel⟩, by decide +kernel, zw_52, fun h => by first | rfl | exact absurd h (by decide +kernel)⟩
theorem zk_X3_behind : zokM mX3_behind := ⟨zw_951, by decide +kernel, ⟨by decide +kernel, by decide +kernel⟩, by decide +kernel, zw_52, fun h => by first | rfl | exact absurd h (by decide +kernel)⟩
theorem zk_X3_still : zokM mX3_still := ⟨zw_959, by decide +kernel, ⟨by decide +kernel, by decide +kernel⟩, by decide +kernel, zw_52, fun h => by first | rfl | exact absurd h (by decide +kernel)⟩
theorem zk_X3_runIn : zokM mX3_runIn := ⟨zw_967, by decide +kernel, ⟨by decide +kernel, by decide +kernel⟩, by decide +kernel, zw_52, fun h => by first | rfl | exact absurd h (by decide +kernel)⟩
theorem zk_X3_run : zokM mX3_run := ⟨zw_963, by decide +kernel, ⟨by decide +kernel, by decide +kernel⟩, by decide +kernel, zw_52, fun h => by first | rfl | exact absurd h (by decide +kernel)⟩
theorem zk_X3_longest : zokM mX3_longest := ⟨zw_971, by decide +kernel, ⟨by decide +kernel, by decide +kernel⟩, by decide +kernel, zw_52, fun h => by first | rfl | exact absurd h (by decide +kernel)⟩
theorem zk_X3_began : zokM mX3_began := ⟨zw_975, by decide +kernel, ⟨by decide +kernel, by decide +kernel⟩, by decide +kernel, zw_52, fun h => by first | rfl | exact absurd h (by decide +kernel)⟩
theorem zk_X3_lost : zokM mX3_lost := ⟨zw_982, by decide +kernel, ⟨by decide +kernel, by decide +kernel⟩, by decide +kernel, zw_52, fun h => by first | rfl | exact absurd h (by decide +kernel)⟩
theorem zk_X3_best : zokM mX3_best := ⟨zw_993, by decide +kernel, ⟨by decide +kernel, by decide +kernel⟩, by decide +kernel, zw_52, fun h => by first | rfl | exact absurd h (by decide +kernel)⟩
theorem zk_X3_joyBy : zokM mX3_joyBy := ⟨zw_1001, by decide +kernel, ⟨by decide +kernel, by decide +kernel⟩, by decide +kernel, zw_52, fun h => by first | rfl | exact absurd h (by decide +kernel)⟩
theorem zk_X3_laws : zokM mX3_laws := ⟨zw_997, by decide +kernel, ⟨by decide +kernel, by decide +kernel⟩, by decide +kernel, zw_52, fun h => by first | rfl | exact absurd h (by decide +kernel)⟩
theorem zk_X3_pays : zokM mX3_pays := ⟨zw_1005, by decide +kernel, ⟨by decide +kernel, by decide +kernel⟩, by decide +kernel, zw_52, fun h => by first | rfl | exact absurd h (by decide +kernel)⟩
theorem zk_X3_price : zokM mX3_price := ⟨zw_1009, by decide +kernel, ⟨by decide +kernel, by decide +kernel⟩, by decide +kernel, zw_52, fun h => by first | rfl | exact absurd h (by decide +kernel)⟩
theorem zk_X3_seats : zokM mX3_seats := ⟨zw_1019, by decide +kernel, ⟨by decide +kernel, by decide +kernel⟩, by decide +kernel, zw_52, fun h => by first | rfl | exact absurd h (by decide +kernel)⟩
theorem zk_X3_order : zokM mX3_order := ⟨zw_1013, by decide +kernel, ⟨by decide +kernel, by decide +kernel⟩, by decide +kernel, zw_52, fun h => by first | rfl | exact absurd h (by decide +kernel)⟩
theorem zk_X3_swap : zokM mX3_swap := ⟨zw_1023, by decide +kernel, ⟨by decide +kernel, by decide +kernel⟩, by decide +kernel, zw_52, fun h => by first | rfl | exact absurd h (by decide +kernel)⟩
theorem zk_X3_stops : zokM mX3_stops := ⟨zw_1027, by decide +kernel, ⟨by decide +kernel, by decide +kernel⟩, by decide +kernel, zw_52, fun h => by first | rfl | exact absurd h (by decide +kernel)⟩
theorem zk_X3_ask : zokM mX3_ask := ⟨zw_1037, by decide +kernel, ⟨by decide +kernel, by decide +kernel⟩, by decide +kernel, zw_52, fun h => by first | rfl | exact absurd h (by decide +kernel)⟩
theorem zk_X3_bestHour : zokM mX3_bestHour := ⟨zw_1041, by decide +kernel, ⟨by decide +kernel, by decide +kernel⟩, by decide +kernel, zw_52, fun h => by first | rfl | exact absurd h (by decide +kernel)⟩
theorem zk_X3_joyTipped : zokM mX3_joyTipped := ⟨zw_1049, by decide +kernel, ⟨by decide +kernel, by decide +kernel⟩, by decide +kernel, zw_52, fun h => by first | rfl | exact absurd h (by decide +kernel)⟩
theorem zk_X3_two : zokM mX3_two := ⟨zw_1045, by decide +kernel, ⟨by decide +kernel, by decide +kernel⟩, by decide +kernel, zw_52, fun h => by first | rfl | exact absurd h (by decide +kernel)⟩
theorem zk_X3_gcd : zokM mX3_gcd := ⟨zw_1064, by decide +kernel, ⟨by decide +kernel, by decide +kernel⟩, by decide +kernel, zw_52, fun h => by first | rfl | exact absurd h (by decide +kernel)⟩
theorem zk_X3_partOf : zokM mX3_partOf := ⟨zw_1061, by decide +kernel, ⟨by decide +kernel, by decide +kernel⟩, by decide +kernel, zw_52, fun h => by first | rfl | exact absurd h (by decide +kernel)⟩
theorem zk_X3_isYoung : zokM mX3_isYoung := ⟨zw_1058, by decide +kernel, ⟨by decide +kernel, by decide +kernel⟩, by decide +kernel, zw_52, fun h => by first | rfl | exact absurd h (by decide +kernel)⟩
theorem zk_X3_looksRound : zokM mX3_looksRound := ⟨zw_1053, by decide +kernel, ⟨by decide +kernel, by decide +kernel⟩, by decide +kernel, zw_52, fun h => by first | rfl | exact absurd h (by decide +kernel)⟩
theorem zk_X3_leastOf : zokM mX3_leastOf := ⟨zw_1075, by decide +kernel, ⟨by decide +kernel, by decide +kernel⟩, by decide +kernel, zw_52, fun h => by first | rfl | exact absurd h (by decide +kernel)⟩
theorem zk_X3_isTold : zokM mX3_isTold := ⟨zw_1072, by decide +kernel, ⟨by decide +kernel, by decide +kernel⟩, by decide +kernel, zw_52, fun h => by first | rfl | exact absurd h (by decide +kernel)⟩
theorem zk_X3_whatIs : zokM mX3_whatIs := ⟨zw_1068, by decide +kernel, ⟨by decide +kernel, by decide +kernel⟩, by decide +kernel, zw_52, fun h => by first | rfl | exact absurd h (by decide +kernel)⟩
theorem zk_X3_roomAll : zokM mX3_roomAll := ⟨zw_1084, by decide +kernel, ⟨by decide +kernel, by decide +kernel⟩, by decide +kernel, zw_52, fun h => by first | rfl | exact absurd h (by decide +kernel)⟩
theorem zk_X3_mean : zokM mX3_mean := ⟨zw_1080, by decide +kernel, ⟨by decide +kernel, by decide +kernel⟩, by decide +kernel, zw_52, fun h => by first | rfl | exact absurd h (by decide +kernel)⟩
theorem zk_X3_tightest : zokM mX3_tightest := ⟨zw_1088, by decide +kernel, ⟨by decide +kernel, by decide +kernel⟩, by decide +kernel, zw_52, fun h => by first | rfl | exact absurd h (by decide +kernel)⟩
theorem zk_X3_forged : zokM mX3_forged := ⟨zw_1092, by decide +kernel, ⟨by decide +kernel, by decide +kernel⟩, by decide +kernel, zw_52, fun h => by first | rfl | exact absurd h (by decide +kernel)⟩
theorem zk_X3_judge : zokM mX3_judge := ⟨zw_1096, by decide +kernel, ⟨by decide +kernel, by decide +kernel⟩, by decide +kernel, zw_52, fun h => by first | rfl | exact absurd h (by decide +kernel)⟩
theorem zk_X3_drawn : zokM mX3_drawn := ⟨zw_1104, by decide +kernel, ⟨by decide +kernel, by decide +kernel⟩, by decide +kernel, zw_52, fun h => by first | rfl | exact absurd h (by decide +kernel)⟩
theorem zk_X3_trips : zokM mX3_trips := ⟨zw_1100, by decide +kernel, ⟨by decide +kernel, by decide +kernel⟩, by decide +kernel, zw_52, fun h => by first | rfl | exact absurd h (by decide +kernel)⟩
theorem zk_X3_image : zokM mX3_image := ⟨zw_1111, by decide +kernel, ⟨by decide +kernel, by decide +kernel⟩, by decide +kernel, zw_52, fun h => by first | rfl | exact absurd h (by decide +kernel)⟩
theorem zk_X3_restore : zokM mX3_restore := ⟨zw_1115, by decide +kernel, ⟨by decide +kernel, by decide +kernel⟩, by decide +kernel, zw_52, fun h => by first | rfl | exact absurd h (by decide +kernel)⟩
theorem zk_X3_count : zokM mX3_count := ⟨zw_1119, by decide +kernel, ⟨by decide +kernel, by decide +kernel⟩, by decide +kernel, zw_52, fun h => by first | rfl | exact absurd h (by decide +kernel)⟩
theorem zk_X3_thrown : zokM mX3_thrown := ⟨zw_1123, by decide +kernel, ⟨by decide +kernel, by decide +kernel⟩, by decide +kernel, zw_52, fun h => by first | rfl | exact absurd h (by decide +kernel)⟩
theorem zk_X3_isShelf : zokM mX3_isShelf := ⟨zw_831, by decide +kernel, ⟨by decide +kernel, by decide +kernel⟩, by decide +kernel, zw_52, fun h => by first | rfl | exact absurd h (by decide +kernel)⟩
theorem zk_X3_wrongRow : zokM mX3_wrongRow := ⟨zw_828, by decide +kernel, ⟨by decide +kernel, by decide +kernel⟩, by decide +kernel, zw_52, fun h => by first | rfl | exact absurd h (by decide +kernel)⟩
theorem zk_X3_wrongKept : zokM mX3_wrongKept := ⟨zw_924, by decide +kernel, ⟨by decide +kernel, by decide +kernel⟩, by decide +kernel, zw_52, fun h => by first | rfl | exact absurd h (by decide +kernel)⟩
theorem zk_X3_keep : zokM mX3_keep := ⟨zw_1127, by decide +kernel, ⟨by decide +kernel, by decide +kernel⟩, by decide +kernel, zw_52, fun h => by first | rfl | exact absurd h (by decide +kernel)⟩
theorem zk_X3_row : zokM mX3_row := ⟨zw_1131, by decide +kernel, ⟨by decide +kernel, by decide +kernel⟩, by decide +kernel, zw_52, fun h => by first | rfl | exact absurd h (by decide +kernel)⟩
theorem zk_X3_put : zokM mX3_put := ⟨zw_1135, by decide +kernel, ⟨by decide +kernel, by decide +kernel⟩, by decide +kernel, zw_52, fun h => by first | rfl | exact absurd h (by decide +kernel)⟩
theorem zk_X3_element : zokM mX3_element := ⟨zw_1139, by decide +kernel, ⟨by decide +kernel, by decide +kernel⟩, by decide +kernel, zw_52, fun h => by first | rfl | exact absurd h (by decide +kernel)⟩
theorem zk_X3_copy : zokM mX3_copy := ⟨zw_1143, by decide +kernel, ⟨by decide +kernel, by decide +kernel⟩, by decide +kernel, zw_52, fun h => by first | rfl | exact absurd h (by decide +kernel)⟩
theorem zk_X3_costBy : zokM mX3_costBy := ⟨zw_1150, by decide +kernel, ⟨by decide +kernel, by decide +kernel⟩, by decide +kernel, zw_52, fun h => by first | rfl | exact absurd h (by decide +kernel)⟩
theorem zk_X3_cost : zokM mX3_cost := ⟨zw_1147, by decide +kernel, ⟨by decide +kernel, by decide +kernel⟩, by decide +kernel, zw_52, fun h => by first | rfl | exact absurd h (by decide +kernel)⟩
theorem zk_X3_toss : zokM mX3_toss := ⟨zw_1154, by decide +kernel, ⟨by decide +kernel, by decide +kernel⟩, by decide +kernel, zw_52, fun h => by first | rfl | exact absurd h (by decide +kernel)⟩
theorem zk_J6_bitCount_0f7a4 : zokM mJ6_bitCount_0f7a4 := ⟨zw_468, by decide +kernel, ⟨by decide +kernel, by decide +kernel⟩, by decide +kernel, zw_56, fun h => by first | rfl | exact absurd h (by decide +kernel)⟩
theorem zk_J7_fill_d0a16 : zokM mJ7_fill_d0a16 := ⟨zw_508, by decide +kernel, ⟨by decide +kernel, by decide +kernel⟩, by decide +kernel, zw_55, fun h => by first | rfl | exact absurd h (by decide +kernel)⟩
theorem zk_J7_fill_53178 : zokM mJ7_fill_53178 := ⟨zw_283, by decide +kernel, ⟨by decide +kernel, by decide +kernel⟩, by decide +kernel, zw_55, fun h => by first | rfl | exact absurd h (by decide +kernel)⟩
theorem zc_2_44 : zokC (zown 2) 44 mX2_shelfAt 0 1 := Or.inl ⟨rfl, zk_X2_shelfAt, by decide +kernel, zw_172, zw_174, zw_0⟩
theorem zc_2_55 : zokC (zown 2) 55 mX2_firstWrongByte 1 1 := Or.inr (Or.inl ⟨rfl, zk_X2_firstWrongByte, by decide +kernel, zw_176, zw_177⟩)
theorem zc_2_59 : zokC (zown 2) 59 mX0_copyFrom 0 1 := Or.inl ⟨rfl, zk_X0_copyFrom, by decide +kernel, zw_190, zw_191, zw_192⟩
theorem zc_2_63 : zokC (zown 2) 63 mX2_doStatements 1 2 := Or.inr (Or.inl ⟨rfl, zk_X2_doStatements, by decide +kernel, zw_197, zw_198⟩)
theorem zc_2_67 : zokC (zown 2) 67 mX0_isRow 0 1 := Or.inl ⟨rfl, zk_X0_isRow, by decide +kernel, zw_288, zw_217, zw_218⟩
theorem zc_2_80 : zokC (zown 2) 80 mX0_isBlocked 0 1 := Or.inl ⟨rfl, zk_X0_isBlocked, by decide +kernel, zw_289, zw_225, zw_226⟩
theorem zc_2_83 : zokC (zown 2) 83 mX0_canAt 0 1 := Or.inl ⟨rfl, zk_X0_canAt, by decide +kernel, zw_290, zw_221, zw_222⟩
theorem zc_2_87 : zokC (zown 2) 87 mX2_kneesOf 1 2 := Or.inr (Or.inl ⟨rfl, zk_X2_kneesOf, by decide +kernel, zw_291, zw_229⟩)
theorem zc_2_91 : zokC (zown 2) 91 mX0_worthAt 0 1 := Or.inl ⟨rfl, zk_X0_worthAt, by decide +kernel, zw_292, zw_293, zw_294⟩
theorem zc_2_94 : zokC (zown 2) 94 mX0_roomAt 0 1 := Or.inl ⟨rfl, zk_X0_roomAt, by decide +kernel, zw_299, zw_300, zw_301⟩
theorem zc_2_97 : zokC (zown 2) 97 mX1_refusalUnless 0 1 := Or.inl ⟨rfl, zk_X1_refusalUnless, by decide +kernel, zw_307, zw_308, zw_309⟩
theorem zc_2_106 : zokC (zown 2) 106 mX0_sitDown 0 2 := Or.inl ⟨rfl, zk_X0_sitDown, by decide +kernel, zw_208, zw_209, zw_210⟩
theorem zc_2_113 : zokC (zown 2) 113 mX0_setTip 0 2 := Or.inl ⟨rfl, zk_X0_setTip, by decide +kernel, zw_212, zw_213, zw_214⟩
theorem zc_2_116 : zokC (zown 2) 116 mX0_blockOrFree 0 1 := Or.inl ⟨rfl, zk_X0_blockOrFree, by decide +kernel, zw_234, zw_235, zw_236⟩
theorem zc_2_122 : zokC (zown 2) 122 mX0_setClock 0 1 := Or.inl ⟨rfl, zk_X0_setClock, by decide +kernel, zw_242, zw_243, zw_244⟩
theorem zc_2_125 : zokC (zown 2) 125 mX0_changePlaces 0 2 := Or.inl ⟨rfl, zk_X0_changePlaces, by decide +kernel, zw_273, zw_274, zw_275⟩
theorem zc_2_128 : zokC (zown 2) 128 mX0_travel 0 1 := Or.inl ⟨rfl, zk_X0_travel, by decide +kernel, zw_246, zw_247, zw_248⟩
theorem zc_2_131 : zokC (zown 2) 131 mX0_allTips 0 0 := Or.inl ⟨rfl, zk_X0_allTips, by decide +kernel, zw_331, zw_332, zw_333⟩
theorem zc_2_135 : zokC (zown 2) 135 mX2_isMindRounds 1 1 := Or.inr (Or.inl ⟨rfl, zk_X2_isMindRounds, by decide +kernel, zw_339, zw_340⟩)
theorem zc_2_138 : zokC (zown 2) 138 mX2_thinkOn 0 1 := Or.inl ⟨rfl, zk_X2_thinkOn, by decide +kernel, zw_342, zw_344, zw_4⟩
theorem zc_2_142 : zokC (zown 2) 142 mX0_goOn 0 1 := Or.inl ⟨rfl, zk_X0_goOn, by decide +kernel, zw_346, zw_251, zw_252⟩
theorem zc_2_145 : zokC (zown 2) 145 mX0_tippingFrom 0 1 := Or.inl ⟨rfl, zk_X0_tippingFrom, by decide +kernel, zw_355, zw_356, zw_357⟩
theorem zc_2_148 : zokC (zown 2) 148 mX2_thinkOnBlocked 0 2 := Or.inl ⟨rfl, zk_X2_thinkOnBlocked, by decide +kernel, zw_367, zw_369, zw_5⟩
theorem zc_2_153 : zokC (zown 2) 153 mX0_allJoy 0 0 := Or.inl ⟨rfl, zk_X0_allJoy, by decide +kernel, zw_377, zw_378, zw_379⟩
theorem zc_2_156 : zokC (zown 2) 156 mX2_bestTip 0 1 := Or.inl ⟨rfl, zk_X2_bestTip, by decide +kernel, zw_391, zw_393, zw_6⟩
theorem zc_2_159 : zokC (zown 2) 159 mX2_lawWithMostJoy 0 0 := Or.inl ⟨rfl, zk_X2_lawWithMostJoy, by decide +kernel, zw_399, zw_401, zw_7⟩
theorem zc_2_162 : zokC (zown 2) 162 mX2_joyByLaw 0 1 := Or.inl ⟨rfl, zk_X2_joyByLaw, by decide +kernel, zw_403, zw_405, zw_8⟩
theorem zc_2_165 : zokC (zown 2) 165 mX2_hasOneBehind 0 1 := Or.inl ⟨rfl, zk_X2_hasOneBehind, by decide +kernel, zw_411, zw_413, zw_9⟩
theorem zc_2_168 : zokC (zown 2) 168 mX2_wonBehind 0 1 := Or.inl ⟨rfl, zk_X2_wonBehind, by decide +kernel, zw_415, zw_417, zw_10⟩
theorem zc_2_171 : zokC (zown 2) 171 mX2_lostAhead 0 1 := Or.inl ⟨rfl, zk_X2_lostAhead, by decide +kernel, zw_419, zw_421, zw_11⟩
theorem zc_2_175 : zokC (zown 2) 175 mX2_findBestSitting 0 1 := Or.inl ⟨rfl, zk_X2_findBestSitting, by decide +kernel, zw_432, zw_434, zw_12⟩
theorem zc_2_178 : zokC (zown 2) 178 mX2_joyFromUpright 0 1 := Or.inl ⟨rfl, zk_X2_joyFromUpright, by decide +kernel, zw_454, zw_456, zw_16⟩
theorem zc_2_181 : zokC (zown 2) 181 mX2_joyOfChange 0 3 := Or.inl ⟨rfl, zk_X2_joyOfChange, by decide +kernel, zw_458, zw_460, zw_17⟩
theorem zc_2_185 : zokC (zown 2) 185 mJ6_bitCount_0f7a4 1 1 := Or.inr (Or.inl ⟨rfl, zk_J6_bitCount_0f7a4, by decide +kernel, zw_466, zw_467⟩)
theorem zc_2_190 : zokC (zown 2) 190 mX2_nobodyTips 0 2 := Or.inl ⟨rfl, zk_X2_nobodyTips, by decide +kernel, zw_472, zw_474, zw_18⟩
theorem zc_2_193 : zokC (zown 2) 193 mX2_joyAtHour 0 2 := Or.inl ⟨rfl, zk_X2_joyAtHour, by decide +kernel, zw_484, zw_486, zw_19⟩
theorem zc_2_196 : zokC (zown 2) 196 mX2_neitherWouldRather 0 3 := Or.inl ⟨rfl, zk_X2_neitherWouldRather, by decide +kernel, zw_492, zw_494, zw_20⟩
theorem zc_2_202 : zokC (zown 2) 202 mJ7_fill_d0a16 1 2 := Or.inr (Or.inl ⟨rfl, zk_J7_fill_d0a16, by decide +kernel, zw_506, zw_507⟩)
theorem zc_2_208 : zokC (zown 2) 208 mX0_childBehind 0 1 := Or.inl ⟨rfl, zk_X0_childBehind, by decide +kernel, zw_509, zw_510, zw_511⟩
theorem zc_2_211 : zokC (zown 2) 211 mX2_addTip 0 3 := Or.inl ⟨rfl, zk_X2_addTip, by decide +kernel, zw_513, zw_515, zw_22⟩
theorem zc_2_215 : zokC (zown 2) 215 mX2_partOf 1 3 := Or.inr (Or.inl ⟨rfl, zk_X2_partOf, by decide +kernel, zw_517, zw_518⟩)
theorem zc_2_219 : zokC (zown 2) 219 mX2_kindsAsTold 0 2 := Or.inl ⟨rfl, zk_X2_kindsAsTold, by decide +kernel, zw_527, zw_529, zw_23⟩
theorem zc_2_223 : zokC (zown 2) 223 mX2_figuresAsTold 0 2 := Or.inl ⟨rfl, zk_X2_figuresAsTold, by decide +kernel, zw_543, zw_545, zw_25⟩
theorem zc_2_226 : zokC (zown 2) 226 mX0_allRoom 0 0 := Or.inl ⟨rfl, zk_X0_allRoom, by decide +kernel, zw_551, zw_552, zw_553⟩
theorem zc_2_235 : zokC (zown 2) 235 mX1_isSkipped 0 1 := Or.inl ⟨rfl, zk_X1_isSkipped, by decide +kernel, zw_535, zw_536, zw_537⟩
theorem zc_2_238 : zokC (zown 2) 238 mX2_drawTrip 0 1 := Or.inl ⟨rfl, zk_X2_drawTrip, by decide +kernel, zw_571, zw_573, zw_26⟩
theorem zc_2_241 : zokC (zown 2) 241 mX0_tippingRows 0 0 := Or.inl ⟨rfl, zk_X0_tippingRows, by decide +kernel, zw_584, zw_585, zw_586⟩
theorem zc_2_250 : zokC (zown 2) 250 mJ7_fill_53178 1 2 := Or.inr (Or.inl ⟨rfl, zk_J7_fill_53178, by decide +kernel, zw_608, zw_282⟩)
theorem zc_2_253 : zokC (zown 2) 253 mX1_isPlace 0 1 := Or.inl ⟨rfl, zk_X1_isPlace, by decide +kernel, zw_613, zw_184, zw_185⟩
theorem zc_2_256 : zokC (zown 2) 256 mX2_lowestBits 1 2 := Or.inr (Or.inl ⟨rfl, zk_X2_lowestBits, by decide +kernel, zw_614, zw_615⟩)
theorem zc_2_273 : zokC (zown 2) 273 mX1_hasPart 0 2 := Or.inl ⟨rfl, zk_X1_hasPart, by decide +kernel, zw_621, zw_622, zw_623⟩
theorem zc_2_276 : zokC (zown 2) 276 mL_law 3 5 := Or.inr (Or.inr (Or.inr (Or.inl ⟨rfl, zw_441, rfl⟩)))
theorem zc_2_282 : zokC (zown 2) 282 mX2_costOf 1 2 := Or.inr (Or.inl ⟨rfl, zk_X2_costOf, by decide +kernel, zw_629, zw_630⟩)
theorem zc_2_290 : zokC (zown 2) 290 mX0_block 0 1 := Or.inl ⟨rfl, zk_X0_block, by decide +kernel, zw_371, zw_239, zw_240⟩
theorem zc_2_293 : zokC (zown 2) 293 mX1_byteAt 0 1 := Or.inl ⟨rfl, zk_X1_byteAt, by decide +kernel, zw_179, zw_180, zw_181⟩
theorem zc_2_296 : zokC (zown 2) 296 mX2_digitsBehind 1 1 := Or.inr (Or.inl ⟨rfl, zk_X2_digitsBehind, by decide +kernel, zw_187, zw_188⟩)
theorem zc_2_299 : zokC (zown 2) 299 mX2_doStatement 1 3 := Or.inr (Or.inl ⟨rfl, zk_X2_doStatement, by decide +kernel, zw_200, zw_201⟩)
theorem zc_2_303 : zokC (zown 2) 303 mX1_digitAt 0 1 := Or.inl ⟨rfl, zk_X1_digitAt, by decide +kernel, zw_203, zw_204, zw_205⟩
theorem zc_2_306 : zokC (zown 2) 306 mX2_joyBySitting 0 1 := Or.inl ⟨rfl, zk_X2_joyBySitting, by decide +kernel, zw_436, zw_438, zw_13⟩
theorem zc_2_309 : zokC (zown 2) 309 mX2_nextSitting 0 1 := Or.inl ⟨rfl, zk_X2_nextSitting, by decide +kernel, zw_442, zw_444, zw_14⟩
theorem zc_2_312 : zokC (zown 2) 312 mX0_sitUp 0 0 := Or.inl ⟨rfl, zk_X0_sitUp, by decide +kernel, zw_440, zw_278, zw_279⟩
theorem zc_2_315 : zokC (zown 2) 315 mX2_exchangeSitting 0 2 := Or.inl ⟨rfl, zk_X2_exchangeSitting, by decide +kernel, zw_446, zw_448, zw_15⟩
theorem zc_2_318 : zokC (zown 2) 318 mX2_joyOfChoice 0 4 := Or.inl ⟨rfl, zk_X2_joyOfChoice, by decide +kernel, zw_496, zw_498, zw_21⟩
theorem zc_2_322 : zokC (zown 2) 322 mX0_joyAt 0 1 := Or.inl ⟨rfl, zk_X0_joyAt, by decide +kernel, zw_500, zw_382, zw_383⟩
theorem zc_2_325 : zokC (zown 2) 325 mX2_commonDivisor 1 2 := Or.inr (Or.inl ⟨rfl, zk_X2_commonDivisor, by decide +kernel, zw_520, zw_521⟩)
theorem zc_2_329 : zokC (zown 2) 329 mX2_wouldTipAsTold 0 4 := Or.inl ⟨rfl, zk_X2_wouldTipAsTold, by decide +kernel, zw_531, zw_533, zw_24⟩
theorem zc_2_333 : zokC (zown 2) 333 mX2_nextSeed 1 1 := Or.inr (Or.inl ⟨rfl, zk_X2_nextSeed, by decide +kernel, zw_575, zw_576⟩)
theorem zc_2_336 : zokC (zown 2) 336 mX2_drawn 1 1 := Or.inr (Or.inl ⟨rfl, zk_X2_drawn, by decide +kernel, zw_579, zw_580⟩)
theorem zc_2_343 : zokC (zown 2) 343 mL_law 4 2 := Or.inr (Or.inr (Or.inr (Or.inr (Or.inl ⟨rfl, zw_269⟩))))
theorem zc_0_37 : zokC (zown 0) 37 mL_law 3 5 := Or.inr (Or.inr (Or.inr (Or.inl ⟨rfl, zw_194, rfl⟩)))
theorem zc_0_43 : zokC (zown 0) 43 mX0_isRow 0 1 := Or.inl ⟨rfl, zk_X0_isRow, by decide +kernel, zw_216, zw_217, zw_218⟩
theorem zc_0_47 : zokC (zown 0) 47 mX0_isBlocked 0 1 := Or.inl ⟨rfl, zk_X0_isBlocked, by decide +kernel, zw_224, zw_225, zw_226⟩
theorem zc_0_50 : zokC (zown 0) 50 mX2_kneesOf 2 2 := Or.inr (Or.inr (Or.inl ⟨rfl, zk_X2_kneesOf, by decide +kernel, List.mem_of_getElem? (i := 0) rfl, zw_229⟩))
theorem zc_0_54 : zokC (zown 0) 54 mL_law 4 2 := Or.inr (Or.inr (Or.inr (Or.inr (Or.inl ⟨rfl, zw_231⟩))))
theorem zc_0_59 : zokC (zown 0) 59 mX0_isNight 0 0 := Or.inl ⟨rfl, zk_X0_isNight, by decide +kernel, zw_254, zw_256, zw_1⟩
theorem zc_0_63 : zokC (zown 0) 63 mX2_worthOf 2 3 := Or.inr (Or.inr (Or.inl ⟨rfl, zk_X2_worthOf, by decide +kernel, List.mem_of_getElem? (i := 2) rfl, zw_297⟩))
theorem zc_0_67 : zokC (zown 0) 67 mX0_tipAhead 0 1 := Or.inl ⟨rfl, zk_X0_tipAhead, by decide +kernel, zw_262, zw_264, zw_3⟩
theorem zc_0_71 : zokC (zown 0) 71 mX0_worthAt 0 1 := Or.inl ⟨rfl, zk_X0_worthAt, by decide +kernel, zw_385, zw_293, zw_294⟩
theorem zc_0_74 : zokC (zown 0) 74 mX0_roomAt 0 1 := Or.inl ⟨rfl, zk_X0_roomAt, by decide +kernel, zw_386, zw_300, zw_301⟩
theorem zc_0_77 : zokC (zown 0) 77 mX0_joyAt 0 1 := Or.inl ⟨rfl, zk_X0_joyAt, by decide +kernel, zw_381, zw_382, zw_383⟩
theorem zc_0_80 : zokC (zown 0) 80 mX0_canAt 0 1 := Or.inl ⟨rfl, zk_X0_canAt, by decide +kernel, zw_220, zw_221, zw_222⟩
theorem zc_0_83 : zokC (zown 0) 83 mX0_block 0 1 := Or.inl ⟨rfl, zk_X0_block, by decide +kernel, zw_238, zw_239, zw_240⟩
theorem zc_0_87 : zokC (zown 0) 87 mX0_sitUp 0 0 := Or.inl ⟨rfl, zk_X0_sitUp, by decide +kernel, zw_277, zw_278, zw_279⟩
theorem zc_0_90 : zokC (zown 0) 90 mJ7_fill_53178 1 2 := Or.inr (Or.inl ⟨rfl, zk_J7_fill_53178, by decide +kernel, zw_281, zw_282⟩)
theorem zc_0_96 : zokC (zown 0) 96 mX0_goOn 0 1 := Or.inl ⟨rfl, zk_X0_goOn, by decide +kernel, zw_250, zw_251, zw_252⟩
theorem zc_0_99 : zokC (zown 0) 99 mX0_roundStirs 0 1 := Or.inl ⟨rfl, zk_X0_roundStirs, by decide +kernel, zw_258, zw_260, zw_2⟩
theorem zc_0_103 : zokC (zown 0) 103 mX2_wantOf 2 4 := Or.inr (Or.inr (Or.inl ⟨rfl, zk_X2_wantOf, by decide +kernel, List.mem_of_getElem? (i := 1) rfl, zw_267⟩))
theorem zc_0_107 : zokC (zown 0) 107 mL_law 5 2 := Or.inr (Or.inr (Or.inr (Or.inr (Or.inr ⟨rfl, zw_270⟩))))
theorem zc_1_31 : zokC (zown 1) 31 mX1_isPlace 0 1 := Or.inl ⟨rfl, zk_X1_isPlace, by decide +kernel, zw_183, zw_184, zw_185⟩
theorem zc_1_35 : zokC (zown 1) 35 mX2_leastOf 2 1 := Or.inr (Or.inr (Or.inl ⟨rfl, zk_X2_leastOf, by decide +kernel, List.mem_of_getElem? (i := 3) rfl, zw_540⟩))
theorem zc_1_39 : zokC (zown 1) 39 mX1_byteAt 0 1 := Or.inl ⟨rfl, zk_X1_byteAt, by decide +kernel, zw_207, zw_180, zw_181⟩
theorem zc_4_21 : zokC (zown 4) 21 mX2_coach 0 1 := Or.inl ⟨rfl, zk_X2_coach, by decide +kernel, zw_168, zw_169, zw_170⟩
theorem zc_4_25 : zokC (zown 4) 25 mX3_coach 0 1 := Or.inl ⟨rfl, zk_X3_coach, by decide +kernel, zw_821, zw_822, zw_823⟩
theorem zc_4_26 : zokC (zown 4) 26 mX2_seat 0 2 := Or.inl ⟨rfl, zk_X2_seat, by decide +kernel, zw_284, zw_285, zw_286⟩
theorem zc_4_30 : zokC (zown 4) 30 mX3_seat 0 2 := Or.inl ⟨rfl, zk_X3_seat, by decide +kernel, zw_904, zw_905, zw_906⟩
theorem zc_4_31 : zokC (zown 4) 31 mX2_comes 0 1 := Or.inl ⟨rfl, zk_X2_comes, by decide +kernel, zw_303, zw_304, zw_305⟩
theorem zc_4_34 : zokC (zown 4) 34 mX3_comes 0 1 := Or.inl ⟨rfl, zk_X3_comes, by decide +kernel, zw_917, zw_918, zw_919⟩
theorem zc_4_35 : zokC (zown 4) 35 mX2_tips 0 2 := Or.inl ⟨rfl, zk_X2_tips, by decide +kernel, zw_311, zw_312, zw_313⟩
theorem zc_4_38 : zokC (zown 4) 38 mX3_tips 0 2 := Or.inl ⟨rfl, zk_X3_tips, by decide +kernel, zw_925, zw_926, zw_927⟩
theorem zc_4_39 : zokC (zown 4) 39 mX2_blocks 0 1 := Or.inl ⟨rfl, zk_X2_blocks, by decide +kernel, zw_315, zw_316, zw_317⟩
theorem zc_4_42 : zokC (zown 4) 42 mX3_blocks 0 1 := Or.inl ⟨rfl, zk_X3_blocks, by decide +kernel, zw_929, zw_930, zw_931⟩
theorem zc_4_43 : zokC (zown 4) 43 mX2_hour 0 1 := Or.inl ⟨rfl, zk_X2_hour, by decide +kernel, zw_319, zw_320, zw_321⟩
theorem zc_4_46 : zokC (zown 4) 46 mX3_hour 0 1 := Or.inl ⟨rfl, zk_X3_hour, by decide +kernel, zw_933, zw_934, zw_935⟩
theorem zc_4_47 : zokC (zown 4) 47 mX2_change 0 2 := Or.inl ⟨rfl, zk_X2_change, by decide +kernel, zw_323, zw_324, zw_325⟩
theorem zc_4_50 : zokC (zown 4) 50 mX3_change 0 2 := Or.inl ⟨rfl, zk_X3_change, by decide +kernel, zw_937, zw_938, zw_939⟩
theorem zc_4_51 : zokC (zown 4) 51 mX2_rounds 0 1 := Or.inl ⟨rfl, zk_X2_rounds, by decide +kernel, zw_327, zw_328, zw_329⟩
theorem zc_4_54 : zokC (zown 4) 54 mX3_rounds 0 1 := Or.inl ⟨rfl, zk_X3_rounds, by decide +kernel, zw_941, zw_942, zw_943⟩
theorem zc_4_55 : zokC (zown 4) 55 mX2_behind 0 3 := Or.inl ⟨rfl, zk_X2_behind, by decide +kernel, zw_335, zw_336, zw_337⟩
theorem zc_4_59 : zokC (zown 4) 59 mX3_behind 0 3 := Or.inl ⟨rfl, zk_X3_behind, by decide +kernel, zw_948, zw_949, zw_950⟩
theorem zc_4_60 : zokC (zown 4) 60 mX2_still 0 0 := Or.inl ⟨rfl, zk_X2_still, by decide +kernel, zw_347, zw_348, zw_349⟩
theorem zc_4_64 : zokC (zown 4) 64 mX3_still 0 0 := Or.inl ⟨rfl, zk_X3_still, by decide +kernel, zw_956, zw_957, zw_958⟩
theorem zc_4_65 : zokC (zown 4) 65 mX2_run 0 2 := Or.inl ⟨rfl, zk_X2_run, by decide +kernel, zw_351, zw_352, zw_353⟩
theorem zc_4_68 : zokC (zown 4) 68 mX3_run 0 2 := Or.inl ⟨rfl, zk_X3_run, by decide +kernel, zw_960, zw_961, zw_962⟩
theorem zc_4_69 : zokC (zown 4) 69 mX2_longest 0 2 := Or.inl ⟨rfl, zk_X2_longest, by decide +kernel, zw_359, zw_360, zw_361⟩
theorem zc_4_72 : zokC (zown 4) 72 mX3_longest 0 2 := Or.inl ⟨rfl, zk_X3_longest, by decide +kernel, zw_968, zw_969, zw_970⟩
theorem zc_4_73 : zokC (zown 4) 73 mX2_began 0 1 := Or.inl ⟨rfl, zk_X2_began, by decide +kernel, zw_363, zw_364, zw_365⟩
theorem zc_4_76 : zokC (zown 4) 76 mX3_began 0 1 := Or.inl ⟨rfl, zk_X3_began, by decide +kernel, zw_972, zw_973, zw_974⟩
theorem zc_4_77 : zokC (zown 4) 77 mX2_lost 0 1 := Or.inl ⟨rfl, zk_X2_lost, by decide +kernel, zw_372, zw_373, zw_374⟩
theorem zc_4_80 : zokC (zown 4) 80 mX3_lost 0 1 := Or.inl ⟨rfl, zk_X3_lost, by decide +kernel, zw_979, zw_980, zw_981⟩
theorem zc_4_81 : zokC (zown 4) 81 mX2_best 0 1 := Or.inl ⟨rfl, zk_X2_best, by decide +kernel, zw_387, zw_388, zw_389⟩
theorem zc_4_84 : zokC (zown 4) 84 mX3_best 0 1 := Or.inl ⟨rfl, zk_X3_best, by decide +kernel, zw_990, zw_991, zw_992⟩
theorem zc_4_85 : zokC (zown 4) 85 mX2_laws 0 1 := Or.inl ⟨rfl, zk_X2_laws, by decide +kernel, zw_395, zw_396, zw_397⟩
theorem zc_4_88 : zokC (zown 4) 88 mX3_laws 0 1 := Or.inl ⟨rfl, zk_X3_laws, by decide +kernel, zw_994, zw_995, zw_996⟩
theorem zc_4_89 : zokC (zown 4) 89 mX2_pays 0 1 := Or.inl ⟨rfl, zk_X2_pays, by decide +kernel, zw_407, zw_408, zw_409⟩
theorem zc_4_92 : zokC (zown 4) 92 mX3_pays 0 1 := Or.inl ⟨rfl, zk_X3_pays, by decide +kernel, zw_1002, zw_1003, zw_1004⟩
theorem zc_4_93 : zokC (zown 4) 93 mX2_price 0 1 := Or.inl ⟨rfl, zk_X2_price, by decide +kernel, zw_423, zw_424, zw_425⟩
theorem zc_4_96 : zokC (zown 4) 96 mX3_price 0 1 := Or.inl ⟨rfl, zk_X3_price, by decide +kernel, zw_1006, zw_1007, zw_1008⟩
theorem zc_4_97 : zokC (zown 4) 97 mX2_order 0 2 := Or.inl ⟨rfl, zk_X2_order, by decide +kernel, zw_427, zw_428, zw_429⟩
theorem zc_4_100 : zokC (zown 4) 100 mX3_order 0 2 := Or.inl ⟨rfl, zk_X3_order, by decide +kernel, zw_1010, zw_1011, zw_1012⟩
theorem zc_4_101 : zokC (zown 4) 101 mX2_swap 0 1 := Or.inl ⟨rfl, zk_X2_swap, by decide +kernel, zw_450, zw_451, zw_452⟩
theorem zc_4_104 : zokC (zown 4) 104 mX3_swap 0 1 := Or.inl ⟨rfl, zk_X3_swap, by decide +kernel, zw_1020, zw_1021, zw_1022⟩
theorem zc_4_105 : zokC (zown 4) 105 mX2_stops 0 1 := Or.inl ⟨rfl, zk_X2_stops, by decide +kernel, zw_462, zw_463, zw_464⟩
theorem zc_4_108 : zokC (zown 4) 108 mX3_stops 0 1 := Or.inl ⟨rfl, zk_X3_stops, by decide +kernel, zw_1024, zw_1025, zw_1026⟩
theorem zc_4_109 : zokC (zown 4) 109 mX2_ask 0 1 := Or.inl ⟨rfl, zk_X2_ask, by decide +kernel, zw_476, zw_477, zw_478⟩
theorem zc_4_112 : zokC (zown 4) 112 mX3_ask 0 1 := Or.inl ⟨rfl, zk_X3_ask, by decide +kernel, zw_1034, zw_1035, zw_1036⟩
theorem zc_4_113 : zokC (zown 4) 113 mX2_bestHour 0 1 := Or.inl ⟨rfl, zk_X2_bestHour, by decide +kernel, zw_480, zw_481, zw_482⟩
theorem zc_4_116 : zokC (zown 4) 116 mX3_bestHour 0 1 := Or.inl ⟨rfl, zk_X3_bestHour, by decide +kernel, zw_1038, zw_1039, zw_1040⟩
theorem zc_4_117 : zokC (zown 4) 117 mX2_two 0 1 := Or.inl ⟨rfl, zk_X2_two, by decide +kernel, zw_488, zw_489, zw_490⟩
theorem zc_4_120 : zokC (zown 4) 120 mX3_two 0 1 := Or.inl ⟨rfl, zk_X3_two, by decide +kernel, zw_1042, zw_1043, zw_1044⟩
theorem zc_4_121 : zokC (zown 4) 121 mX2_looksRound 0 3 := Or.inl ⟨rfl, zk_X2_looksRound, by decide +kernel, zw_501, zw_502, zw_503⟩
theorem zc_4_125 : zokC (zown 4) 125 mX3_looksRound 0 3 := Or.inl ⟨rfl, zk_X3_looksRound, by decide +kernel, zw_1050, zw_1051, zw_1052⟩
theorem zc_4_126 : zokC (zown 4) 126 mX2_whatIs 0 3 := Or.inl ⟨rfl, zk_X2_whatIs, by decide +kernel, zw_523, zw_524, zw_525⟩
theorem zc_4_129 : zokC (zown 4) 129 mX3_whatIs 0 3 := Or.inl ⟨rfl, zk_X3_whatIs, by decide +kernel, zw_1065, zw_1066, zw_1067⟩
theorem zc_4_130 : zokC (zown 4) 130 mX2_mean 0 1 := Or.inl ⟨rfl, zk_X2_mean, by decide +kernel, zw_547, zw_548, zw_549⟩
theorem zc_4_134 : zokC (zown 4) 134 mX3_mean 0 1 := Or.inl ⟨rfl, zk_X3_mean, by decide +kernel, zw_1077, zw_1078, zw_1079⟩
theorem zc_4_135 : zokC (zown 4) 135 mX2_tightest 0 1 := Or.inl ⟨rfl, zk_X2_tightest, by decide +kernel, zw_555, zw_556, zw_557⟩
theorem zc_4_138 : zokC (zown 4) 138 mX3_tightest 0 1 := Or.inl ⟨rfl, zk_X3_tightest, by decide +kernel, zw_1085, zw_1086, zw_1087⟩
theorem zc_4_139 : zokC (zown 4) 139 mX2_forged 0 1 := Or.inl ⟨rfl, zk_X2_forged, by decide +kernel, zw_559, zw_560, zw_561⟩
theorem zc_4_142 : zokC (zown 4) 142 mX3_forged 0 1 := Or.inl ⟨rfl, zk_X3_forged, by decide +kernel, zw_1089, zw_1090, zw_1091⟩
theorem zc_4_143 : zokC (zown 4) 143 mX2_judge 0 1 := Or.inl ⟨rfl, zk_X2_judge, by decide +kernel, zw_563, zw_564, zw_565⟩
theorem zc_4_146 : zokC (zown 4) 146 mX3_judge 0 1 := Or.inl ⟨rfl, zk_X3_judge, by decide +kernel, zw_1093, zw_1094, zw_1095⟩
theorem zc_4_147 : zokC (zown 4) 147 mX2_trips 0 3 := Or.inl ⟨rfl, zk_X2_trips, by decide +kernel, zw_567, zw_568, zw_569⟩
theorem zc_4_150 : zokC (zown 4) 150 mX3_trips 0 3 := Or.inl ⟨rfl, zk_X3_trips, by decide +kernel, zw_1097, zw_1098, zw_1099⟩
theorem zc_4_151 : zokC (zown 4) 151 mX2_image 0 0 := Or.inl ⟨rfl, zk_X2_image, by decide +kernel, zw_588, zw_589, zw_590⟩
theorem zc_4_154 : zokC (zown 4) 154 mX3_image 0 0 := Or.inl ⟨rfl, zk_X3_image, by decide +kernel, zw_1108, zw_1109, zw_1110⟩
theorem zc_4_155 : zokC (zown 4) 155 mX2_restore 0 0 := Or.inl ⟨rfl, zk_X2_restore, by decide +kernel, zw_592, zw_593, zw_594⟩
theorem zc_4_158 : zokC (zown 4) 158 mX3_restore 0 0 := Or.inl ⟨rfl, zk_X3_restore, by decide +kernel, zw_1112, zw_1113, zw_1114⟩
theorem zc_4_159 : zokC (zown 4) 159 mX2_count 0 1 := Or.inl ⟨rfl, zk_X2_count, by decide +kernel, zw_596, zw_597, zw_598⟩
theorem zc_4_162 : zokC (zown 4) 162 mX3_count 0 1 := Or.inl ⟨rfl, zk_X3_count, by decide +kernel, zw_1116, zw_1117, zw_1118⟩
theorem zc_4_163 : zokC (zown 4) 163 mX2_keep 0 4 := Or.inl ⟨rfl, zk_X2_keep, by decide +kernel, zw_600, zw_601, zw_602⟩
theorem zc_4_167 : zokC (zown 4) 167 mX3_keep 0 4 := Or.inl ⟨rfl, zk_X3_keep, by decide +kernel, zw_1124, zw_1125, zw_1126⟩
theorem zc_4_168 : zokC (zown 4) 168 mX2_row 0 3 := Or.inl ⟨rfl, zk_X2_row, by decide +kernel, zw_604, zw_605, zw_606⟩
theorem zc_4_171 : zokC (zown 4) 171 mX3_row 0 3 := Or.inl ⟨rfl, zk_X3_row, by decide +kernel, zw_1128, zw_1129, zw_1130⟩
theorem zc_4_172 : zokC (zown 4) 172 mX2_put 0 3 := Or.inl ⟨rfl, zk_X2_put, by decide +kernel, zw_609, zw_610, zw_611⟩
theorem zc_4_175 : zokC (zown 4) 175 mX3_put 0 3 := Or.inl ⟨rfl, zk_X3_put, by decide +kernel, zw_1132, zw_1133, zw_1134⟩
theorem zc_4_181 : zokC (zown 4) 181 mX3_element 0 2 := Or.inl ⟨rfl, zk_X3_element, by decide +kernel, zw_1136, zw_1137, zw_1138⟩
theorem zc_4_182 : zokC (zown 4) 182 mX3_thrown 0 0 := Or.inl ⟨rfl, zk_X3_thrown, by decide +kernel, zw_1120, zw_1121, zw_1122⟩
theorem zc_4_185 : zokC (zown 4) 185 mX2_copy 0 5 := Or.inl ⟨rfl, zk_X2_copy, by decide +kernel, zw_617, zw_618, zw_619⟩
theorem zc_4_189 : zokC (zown 4) 189 mX3_copy 0 5 := Or.inl ⟨rfl, zk_X3_copy, by decide +kernel, zw_1140, zw_1141, zw_1142⟩
theorem zc_4_190 : zokC (zown 4) 190 mX2_cost 0 1 := Or.inl ⟨rfl, zk_X2_cost, by decide +kernel, zw_625, zw_626, zw_627⟩
theorem zc_4_193 : zokC (zown 4) 193 mX3_cost 0 1 := Or.inl ⟨rfl, zk_X3_cost, by decide +kernel, zw_1144, zw_1145, zw_1146⟩
theorem zc_4_197 : zokC (zown 4) 197 mX3_toss 0 1 := Or.inl ⟨rfl, zk_X3_toss, by decide +kernel, zw_1151, zw_1152, zw_1153⟩
theorem zc_3_52 : zokC (zown 3) 52 mX3_isIn 1 3 := Or.inr (Or.inl ⟨rfl, zk_X3_isIn, by decide +kernel, zw_832, zw_833⟩)
theorem zc_3_56 : zokC (zown 3) 56 mX3_isLate 1 1 := Or.inr (Or.inl ⟨rfl, zk_X3_isLate, by decide +kernel, zw_889, zw_890⟩)
theorem zc_3_60 : zokC (zown 3) 60 mX3_most 1 2 := Or.inr (Or.inl ⟨rfl, zk_X3_most, by decide +kernel, zw_871, zw_872⟩)
theorem zc_3_64 : zokC (zown 3) 64 mX3_of 1 2 := Or.inr (Or.inl ⟨rfl, zk_X3_of, by decide +kernel, zw_858, zw_859⟩)
theorem zc_3_67 : zokC (zown 3) 67 mX3_knees 1 2 := Or.inr (Or.inl ⟨rfl, zk_X3_knees, by decide +kernel, zw_868, zw_869⟩)
theorem zc_3_70 : zokC (zown 3) 70 mX3_worth 1 3 := Or.inr (Or.inl ⟨rfl, zk_X3_worth, by decide +kernel, zw_911, zw_912⟩)
theorem zc_3_74 : zokC (zown 3) 74 mX3_worthOf 1 2 := Or.inr (Or.inl ⟨rfl, zk_X3_worthOf, by decide +kernel, zw_908, zw_909⟩)
theorem zc_3_78 : zokC (zown 3) 78 mX3_room 1 2 := Or.inr (Or.inl ⟨rfl, zk_X3_room, by decide +kernel, zw_914, zw_915⟩)
theorem zc_3_81 : zokC (zown 3) 81 mX3_joy 1 2 := Or.inr (Or.inl ⟨rfl, zk_X3_joy, by decide +kernel, zw_987, zw_988⟩)
theorem zc_3_84 : zokC (zown 3) 84 mX3_can 1 2 := Or.inr (Or.inl ⟨rfl, zk_X3_can, by decide +kernel, zw_865, zw_866⟩)
theorem zc_3_87 : zokC (zown 3) 87 mX3_wants 1 4 := Or.inr (Or.inl ⟨rfl, zk_X3_wants, by decide +kernel, zw_886, zw_887⟩)
theorem zc_3_91 : zokC (zown 3) 91 mX3_least 1 2 := Or.inr (Or.inl ⟨rfl, zk_X3_least, by decide +kernel, zw_892, zw_893⟩)
theorem zc_3_94 : zokC (zown 3) 94 mX3_has 1 2 := Or.inr (Or.inl ⟨rfl, zk_X3_has, by decide +kernel, zw_895, zw_896⟩)
theorem zc_3_98 : zokC (zown 3) 98 mX3_round 0 2 := Or.inl ⟨rfl, zk_X3_round, by decide +kernel, zw_882, zw_884, zw_37⟩
theorem zc_3_102 : zokC (zown 3) 102 mX3_upright 1 1 := Or.inr (Or.inl ⟨rfl, zk_X3_upright, by decide +kernel, zw_901, zw_902⟩)
theorem zc_3_116 : zokC (zown 3) 116 mX3_here 0 0 := Or.inl ⟨rfl, zk_X3_here, by decide +kernel, zw_839, zw_841, zw_30⟩
theorem zc_3_120 : zokC (zown 3) 120 mX3_readsNumber 0 2 := Or.inl ⟨rfl, zk_X3_readsNumber, by decide +kernel, zw_843, zw_845, zw_31⟩
theorem zc_3_123 : zokC (zown 3) 123 mX3_adds 0 2 := Or.inl ⟨rfl, zk_X3_adds, by decide +kernel, zw_854, zw_856, zw_33⟩
theorem zc_3_127 : zokC (zown 3) 127 mX3_isRow 0 1 := Or.inl ⟨rfl, zk_X3_isRow, by decide +kernel, zw_861, zw_863, zw_34⟩
theorem zc_3_130 : zokC (zown 3) 130 mX3_turnsBlock 0 1 := Or.inl ⟨rfl, zk_X3_turnsBlock, by decide +kernel, zw_874, zw_876, zw_35⟩
theorem zc_3_134 : zokC (zown 3) 134 mX3_roundsOn 0 2 := Or.inl ⟨rfl, zk_X3_roundsOn, by decide +kernel, zw_878, zw_880, zw_36⟩
theorem zc_3_137 : zokC (zown 3) 137 mX3_changes 1 3 := Or.inr (Or.inl ⟨rfl, zk_X3_changes, by decide +kernel, zw_898, zw_899⟩)
theorem zc_3_141 : zokC (zown 3) 141 mX3_wrongRow 0 2 := Or.inl ⟨rfl, zk_X3_wrongRow, by decide +kernel, zw_825, zw_827, zw_28⟩
theorem zc_3_144 : zokC (zown 3) 144 mX3_readsStatement 0 0 := Or.inl ⟨rfl, zk_X3_readsStatement, by decide +kernel, zw_835, zw_837, zw_29⟩
theorem zc_3_148 : zokC (zown 3) 148 mX3_copies 1 2 := Or.inr (Or.inl ⟨rfl, zk_X3_copies, by decide +kernel, zw_847, zw_848⟩)
theorem zc_3_152 : zokC (zown 3) 152 mX3_isDone 0 1 := Or.inl ⟨rfl, zk_X3_isDone, by decide +kernel, zw_850, zw_852, zw_32⟩
theorem zc_3_155 : zokC (zown 3) 155 mX3_wrongKept 0 1 := Or.inl ⟨rfl, zk_X3_wrongKept, by decide +kernel, zw_921, zw_923, zw_38⟩
theorem zc_3_159 : zokC (zown 3) 159 mX3_tipsAll 1 1 := Or.inr (Or.inl ⟨rfl, zk_X3_tipsAll, by decide +kernel, zw_945, zw_946⟩)
theorem zc_3_163 : zokC (zown 3) 163 mX3_takes 0 1 := Or.inl ⟨rfl, zk_X3_takes, by decide +kernel, zw_952, zw_954, zw_39⟩
theorem zc_3_166 : zokC (zown 3) 166 mX3_runIn 0 1 := Or.inl ⟨rfl, zk_X3_runIn, by decide +kernel, zw_964, zw_966, zw_40⟩
theorem zc_3_169 : zokC (zown 3) 169 mX3_blocksIn 1 2 := Or.inr (Or.inl ⟨rfl, zk_X3_blocksIn, by decide +kernel, zw_976, zw_977⟩)
theorem zc_3_173 : zokC (zown 3) 173 mX3_joyAll 1 1 := Or.inr (Or.inl ⟨rfl, zk_X3_joyAll, by decide +kernel, zw_984, zw_985⟩)
theorem zc_3_176 : zokC (zown 3) 176 mX3_joyBy 0 1 := Or.inl ⟨rfl, zk_X3_joyBy, by decide +kernel, zw_998, zw_1000, zw_41⟩
theorem zc_3_182 : zokC (zown 3) 182 mX3_seats 0 3 := Or.inl ⟨rfl, zk_X3_seats, by decide +kernel, zw_1016, zw_1018, zw_42⟩
theorem zc_3_188 : zokC (zown 3) 188 mX3_bits 1 1 := Or.inr (Or.inl ⟨rfl, zk_X3_bits, by decide +kernel, zw_1028, zw_1029⟩)
theorem zc_3_191 : zokC (zown 3) 191 mX3_tipping 1 1 := Or.inr (Or.inl ⟨rfl, zk_X3_tipping, by decide +kernel, zw_1031, zw_1032⟩)
theorem zc_3_194 : zokC (zown 3) 194 mX3_joyTipped 0 4 := Or.inl ⟨rfl, zk_X3_joyTipped, by decide +kernel, zw_1046, zw_1048, zw_43⟩
theorem zc_3_197 : zokC (zown 3) 197 mX3_gcd 1 2 := Or.inr (Or.inl ⟨rfl, zk_X3_gcd, by decide +kernel, zw_1062, zw_1063⟩)
theorem zc_3_203 : zokC (zown 3) 203 mX3_isYoung 0 1 := Or.inl ⟨rfl, zk_X3_isYoung, by decide +kernel, zw_1055, zw_1057, zw_44⟩
theorem zc_3_206 : zokC (zown 3) 206 mX3_partOf 1 3 := Or.inr (Or.inl ⟨rfl, zk_X3_partOf, by decide +kernel, zw_1059, zw_1060⟩)
theorem zc_3_211 : zokC (zown 3) 211 mX3_leastOf 1 1 := Or.inr (Or.inl ⟨rfl, zk_X3_leastOf, by decide +kernel, zw_1073, zw_1074⟩)
theorem zc_3_214 : zokC (zown 3) 214 mX3_isTold 0 2 := Or.inl ⟨rfl, zk_X3_isTold, by decide +kernel, zw_1069, zw_1071, zw_45⟩
theorem zc_3_217 : zokC (zown 3) 217 mX3_roomAll 0 0 := Or.inl ⟨rfl, zk_X3_roomAll, by decide +kernel, zw_1081, zw_1083, zw_46⟩
theorem zc_3_226 : zokC (zown 3) 226 mX3_drawn 0 1 := Or.inl ⟨rfl, zk_X3_drawn, by decide +kernel, zw_1101, zw_1103, zw_47⟩
theorem zc_3_236 : zokC (zown 3) 236 mX3_isShelf 1 1 := Or.inr (Or.inl ⟨rfl, zk_X3_isShelf, by decide +kernel, zw_829, zw_830⟩)
theorem zc_3_239 : zokC (zown 3) 239 mX3_costBy 1 2 := Or.inr (Or.inl ⟨rfl, zk_X3_costBy, by decide +kernel, zw_1148, zw_1149⟩)
theorem zca_0 : ∀ e ∈ zml0, zokC (zown 0) e.1 e.2.1 e.2.2.1 e.2.2.2 := List.forall_mem_cons.mpr ⟨zc_0_37, List.forall_mem_cons.mpr ⟨zc_0_43, List.forall_mem_cons.mpr ⟨zc_0_47, List.forall_mem_cons.mpr ⟨zc_0_50, List.forall_mem_cons.mpr ⟨zc_0_54, List.forall_mem_cons.mpr ⟨zc_0_59, List.forall_mem_cons.mpr ⟨zc_0_63, List.forall_mem_cons.mpr ⟨zc_0_67, List.forall_mem_cons.mpr ⟨zc_0_71, List.forall_mem_cons.mpr ⟨zc_0_74, List.forall_mem_cons.mpr ⟨zc_0_77, List.forall_mem_cons.mpr ⟨zc_0_80, List.forall_mem_cons.mpr ⟨zc_0_83, List.forall_mem_cons.mpr ⟨zc_0_87, List.forall_mem_cons.mpr ⟨zc_0_90, List.forall_mem_cons.mpr ⟨zc_0_96, List.forall_mem_cons.mpr ⟨zc_0_99, List.forall_mem_cons.mpr ⟨zc_0_103, List.forall_mem_cons.mpr ⟨zc_0_107, fun _ h => absurd h List.not_mem_nil⟩⟩⟩⟩⟩⟩⟩⟩⟩⟩⟩⟩⟩⟩⟩⟩⟩⟩⟩
theorem zca_1 : ∀ e ∈ zml1, zokC (zown 1) e.1 e.2.1 e.2.2.1 e.2.2.2 := List.forall_mem_cons.mpr ⟨zc_1_31, List.forall_mem_cons.mpr ⟨zc_1_35, List.forall_mem_cons.mpr ⟨zc_1_39, fun _ h => absurd h List.not_mem_nil⟩⟩⟩
theorem zca_2 : ∀ e ∈ zml2, zokC (zown 2) e.1 e.2.1 e.2.2.1 e.2.2.2 := List.forall_mem_cons.mpr ⟨zc_2_44, List.forall_mem_cons.mpr ⟨zc_2_55, List.forall_mem_cons.mpr ⟨zc_2_59, List.forall_mem_cons.mpr ⟨zc_2_63, List.forall_mem_cons.mpr ⟨zc_2_67, List.forall_mem_cons.mpr ⟨zc_2_80, List.forall_mem_cons.mpr ⟨zc_2_83, List.forall_mem_cons.mpr ⟨zc_2_87, List.forall_mem_cons.mpr ⟨zc_2_91, List.forall_mem_cons.mpr ⟨zc_2_94, List.forall_mem_cons.mpr ⟨zc_2_97, List.forall_mem_cons.mpr ⟨zc_2_106, List.forall_mem_cons.mpr ⟨zc_2_113, List.forall_mem_cons.mpr ⟨zc_2_116, List.forall_mem_cons.mpr ⟨zc_2_122, List.forall_mem_cons.mpr ⟨zc_2_125, List.forall_mem_cons.mpr ⟨zc_2_128, List.forall_mem_cons.mpr ⟨zc_2_131, List.forall_mem_cons.mpr ⟨zc_2_135, List.forall_mem_cons.mpr ⟨zc_2_138, List.forall_mem_cons.mpr ⟨zc_2_142, List.forall_mem_cons.mpr ⟨zc_2_145, List.forall_mem_cons.mpr ⟨zc_2_148, List.forall_mem_cons.mpr ⟨zc_2_153, List.forall_mem_cons.mpr ⟨zc_2_156, List.forall_mem_cons.mpr ⟨zc_2_159, List.forall_mem_cons.mpr ⟨zc_2_162, List.forall_mem_cons.mpr ⟨zc_2_165, List.forall_mem_cons.mpr ⟨zc_2_168, List.forall_mem_cons.mpr ⟨zc_2_171, List.forall_mem_cons.mpr ⟨zc_2_175, List.forall_mem_cons.mpr ⟨zc_2_178, List.forall_mem_cons.mpr ⟨zc_2_181, List.forall_mem_cons.mpr ⟨zc_2_185, List.forall_mem_cons.mpr ⟨zc_2_190, List.forall_mem_cons.mpr ⟨zc_2_193, List.forall_mem_cons.mpr ⟨zc_2_196, List.forall_mem_cons.mpr ⟨zc_2_202, List.forall_mem_cons.mpr ⟨zc_2_208, List.forall_mem_cons.mpr ⟨zc_2_211, List.forall_mem_cons.mpr ⟨zc_2_215, List.forall_mem_cons.mpr ⟨zc_2_219, List.forall_mem_cons.mpr ⟨zc_2_223, List.forall_mem_cons.mpr ⟨zc_2_226, List.forall_mem_cons.mpr ⟨zc_2_235, List.forall_mem_cons.mpr ⟨zc_2_238, List.forall_mem_cons.mpr ⟨zc_2_241, List.forall_mem_cons.mpr ⟨zc_2_250, List.forall_mem_cons.mpr ⟨zc_2_253, List.forall_mem_cons.mpr ⟨zc_2_256, List.forall_mem_cons.mpr ⟨zc_2_273, List.forall_mem_cons.mpr ⟨zc_2_276, List.forall_mem_cons.mpr ⟨zc_2_282, List.forall_mem_cons.mpr ⟨zc_2_290, List.forall_mem_cons.mpr ⟨zc_2_293, List.forall_mem_cons.mpr ⟨zc_2_296, List.forall_mem_cons.mpr ⟨zc_2_299, List.forall_mem_cons.mpr ⟨zc_2_303, List.forall_mem_cons.mpr ⟨zc_2_306, List.forall_mem_cons.mpr ⟨zc_2_309, List.forall_mem_cons.mpr ⟨zc_2_312, List.forall_mem_cons.mpr ⟨zc_2_315, List.forall_mem_cons.mpr ⟨zc_2_318, List.forall_mem_cons.mpr ⟨zc_2_322, List.forall_mem_cons.mpr ⟨zc_2_325, List.forall_mem_cons.mpr ⟨zc_2_329, List.forall_mem_cons.mpr ⟨zc_2_333, List.forall_mem_cons.mpr ⟨zc_2_336, List.forall_mem_cons.mpr ⟨zc_2_343, fun _ h => absurd h List.not_mem_nil⟩⟩⟩⟩⟩⟩⟩⟩⟩⟩⟩⟩⟩⟩⟩⟩⟩⟩⟩⟩⟩⟩⟩⟩⟩⟩⟩⟩⟩⟩⟩⟩⟩⟩⟩⟩⟩⟩⟩⟩⟩⟩⟩⟩⟩⟩⟩⟩⟩⟩⟩⟩⟩⟩⟩⟩⟩⟩⟩⟩⟩⟩⟩⟩⟩⟩⟩⟩⟩
theorem zca_3 : ∀ e ∈ zml3, zokC (zown 3) e.1 e.2.1 e.2.2.1 e.2.2.2 := List.forall_mem_cons.mpr ⟨zc_3_52, List.forall_mem_cons.mpr ⟨zc_3_56, List.forall_mem_cons.mpr ⟨zc_3_60, List.forall_mem_cons.mpr ⟨zc_3_64, List.forall_mem_cons.mpr ⟨zc_3_67, List.forall_mem_cons.mpr ⟨zc_3_70, List.forall_mem_cons.mpr ⟨zc_3_74, List.forall_mem_cons.mpr ⟨zc_3_78, List.forall_mem_cons.mpr ⟨zc_3_81, List.forall_mem_cons.mpr ⟨zc_3_84, List.forall_mem_cons.mpr ⟨zc_3_87, List.forall_mem_cons.mpr ⟨zc_3_91, List.forall_mem_cons.mpr ⟨zc_3_94, List.forall_mem_cons.mpr ⟨zc_3_98, List.forall_mem_cons.mpr ⟨zc_3_102, List.forall_mem_cons.mpr ⟨zc_3_116, List.forall_mem_cons.mpr ⟨zc_3_120, List.forall_mem_cons.mpr ⟨zc_3_123, List.forall_mem_cons.mpr ⟨zc_3_127, List.forall_mem_cons.mpr ⟨zc_3_130, List.forall_mem_cons.mpr ⟨zc_3_134, List.forall_mem_cons.mpr ⟨zc_3_137, List.forall_mem_cons.mpr ⟨zc_3_141, List.forall_mem_cons.mpr ⟨zc_3_144, List.forall_mem_cons.mpr ⟨zc_3_148, List.forall_mem_cons.mpr ⟨zc_3_152, List.forall_mem_cons.mpr ⟨zc_3_155, List.forall_mem_cons.mpr ⟨zc_3_159, List.forall_mem_cons.mpr ⟨zc_3_163, List.forall_mem_cons.mpr ⟨zc_3_166, List.forall_mem_cons.mpr ⟨zc_3_169, List.forall_mem_cons.mpr ⟨zc_3_173, List.forall_mem_cons.mpr ⟨zc_3_176, List.forall_mem_cons.mpr ⟨zc_3_182, List.forall_mem_cons.mpr ⟨zc_3_188, List.forall_mem_cons.mpr ⟨zc_3_191, List.forall_mem_cons.mpr ⟨zc_3_194, List.forall_mem_cons.mpr ⟨zc_3_197, List.forall_mem_cons.mpr ⟨zc_3_203, List.forall_mem_cons.mpr ⟨zc_3_206, List.forall_mem_cons.mpr ⟨zc_3_211, List.forall_mem_cons.mpr ⟨zc_3_214, List.forall_mem_cons.mpr ⟨zc_3_217, List.forall_mem_cons.mpr ⟨zc_3_226, List.forall_mem_cons.mpr ⟨zc_3_236, List.forall_mem_cons.mpr ⟨zc_3_239, fun _ h => absurd h List.not_mem_nil⟩⟩⟩⟩⟩⟩⟩⟩⟩⟩⟩⟩⟩⟩⟩⟩⟩⟩⟩⟩⟩⟩⟩⟩⟩⟩⟩⟩⟩⟩⟩⟩⟩⟩⟩⟩⟩⟩⟩⟩⟩⟩⟩⟩⟩⟩
theorem zca_4 : ∀ e ∈ zml4, zokC (zown 4) e.1 e.2.1 e.2.2.1 e.2.2.2 := List.forall_mem_cons.mpr ⟨zc_4_21, List.forall_mem_cons.mpr ⟨zc_4_25, List.forall_mem_cons.mpr ⟨zc_4_26, List.forall_mem_cons.mpr ⟨zc_4_30, List.forall_mem_cons.mpr ⟨zc_4_31, List.forall_mem_cons.mpr ⟨zc_4_34, List.forall_mem_cons.mpr ⟨zc_4_35, List.forall_mem_cons.mpr ⟨zc_4_38, List.forall_mem_cons.mpr ⟨zc_4_39, List.forall_mem_cons.mpr ⟨zc_4_42, List.forall_mem_cons.mpr ⟨zc_4_43, List.forall_mem_cons.mpr ⟨zc_4_46, List.forall_mem_cons.mpr ⟨zc_4_47, List.forall_mem_cons.mpr ⟨zc_4_50, List.forall_mem_cons.mpr ⟨zc_4_51, List.forall_mem_cons.mpr ⟨zc_4_54, List.forall_mem_cons.mpr ⟨zc_4_55, List.forall_mem_cons.mpr ⟨zc_4_59, List.forall_mem_cons.mpr ⟨zc_4_60, List.forall_mem_cons.mpr ⟨zc_4_64, List.forall_mem_cons.mpr ⟨zc_4_65, List.forall_mem_cons.mpr ⟨zc_4_68, List.forall_mem_cons.mpr ⟨zc_4_69, List.forall_mem_cons.mpr ⟨zc_4_72, List.forall_mem_cons.mpr ⟨zc_4_73, List.forall_mem_cons.mpr ⟨zc_4_76, List.forall_mem_cons.mpr ⟨zc_4_77, List.forall_mem_cons.mpr ⟨zc_4_80, List.forall_mem_cons.mpr ⟨zc_4_81, List.forall_mem_cons.mpr ⟨zc_4_84, List.forall_mem_cons.mpr ⟨zc_4_85, List.forall_mem_cons.mpr ⟨zc_4_88, List.forall_mem_cons.mpr ⟨zc_4_89, List.forall_mem_cons.mpr ⟨zc_4_92, List.forall_mem_cons.mpr ⟨zc_4_93, List.forall_mem_cons.mpr ⟨zc_4_96, List.forall_mem_cons.mpr ⟨zc_4_97, List.forall_mem_cons.mpr ⟨zc_4_100, List.forall_mem_cons.mpr ⟨zc_4_101, List.forall_mem_cons.mpr ⟨zc_4_104, List.forall_mem_cons.mpr ⟨zc_4_105, List.forall_mem_cons.mpr ⟨zc_4_108, List.forall_mem_cons.mpr ⟨zc_4_109, List.forall_mem_cons.mpr ⟨zc_4_112, List.forall_mem_cons.mpr ⟨zc_4_113, List.forall_mem_cons.mpr ⟨zc_4_116, List.forall_mem_cons.mpr ⟨zc_4_117, List.forall_mem_cons.mpr ⟨zc_4_120, List.forall_mem_cons.mpr ⟨zc_4_121, List.forall_mem_cons.mpr ⟨zc_4_125, List.forall_mem_cons.mpr ⟨zc_4_126, List.forall_mem_cons.mpr ⟨zc_4_129, List.forall_mem_cons.mpr ⟨zc_4_130, List.forall_mem_cons.mpr ⟨zc_4_134, List.forall_mem_cons.mpr ⟨zc_4_135, List.forall_mem_cons.mpr ⟨zc_4_138, List.forall_mem_cons.mpr ⟨zc_4_139, List.forall_mem_cons.mpr ⟨zc_4_142, List.forall_mem_cons.mpr ⟨zc_4_143, List.forall_mem_cons.mpr ⟨zc_4_146, List.forall_mem_cons.mpr ⟨zc_4_147, List.forall_mem_cons.mpr ⟨zc_4_150, List.forall_mem_cons.mpr ⟨zc_4_151, List.forall_mem_cons.mpr ⟨zc_4_154, List.forall_mem_cons.mpr ⟨zc_4_155, List.forall_mem_cons.mpr ⟨zc_4_158, List.forall_mem_cons.mpr ⟨zc_4_159, List.forall_mem_cons.mpr ⟨zc_4_162, List.forall_mem_cons.mpr ⟨zc_4_163, List.forall_mem_cons.mpr ⟨zc_4_167, List.forall_mem_cons.mpr ⟨zc_4_168, List.forall_mem_cons.mpr ⟨zc_4_171, List.forall_mem_cons.mpr ⟨zc_4_172, List.forall_mem_cons.mpr ⟨zc_4_175, List.forall_mem_cons.mpr ⟨zc_4_181, List.forall_mem_cons.mpr ⟨zc_4_182, List.forall_mem_cons.mpr ⟨zc_4_185, List.forall_mem_cons.mpr ⟨zc_4_189, List.forall_mem_cons.mpr ⟨zc_4_190, List.forall_mem_cons.mpr ⟨zc_4_193, List.forall_mem_cons.mpr ⟨zc_4_197, fun _ h => absurd h List.not_mem_nil⟩⟩⟩⟩⟩⟩⟩⟩⟩⟩⟩⟩⟩⟩⟩⟩⟩⟩⟩⟩⟩⟩⟩⟩⟩⟩⟩⟩⟩⟩⟩⟩⟩⟩⟩⟩⟩⟩⟩⟩⟩⟩⟩⟩⟩⟩⟩⟩⟩⟩⟩⟩⟩⟩⟩⟩⟩⟩⟩⟩⟩⟩⟩⟩⟩⟩⟩⟩⟩⟩⟩⟩⟩⟩⟩⟩⟩⟩⟩⟩⟩
theorem zml_ok {c i : Nat} {r : zM × Nat × Nat} (h : zml c i = some r) : zokC (zown c) i r.1 r.2.1 r.2.2 := by
  unfold zml at h
  match c, h with
  | 0, h => exact zca_0 _ (z_lookup h)
  | 1, h => exact zca_1 _ (z_lookup h)
  | 2, h => exact zca_2 _ (z_lookup h)
  | 3, h => exact zca_3 _ (z_lookup h)
  | 4, h => exact zca_4 _ (z_lookup h)
  | c + 5, h => simp [zmlT] at h
theorem zf_2_12 : zokF (zown 2) 12 2 0 := ⟨_, rfl, by decide +kernel, zw_143⟩
theorem zf_2_16 : zokF (zown 2) 16 2 1 := ⟨_, rfl, by decide +kernel, zw_144⟩
theorem zf_2_19 : zokF (zown 2) 19 2 2 := ⟨_, rfl, by decide +kernel, zw_145⟩
theorem zf_2_22 : zokF (zown 2) 22 2 3 := ⟨_, rfl, by decide +kernel, zw_146⟩
theorem zf_2_28 : zokF (zown 2) 28 2 4 := ⟨_, rfl, by decide +kernel, zw_147⟩
theorem zf_2_32 : zokF (zown 2) 32 2 5 := ⟨_, rfl, by decide +kernel, zw_148⟩
theorem zf_2_36 : zokF (zown 2) 36 2 6 := ⟨_, rfl, by decide +kernel, zw_149⟩
theorem zf_2_39 : zokF (zown 2) 39 2 7 := ⟨_, rfl, by decide +kernel, zw_150⟩
theorem zf_2_48 : zokF (zown 2) 48 1 0 := ⟨_, rfl, by decide +kernel, zw_118⟩
theorem zf_2_52 : zokF (zown 2) 52 1 3 := ⟨_, rfl, by decide +kernel, zw_124⟩
theorem zf_2_71 : zokF (zown 2) 71 0 4 := ⟨_, rfl, by decide +kernel, zw_86⟩
theorem zf_2_74 : zokF (zown 2) 74 0 5 := ⟨_, rfl, by decide +kernel, zw_88⟩
theorem zf_2_77 : zokF (zown 2) 77 0 6 := ⟨_, rfl, by decide +kernel, zw_90⟩
theorem zf_2_100 : zokF (zown 2) 100 1 1 := ⟨_, rfl, by decide +kernel, zw_120⟩
theorem zf_2_103 : zokF (zown 2) 103 1 2 := ⟨_, rfl, by decide +kernel, zw_122⟩
theorem zf_2_110 : zokF (zown 2) 110 0 0 := ⟨_, rfl, by decide +kernel, zw_78⟩
theorem zf_2_119 : zokF (zown 2) 119 0 1 := ⟨_, rfl, by decide +kernel, zw_80⟩
theorem zf_2_229 : zokF (zown 2) 229 1 4 := ⟨_, rfl, by decide +kernel, zw_126⟩
theorem zf_2_232 : zokF (zown 2) 232 1 5 := ⟨_, rfl, by decide +kernel, zw_128⟩
theorem zf_2_244 : zokF (zown 2) 244 0 2 := ⟨_, rfl, by decide +kernel, zw_82⟩
theorem zf_2_247 : zokF (zown 2) 247 0 3 := ⟨_, rfl, by decide +kernel, zw_84⟩
theorem zf_0_9 : zokF (zown 0) 9 0 0 := ⟨_, rfl, by decide +kernel, zw_77⟩
theorem zf_0_15 : zokF (zown 0) 15 0 1 := ⟨_, rfl, by decide +kernel, zw_79⟩
theorem zf_0_18 : zokF (zown 0) 18 0 2 := ⟨_, rfl, by decide +kernel, zw_81⟩
theorem zf_0_21 : zokF (zown 0) 21 0 3 := ⟨_, rfl, by decide +kernel, zw_83⟩
theorem zf_0_24 : zokF (zown 0) 24 0 4 := ⟨_, rfl, by decide +kernel, zw_85⟩
theorem zf_0_28 : zokF (zown 0) 28 0 5 := ⟨_, rfl, by decide +kernel, zw_87⟩
theorem zf_0_31 : zokF (zown 0) 31 0 6 := ⟨_, rfl, by decide +kernel, zw_89⟩
theorem zf_0_34 : zokF (zown 0) 34 0 7 := ⟨_, rfl, by decide +kernel, zw_91⟩
theorem zf_1_11 : zokF (zown 1) 11 1 0 := ⟨_, rfl, by decide +kernel, zw_117⟩
theorem zf_1_15 : zokF (zown 1) 15 1 1 := ⟨_, rfl, by decide +kernel, zw_119⟩
theorem zf_1_18 : zokF (zown 1) 18 1 2 := ⟨_, rfl, by decide +kernel, zw_121⟩
theorem zf_1_21 : zokF (zown 1) 21 1 3 := ⟨_, rfl, by decide +kernel, zw_123⟩
theorem zf_1_24 : zokF (zown 1) 24 1 4 := ⟨_, rfl, by decide +kernel, zw_125⟩
theorem zf_1_27 : zokF (zown 1) 27 1 5 := ⟨_, rfl, by decide +kernel, zw_127⟩
theorem zf_3_9 : zokF (zown 3) 9 3 0 := ⟨_, rfl, by decide +kernel, zw_757⟩
theorem zf_3_13 : zokF (zown 3) 13 3 1 := ⟨_, rfl, by decide +kernel, zw_758⟩
theorem zf_3_16 : zokF (zown 3) 16 3 2 := ⟨_, rfl, by decide +kernel, zw_759⟩
theorem zf_3_19 : zokF (zown 3) 19 3 3 := ⟨_, rfl, by decide +kernel, zw_760⟩
theorem zf_3_22 : zokF (zown 3) 22 3 4 := ⟨_, rfl, by decide +kernel, zw_761⟩
theorem zf_3_25 : zokF (zown 3) 25 3 9 := ⟨_, rfl, by decide +kernel, zw_766⟩
theorem zf_3_28 : zokF (zown 3) 28 3 10 := ⟨_, rfl, by decide +kernel, zw_767⟩
theorem zf_3_31 : zokF (zown 3) 31 3 11 := ⟨_, rfl, by decide +kernel, zw_768⟩
theorem zf_3_34 : zokF (zown 3) 34 3 14 := ⟨_, rfl, by decide +kernel, zw_771⟩
theorem zf_3_37 : zokF (zown 3) 37 3 15 := ⟨_, rfl, by decide +kernel, zw_772⟩
theorem zf_3_40 : zokF (zown 3) 40 3 16 := ⟨_, rfl, by decide +kernel, zw_773⟩
theorem zf_3_43 : zokF (zown 3) 43 3 17 := ⟨_, rfl, by decide +kernel, zw_774⟩
theorem zf_3_46 : zokF (zown 3) 46 3 18 := ⟨_, rfl, by decide +kernel, zw_775⟩
theorem zf_3_49 : zokF (zown 3) 49 3 19 := ⟨_, rfl, by decide +kernel, zw_776⟩
theorem zf_3_106 : zokF (zown 3) 106 3 6 := ⟨_, rfl, by decide +kernel, zw_763⟩
theorem zf_3_110 : zokF (zown 3) 110 3 8 := ⟨_, rfl, by decide +kernel, zw_765⟩
theorem zf_3_113 : zokF (zown 3) 113 3 7 := ⟨_, rfl, by decide +kernel, zw_764⟩
theorem zf_3_179 : zokF (zown 3) 179 3 12 := ⟨_, rfl, by decide +kernel, zw_769⟩
theorem zf_3_220 : zokF (zown 3) 220 3 13 := ⟨_, rfl, by decide +kernel, zw_770⟩
theorem zf_3_229 : zokF (zown 3) 229 3 5 := ⟨_, rfl, by decide +kernel, zw_762⟩
theorem zf_3_233 : zokF (zown 3) 233 3 20 := ⟨_, rfl, by decide +kernel, zw_777⟩
theorem zfa_0 : ∀ e ∈ zfl0, zokF (zown 0) e.1 e.2.1 e.2.2 := List.forall_mem_cons.mpr ⟨zf_0_9, List.forall_mem_cons.mpr ⟨zf_0_15, List.forall_mem_cons.mpr ⟨zf_0_18, List.forall_mem_cons.mpr ⟨zf_0_21, List.forall_mem_cons.mpr ⟨zf_0_24, List.forall_mem_cons.mpr ⟨zf_0_28, List.forall_mem_cons.mpr ⟨zf_0_31, List.forall_mem_cons.mpr ⟨zf_0_34, fun _ h => absurd h List.not_mem_nil⟩⟩⟩⟩⟩⟩⟩⟩
theorem zfa_1 : ∀ e ∈ zfl1, zokF (zown 1) e.1 e.2.1 e.2.2 := List.forall_mem_cons.mpr ⟨zf_1_11, List.forall_mem_cons.mpr ⟨zf_1_15, List.forall_mem_cons.mpr ⟨zf_1_18, List.forall_mem_cons.mpr ⟨zf_1_21, List.forall_mem_cons.mpr ⟨zf_1_24, List.forall_mem_cons.mpr ⟨zf_1_27, fun _ h => absurd h List.not_mem_nil⟩⟩⟩⟩⟩⟩
theorem zfa_2 : ∀ e ∈ zfl2, zokF (zown 2) e.1 e.2.1 e.2.2 := List.forall_mem_cons.mpr ⟨zf_2_12, List.forall_mem_cons.mpr ⟨zf_2_16, List.forall_mem_cons.mpr ⟨zf_2_19, List.forall_mem_cons.mpr ⟨zf_2_22, List.forall_mem_cons.mpr ⟨zf_2_28, List.forall_mem_cons.mpr ⟨zf_2_32, List.forall_mem_cons.mpr ⟨zf_2_36, List.forall_mem_cons.mpr ⟨zf_2_39, List.forall_mem_cons.mpr ⟨zf_2_48, List.forall_mem_cons.mpr ⟨zf_2_52, List.forall_mem_cons.mpr ⟨zf_2_71, List.forall_mem_cons.mpr ⟨zf_2_74, List.forall_mem_cons.mpr ⟨zf_2_77, List.forall_mem_cons.mpr ⟨zf_2_100, List.forall_mem_cons.mpr ⟨zf_2_103, List.forall_mem_cons.mpr ⟨zf_2_110, List.forall_mem_cons.mpr ⟨zf_2_119, List.forall_mem_cons.mpr ⟨zf_2_229, List.forall_mem_cons.mpr ⟨zf_2_232, List.forall_mem_cons.mpr ⟨zf_2_244, List.forall_mem_cons.mpr ⟨zf_2_247, fun _ h => absurd h List.not_mem_nil⟩⟩⟩⟩⟩⟩⟩⟩⟩⟩⟩⟩⟩⟩⟩⟩⟩⟩⟩⟩⟩
theorem zfa_3 : ∀ e ∈ zfl3, zokF (zown 3) e.1 e.2.1 e.2.2 := List.forall_mem_cons.mpr ⟨zf_3_9, List.forall_mem_cons.mpr ⟨zf_3_13, List.forall_mem_cons.mpr ⟨zf_3_16, List.forall_mem_cons.mpr ⟨zf_3_19, List.forall_mem_cons.mpr ⟨zf_3_22, List.forall_mem_cons.mpr ⟨zf_3_25, List.forall_mem_cons.mpr ⟨zf_3_28, List.forall_mem_cons.mpr ⟨zf_3_31, List.forall_mem_cons.mpr ⟨zf_3_34, List.forall_mem_cons.mpr ⟨zf_3_37, List.forall_mem_cons.mpr ⟨zf_3_40, List.forall_mem_cons.mpr ⟨zf_3_43, List.forall_mem_cons.mpr ⟨zf_3_46, List.forall_mem_cons.mpr ⟨zf_3_49, List.forall_mem_cons.mpr ⟨zf_3_106, List.forall_mem_cons.mpr ⟨zf_3_110, List.forall_mem_cons.mpr ⟨zf_3_113, List.forall_mem_cons.mpr ⟨zf_3_179, List.forall_mem_cons.mpr ⟨zf_3_220, List.forall_mem_cons.mpr ⟨zf_3_229, List.forall_mem_cons.mpr ⟨zf_3_233, fun _ h => absurd h List.not_mem_nil⟩⟩⟩⟩⟩⟩⟩⟩⟩⟩⟩⟩⟩⟩⟩⟩⟩⟩⟩⟩⟩
theorem zfa_4 : ∀ e ∈ zfl4, zokF (zown 4) e.1 e.2.1 e.2.2 := fun _ h => absurd h List.not_mem_nil
theorem zfl_ok {c i : Nat} {r : Nat × Nat} (h : zfl c i = some r) : zokF (zown c) i r.1 r.2 := by
  unfold zfl at h
  match c, h with
  | 0, h => exact zfa_0 _ (z_lookup h)
  | 1, h => exact zfa_1 _ (z_lookup h)
  | 2, h => exact zfa_2 _ (z_lookup h)
  | 3, h => exact zfa_3 _ (z_lookup h)
  | 4, h => exact zfa_4 _ (z_lookup h)
  | c + 5, h => simp [zflT] at h
theorem zcta_0 : ∀ e ∈ zct0, (Cond.constant (zown 0) e.1 (Int32.ofInt e.2)) ∈ zT := fun _ h => absurd h List.not_mem_nil
theorem zcta_1 : ∀ e ∈ zct1, (Cond.constant (zown 1) e.1 (Int32.ofInt e.2)) ∈ zT := fun _ h => absurd h List.not_mem_nil
theorem zct_2_152 : (Cond.constant (zown 2) 152 (Int32.ofInt (1000000001))) ∈ zT := zw_376
theorem zct_2_174 : (Cond.constant (zown 2) 174 (Int32.ofInt (1000000003))) ∈ zT := zw_431
theorem zct_2_339 : (Cond.constant (zown 2) 339 (Int32.ofInt (1103515245))) ∈ zT := zw_578
theorem zct_2_340 : (Cond.constant (zown 2) 340 (Int32.ofInt (2147483647))) ∈ zT := zw_582
theorem zct_2_341 : (Cond.constant (zown 2) 341 (Int32.ofInt (65536))) ∈ zT := zw_583
theorem zct_2_342 : (Cond.constant (zown 2) 342 (Int32.ofInt (-2147483648))) ∈ zT := zw_542
theorem zcta_2 : ∀ e ∈ zct2, (Cond.constant (zown 2) e.1 (Int32.ofInt e.2)) ∈ zT := List.forall_mem_cons.mpr ⟨zct_2_152, List.forall_mem_cons.mpr ⟨zct_2_174, List.forall_mem_cons.mpr ⟨zct_2_339, List.forall_mem_cons.mpr ⟨zct_2_340, List.forall_mem_cons.mpr ⟨zct_2_341, List.forall_mem_cons.mpr ⟨zct_2_342, fun _ h => absurd h List.not_mem_nil⟩⟩⟩⟩⟩⟩
theorem zct_3_172 : (Cond.constant (zown 3) 172 (Int32.ofInt (1000000001))) ∈ zT := zw_983
theorem zct_3_186 : (Cond.constant (zown 3) 186 (Int32.ofInt (1000000003))) ∈ zT := zw_1014
theorem zct_3_187 : (Cond.constant (zown 3) 187 (Int32.ofInt (-1000000000))) ∈ zT := zw_1015
theorem zct_3_210 : (Cond.constant (zown 3) 210 (Int32.ofInt (-2147483648))) ∈ zT := zw_1076
theorem zct_3_223 : (Cond.constant (zown 3) 223 (Int32.ofInt (1103515245))) ∈ zT := zw_1105
theorem zct_3_224 : (Cond.constant (zown 3) 224 (Int32.ofInt (2147483647))) ∈ zT := zw_1106
theorem zct_3_225 : (Cond.constant (zown 3) 225 (Int32.ofInt (65536))) ∈ zT := zw_1107
theorem zcta_3 : ∀ e ∈ zct3, (Cond.constant (zown 3) e.1 (Int32.ofInt e.2)) ∈ zT := List.forall_mem_cons.mpr ⟨zct_3_172, List.forall_mem_cons.mpr ⟨zct_3_186, List.forall_mem_cons.mpr ⟨zct_3_187, List.forall_mem_cons.mpr ⟨zct_3_210, List.forall_mem_cons.mpr ⟨zct_3_223, List.forall_mem_cons.mpr ⟨zct_3_224, List.forall_mem_cons.mpr ⟨zct_3_225, fun _ h => absurd h List.not_mem_nil⟩⟩⟩⟩⟩⟩⟩
theorem zcta_4 : ∀ e ∈ zct4, (Cond.constant (zown 4) e.1 (Int32.ofInt e.2)) ∈ zT := fun _ h => absurd h List.not_mem_nil
theorem zct_5_265 : (Cond.constant (zown 5) 265 (Int32.ofInt (1431655765))) ∈ zT := zw_469
theorem zct_5_266 : (Cond.constant (zown 5) 266 (Int32.ofInt (858993459))) ∈ zT := zw_470
theorem zct_5_267 : (Cond.constant (zown 5) 267 (Int32.ofInt (252645135))) ∈ zT := zw_471
theorem zcta_5 : ∀ e ∈ zct5, (Cond.constant (zown 5) e.1 (Int32.ofInt e.2)) ∈ zT := List.forall_mem_cons.mpr ⟨zct_5_265, List.forall_mem_cons.mpr ⟨zct_5_266, List.forall_mem_cons.mpr ⟨zct_5_267, fun _ h => absurd h List.not_mem_nil⟩⟩⟩
theorem zct_ok {c i : Nat} {v : Int} (h : zct c i = some v) : (Cond.constant (zown c) i (Int32.ofInt v)) ∈ zT := by
  unfold zct at h
  match c, h with
  | 0, h => exact zcta_0 _ (z_lookup h)
  | 1, h => exact zcta_1 _ (z_lookup h)
  | 2, h => exact zcta_2 _ (z_lookup h)
  | 3, h => exact zcta_3 _ (z_lookup h)
  | 4, h => exact zcta_4 _ (z_lookup h)
  | 5, h => exact zcta_5 _ (z_lookup h)
  | c + 6, h => simp [zctT] at h
theorem zcLa_0 : ∀ e ∈ zcL0, (Cond.constantLong (zown 0) e.1 (Int64.ofInt e.2)) ∈ zT := fun _ h => absurd h List.not_mem_nil
theorem zcLa_1 : ∀ e ∈ zcL1, (Cond.constantLong (zown 1) e.1 (Int64.ofInt e.2)) ∈ zT := fun _ h => absurd h List.not_mem_nil
theorem zcL_2_200 : (Cond.constantLong (zown 2) 200 (Int64.ofInt (1000000001))) ∈ zT := zw_505
theorem zcLa_2 : ∀ e ∈ zcL2, (Cond.constantLong (zown 2) e.1 (Int64.ofInt e.2)) ∈ zT := List.forall_mem_cons.mpr ⟨zcL_2_200, fun _ h => absurd h List.not_mem_nil⟩
theorem zcL_3_201 : (Cond.constantLong (zown 3) 201 (Int64.ofInt (1000000001))) ∈ zT := zw_1054
theorem zcLa_3 : ∀ e ∈ zcL3, (Cond.constantLong (zown 3) e.1 (Int64.ofInt e.2)) ∈ zT := List.forall_mem_cons.mpr ⟨zcL_3_201, fun _ h => absurd h List.not_mem_nil⟩
theorem zcLa_4 : ∀ e ∈ zcL4, (Cond.constantLong (zown 4) e.1 (Int64.ofInt e.2)) ∈ zT := fun _ h => absurd h List.not_mem_nil
theorem zcLa_5 : ∀ e ∈ zcL5, (Cond.constantLong (zown 5) e.1 (Int64.ofInt e.2)) ∈ zT := fun _ h => absurd h List.not_mem_nil
theorem zcL_ok {c i : Nat} {v : Int} (h : zcL c i = some v) : (Cond.constantLong (zown c) i (Int64.ofInt v)) ∈ zT := by
  unfold zcL at h
  match c, h with
  | 0, h => exact zcLa_0 _ (z_lookup h)
  | 1, h => exact zcLa_1 _ (z_lookup h)
  | 2, h => exact zcLa_2 _ (z_lookup h)
  | 3, h => exact zcLa_3 _ (z_lookup h)
  | 4, h => exact zcLa_4 _ (z_lookup h)
  | 5, h => exact zcLa_5 _ (z_lookup h)
  | c + 6, h => simp [zcLT] at h
theorem zly_0 : ∀ w ∈ u_ws RX0 TX0 8, w ∈ zT := by
  have h : GoodIn lw_tbl (u_ws RX0 TX0 8) := fun w hw => by
    have e : u_ws RX0 TX0 8 = [92, 94, 96, 98, 100, 102, 104, 106].filterMap (fun i => lw_tbl[i]?) := by decide +kernel
    have h1 := List.all_eq_true.mp (by decide +kernel : (u_ws RX0 TX0 8).all goodWord = true) w hw
    rw [e] at hw
    obtain ⟨i, -, hi⟩ := List.mem_filterMap.mp hw
    exact ⟨List.mem_of_getElem? hi, good_of_word h1⟩
  intro w hw
  exact List.mem_filter.mpr ⟨(h w hw).1, List.all_eq_true.mp (by decide +kernel : (u_ws RX0 TX0 8).all goodWord = true) w hw⟩
theorem zly_1 : ∀ w ∈ u_ws RX1 TX1 6, w ∈ zT := by
  have h : GoodIn lw_tbl (u_ws RX1 TX1 6) := fun w hw => by
    have e : u_ws RX1 TX1 6 = [129, 131, 133, 135, 137, 139].filterMap (fun i => lw_tbl[i]?) := by decide +kernel
    have h1 := List.all_eq_true.mp (by decide +kernel : (u_ws RX1 TX1 6).all goodWord = true) w hw
    rw [e] at hw
    obtain ⟨i, -, hi⟩ := List.mem_filterMap.mp hw
    exact ⟨List.mem_of_getElem? hi, good_of_word h1⟩
  intro w hw
  exact List.mem_filter.mpr ⟨(h w hw).1, List.all_eq_true.mp (by decide +kernel : (u_ws RX1 TX1 6).all goodWord = true) w hw⟩
theorem zly_2 : ∀ w ∈ u_ws RX2 TX2 8, w ∈ zT := by
  have h : GoodIn lw_tbl (u_ws RX2 TX2 8) := fun w hw => by
    have e : u_ws RX2 TX2 8 = [151, 153, 155, 157, 159, 161, 163, 165].filterMap (fun i => lw_tbl[i]?) := by decide +kernel
    have h1 := List.all_eq_true.mp (by decide +kernel : (u_ws RX2 TX2 8).all goodWord = true) w hw
    rw [e] at hw
    obtain ⟨i, -, hi⟩ := List.mem_filterMap.mp hw
    exact ⟨List.mem_of_getElem? hi, good_of_word h1⟩
  intro w hw
  exact List.mem_filter.mpr ⟨(h w hw).1, List.all_eq_true.mp (by decide +kernel : (u_ws RX2 TX2 8).all goodWord = true) w hw⟩
theorem zly_3 : ∀ w ∈ u_ws RX3 TX3 21, w ∈ zT := by
  have h : GoodIn lw_tbl (u_ws RX3 TX3 21) := fun w hw => by
    have e : u_ws RX3 TX3 21 = [778, 780, 782, 784, 786, 788, 790, 792, 794, 796, 798, 800, 802, 804, 806, 808, 810, 812, 814, 816, 818].filterMap (fun i => lw_tbl[i]?) := by decide +kernel
    have h1 := List.all_eq_true.mp (by decide +kernel : (u_ws RX3 TX3 21).all goodWord = true) w hw
    rw [e] at hw
    obtain ⟨i, -, hi⟩ := List.mem_filterMap.mp hw
    exact ⟨List.mem_of_getElem? hi, good_of_word h1⟩
  intro w hw
  exact List.mem_filter.mpr ⟨(h w hw).1, List.all_eq_true.mp (by decide +kernel : (u_ws RX3 TX3 21).all goodWord = true) w hw⟩
theorem zsys : (Cond.native arraycopyName) ∈ zT ∧ (Cond.static arraycopyName) ∈ zT ∧ (Cond.initialized "java/lang/System") ∈ zT := ⟨zw_196, zw_195, zw_53⟩
theorem zmmax : (Cond.static Lib.Math.max.name) ∈ zT ∧ (Cond.initialized "java/lang/Math") ∈ zT ∧ (Cond.code Lib.Math.max.name Lib.Math.max.code 2 (some .int)) ∈ zT := ⟨zw_232, zw_54, zT_at 233 (by decide +kernel) (by decide +kernel)⟩
theorem zmmin : (Cond.static Lib.Math.min.name) ∈ zT ∧ (Cond.initialized "java/lang/Math") ∈ zT ∧ (Cond.code Lib.Math.min.name Lib.Math.min.code 2 (some .int)) ∈ zT := ⟨zw_271, zw_54, zT_at 272 (by decide +kernel) (by decide +kernel)⟩
