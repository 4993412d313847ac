/-! words of the tables by their places; numbers -/
abbrev nX0_init : MN := (yX0_init, cX0_init, 2, none)
abbrev nX0_done : MN := (yX0_done, cX0_done, 1, (some (FieldType.int)))
theorem vX0_done : Yv nX0_done 0 := ⟨(tb_mem (List.mem_of_getElem? (i := 1150) (by decide +kernel)) (by decide +kernel)), (tb_mem (List.mem_of_getElem? (i := 1151) (by decide +kernel)) (by decide +kernel)), (tb_mem (List.mem_of_getElem? (i := 97) (by decide +kernel)) (by decide +kernel)), (tb_mem (List.mem_of_getElem? (i := 1152) (by decide +kernel)) (by decide +kernel)), ⟨by decide +kernel, by decide +kernel, by decide +kernel⟩⟩
abbrev nX0_undone : MN := (yX0_undone, cX0_undone, 1, (some (FieldType.int)))
theorem vX0_undone : Yv nX0_undone 0 := ⟨(tb_mem (List.mem_of_getElem? (i := 1162) (by decide +kernel)) (by decide +kernel)), (tb_mem (List.mem_of_getElem? (i := 1163) (by decide +kernel)) (by decide +kernel)), (tb_mem (List.mem_of_getElem? (i := 97) (by decide +kernel)) (by decide +kernel)), (tb_mem (List.mem_of_getElem? (i := 1164) (by decide +kernel)) (by decide +kernel)), ⟨by decide +kernel, by decide +kernel, by decide +kernel⟩⟩
abbrev nX0_tell : MN := (yX0_tell, cX0_tell, 5, none)
theorem vX0_tell : Yv nX0_tell 3 := ⟨(tb_mem (List.mem_of_getElem? (i := 510) (by decide +kernel)) (by decide +kernel)), (tb_mem (List.mem_of_getElem? (i := 511) (by decide +kernel)) (by decide +kernel)), (tb_mem (List.mem_of_getElem? (i := 97) (by decide +kernel)) (by decide +kernel)), (tb_mem (List.mem_of_getElem? (i := 512) (by decide +kernel)) (by decide +kernel)), ⟨by decide +kernel, by decide +kernel, by decide +kernel⟩⟩
abbrev nX0_forgetOldest : MN := (yX0_forgetOldest, cX0_forgetOldest, 2, none)
theorem vX0_forgetOldest : Yv nX0_forgetOldest 0 := ⟨(tb_mem (List.mem_of_getElem? (i := 516) (by decide +kernel)) (by decide +kernel)), (tb_mem (List.mem_of_getElem? (i := 1) (by decide +kernel)) (by decide +kernel)), (tb_mem (List.mem_of_getElem? (i := 97) (by decide +kernel)) (by decide +kernel)), (tb_mem (List.mem_of_getElem? (i := 517) (by decide +kernel)) (by decide +kernel)), ⟨by decide +kernel, by decide +kernel, by decide +kernel⟩⟩
abbrev nX0_takeBack : MN := (yX0_takeBack, cX0_takeBack, 1, (some (FieldType.boolean)))
theorem vX0_takeBack : Yv nX0_takeBack 0 := ⟨(tb_mem (List.mem_of_getElem? (i := 1146) (by decide +kernel)) (by decide +kernel)), (tb_mem (List.mem_of_getElem? (i := 1147) (by decide +kernel)) (by decide +kernel)), (tb_mem (List.mem_of_getElem? (i := 97) (by decide +kernel)) (by decide +kernel)), (tb_mem (List.mem_of_getElem? (i := 1148) (by decide +kernel)) (by decide +kernel)), ⟨by decide +kernel, by decide +kernel, by decide +kernel⟩⟩
abbrev nX0_doAgain : MN := (yX0_doAgain, cX0_doAgain, 1, (some (FieldType.boolean)))
theorem vX0_doAgain : Yv nX0_doAgain 0 := ⟨(tb_mem (List.mem_of_getElem? (i := 1158) (by decide +kernel)) (by decide +kernel)), (tb_mem (List.mem_of_getElem? (i := 1159) (by decide +kernel)) (by decide +kernel)), (tb_mem (List.mem_of_getElem? (i := 97) (by decide +kernel)) (by decide +kernel)), (tb_mem (List.mem_of_getElem? (i := 1160) (by decide +kernel)) (by decide +kernel)), ⟨by decide +kernel, by decide +kernel, by decide +kernel⟩⟩
abbrev nX1_init : MN := (yX1_init, cX1_init, 1, none)
abbrev nX1_told : MN := (yX1_told, cX1_told, 3, (some (FieldType.int)))
theorem vX1_told : Yv nX1_told 2 := ⟨(tb_mem (List.mem_of_getElem? (i := 528) (by decide +kernel)) (by decide +kernel)), (tb_mem (List.mem_of_getElem? (i := 529) (by decide +kernel)) (by decide +kernel)), (tb_mem (List.mem_of_getElem? (i := 104) (by decide +kernel)) (by decide +kernel)), (tb_mem (List.mem_of_getElem? (i := 530) (by decide +kernel)) (by decide +kernel)), ⟨by decide +kernel, by decide +kernel, by decide +kernel⟩⟩
abbrev nX1_inAll : MN := (yX1_inAll, cX1_inAll, 2, (some (FieldType.int)))
theorem vX1_inAll : Yv nX1_inAll 1 := ⟨(tb_mem (List.mem_of_getElem? (i := 1117) (by decide +kernel)) (by decide +kernel)), (tb_mem (List.mem_of_getElem? (i := 1118) (by decide +kernel)) (by decide +kernel)), (tb_mem (List.mem_of_getElem? (i := 104) (by decide +kernel)) (by decide +kernel)), (tb_mem (List.mem_of_getElem? (i := 1119) (by decide +kernel)) (by decide +kernel)), ⟨by decide +kernel, by decide +kernel, by decide +kernel⟩⟩
abbrev nX1_swum : MN := (yX1_swum, cX1_swum, 7, none)
theorem vX1_swum : Yv nX1_swum 4 := ⟨(tb_mem (List.mem_of_getElem? (i := 1099) (by decide +kernel)) (by decide +kernel)), (tb_mem (List.mem_of_getElem? (i := 1100) (by decide +kernel)) (by decide +kernel)), (tb_mem (List.mem_of_getElem? (i := 104) (by decide +kernel)) (by decide +kernel)), (tb_mem (List.mem_of_getElem? (i := 1101) (by decide +kernel)) (by decide +kernel)), ⟨by decide +kernel, by decide +kernel, by decide +kernel⟩⟩
abbrev nX1_tire : MN := (yX1_tire, cX1_tire, 3, none)
theorem vX1_tire : Yv nX1_tire 2 := ⟨(tb_mem (List.mem_of_getElem? (i := 1109) (by decide +kernel)) (by decide +kernel)), (tb_mem (List.mem_of_getElem? (i := 38) (by decide +kernel)) (by decide +kernel)), (tb_mem (List.mem_of_getElem? (i := 104) (by decide +kernel)) (by decide +kernel)), (tb_mem (List.mem_of_getElem? (i := 1110) (by decide +kernel)) (by decide +kernel)), ⟨by decide +kernel, by decide +kernel, by decide +kernel⟩⟩
abbrev nX1_hasImage : MN := (yX1_hasImage, cX1_hasImage, 1, (some (FieldType.boolean)))
theorem vX1_hasImage : Yv nX1_hasImage 0 := ⟨(tb_mem (List.mem_of_getElem? (i := 1134) (by decide +kernel)) (by decide +kernel)), (tb_mem (List.mem_of_getElem? (i := 1135) (by decide +kernel)) (by decide +kernel)), (tb_mem (List.mem_of_getElem? (i := 104) (by decide +kernel)) (by decide +kernel)), (tb_mem (List.mem_of_getElem? (i := 1136) (by decide +kernel)) (by decide +kernel)), ⟨by decide +kernel, by decide +kernel, by decide +kernel⟩⟩
abbrev nX1_keepImage : MN := (yX1_keepImage, cX1_keepImage, 1, none)
theorem vX1_keepImage : Yv nX1_keepImage 0 := ⟨(tb_mem (List.mem_of_getElem? (i := 1125) (by decide +kernel)) (by decide +kernel)), (tb_mem (List.mem_of_getElem? (i := 1126) (by decide +kernel)) (by decide +kernel)), (tb_mem (List.mem_of_getElem? (i := 104) (by decide +kernel)) (by decide +kernel)), (tb_mem (List.mem_of_getElem? (i := 1127) (by decide +kernel)) (by decide +kernel)), ⟨by decide +kernel, by decide +kernel, by decide +kernel⟩⟩
abbrev nX1_layBack : MN := (yX1_layBack, cX1_layBack, 1, none)
theorem vX1_layBack : Yv nX1_layBack 0 := ⟨(tb_mem (List.mem_of_getElem? (i := 1138) (by decide +kernel)) (by decide +kernel)), (tb_mem (List.mem_of_getElem? (i := 1139) (by decide +kernel)) (by decide +kernel)), (tb_mem (List.mem_of_getElem? (i := 104) (by decide +kernel)) (by decide +kernel)), (tb_mem (List.mem_of_getElem? (i := 1140) (by decide +kernel)) (by decide +kernel)), ⟨by decide +kernel, by decide +kernel, by decide +kernel⟩⟩
abbrev nX2_init : MN := (yX2_init, cX2_init, 1, none)
abbrev nX2_chooseGasps : MN := (yX2_chooseGasps, cX2_chooseGasps, 4, none)
theorem vX2_chooseGasps : Yv nX2_chooseGasps 3 := ⟨(tb_mem (List.mem_of_getElem? (i := 888) (by decide +kernel)) (by decide +kernel)), (tb_mem (List.mem_of_getElem? (i := 889) (by decide +kernel)) (by decide +kernel)), (tb_mem (List.mem_of_getElem? (i := 102) (by decide +kernel)) (by decide +kernel)), (tb_mem (List.mem_of_getElem? (i := 890) (by decide +kernel)) (by decide +kernel)), ⟨by decide +kernel, by decide +kernel, by decide +kernel⟩⟩
abbrev nX2_chooseLooks : MN := (yX2_chooseLooks, cX2_chooseLooks, 4, none)
theorem vX2_chooseLooks : Yv nX2_chooseLooks 2 := ⟨(tb_mem (List.mem_of_getElem? (i := 929) (by decide +kernel)) (by decide +kernel)), (tb_mem (List.mem_of_getElem? (i := 930) (by decide +kernel)) (by decide +kernel)), (tb_mem (List.mem_of_getElem? (i := 102) (by decide +kernel)) (by decide +kernel)), (tb_mem (List.mem_of_getElem? (i := 931) (by decide +kernel)) (by decide +kernel)), ⟨by decide +kernel, by decide +kernel, by decide +kernel⟩⟩
abbrev nX2_answer : MN := (yX2_answer, cX2_answer, 2, (some (FieldType.int)))
theorem vX2_answer : Yv nX2_answer 1 := ⟨(tb_mem (List.mem_of_getElem? (i := 921) (by decide +kernel)) (by decide +kernel)), (tb_mem (List.mem_of_getElem? (i := 922) (by decide +kernel)) (by decide +kernel)), (tb_mem (List.mem_of_getElem? (i := 102) (by decide +kernel)) (by decide +kernel)), (tb_mem (List.mem_of_getElem? (i := 923) (by decide +kernel)) (by decide +kernel)), ⟨by decide +kernel, by decide +kernel, by decide +kernel⟩⟩
abbrev nX2_choose : MN := (yX2_choose, cX2_choose, 9, none)
theorem vX2_choose : Yv nX2_choose 3 := ⟨(tb_mem (List.mem_of_getElem? (i := 893) (by decide +kernel)) (by decide +kernel)), (tb_mem (List.mem_of_getElem? (i := 20) (by decide +kernel)) (by decide +kernel)), (tb_mem (List.mem_of_getElem? (i := 102) (by decide +kernel)) (by decide +kernel)), (tb_mem (List.mem_of_getElem? (i := 894) (by decide +kernel)) (by decide +kernel)), ⟨by decide +kernel, by decide +kernel, by decide +kernel⟩⟩
abbrev nX2_walk : MN := (yX2_walk, cX2_walk, 9, none)
theorem vX2_walk : Yv nX2_walk 4 := ⟨(tb_mem (List.mem_of_getElem? (i := 918) (by decide +kernel)) (by decide +kernel)), (tb_mem (List.mem_of_getElem? (i := 25) (by decide +kernel)) (by decide +kernel)), (tb_mem (List.mem_of_getElem? (i := 102) (by decide +kernel)) (by decide +kernel)), (tb_mem (List.mem_of_getElem? (i := 919) (by decide +kernel)) (by decide +kernel)), ⟨by decide +kernel, by decide +kernel, by decide +kernel⟩⟩
abbrev nX2_from : MN := (yX2_from, cX2_from, 3, (some (FieldType.int)))
theorem vX2_from : Yv nX2_from 2 := ⟨(tb_mem (List.mem_of_getElem? (i := 914) (by decide +kernel)) (by decide +kernel)), (tb_mem (List.mem_of_getElem? (i := 24) (by decide +kernel)) (by decide +kernel)), (tb_mem (List.mem_of_getElem? (i := 102) (by decide +kernel)) (by decide +kernel)), (tb_mem (List.mem_of_getElem? (i := 915) (by decide +kernel)) (by decide +kernel)), ⟨by decide +kernel, by decide +kernel, by decide +kernel⟩⟩
abbrev nX2_after : MN := (yX2_after, cX2_after, 3, (some (FieldType.int)))
theorem vX2_after : Yv nX2_after 2 := ⟨(tb_mem (List.mem_of_getElem? (i := 900) (by decide +kernel)) (by decide +kernel)), (tb_mem (List.mem_of_getElem? (i := 21) (by decide +kernel)) (by decide +kernel)), (tb_mem (List.mem_of_getElem? (i := 102) (by decide +kernel)) (by decide +kernel)), (tb_mem (List.mem_of_getElem? (i := 901) (by decide +kernel)) (by decide +kernel)), ⟨by decide +kernel, by decide +kernel, by decide +kernel⟩⟩
abbrev nX2_afterLooking : MN := (yX2_afterLooking, cX2_afterLooking, 4, (some (FieldType.int)))
theorem vX2_afterLooking : Yv nX2_afterLooking 2 := ⟨(tb_mem (List.mem_of_getElem? (i := 904) (by decide +kernel)) (by decide +kernel)), (tb_mem (List.mem_of_getElem? (i := 22) (by decide +kernel)) (by decide +kernel)), (tb_mem (List.mem_of_getElem? (i := 102) (by decide +kernel)) (by decide +kernel)), (tb_mem (List.mem_of_getElem? (i := 905) (by decide +kernel)) (by decide +kernel)), ⟨by decide +kernel, by decide +kernel, by decide +kernel⟩⟩
abbrev nX2_afterBreathing : MN := (yX2_afterBreathing, cX2_afterBreathing, 5, (some (FieldType.int)))
theorem vX2_afterBreathing : Yv nX2_afterBreathing 2 := ⟨(tb_mem (List.mem_of_getElem? (i := 908) (by decide +kernel)) (by decide +kernel)), (tb_mem (List.mem_of_getElem? (i := 23) (by decide +kernel)) (by decide +kernel)), (tb_mem (List.mem_of_getElem? (i := 102) (by decide +kernel)) (by decide +kernel)), (tb_mem (List.mem_of_getElem? (i := 909) (by decide +kernel)) (by decide +kernel)), ⟨by decide +kernel, by decide +kernel, by decide +kernel⟩⟩
abbrev nX3_init : MN := (yX3_init, cX3_init, 2, none)
abbrev nX3_lineUp : MN := (yX3_lineUp, cX3_lineUp, 6, (some (FieldType.int)))
theorem vX3_lineUp : Yv nX3_lineUp 1 := ⟨(tb_mem (List.mem_of_getElem? (i := 974) (by decide +kernel)) (by decide +kernel)), (tb_mem (List.mem_of_getElem? (i := 975) (by decide +kernel)) (by decide +kernel)), (tb_mem (List.mem_of_getElem? (i := 103) (by decide +kernel)) (by decide +kernel)), (tb_mem (List.mem_of_getElem? (i := 976) (by decide +kernel)) (by decide +kernel)), ⟨by decide +kernel, by decide +kernel, by decide +kernel⟩⟩
abbrev nX3_inLine : MN := (yX3_inLine, cX3_inLine, 2, (some (FieldType.int)))
theorem vX3_inLine : Yv nX3_inLine 1 := ⟨(tb_mem (List.mem_of_getElem? (i := 999) (by decide +kernel)) (by decide +kernel)), (tb_mem (List.mem_of_getElem? (i := 1000) (by decide +kernel)) (by decide +kernel)), (tb_mem (List.mem_of_getElem? (i := 103) (by decide +kernel)) (by decide +kernel)), (tb_mem (List.mem_of_getElem? (i := 1001) (by decide +kernel)) (by decide +kernel)), ⟨by decide +kernel, by decide +kernel, by decide +kernel⟩⟩
abbrev nX3_spread : MN := (yX3_spread, cX3_spread, 7, (some (FieldType.int)))
theorem vX3_spread : Yv nX3_spread 2 := ⟨(tb_mem (List.mem_of_getElem? (i := 981) (by decide +kernel)) (by decide +kernel)), (tb_mem (List.mem_of_getElem? (i := 27) (by decide +kernel)) (by decide +kernel)), (tb_mem (List.mem_of_getElem? (i := 103) (by decide +kernel)) (by decide +kernel)), (tb_mem (List.mem_of_getElem? (i := 982) (by decide +kernel)) (by decide +kernel)), ⟨by decide +kernel, by decide +kernel, by decide +kernel⟩⟩
abbrev nX3_nextOrder : MN := (yX3_nextOrder, cX3_nextOrder, 6, (some (FieldType.boolean)))
theorem vX3_nextOrder : Yv nX3_nextOrder 1 := ⟨(tb_mem (List.mem_of_getElem? (i := 992) (by decide +kernel)) (by decide +kernel)), (tb_mem (List.mem_of_getElem? (i := 29) (by decide +kernel)) (by decide +kernel)), (tb_mem (List.mem_of_getElem? (i := 103) (by decide +kernel)) (by decide +kernel)), (tb_mem (List.mem_of_getElem? (i := 993) (by decide +kernel)) (by decide +kernel)), ⟨by decide +kernel, by decide +kernel, by decide +kernel⟩⟩
abbrev nX3_swap : MN := (yX3_swap, cX3_swap, 4, none)
theorem vX3_swap : Yv nX3_swap 2 := ⟨(tb_mem (List.mem_of_getElem? (i := 996) (by decide +kernel)) (by decide +kernel)), (tb_mem (List.mem_of_getElem? (i := 30) (by decide +kernel)) (by decide +kernel)), (tb_mem (List.mem_of_getElem? (i := 103) (by decide +kernel)) (by decide +kernel)), (tb_mem (List.mem_of_getElem? (i := 997) (by decide +kernel)) (by decide +kernel)), ⟨by decide +kernel, by decide +kernel, by decide +kernel⟩⟩
abbrev nX3_tall : MN := (yX3_tall, cX3_tall, 2, (some (FieldType.int)))
theorem vX3_tall : Yv nX3_tall 1 := ⟨(tb_mem (List.mem_of_getElem? (i := 985) (by decide +kernel)) (by decide +kernel)), (tb_mem (List.mem_of_getElem? (i := 28) (by decide +kernel)) (by decide +kernel)), (tb_mem (List.mem_of_getElem? (i := 103) (by decide +kernel)) (by decide +kernel)), (tb_mem (List.mem_of_getElem? (i := 986) (by decide +kernel)) (by decide +kernel)), ⟨by decide +kernel, by decide +kernel, by decide +kernel⟩⟩
abbrev nX3_lifted : MN := (yX3_lifted, cX3_lifted, 9, (some (FieldType.int)))
theorem vX3_lifted : Yv nX3_lifted 1 := ⟨(tb_mem (List.mem_of_getElem? (i := 1007) (by decide +kernel)) (by decide +kernel)), (tb_mem (List.mem_of_getElem? (i := 1008) (by decide +kernel)) (by decide +kernel)), (tb_mem (List.mem_of_getElem? (i := 103) (by decide +kernel)) (by decide +kernel)), (tb_mem (List.mem_of_getElem? (i := 1009) (by decide +kernel)) (by decide +kernel)), ⟨by decide +kernel, by decide +kernel, by decide +kernel⟩⟩
abbrev nX3_tallTogether : MN := (yX3_tallTogether, cX3_tallTogether, 4, (some (FieldType.int)))
theorem vX3_tallTogether : Yv nX3_tallTogether 1 := ⟨(tb_mem (List.mem_of_getElem? (i := 1012) (by decide +kernel)) (by decide +kernel)), (tb_mem (List.mem_of_getElem? (i := 31) (by decide +kernel)) (by decide +kernel)), (tb_mem (List.mem_of_getElem? (i := 103) (by decide +kernel)) (by decide +kernel)), (tb_mem (List.mem_of_getElem? (i := 1013) (by decide +kernel)) (by decide +kernel)), ⟨by decide +kernel, by decide +kernel, by decide +kernel⟩⟩
abbrev nX3_starSize : MN := (yX3_starSize, cX3_starSize, 1, (some (FieldType.int)))
theorem vX3_starSize : Yv nX3_starSize 0 := ⟨(tb_mem (List.mem_of_getElem? (i := 1025) (by decide +kernel)) (by decide +kernel)), (tb_mem (List.mem_of_getElem? (i := 1026) (by decide +kernel)) (by decide +kernel)), (tb_mem (List.mem_of_getElem? (i := 103) (by decide +kernel)) (by decide +kernel)), (tb_mem (List.mem_of_getElem? (i := 1027) (by decide +kernel)) (by decide +kernel)), ⟨by decide +kernel, by decide +kernel, by decide +kernel⟩⟩
abbrev nX3_reach : MN := (yX3_reach, cX3_reach, 5, (some (FieldType.int)))
theorem vX3_reach : Yv nX3_reach 1 := ⟨(tb_mem (List.mem_of_getElem? (i := 1030) (by decide +kernel)) (by decide +kernel)), (tb_mem (List.mem_of_getElem? (i := 32) (by decide +kernel)) (by decide +kernel)), (tb_mem (List.mem_of_getElem? (i := 103) (by decide +kernel)) (by decide +kernel)), (tb_mem (List.mem_of_getElem? (i := 1031) (by decide +kernel)) (by decide +kernel)), ⟨by decide +kernel, by decide +kernel, by decide +kernel⟩⟩
abbrev nX3_onOneCell : MN := (yX3_onOneCell, cX3_onOneCell, 4, (some (FieldType.int)))
theorem vX3_onOneCell : Yv nX3_onOneCell 0 := ⟨(tb_mem (List.mem_of_getElem? (i := 1033) (by decide +kernel)) (by decide +kernel)), (tb_mem (List.mem_of_getElem? (i := 1034) (by decide +kernel)) (by decide +kernel)), (tb_mem (List.mem_of_getElem? (i := 103) (by decide +kernel)) (by decide +kernel)), (tb_mem (List.mem_of_getElem? (i := 1035) (by decide +kernel)) (by decide +kernel)), ⟨by decide +kernel, by decide +kernel, by decide +kernel⟩⟩
abbrev nX3_isMirror : MN := (yX3_isMirror, cX3_isMirror, 2, (some (FieldType.boolean)))
theorem vX3_isMirror : Yv nX3_isMirror 0 := ⟨(tb_mem (List.mem_of_getElem? (i := 1041) (by decide +kernel)) (by decide +kernel)), (tb_mem (List.mem_of_getElem? (i := 1042) (by decide +kernel)) (by decide +kernel)), (tb_mem (List.mem_of_getElem? (i := 103) (by decide +kernel)) (by decide +kernel)), (tb_mem (List.mem_of_getElem? (i := 1043) (by decide +kernel)) (by decide +kernel)), ⟨by decide +kernel, by decide +kernel, by decide +kernel⟩⟩
abbrev nX3_isAnybodyAt : MN := (yX3_isAnybodyAt, cX3_isAnybodyAt, 4, (some (FieldType.boolean)))
theorem vX3_isAnybodyAt : Yv nX3_isAnybodyAt 2 := ⟨(tb_mem (List.mem_of_getElem? (i := 1046) (by decide +kernel)) (by decide +kernel)), (tb_mem (List.mem_of_getElem? (i := 34) (by decide +kernel)) (by decide +kernel)), (tb_mem (List.mem_of_getElem? (i := 103) (by decide +kernel)) (by decide +kernel)), (tb_mem (List.mem_of_getElem? (i := 1047) (by decide +kernel)) (by decide +kernel)), ⟨by decide +kernel, by decide +kernel, by decide +kernel⟩⟩
abbrev nX3_isAt : MN := (yX3_isAt, cX3_isAt, 4, (some (FieldType.boolean)))
theorem vX3_isAt : Yv nX3_isAt 3 := ⟨(tb_mem (List.mem_of_getElem? (i := 1038) (by decide +kernel)) (by decide +kernel)), (tb_mem (List.mem_of_getElem? (i := 33) (by decide +kernel)) (by decide +kernel)), (tb_mem (List.mem_of_getElem? (i := 103) (by decide +kernel)) (by decide +kernel)), (tb_mem (List.mem_of_getElem? (i := 1039) (by decide +kernel)) (by decide +kernel)), ⟨by decide +kernel, by decide +kernel, by decide +kernel⟩⟩
abbrev nX4_init : MN := (yX4_init, cX4_init, 1, none)
abbrev nX4_become : MN := (yX4_become, cX4_become, 3, none)
theorem vX4_become : Yv nX4_become 2 := ⟨(tb_mem (List.mem_of_getElem? (i := 687) (by decide +kernel)) (by decide +kernel)), (tb_mem (List.mem_of_getElem? (i := 688) (by decide +kernel)) (by decide +kernel)), (tb_mem (List.mem_of_getElem? (i := 99) (by decide +kernel)) (by decide +kernel)), (tb_mem (List.mem_of_getElem? (i := 689) (by decide +kernel)) (by decide +kernel)), ⟨by decide +kernel, by decide +kernel, by decide +kernel⟩⟩
abbrev nX4_marks : MN := (yX4_marks, cX4_marks, 7, (some (FieldType.int)))
theorem vX4_marks : Yv nX4_marks 6 := ⟨(tb_mem (List.mem_of_getElem? (i := 733) (by decide +kernel)) (by decide +kernel)), (tb_mem (List.mem_of_getElem? (i := 734) (by decide +kernel)) (by decide +kernel)), (tb_mem (List.mem_of_getElem? (i := 99) (by decide +kernel)) (by decide +kernel)), (tb_mem (List.mem_of_getElem? (i := 735) (by decide +kernel)) (by decide +kernel)), ⟨by decide +kernel, by decide +kernel, by decide +kernel⟩⟩
abbrev nX4_byRote : MN := (yX4_byRote, cX4_byRote, 4, (some (FieldType.int)))
theorem vX4_byRote : Ys nX4_byRote 3 := ⟨(tb_mem (List.mem_of_getElem? (i := 737) (by decide +kernel)) (by decide +kernel)), (tb_mem (List.mem_of_getElem? (i := 99) (by decide +kernel)) (by decide +kernel)), (tb_mem (List.mem_of_getElem? (i := 738) (by decide +kernel)) (by decide +kernel)), ⟨by decide +kernel, by decide +kernel, by decide +kernel⟩⟩
abbrev nX4_byText : MN := (yX4_byText, cX4_byText, 4, (some (FieldType.int)))
theorem vX4_byText : Yv nX4_byText 0 := ⟨(tb_mem (List.mem_of_getElem? (i := 741) (by decide +kernel)) (by decide +kernel)), (tb_mem (List.mem_of_getElem? (i := 11) (by decide +kernel)) (by decide +kernel)), (tb_mem (List.mem_of_getElem? (i := 99) (by decide +kernel)) (by decide +kernel)), (tb_mem (List.mem_of_getElem? (i := 742) (by decide +kernel)) (by decide +kernel)), ⟨by decide +kernel, by decide +kernel, by decide +kernel⟩⟩
abbrev nX4_worth : MN := (yX4_worth, cX4_worth, 3, (some (FieldType.int)))
theorem vX4_worth : Yv nX4_worth 1 := ⟨(tb_mem (List.mem_of_getElem? (i := 749) (by decide +kernel)) (by decide +kernel)), (tb_mem (List.mem_of_getElem? (i := 13) (by decide +kernel)) (by decide +kernel)), (tb_mem (List.mem_of_getElem? (i := 99) (by decide +kernel)) (by decide +kernel)), (tb_mem (List.mem_of_getElem? (i := 750) (by decide +kernel)) (by decide +kernel)), ⟨by decide +kernel, by decide +kernel, by decide +kernel⟩⟩
abbrev nX4_joined : MN := (yX4_joined, cX4_joined, 3, (some (FieldType.int)))
theorem vX4_joined : Ys nX4_joined 3 := ⟨(tb_mem (List.mem_of_getElem? (i := 752) (by decide +kernel)) (by decide +kernel)), (tb_mem (List.mem_of_getElem? (i := 99) (by decide +kernel)) (by decide +kernel)), (tb_mem (List.mem_of_getElem? (i := 753) (by decide +kernel)) (by decide +kernel)), ⟨by decide +kernel, by decide +kernel, by decide +kernel⟩⟩
abbrev nX4_push : MN := (yX4_push, cX4_push, 2, none)
theorem vX4_push : Yv nX4_push 1 := ⟨(tb_mem (List.mem_of_getElem? (i := 756) (by decide +kernel)) (by decide +kernel)), (tb_mem (List.mem_of_getElem? (i := 14) (by decide +kernel)) (by decide +kernel)), (tb_mem (List.mem_of_getElem? (i := 99) (by decide +kernel)) (by decide +kernel)), (tb_mem (List.mem_of_getElem? (i := 757) (by decide +kernel)) (by decide +kernel)), ⟨by decide +kernel, by decide +kernel, by decide +kernel⟩⟩
abbrev nX4_pop : MN := (yX4_pop, cX4_pop, 1, (some (FieldType.int)))
theorem vX4_pop : Yv nX4_pop 0 := ⟨(tb_mem (List.mem_of_getElem? (i := 745) (by decide +kernel)) (by decide +kernel)), (tb_mem (List.mem_of_getElem? (i := 12) (by decide +kernel)) (by decide +kernel)), (tb_mem (List.mem_of_getElem? (i := 99) (by decide +kernel)) (by decide +kernel)), (tb_mem (List.mem_of_getElem? (i := 746) (by decide +kernel)) (by decide +kernel)), ⟨by decide +kernel, by decide +kernel, by decide +kernel⟩⟩
abbrev nX5_init : MN := (yX5_init, cX5_init, 1, none)
abbrev nX5_allows : MN := (yX5_allows, cX5_allows, 2, (some (FieldType.boolean)))
theorem vX5_allows : Ys nX5_allows 2 := ⟨(tb_mem (List.mem_of_getElem? (i := 441) (by decide +kernel)) (by decide +kernel)), (tb_mem (List.mem_of_getElem? (i := 96) (by decide +kernel)) (by decide +kernel)), (tb_mem (List.mem_of_getElem? (i := 442) (by decide +kernel)) (by decide +kernel)), ⟨by decide +kernel, by decide +kernel, by decide +kernel⟩⟩
abbrev nX5_isSwimmer : MN := (yX5_isSwimmer, cX5_isSwimmer, 4, (some (FieldType.boolean)))
theorem vX5_isSwimmer : Ys nX5_isSwimmer 4 := ⟨(tb_mem (List.mem_of_getElem? (i := 438) (by decide +kernel)) (by decide +kernel)), (tb_mem (List.mem_of_getElem? (i := 96) (by decide +kernel)) (by decide +kernel)), (tb_mem (List.mem_of_getElem? (i := 439) (by decide +kernel)) (by decide +kernel)), ⟨by decide +kernel, by decide +kernel, by decide +kernel⟩⟩
abbrev nX5_many : MN := (yX5_many, cX5_many, 1, (some (FieldType.int)))
theorem vX5_many : Yv nX5_many 0 := ⟨(tb_mem (List.mem_of_getElem? (i := 712) (by decide +kernel)) (by decide +kernel)), (tb_mem (List.mem_of_getElem? (i := 713) (by decide +kernel)) (by decide +kernel)), (tb_mem (List.mem_of_getElem? (i := 96) (by decide +kernel)) (by decide +kernel)), (tb_mem (List.mem_of_getElem? (i := 714) (by decide +kernel)) (by decide +kernel)), ⟨by decide +kernel, by decide +kernel, by decide +kernel⟩⟩
abbrev nX5_isFull : MN := (yX5_isFull, cX5_isFull, 1, (some (FieldType.boolean)))
theorem vX5_isFull : Yv nX5_isFull 0 := ⟨(tb_mem (List.mem_of_getElem? (i := 448) (by decide +kernel)) (by decide +kernel)), (tb_mem (List.mem_of_getElem? (i := 449) (by decide +kernel)) (by decide +kernel)), (tb_mem (List.mem_of_getElem? (i := 96) (by decide +kernel)) (by decide +kernel)), (tb_mem (List.mem_of_getElem? (i := 450) (by decide +kernel)) (by decide +kernel)), ⟨by decide +kernel, by decide +kernel, by decide +kernel⟩⟩
abbrev nX5_has : MN := (yX5_has, cX5_has, 2, (some (FieldType.boolean)))
theorem vX5_has : Yv nX5_has 1 := ⟨(tb_mem (List.mem_of_getElem? (i := 524) (by decide +kernel)) (by decide +kernel)), (tb_mem (List.mem_of_getElem? (i := 525) (by decide +kernel)) (by decide +kernel)), (tb_mem (List.mem_of_getElem? (i := 96) (by decide +kernel)) (by decide +kernel)), (tb_mem (List.mem_of_getElem? (i := 526) (by decide +kernel)) (by decide +kernel)), ⟨by decide +kernel, by decide +kernel, by decide +kernel⟩⟩
abbrev nX5_keeps : MN := (yX5_keeps, cX5_keeps, 3, (some (FieldType.boolean)))
theorem vX5_keeps : Yv nX5_keeps 2 := ⟨(tb_mem (List.mem_of_getElem? (i := 461) (by decide +kernel)) (by decide +kernel)), (tb_mem (List.mem_of_getElem? (i := 462) (by decide +kernel)) (by decide +kernel)), (tb_mem (List.mem_of_getElem? (i := 96) (by decide +kernel)) (by decide +kernel)), (tb_mem (List.mem_of_getElem? (i := 463) (by decide +kernel)) (by decide +kernel)), ⟨by decide +kernel, by decide +kernel, by decide +kernel⟩⟩
abbrev nX5_told : MN := (yX5_told, cX5_told, 3, (some (FieldType.int)))
theorem vX5_told : Yv nX5_told 2 := ⟨(tb_mem (List.mem_of_getElem? (i := 506) (by decide +kernel)) (by decide +kernel)), (tb_mem (List.mem_of_getElem? (i := 507) (by decide +kernel)) (by decide +kernel)), (tb_mem (List.mem_of_getElem? (i := 96) (by decide +kernel)) (by decide +kernel)), (tb_mem (List.mem_of_getElem? (i := 508) (by decide +kernel)) (by decide +kernel)), ⟨by decide +kernel, by decide +kernel, by decide +kernel⟩⟩
abbrev nX5_tell : MN := (yX5_tell, cX5_tell, 4, none)
theorem vX5_tell : Yv nX5_tell 3 := ⟨(tb_mem (List.mem_of_getElem? (i := 457) (by decide +kernel)) (by decide +kernel)), (tb_mem (List.mem_of_getElem? (i := 458) (by decide +kernel)) (by decide +kernel)), (tb_mem (List.mem_of_getElem? (i := 96) (by decide +kernel)) (by decide +kernel)), (tb_mem (List.mem_of_getElem? (i := 459) (by decide +kernel)) (by decide +kernel)), ⟨by decide +kernel, by decide +kernel, by decide +kernel⟩⟩
abbrev nX5_join : MN := (yX5_join, cX5_join, 6, (some (FieldType.int)))
theorem vX5_join : Yv nX5_join 4 := ⟨(tb_mem (List.mem_of_getElem? (i := 452) (by decide +kernel)) (by decide +kernel)), (tb_mem (List.mem_of_getElem? (i := 453) (by decide +kernel)) (by decide +kernel)), (tb_mem (List.mem_of_getElem? (i := 96) (by decide +kernel)) (by decide +kernel)), (tb_mem (List.mem_of_getElem? (i := 454) (by decide +kernel)) (by decide +kernel)), ⟨by decide +kernel, by decide +kernel, by decide +kernel⟩⟩
abbrev nX5_joinFrom : MN := (yX5_joinFrom, cX5_joinFrom, 8, (some (FieldType.int)))
theorem vX5_joinFrom : Yv nX5_joinFrom 4 := ⟨(tb_mem (List.mem_of_getElem? (i := 489) (by decide +kernel)) (by decide +kernel)), (tb_mem (List.mem_of_getElem? (i := 490) (by decide +kernel)) (by decide +kernel)), (tb_mem (List.mem_of_getElem? (i := 96) (by decide +kernel)) (by decide +kernel)), (tb_mem (List.mem_of_getElem? (i := 491) (by decide +kernel)) (by decide +kernel)), ⟨by decide +kernel, by decide +kernel, by decide +kernel⟩⟩
abbrev nX5_joinFour : MN := (yX5_joinFour, cX5_joinFour, 7, (some (FieldType.boolean)))
theorem vX5_joinFour : Yv nX5_joinFour 2 := ⟨(tb_mem (List.mem_of_getElem? (i := 494) (by decide +kernel)) (by decide +kernel)), (tb_mem (List.mem_of_getElem? (i := 0) (by decide +kernel)) (by decide +kernel)), (tb_mem (List.mem_of_getElem? (i := 96) (by decide +kernel)) (by decide +kernel)), (tb_mem (List.mem_of_getElem? (i := 495) (by decide +kernel)) (by decide +kernel)), ⟨by decide +kernel, by decide +kernel, by decide +kernel⟩⟩
abbrev nX5_leastBreath : MN := (yX5_leastBreath, cX5_leastBreath, 3, (some (FieldType.int)))
theorem vX5_leastBreath : Yv nX5_leastBreath 0 := ⟨(tb_mem (List.mem_of_getElem? (i := 883) (by decide +kernel)) (by decide +kernel)), (tb_mem (List.mem_of_getElem? (i := 884) (by decide +kernel)) (by decide +kernel)), (tb_mem (List.mem_of_getElem? (i := 96) (by decide +kernel)) (by decide +kernel)), (tb_mem (List.mem_of_getElem? (i := 885) (by decide +kernel)) (by decide +kernel)), ⟨by decide +kernel, by decide +kernel, by decide +kernel⟩⟩
abbrev nX6_init : MN := (yX6_init, cX6_init, 1, none)
abbrev nX6_isAct : MN := (yX6_isAct, cX6_isAct, 2, (some (FieldType.boolean)))
theorem vX6_isAct : Ys nX6_isAct 1 := ⟨(tb_mem (List.mem_of_getElem? (i := 704) (by decide +kernel)) (by decide +kernel)), (tb_mem (List.mem_of_getElem? (i := 100) (by decide +kernel)) (by decide +kernel)), (tb_mem (List.mem_of_getElem? (i := 705) (by decide +kernel)) (by decide +kernel)), ⟨by decide +kernel, by decide +kernel, by decide +kernel⟩⟩
abbrev nX6_isUnder : MN := (yX6_isUnder, cX6_isUnder, 1, (some (FieldType.boolean)))
theorem vX6_isUnder : Ys nX6_isUnder 1 := ⟨(tb_mem (List.mem_of_getElem? (i := 862) (by decide +kernel)) (by decide +kernel)), (tb_mem (List.mem_of_getElem? (i := 100) (by decide +kernel)) (by decide +kernel)), (tb_mem (List.mem_of_getElem? (i := 863) (by decide +kernel)) (by decide +kernel)), ⟨by decide +kernel, by decide +kernel, by decide +kernel⟩⟩
abbrev nX6_take : MN := (yX6_take, cX6_take, 5, none)
theorem vX6_take : Yv nX6_take 2 := ⟨(tb_mem (List.mem_of_getElem? (i := 768) (by decide +kernel)) (by decide +kernel)), (tb_mem (List.mem_of_getElem? (i := 769) (by decide +kernel)) (by decide +kernel)), (tb_mem (List.mem_of_getElem? (i := 100) (by decide +kernel)) (by decide +kernel)), (tb_mem (List.mem_of_getElem? (i := 770) (by decide +kernel)) (by decide +kernel)), ⟨by decide +kernel, by decide +kernel, by decide +kernel⟩⟩
abbrev nX6_counts : MN := (yX6_counts, cX6_counts, 1, (some (FieldType.int)))
theorem vX6_counts : Yv nX6_counts 0 := ⟨(tb_mem (List.mem_of_getElem? (i := 774) (by decide +kernel)) (by decide +kernel)), (tb_mem (List.mem_of_getElem? (i := 775) (by decide +kernel)) (by decide +kernel)), (tb_mem (List.mem_of_getElem? (i := 100) (by decide +kernel)) (by decide +kernel)), (tb_mem (List.mem_of_getElem? (i := 776) (by decide +kernel)) (by decide +kernel)), ⟨by decide +kernel, by decide +kernel, by decide +kernel⟩⟩
abbrev nX6_actAt : MN := (yX6_actAt, cX6_actAt, 2, (some (FieldType.int)))
theorem vX6_actAt : Yv nX6_actAt 1 := ⟨(tb_mem (List.mem_of_getElem? (i := 787) (by decide +kernel)) (by decide +kernel)), (tb_mem (List.mem_of_getElem? (i := 788) (by decide +kernel)) (by decide +kernel)), (tb_mem (List.mem_of_getElem? (i := 100) (by decide +kernel)) (by decide +kernel)), (tb_mem (List.mem_of_getElem? (i := 789) (by decide +kernel)) (by decide +kernel)), ⟨by decide +kernel, by decide +kernel, by decide +kernel⟩⟩
abbrev nX6_countsUnder : MN := (yX6_countsUnder, cX6_countsUnder, 3, (some (FieldType.int)))
theorem vX6_countsUnder : Yv nX6_countsUnder 0 := ⟨(tb_mem (List.mem_of_getElem? (i := 1103) (by decide +kernel)) (by decide +kernel)), (tb_mem (List.mem_of_getElem? (i := 1104) (by decide +kernel)) (by decide +kernel)), (tb_mem (List.mem_of_getElem? (i := 100) (by decide +kernel)) (by decide +kernel)), (tb_mem (List.mem_of_getElem? (i := 1105) (by decide +kernel)) (by decide +kernel)), ⟨by decide +kernel, by decide +kernel, by decide +kernel⟩⟩
abbrev nX6_firstGone : MN := (yX6_firstGone, cX6_firstGone, 6, (some (FieldType.int)))
theorem vX6_firstGone : Yv nX6_firstGone 2 := ⟨(tb_mem (List.mem_of_getElem? (i := 855) (by decide +kernel)) (by decide +kernel)), (tb_mem (List.mem_of_getElem? (i := 856) (by decide +kernel)) (by decide +kernel)), (tb_mem (List.mem_of_getElem? (i := 100) (by decide +kernel)) (by decide +kernel)), (tb_mem (List.mem_of_getElem? (i := 857) (by decide +kernel)) (by decide +kernel)), ⟨by decide +kernel, by decide +kernel, by decide +kernel⟩⟩
abbrev nX6_longest : MN := (yX6_longest, cX6_longest, 6, (some (FieldType.int)))
theorem vX6_longest : Yv nX6_longest 1 := ⟨(tb_mem (List.mem_of_getElem? (i := 873) (by decide +kernel)) (by decide +kernel)), (tb_mem (List.mem_of_getElem? (i := 874) (by decide +kernel)) (by decide +kernel)), (tb_mem (List.mem_of_getElem? (i := 100) (by decide +kernel)) (by decide +kernel)), (tb_mem (List.mem_of_getElem? (i := 875) (by decide +kernel)) (by decide +kernel)), ⟨by decide +kernel, by decide +kernel, by decide +kernel⟩⟩
abbrev nX6_aboveThen : MN := (yX6_aboveThen, cX6_aboveThen, 3, (some (FieldType.int)))
theorem vX6_aboveThen : Ys nX6_aboveThen 3 := ⟨(tb_mem (List.mem_of_getElem? (i := 859) (by decide +kernel)) (by decide +kernel)), (tb_mem (List.mem_of_getElem? (i := 100) (by decide +kernel)) (by decide +kernel)), (tb_mem (List.mem_of_getElem? (i := 860) (by decide +kernel)) (by decide +kernel)), ⟨by decide +kernel, by decide +kernel, by decide +kernel⟩⟩
abbrev nX6_underThen : MN := (yX6_underThen, cX6_underThen, 4, (some (FieldType.int)))
theorem vX6_underThen : Ys nX6_underThen 4 := ⟨(tb_mem (List.mem_of_getElem? (i := 865) (by decide +kernel)) (by decide +kernel)), (tb_mem (List.mem_of_getElem? (i := 100) (by decide +kernel)) (by decide +kernel)), (tb_mem (List.mem_of_getElem? (i := 866) (by decide +kernel)) (by decide +kernel)), ⟨by decide +kernel, by decide +kernel, by decide +kernel⟩⟩
abbrev nX7_init : MN := (yX7_init, cX7_init, 2, none)
abbrev nX7_isShelf : MN := (yX7_isShelf, cX7_isShelf, 1, (some (FieldType.boolean)))
theorem vX7_isShelf : Ys nX7_isShelf 1 := ⟨(tb_mem (List.mem_of_getElem? (i := 469) (by decide +kernel)) (by decide +kernel)), (tb_mem (List.mem_of_getElem? (i := 106) (by decide +kernel)) (by decide +kernel)), (tb_mem (List.mem_of_getElem? (i := 470) (by decide +kernel)) (by decide +kernel)), ⟨by decide +kernel, by decide +kernel, by decide +kernel⟩⟩
abbrev nX7_isSort : MN := (yX7_isSort, cX7_isSort, 1, (some (FieldType.boolean)))
theorem vX7_isSort : Ys nX7_isSort 1 := ⟨(tb_mem (List.mem_of_getElem? (i := 1260) (by decide +kernel)) (by decide +kernel)), (tb_mem (List.mem_of_getElem? (i := 106) (by decide +kernel)) (by decide +kernel)), (tb_mem (List.mem_of_getElem? (i := 1261) (by decide +kernel)) (by decide +kernel)), ⟨by decide +kernel, by decide +kernel, by decide +kernel⟩⟩
abbrev nX7_isEmpty : MN := (yX7_isEmpty, cX7_isEmpty, 2, (some (FieldType.boolean)))
theorem vX7_isEmpty : Yv nX7_isEmpty 1 := ⟨(tb_mem (List.mem_of_getElem? (i := 476) (by decide +kernel)) (by decide +kernel)), (tb_mem (List.mem_of_getElem? (i := 477) (by decide +kernel)) (by decide +kernel)), (tb_mem (List.mem_of_getElem? (i := 106) (by decide +kernel)) (by decide +kernel)), (tb_mem (List.mem_of_getElem? (i := 478) (by decide +kernel)) (by decide +kernel)), ⟨by decide +kernel, by decide +kernel, by decide +kernel⟩⟩
abbrev nX7_refusal : MN := (yX7_refusal, cX7_refusal, 3, (some (FieldType.int)))
theorem vX7_refusal : Yv nX7_refusal 2 := ⟨(tb_mem (List.mem_of_getElem? (i := 472) (by decide +kernel)) (by decide +kernel)), (tb_mem (List.mem_of_getElem? (i := 473) (by decide +kernel)) (by decide +kernel)), (tb_mem (List.mem_of_getElem? (i := 106) (by decide +kernel)) (by decide +kernel)), (tb_mem (List.mem_of_getElem? (i := 474) (by decide +kernel)) (by decide +kernel)), ⟨by decide +kernel, by decide +kernel, by decide +kernel⟩⟩
abbrev nX7_rowRefusal : MN := (yX7_rowRefusal, cX7_rowRefusal, 2, (some (FieldType.int)))
theorem vX7_rowRefusal : Yv nX7_rowRefusal 1 := ⟨(tb_mem (List.mem_of_getElem? (i := 1271) (by decide +kernel)) (by decide +kernel)), (tb_mem (List.mem_of_getElem? (i := 1272) (by decide +kernel)) (by decide +kernel)), (tb_mem (List.mem_of_getElem? (i := 106) (by decide +kernel)) (by decide +kernel)), (tb_mem (List.mem_of_getElem? (i := 1273) (by decide +kernel)) (by decide +kernel)), ⟨by decide +kernel, by decide +kernel, by decide +kernel⟩⟩
abbrev nX7_pairRefusal : MN := (yX7_pairRefusal, cX7_pairRefusal, 3, (some (FieldType.int)))
theorem vX7_pairRefusal : Yv nX7_pairRefusal 2 := ⟨(tb_mem (List.mem_of_getElem? (i := 1301) (by decide +kernel)) (by decide +kernel)), (tb_mem (List.mem_of_getElem? (i := 1302) (by decide +kernel)) (by decide +kernel)), (tb_mem (List.mem_of_getElem? (i := 106) (by decide +kernel)) (by decide +kernel)), (tb_mem (List.mem_of_getElem? (i := 1303) (by decide +kernel)) (by decide +kernel)), ⟨by decide +kernel, by decide +kernel, by decide +kernel⟩⟩
abbrev nX7_hold : MN := (yX7_hold, cX7_hold, 3, none)
theorem vX7_hold : Yv nX7_hold 2 := ⟨(tb_mem (List.mem_of_getElem? (i := 1252) (by decide +kernel)) (by decide +kernel)), (tb_mem (List.mem_of_getElem? (i := 1253) (by decide +kernel)) (by decide +kernel)), (tb_mem (List.mem_of_getElem? (i := 106) (by decide +kernel)) (by decide +kernel)), (tb_mem (List.mem_of_getElem? (i := 1254) (by decide +kernel)) (by decide +kernel)), ⟨by decide +kernel, by decide +kernel, by decide +kernel⟩⟩
abbrev nX7_lay : MN := (yX7_lay, cX7_lay, 5, none)
theorem vX7_lay : Yv nX7_lay 3 := ⟨(tb_mem (List.mem_of_getElem? (i := 1263) (by decide +kernel)) (by decide +kernel)), (tb_mem (List.mem_of_getElem? (i := 1264) (by decide +kernel)) (by decide +kernel)), (tb_mem (List.mem_of_getElem? (i := 106) (by decide +kernel)) (by decide +kernel)), (tb_mem (List.mem_of_getElem? (i := 1265) (by decide +kernel)) (by decide +kernel)), ⟨by decide +kernel, by decide +kernel, by decide +kernel⟩⟩
abbrev nX7_held : MN := (yX7_held, cX7_held, 2, (some (FieldType.int)))
theorem vX7_held : Yv nX7_held 1 := ⟨(tb_mem (List.mem_of_getElem? (i := 1318) (by decide +kernel)) (by decide +kernel)), (tb_mem (List.mem_of_getElem? (i := 1319) (by decide +kernel)) (by decide +kernel)), (tb_mem (List.mem_of_getElem? (i := 106) (by decide +kernel)) (by decide +kernel)), (tb_mem (List.mem_of_getElem? (i := 1320) (by decide +kernel)) (by decide +kernel)), ⟨by decide +kernel, by decide +kernel, by decide +kernel⟩⟩
abbrev nX7_elements : MN := (yX7_elements, cX7_elements, 2, (some ((FieldType.array FieldType.long))))
theorem vX7_elements : Yv nX7_elements 1 := ⟨(tb_mem (List.mem_of_getElem? (i := 481) (by decide +kernel)) (by decide +kernel)), (tb_mem (List.mem_of_getElem? (i := 482) (by decide +kernel)) (by decide +kernel)), (tb_mem (List.mem_of_getElem? (i := 106) (by decide +kernel)) (by decide +kernel)), (tb_mem (List.mem_of_getElem? (i := 483) (by decide +kernel)) (by decide +kernel)), ⟨by decide +kernel, by decide +kernel, by decide +kernel⟩⟩
abbrev nX7_size : MN := (yX7_size, cX7_size, 2, (some (FieldType.int)))
theorem vX7_size : Yv nX7_size 1 := ⟨(tb_mem (List.mem_of_getElem? (i := 485) (by decide +kernel)) (by decide +kernel)), (tb_mem (List.mem_of_getElem? (i := 486) (by decide +kernel)) (by decide +kernel)), (tb_mem (List.mem_of_getElem? (i := 106) (by decide +kernel)) (by decide +kernel)), (tb_mem (List.mem_of_getElem? (i := 487) (by decide +kernel)) (by decide +kernel)), ⟨by decide +kernel, by decide +kernel, by decide +kernel⟩⟩
abbrev nX7_isPlace : MN := (yX7_isPlace, cX7_isPlace, 3, (some (FieldType.boolean)))
theorem vX7_isPlace : Yv nX7_isPlace 2 := ⟨(tb_mem (List.mem_of_getElem? (i := 1281) (by decide +kernel)) (by decide +kernel)), (tb_mem (List.mem_of_getElem? (i := 45) (by decide +kernel)) (by decide +kernel)), (tb_mem (List.mem_of_getElem? (i := 106) (by decide +kernel)) (by decide +kernel)), (tb_mem (List.mem_of_getElem? (i := 1282) (by decide +kernel)) (by decide +kernel)), ⟨by decide +kernel, by decide +kernel, by decide +kernel⟩⟩
abbrev nX7_set : MN := (yX7_set, cX7_set, 5, (some (FieldType.boolean)))
theorem vX7_set : Yv nX7_set 3 := ⟨(tb_mem (List.mem_of_getElem? (i := 1276) (by decide +kernel)) (by decide +kernel)), (tb_mem (List.mem_of_getElem? (i := 1277) (by decide +kernel)) (by decide +kernel)), (tb_mem (List.mem_of_getElem? (i := 106) (by decide +kernel)) (by decide +kernel)), (tb_mem (List.mem_of_getElem? (i := 1278) (by decide +kernel)) (by decide +kernel)), ⟨by decide +kernel, by decide +kernel, by decide +kernel⟩⟩
abbrev nX7_cut : MN := (yX7_cut, cX7_cut, 3, (some (FieldType.long)))
theorem vX7_cut : Ys nX7_cut 2 := ⟨(tb_mem (List.mem_of_getElem? (i := 1284) (by decide +kernel)) (by decide +kernel)), (tb_mem (List.mem_of_getElem? (i := 106) (by decide +kernel)) (by decide +kernel)), (tb_mem (List.mem_of_getElem? (i := 1285) (by decide +kernel)) (by decide +kernel)), ⟨by decide +kernel, by decide +kernel, by decide +kernel⟩⟩
abbrev nX7_elementAt : MN := (yX7_elementAt, cX7_elementAt, 3, (some (FieldType.long)))
theorem vX7_elementAt : Yv nX7_elementAt 2 := ⟨(tb_mem (List.mem_of_getElem? (i := 1292) (by decide +kernel)) (by decide +kernel)), (tb_mem (List.mem_of_getElem? (i := 1293) (by decide +kernel)) (by decide +kernel)), (tb_mem (List.mem_of_getElem? (i := 106) (by decide +kernel)) (by decide +kernel)), (tb_mem (List.mem_of_getElem? (i := 1294) (by decide +kernel)) (by decide +kernel)), ⟨by decide +kernel, by decide +kernel, by decide +kernel⟩⟩
abbrev nX7_move : MN := (yX7_move, cX7_move, 6, (some (FieldType.boolean)))
theorem vX7_move : Yv nX7_move 5 := ⟨(tb_mem (List.mem_of_getElem? (i := 1305) (by decide +kernel)) (by decide +kernel)), (tb_mem (List.mem_of_getElem? (i := 1306) (by decide +kernel)) (by decide +kernel)), (tb_mem (List.mem_of_getElem? (i := 106) (by decide +kernel)) (by decide +kernel)), (tb_mem (List.mem_of_getElem? (i := 1307) (by decide +kernel)) (by decide +kernel)), ⟨by decide +kernel, by decide +kernel, by decide +kernel⟩⟩
abbrev nX7_isStretch : MN := (yX7_isStretch, cX7_isStretch, 4, (some (FieldType.boolean)))
theorem vX7_isStretch : Yv nX7_isStretch 3 := ⟨(tb_mem (List.mem_of_getElem? (i := 1310) (by decide +kernel)) (by decide +kernel)), (tb_mem (List.mem_of_getElem? (i := 46) (by decide +kernel)) (by decide +kernel)), (tb_mem (List.mem_of_getElem? (i := 106) (by decide +kernel)) (by decide +kernel)), (tb_mem (List.mem_of_getElem? (i := 1311) (by decide +kernel)) (by decide +kernel)), ⟨by decide +kernel, by decide +kernel, by decide +kernel⟩⟩
abbrev nX8_init : MN := (yX8_init, cX8_init, 1, none)
abbrev nX8_length : MN := (yX8_length, cX8_length, 1, (some (FieldType.int)))
theorem vX8_length : Yv nX8_length 0 := ⟨(tb_mem (List.mem_of_getElem? (i := 1334) (by decide +kernel)) (by decide +kernel)), (tb_mem (List.mem_of_getElem? (i := 1335) (by decide +kernel)) (by decide +kernel)), (tb_mem (List.mem_of_getElem? (i := 98) (by decide +kernel)) (by decide +kernel)), (tb_mem (List.mem_of_getElem? (i := 1336) (by decide +kernel)) (by decide +kernel)), ⟨by decide +kernel, by decide +kernel, by decide +kernel⟩⟩
abbrev nX8_isFull : MN := (yX8_isFull, cX8_isFull, 1, (some (FieldType.boolean)))
theorem vX8_isFull : Yv nX8_isFull 0 := ⟨(tb_mem (List.mem_of_getElem? (i := 537) (by decide +kernel)) (by decide +kernel)), (tb_mem (List.mem_of_getElem? (i := 538) (by decide +kernel)) (by decide +kernel)), (tb_mem (List.mem_of_getElem? (i := 98) (by decide +kernel)) (by decide +kernel)), (tb_mem (List.mem_of_getElem? (i := 539) (by decide +kernel)) (by decide +kernel)), ⟨by decide +kernel, by decide +kernel, by decide +kernel⟩⟩
abbrev nX8_take : MN := (yX8_take, cX8_take, 2, (some (FieldType.int)))
theorem vX8_take : Yv nX8_take 1 := ⟨(tb_mem (List.mem_of_getElem? (i := 541) (by decide +kernel)) (by decide +kernel)), (tb_mem (List.mem_of_getElem? (i := 542) (by decide +kernel)) (by decide +kernel)), (tb_mem (List.mem_of_getElem? (i := 98) (by decide +kernel)) (by decide +kernel)), (tb_mem (List.mem_of_getElem? (i := 543) (by decide +kernel)) (by decide +kernel)), ⟨by decide +kernel, by decide +kernel, by decide +kernel⟩⟩
abbrev nX8_empty : MN := (yX8_empty, cX8_empty, 1, none)
theorem vX8_empty : Yv nX8_empty 0 := ⟨(tb_mem (List.mem_of_getElem? (i := 695) (by decide +kernel)) (by decide +kernel)), (tb_mem (List.mem_of_getElem? (i := 696) (by decide +kernel)) (by decide +kernel)), (tb_mem (List.mem_of_getElem? (i := 98) (by decide +kernel)) (by decide +kernel)), (tb_mem (List.mem_of_getElem? (i := 697) (by decide +kernel)) (by decide +kernel)), ⟨by decide +kernel, by decide +kernel, by decide +kernel⟩⟩
abbrev nX8_place : MN := (yX8_place, cX8_place, 1, (some (FieldType.int)))
theorem vX8_place : Yv nX8_place 0 := ⟨(tb_mem (List.mem_of_getElem? (i := 675) (by decide +kernel)) (by decide +kernel)), (tb_mem (List.mem_of_getElem? (i := 676) (by decide +kernel)) (by decide +kernel)), (tb_mem (List.mem_of_getElem? (i := 98) (by decide +kernel)) (by decide +kernel)), (tb_mem (List.mem_of_getElem? (i := 677) (by decide +kernel)) (by decide +kernel)), ⟨by decide +kernel, by decide +kernel, by decide +kernel⟩⟩
abbrev nX8_code : MN := (yX8_code, cX8_code, 1, (some ((FieldType.array FieldType.int))))
theorem vX8_code : Yv nX8_code 0 := ⟨(tb_mem (List.mem_of_getElem? (i := 679) (by decide +kernel)) (by decide +kernel)), (tb_mem (List.mem_of_getElem? (i := 680) (by decide +kernel)) (by decide +kernel)), (tb_mem (List.mem_of_getElem? (i := 98) (by decide +kernel)) (by decide +kernel)), (tb_mem (List.mem_of_getElem? (i := 681) (by decide +kernel)) (by decide +kernel)), ⟨by decide +kernel, by decide +kernel, by decide +kernel⟩⟩
abbrev nX8_codes : MN := (yX8_codes, cX8_codes, 1, (some (FieldType.int)))
theorem vX8_codes : Yv nX8_codes 0 := ⟨(tb_mem (List.mem_of_getElem? (i := 683) (by decide +kernel)) (by decide +kernel)), (tb_mem (List.mem_of_getElem? (i := 684) (by decide +kernel)) (by decide +kernel)), (tb_mem (List.mem_of_getElem? (i := 98) (by decide +kernel)) (by decide +kernel)), (tb_mem (List.mem_of_getElem? (i := 685) (by decide +kernel)) (by decide +kernel)), ⟨by decide +kernel, by decide +kernel, by decide +kernel⟩⟩
abbrev nX8_isText : MN := (yX8_isText, cX8_isText, 2, (some (FieldType.boolean)))
theorem vX8_isText : Yv nX8_isText 0 := ⟨(tb_mem (List.mem_of_getElem? (i := 550) (by decide +kernel)) (by decide +kernel)), (tb_mem (List.mem_of_getElem? (i := 551) (by decide +kernel)) (by decide +kernel)), (tb_mem (List.mem_of_getElem? (i := 98) (by decide +kernel)) (by decide +kernel)), (tb_mem (List.mem_of_getElem? (i := 552) (by decide +kernel)) (by decide +kernel)), ⟨by decide +kernel, by decide +kernel, by decide +kernel⟩⟩
abbrev nX8_isLine : MN := (yX8_isLine, cX8_isLine, 1, (some (FieldType.boolean)))
theorem vX8_isLine : Yv nX8_isLine 0 := ⟨(tb_mem (List.mem_of_getElem? (i := 555) (by decide +kernel)) (by decide +kernel)), (tb_mem (List.mem_of_getElem? (i := 2) (by decide +kernel)) (by decide +kernel)), (tb_mem (List.mem_of_getElem? (i := 98) (by decide +kernel)) (by decide +kernel)), (tb_mem (List.mem_of_getElem? (i := 556) (by decide +kernel)) (by decide +kernel)), ⟨by decide +kernel, by decide +kernel, by decide +kernel⟩⟩
abbrev nX8_isLevel : MN := (yX8_isLevel, cX8_isLevel, 5, (some (FieldType.boolean)))
theorem vX8_isLevel : Yv nX8_isLevel 2 := ⟨(tb_mem (List.mem_of_getElem? (i := 559) (by decide +kernel)) (by decide +kernel)), (tb_mem (List.mem_of_getElem? (i := 3) (by decide +kernel)) (by decide +kernel)), (tb_mem (List.mem_of_getElem? (i := 98) (by decide +kernel)) (by decide +kernel)), (tb_mem (List.mem_of_getElem? (i := 560) (by decide +kernel)) (by decide +kernel)), ⟨by decide +kernel, by decide +kernel, by decide +kernel⟩⟩
abbrev nX8_isFactor : MN := (yX8_isFactor, cX8_isFactor, 4, (some (FieldType.boolean)))
theorem vX8_isFactor : Yv nX8_isFactor 1 := ⟨(tb_mem (List.mem_of_getElem? (i := 563) (by decide +kernel)) (by decide +kernel)), (tb_mem (List.mem_of_getElem? (i := 4) (by decide +kernel)) (by decide +kernel)), (tb_mem (List.mem_of_getElem? (i := 98) (by decide +kernel)) (by decide +kernel)), (tb_mem (List.mem_of_getElem? (i := 564) (by decide +kernel)) (by decide +kernel)), ⟨by decide +kernel, by decide +kernel, by decide +kernel⟩⟩
abbrev nX8_isOpened : MN := (yX8_isOpened, cX8_isOpened, 3, (some (FieldType.boolean)))
theorem vX8_isOpened : Yv nX8_isOpened 2 := ⟨(tb_mem (List.mem_of_getElem? (i := 665) (by decide +kernel)) (by decide +kernel)), (tb_mem (List.mem_of_getElem? (i := 7) (by decide +kernel)) (by decide +kernel)), (tb_mem (List.mem_of_getElem? (i := 98) (by decide +kernel)) (by decide +kernel)), (tb_mem (List.mem_of_getElem? (i := 666) (by decide +kernel)) (by decide +kernel)), ⟨by decide +kernel, by decide +kernel, by decide +kernel⟩⟩
abbrev nX8_writeNumber : MN := (yX8_writeNumber, cX8_writeNumber, 3, none)
theorem vX8_writeNumber : Yv nX8_writeNumber 0 := ⟨(tb_mem (List.mem_of_getElem? (i := 570) (by decide +kernel)) (by decide +kernel)), (tb_mem (List.mem_of_getElem? (i := 5) (by decide +kernel)) (by decide +kernel)), (tb_mem (List.mem_of_getElem? (i := 98) (by decide +kernel)) (by decide +kernel)), (tb_mem (List.mem_of_getElem? (i := 571) (by decide +kernel)) (by decide +kernel)), ⟨by decide +kernel, by decide +kernel, by decide +kernel⟩⟩
abbrev nX8_takes : MN := (yX8_takes, cX8_takes, 2, (some (FieldType.boolean)))
theorem vX8_takes : Yv nX8_takes 1 := ⟨(tb_mem (List.mem_of_getElem? (i := 669) (by decide +kernel)) (by decide +kernel)), (tb_mem (List.mem_of_getElem? (i := 8) (by decide +kernel)) (by decide +kernel)), (tb_mem (List.mem_of_getElem? (i := 98) (by decide +kernel)) (by decide +kernel)), (tb_mem (List.mem_of_getElem? (i := 670) (by decide +kernel)) (by decide +kernel)), ⟨by decide +kernel, by decide +kernel, by decide +kernel⟩⟩
abbrev nX8_write : MN := (yX8_write, cX8_write, 2, none)
theorem vX8_write : Yv nX8_write 1 := ⟨(tb_mem (List.mem_of_getElem? (i := 574) (by decide +kernel)) (by decide +kernel)), (tb_mem (List.mem_of_getElem? (i := 6) (by decide +kernel)) (by decide +kernel)), (tb_mem (List.mem_of_getElem? (i := 98) (by decide +kernel)) (by decide +kernel)), (tb_mem (List.mem_of_getElem? (i := 575) (by decide +kernel)) (by decide +kernel)), ⟨by decide +kernel, by decide +kernel, by decide +kernel⟩⟩
abbrev nX8_isDigit : MN := (yX8_isDigit, cX8_isDigit, 1, (some (FieldType.boolean)))
theorem vX8_isDigit : Ys nX8_isDigit 1 := ⟨(tb_mem (List.mem_of_getElem? (i := 566) (by decide +kernel)) (by decide +kernel)), (tb_mem (List.mem_of_getElem? (i := 98) (by decide +kernel)) (by decide +kernel)), (tb_mem (List.mem_of_getElem? (i := 567) (by decide +kernel)) (by decide +kernel)), ⟨by decide +kernel, by decide +kernel, by decide +kernel⟩⟩
abbrev nX8_levelOf : MN := (yX8_levelOf, cX8_levelOf, 1, (some (FieldType.int)))
theorem vX8_levelOf : Ys nX8_levelOf 1 := ⟨(tb_mem (List.mem_of_getElem? (i := 672) (by decide +kernel)) (by decide +kernel)), (tb_mem (List.mem_of_getElem? (i := 98) (by decide +kernel)) (by decide +kernel)), (tb_mem (List.mem_of_getElem? (i := 673) (by decide +kernel)) (by decide +kernel)), ⟨by decide +kernel, by decide +kernel, by decide +kernel⟩⟩
abbrev nX9_init : MN := (yX9_init, cX9_init, 4, none)
abbrev nX9_ready : MN := (yX9_ready, cX9_ready, 2, none)
theorem vX9_ready : Yv nX9_ready 0 := ⟨(tb_mem (List.mem_of_getElem? (i := 708) (by decide +kernel)) (by decide +kernel)), (tb_mem (List.mem_of_getElem? (i := 709) (by decide +kernel)) (by decide +kernel)), (tb_mem (List.mem_of_getElem? (i := 101) (by decide +kernel)) (by decide +kernel)), (tb_mem (List.mem_of_getElem? (i := 710) (by decide +kernel)) (by decide +kernel)), ⟨by decide +kernel, by decide +kernel, by decide +kernel⟩⟩
abbrev nX9_compare : MN := (yX9_compare, cX9_compare, 3, none)
theorem vX9_compare : Yv nX9_compare 0 := ⟨(tb_mem (List.mem_of_getElem? (i := 718) (by decide +kernel)) (by decide +kernel)), (tb_mem (List.mem_of_getElem? (i := 9) (by decide +kernel)) (by decide +kernel)), (tb_mem (List.mem_of_getElem? (i := 101) (by decide +kernel)) (by decide +kernel)), (tb_mem (List.mem_of_getElem? (i := 719) (by decide +kernel)) (by decide +kernel)), ⟨by decide +kernel, by decide +kernel, by decide +kernel⟩⟩
abbrev nX9_differing : MN := (yX9_differing, cX9_differing, 4, (some (FieldType.int)))
theorem vX9_differing : Yv nX9_differing 3 := ⟨(tb_mem (List.mem_of_getElem? (i := 722) (by decide +kernel)) (by decide +kernel)), (tb_mem (List.mem_of_getElem? (i := 10) (by decide +kernel)) (by decide +kernel)), (tb_mem (List.mem_of_getElem? (i := 101) (by decide +kernel)) (by decide +kernel)), (tb_mem (List.mem_of_getElem? (i := 723) (by decide +kernel)) (by decide +kernel)), ⟨by decide +kernel, by decide +kernel, by decide +kernel⟩⟩
abbrev nX9_slipAt : MN := (yX9_slipAt, cX9_slipAt, 4, none)
theorem vX9_slipAt : Yv nX9_slipAt 3 := ⟨(tb_mem (List.mem_of_getElem? (i := 966) (by decide +kernel)) (by decide +kernel)), (tb_mem (List.mem_of_getElem? (i := 967) (by decide +kernel)) (by decide +kernel)), (tb_mem (List.mem_of_getElem? (i := 101) (by decide +kernel)) (by decide +kernel)), (tb_mem (List.mem_of_getElem? (i := 968) (by decide +kernel)) (by decide +kernel)), ⟨by decide +kernel, by decide +kernel, by decide +kernel⟩⟩
abbrev nX9_leadBy : MN := (yX9_leadBy, cX9_leadBy, 2, none)
theorem vX9_leadBy : Yv nX9_leadBy 1 := ⟨(tb_mem (List.mem_of_getElem? (i := 950) (by decide +kernel)) (by decide +kernel)), (tb_mem (List.mem_of_getElem? (i := 951) (by decide +kernel)) (by decide +kernel)), (tb_mem (List.mem_of_getElem? (i := 101) (by decide +kernel)) (by decide +kernel)), (tb_mem (List.mem_of_getElem? (i := 952) (by decide +kernel)) (by decide +kernel)), ⟨by decide +kernel, by decide +kernel, by decide +kernel⟩⟩
abbrev nX9_quicken : MN := (yX9_quicken, cX9_quicken, 3, none)
theorem vX9_quicken : Yv nX9_quicken 2 := ⟨(tb_mem (List.mem_of_getElem? (i := 954) (by decide +kernel)) (by decide +kernel)), (tb_mem (List.mem_of_getElem? (i := 955) (by decide +kernel)) (by decide +kernel)), (tb_mem (List.mem_of_getElem? (i := 101) (by decide +kernel)) (by decide +kernel)), (tb_mem (List.mem_of_getElem? (i := 956) (by decide +kernel)) (by decide +kernel)), ⟨by decide +kernel, by decide +kernel, by decide +kernel⟩⟩
abbrev nX9_delay : MN := (yX9_delay, cX9_delay, 3, none)
theorem vX9_delay : Yv nX9_delay 2 := ⟨(tb_mem (List.mem_of_getElem? (i := 1074) (by decide +kernel)) (by decide +kernel)), (tb_mem (List.mem_of_getElem? (i := 1075) (by decide +kernel)) (by decide +kernel)), (tb_mem (List.mem_of_getElem? (i := 101) (by decide +kernel)) (by decide +kernel)), (tb_mem (List.mem_of_getElem? (i := 1076) (by decide +kernel)) (by decide +kernel)), ⟨by decide +kernel, by decide +kernel, by decide +kernel⟩⟩
abbrev nX9_think : MN := (yX9_think, cX9_think, 3, none)
theorem vX9_think : Yv nX9_think 1 := ⟨(tb_mem (List.mem_of_getElem? (i := 825) (by decide +kernel)) (by decide +kernel)), (tb_mem (List.mem_of_getElem? (i := 826) (by decide +kernel)) (by decide +kernel)), (tb_mem (List.mem_of_getElem? (i := 101) (by decide +kernel)) (by decide +kernel)), (tb_mem (List.mem_of_getElem? (i := 827) (by decide +kernel)) (by decide +kernel)), ⟨by decide +kernel, by decide +kernel, by decide +kernel⟩⟩
abbrev nX9_still : MN := (yX9_still, cX9_still, 2, none)
theorem vX9_still : Yv nX9_still 0 := ⟨(tb_mem (List.mem_of_getElem? (i := 783) (by decide +kernel)) (by decide +kernel)), (tb_mem (List.mem_of_getElem? (i := 16) (by decide +kernel)) (by decide +kernel)), (tb_mem (List.mem_of_getElem? (i := 101) (by decide +kernel)) (by decide +kernel)), (tb_mem (List.mem_of_getElem? (i := 784) (by decide +kernel)) (by decide +kernel)), ⟨by decide +kernel, by decide +kernel, by decide +kernel⟩⟩
abbrev nX9_step : MN := (yX9_step, cX9_step, 4, none)
theorem vX9_step : Yv nX9_step 1 := ⟨(tb_mem (List.mem_of_getElem? (i := 792) (by decide +kernel)) (by decide +kernel)), (tb_mem (List.mem_of_getElem? (i := 17) (by decide +kernel)) (by decide +kernel)), (tb_mem (List.mem_of_getElem? (i := 101) (by decide +kernel)) (by decide +kernel)), (tb_mem (List.mem_of_getElem? (i := 793) (by decide +kernel)) (by decide +kernel)), ⟨by decide +kernel, by decide +kernel, by decide +kernel⟩⟩
abbrev nX9_offOf : MN := (yX9_offOf, cX9_offOf, 2, (some (FieldType.int)))
theorem vX9_offOf : Yv nX9_offOf 1 := ⟨(tb_mem (List.mem_of_getElem? (i := 803) (by decide +kernel)) (by decide +kernel)), (tb_mem (List.mem_of_getElem? (i := 804) (by decide +kernel)) (by decide +kernel)), (tb_mem (List.mem_of_getElem? (i := 101) (by decide +kernel)) (by decide +kernel)), (tb_mem (List.mem_of_getElem? (i := 805) (by decide +kernel)) (by decide +kernel)), ⟨by decide +kernel, by decide +kernel, by decide +kernel⟩⟩
abbrev nX9_between : MN := (yX9_between, cX9_between, 3, (some (FieldType.int)))
theorem vX9_between : Yv nX9_between 2 := ⟨(tb_mem (List.mem_of_getElem? (i := 800) (by decide +kernel)) (by decide +kernel)), (tb_mem (List.mem_of_getElem? (i := 19) (by decide +kernel)) (by decide +kernel)), (tb_mem (List.mem_of_getElem? (i := 101) (by decide +kernel)) (by decide +kernel)), (tb_mem (List.mem_of_getElem? (i := 801) (by decide +kernel)) (by decide +kernel)), ⟨by decide +kernel, by decide +kernel, by decide +kernel⟩⟩
abbrev nX9_widest : MN := (yX9_widest, cX9_widest, 4, (some (FieldType.int)))
theorem vX9_widest : Yv nX9_widest 0 := ⟨(tb_mem (List.mem_of_getElem? (i := 811) (by decide +kernel)) (by decide +kernel)), (tb_mem (List.mem_of_getElem? (i := 812) (by decide +kernel)) (by decide +kernel)), (tb_mem (List.mem_of_getElem? (i := 101) (by decide +kernel)) (by decide +kernel)), (tb_mem (List.mem_of_getElem? (i := 813) (by decide +kernel)) (by decide +kernel)), ⟨by decide +kernel, by decide +kernel, by decide +kernel⟩⟩
abbrev nX9_widestTwo : MN := (yX9_widestTwo, cX9_widestTwo, 5, (some (FieldType.int)))
theorem vX9_widestTwo : Yv nX9_widestTwo 0 := ⟨(tb_mem (List.mem_of_getElem? (i := 839) (by decide +kernel)) (by decide +kernel)), (tb_mem (List.mem_of_getElem? (i := 840) (by decide +kernel)) (by decide +kernel)), (tb_mem (List.mem_of_getElem? (i := 101) (by decide +kernel)) (by decide +kernel)), (tb_mem (List.mem_of_getElem? (i := 841) (by decide +kernel)) (by decide +kernel)), ⟨by decide +kernel, by decide +kernel, by decide +kernel⟩⟩
abbrev nX9_isSeenSince : MN := (yX9_isSeenSince, cX9_isSeenSince, 3, (some (FieldType.boolean)))
theorem vX9_isSeenSince : Yv nX9_isSeenSince 1 := ⟨(tb_mem (List.mem_of_getElem? (i := 937) (by decide +kernel)) (by decide +kernel)), (tb_mem (List.mem_of_getElem? (i := 938) (by decide +kernel)) (by decide +kernel)), (tb_mem (List.mem_of_getElem? (i := 101) (by decide +kernel)) (by decide +kernel)), (tb_mem (List.mem_of_getElem? (i := 939) (by decide +kernel)) (by decide +kernel)), ⟨by decide +kernel, by decide +kernel, by decide +kernel⟩⟩
abbrev nX9_isLed : MN := (yX9_isLed, cX9_isLed, 1, (some (FieldType.boolean)))
theorem vX9_isLed : Yv nX9_isLed 0 := ⟨(tb_mem (List.mem_of_getElem? (i := 933) (by decide +kernel)) (by decide +kernel)), (tb_mem (List.mem_of_getElem? (i := 934) (by decide +kernel)) (by decide +kernel)), (tb_mem (List.mem_of_getElem? (i := 101) (by decide +kernel)) (by decide +kernel)), (tb_mem (List.mem_of_getElem? (i := 935) (by decide +kernel)) (by decide +kernel)), ⟨by decide +kernel, by decide +kernel, by decide +kernel⟩⟩
abbrev nX9_firstSeen : MN := (yX9_firstSeen, cX9_firstSeen, 2, (some (FieldType.int)))
theorem vX9_firstSeen : Yv nX9_firstSeen 0 := ⟨(tb_mem (List.mem_of_getElem? (i := 807) (by decide +kernel)) (by decide +kernel)), (tb_mem (List.mem_of_getElem? (i := 808) (by decide +kernel)) (by decide +kernel)), (tb_mem (List.mem_of_getElem? (i := 101) (by decide +kernel)) (by decide +kernel)), (tb_mem (List.mem_of_getElem? (i := 809) (by decide +kernel)) (by decide +kernel)), ⟨by decide +kernel, by decide +kernel, by decide +kernel⟩⟩
abbrev nX9_marksOfTwo : MN := (yX9_marksOfTwo, cX9_marksOfTwo, 6, (some (FieldType.int)))
theorem vX9_marksOfTwo : Yv nX9_marksOfTwo 5 := ⟨(tb_mem (List.mem_of_getElem? (i := 728) (by decide +kernel)) (by decide +kernel)), (tb_mem (List.mem_of_getElem? (i := 729) (by decide +kernel)) (by decide +kernel)), (tb_mem (List.mem_of_getElem? (i := 101) (by decide +kernel)) (by decide +kernel)), (tb_mem (List.mem_of_getElem? (i := 730) (by decide +kernel)) (by decide +kernel)), ⟨by decide +kernel, by decide +kernel, by decide +kernel⟩⟩
abbrev nX9_marksBehind : MN := (yX9_marksBehind, cX9_marksBehind, 7, (some (FieldType.int)))
theorem vX9_marksBehind : Yv nX9_marksBehind 1 := ⟨(tb_mem (List.mem_of_getElem? (i := 796) (by decide +kernel)) (by decide +kernel)), (tb_mem (List.mem_of_getElem? (i := 18) (by decide +kernel)) (by decide +kernel)), (tb_mem (List.mem_of_getElem? (i := 101) (by decide +kernel)) (by decide +kernel)), (tb_mem (List.mem_of_getElem? (i := 797) (by decide +kernel)) (by decide +kernel)), ⟨by decide +kernel, by decide +kernel, by decide +kernel⟩⟩
abbrev nX9_lost : MN := (yX9_lost, cX9_lost, 4, (some (FieldType.int)))
theorem vX9_lost : Yv nX9_lost 0 := ⟨(tb_mem (List.mem_of_getElem? (i := 778) (by decide +kernel)) (by decide +kernel)), (tb_mem (List.mem_of_getElem? (i := 779) (by decide +kernel)) (by decide +kernel)), (tb_mem (List.mem_of_getElem? (i := 101) (by decide +kernel)) (by decide +kernel)), (tb_mem (List.mem_of_getElem? (i := 780) (by decide +kernel)) (by decide +kernel)), ⟨by decide +kernel, by decide +kernel, by decide +kernel⟩⟩
abbrev nX9_worstTwo : MN := (yX9_worstTwo, cX9_worstTwo, 5, (some (FieldType.int)))
theorem vX9_worstTwo : Yv nX9_worstTwo 0 := ⟨(tb_mem (List.mem_of_getElem? (i := 816) (by decide +kernel)) (by decide +kernel)), (tb_mem (List.mem_of_getElem? (i := 817) (by decide +kernel)) (by decide +kernel)), (tb_mem (List.mem_of_getElem? (i := 101) (by decide +kernel)) (by decide +kernel)), (tb_mem (List.mem_of_getElem? (i := 818) (by decide +kernel)) (by decide +kernel)), ⟨by decide +kernel, by decide +kernel, by decide +kernel⟩⟩
abbrev nX9_goneOf : MN := (yX9_goneOf, cX9_goneOf, 2, (some (FieldType.int)))
theorem vX9_goneOf : Yv nX9_goneOf 1 := ⟨(tb_mem (List.mem_of_getElem? (i := 851) (by decide +kernel)) (by decide +kernel)), (tb_mem (List.mem_of_getElem? (i := 852) (by decide +kernel)) (by decide +kernel)), (tb_mem (List.mem_of_getElem? (i := 101) (by decide +kernel)) (by decide +kernel)), (tb_mem (List.mem_of_getElem? (i := 853) (by decide +kernel)) (by decide +kernel)), ⟨by decide +kernel, by decide +kernel, by decide +kernel⟩⟩
abbrev nX9_allGone : MN := (yX9_allGone, cX9_allGone, 3, (some (FieldType.int)))
theorem vX9_allGone : Yv nX9_allGone 0 := ⟨(tb_mem (List.mem_of_getElem? (i := 847) (by decide +kernel)) (by decide +kernel)), (tb_mem (List.mem_of_getElem? (i := 848) (by decide +kernel)) (by decide +kernel)), (tb_mem (List.mem_of_getElem? (i := 101) (by decide +kernel)) (by decide +kernel)), (tb_mem (List.mem_of_getElem? (i := 849) (by decide +kernel)) (by decide +kernel)), ⟨by decide +kernel, by decide +kernel, by decide +kernel⟩⟩
abbrev nX9_judged : MN := (yX9_judged, cX9_judged, 5, (some (FieldType.int)))
theorem vX9_judged : Yv nX9_judged 2 := ⟨(tb_mem (List.mem_of_getElem? (i := 1062) (by decide +kernel)) (by decide +kernel)), (tb_mem (List.mem_of_getElem? (i := 1063) (by decide +kernel)) (by decide +kernel)), (tb_mem (List.mem_of_getElem? (i := 101) (by decide +kernel)) (by decide +kernel)), (tb_mem (List.mem_of_getElem? (i := 1064) (by decide +kernel)) (by decide +kernel)), ⟨by decide +kernel, by decide +kernel, by decide +kernel⟩⟩
abbrev nX9_train : MN := (yX9_train, cX9_train, 11, (some (FieldType.int)))
theorem vX9_train : Yv nX9_train 4 := ⟨(tb_mem (List.mem_of_getElem? (i := 1086) (by decide +kernel)) (by decide +kernel)), (tb_mem (List.mem_of_getElem? (i := 1087) (by decide +kernel)) (by decide +kernel)), (tb_mem (List.mem_of_getElem? (i := 101) (by decide +kernel)) (by decide +kernel)), (tb_mem (List.mem_of_getElem? (i := 1088) (by decide +kernel)) (by decide +kernel)), ⟨by decide +kernel, by decide +kernel, by decide +kernel⟩⟩
abbrev nX9_slipByDraws : MN := (yX9_slipByDraws, cX9_slipByDraws, 5, (some (FieldType.int)))
theorem vX9_slipByDraws : Yv nX9_slipByDraws 2 := ⟨(tb_mem (List.mem_of_getElem? (i := 1091) (by decide +kernel)) (by decide +kernel)), (tb_mem (List.mem_of_getElem? (i := 37) (by decide +kernel)) (by decide +kernel)), (tb_mem (List.mem_of_getElem? (i := 101) (by decide +kernel)) (by decide +kernel)), (tb_mem (List.mem_of_getElem? (i := 1092) (by decide +kernel)) (by decide +kernel)), ⟨by decide +kernel, by decide +kernel, by decide +kernel⟩⟩
abbrev nX10_init : MN := (yX10_init, cX10_init, 1, none)
abbrev nX10_isKind : MN := (yX10_isKind, cX10_isKind, 1, (some (FieldType.boolean)))
theorem vX10_isKind : Ys nX10_isKind 1 := ⟨(tb_mem (List.mem_of_getElem? (i := 1170) (by decide +kernel)) (by decide +kernel)), (tb_mem (List.mem_of_getElem? (i := 105) (by decide +kernel)) (by decide +kernel)), (tb_mem (List.mem_of_getElem? (i := 1171) (by decide +kernel)) (by decide +kernel)), ⟨by decide +kernel, by decide +kernel, by decide +kernel⟩⟩
abbrev nX10_isUnder : MN := (yX10_isUnder, cX10_isUnder, 2, (some (FieldType.boolean)))
theorem vX10_isUnder : Ys nX10_isUnder 2 := ⟨(tb_mem (List.mem_of_getElem? (i := 1326) (by decide +kernel)) (by decide +kernel)), (tb_mem (List.mem_of_getElem? (i := 105) (by decide +kernel)) (by decide +kernel)), (tb_mem (List.mem_of_getElem? (i := 1327) (by decide +kernel)) (by decide +kernel)), ⟨by decide +kernel, by decide +kernel, by decide +kernel⟩⟩
abbrev nX10_many : MN := (yX10_many, cX10_many, 1, (some (FieldType.int)))
theorem vX10_many : Yv nX10_many 0 := ⟨(tb_mem (List.mem_of_getElem? (i := 1338) (by decide +kernel)) (by decide +kernel)), (tb_mem (List.mem_of_getElem? (i := 1339) (by decide +kernel)) (by decide +kernel)), (tb_mem (List.mem_of_getElem? (i := 105) (by decide +kernel)) (by decide +kernel)), (tb_mem (List.mem_of_getElem? (i := 1340) (by decide +kernel)) (by decide +kernel)), ⟨by decide +kernel, by decide +kernel, by decide +kernel⟩⟩
abbrev nX10_ran : MN := (yX10_ran, cX10_ran, 1, (some (FieldType.int)))
theorem vX10_ran : Yv nX10_ran 0 := ⟨(tb_mem (List.mem_of_getElem? (i := 1342) (by decide +kernel)) (by decide +kernel)), (tb_mem (List.mem_of_getElem? (i := 1343) (by decide +kernel)) (by decide +kernel)), (tb_mem (List.mem_of_getElem? (i := 105) (by decide +kernel)) (by decide +kernel)), (tb_mem (List.mem_of_getElem? (i := 1344) (by decide +kernel)) (by decide +kernel)), ⟨by decide +kernel, by decide +kernel, by decide +kernel⟩⟩
abbrev nX10_isFull : MN := (yX10_isFull, cX10_isFull, 1, (some (FieldType.boolean)))
theorem vX10_isFull : Yv nX10_isFull 0 := ⟨(tb_mem (List.mem_of_getElem? (i := 1173) (by decide +kernel)) (by decide +kernel)), (tb_mem (List.mem_of_getElem? (i := 1174) (by decide +kernel)) (by decide +kernel)), (tb_mem (List.mem_of_getElem? (i := 105) (by decide +kernel)) (by decide +kernel)), (tb_mem (List.mem_of_getElem? (i := 1175) (by decide +kernel)) (by decide +kernel)), ⟨by decide +kernel, by decide +kernel, by decide +kernel⟩⟩
abbrev nX10_has : MN := (yX10_has, cX10_has, 2, (some (FieldType.boolean)))
theorem vX10_has : Yv nX10_has 1 := ⟨(tb_mem (List.mem_of_getElem? (i := 1190) (by decide +kernel)) (by decide +kernel)), (tb_mem (List.mem_of_getElem? (i := 1191) (by decide +kernel)) (by decide +kernel)), (tb_mem (List.mem_of_getElem? (i := 105) (by decide +kernel)) (by decide +kernel)), (tb_mem (List.mem_of_getElem? (i := 1192) (by decide +kernel)) (by decide +kernel)), ⟨by decide +kernel, by decide +kernel, by decide +kernel⟩⟩
abbrev nX10_kindOf : MN := (yX10_kindOf, cX10_kindOf, 2, (some (FieldType.int)))
theorem vX10_kindOf : Yv nX10_kindOf 1 := ⟨(tb_mem (List.mem_of_getElem? (i := 1322) (by decide +kernel)) (by decide +kernel)), (tb_mem (List.mem_of_getElem? (i := 1323) (by decide +kernel)) (by decide +kernel)), (tb_mem (List.mem_of_getElem? (i := 105) (by decide +kernel)) (by decide +kernel)), (tb_mem (List.mem_of_getElem? (i := 1324) (by decide +kernel)) (by decide +kernel)), ⟨by decide +kernel, by decide +kernel, by decide +kernel⟩⟩
abbrev nX10_add : MN := (yX10_add, cX10_add, 2, (some (FieldType.int)))
theorem vX10_add : Yv nX10_add 1 := ⟨(tb_mem (List.mem_of_getElem? (i := 1177) (by decide +kernel)) (by decide +kernel)), (tb_mem (List.mem_of_getElem? (i := 1178) (by decide +kernel)) (by decide +kernel)), (tb_mem (List.mem_of_getElem? (i := 105) (by decide +kernel)) (by decide +kernel)), (tb_mem (List.mem_of_getElem? (i := 1179) (by decide +kernel)) (by decide +kernel)), ⟨by decide +kernel, by decide +kernel, by decide +kernel⟩⟩
abbrev nX10_traced : MN := (yX10_traced, cX10_traced, 2, (some (FieldType.int)))
theorem vX10_traced : Yv nX10_traced 1 := ⟨(tb_mem (List.mem_of_getElem? (i := 1243) (by decide +kernel)) (by decide +kernel)), (tb_mem (List.mem_of_getElem? (i := 1244) (by decide +kernel)) (by decide +kernel)), (tb_mem (List.mem_of_getElem? (i := 105) (by decide +kernel)) (by decide +kernel)), (tb_mem (List.mem_of_getElem? (i := 1245) (by decide +kernel)) (by decide +kernel)), ⟨by decide +kernel, by decide +kernel, by decide +kernel⟩⟩
abbrev nX10_start : MN := (yX10_start, cX10_start, 2, (some (FieldType.boolean)))
theorem vX10_start : Yv nX10_start 1 := ⟨(tb_mem (List.mem_of_getElem? (i := 1186) (by decide +kernel)) (by decide +kernel)), (tb_mem (List.mem_of_getElem? (i := 1187) (by decide +kernel)) (by decide +kernel)), (tb_mem (List.mem_of_getElem? (i := 105) (by decide +kernel)) (by decide +kernel)), (tb_mem (List.mem_of_getElem? (i := 1188) (by decide +kernel)) (by decide +kernel)), ⟨by decide +kernel, by decide +kernel, by decide +kernel⟩⟩
abbrev nX10_is : MN := (yX10_is, cX10_is, 2, (some (FieldType.boolean)))
theorem vX10_is : Yv nX10_is 1 := ⟨(tb_mem (List.mem_of_getElem? (i := 1201) (by decide +kernel)) (by decide +kernel)), (tb_mem (List.mem_of_getElem? (i := 39) (by decide +kernel)) (by decide +kernel)), (tb_mem (List.mem_of_getElem? (i := 105) (by decide +kernel)) (by decide +kernel)), (tb_mem (List.mem_of_getElem? (i := 1202) (by decide +kernel)) (by decide +kernel)), ⟨by decide +kernel, by decide +kernel, by decide +kernel⟩⟩
abbrev nX10_begins : MN := (yX10_begins, cX10_begins, 2, none)
theorem vX10_begins : Yv nX10_begins 1 := ⟨(tb_mem (List.mem_of_getElem? (i := 1205) (by decide +kernel)) (by decide +kernel)), (tb_mem (List.mem_of_getElem? (i := 40) (by decide +kernel)) (by decide +kernel)), (tb_mem (List.mem_of_getElem? (i := 105) (by decide +kernel)) (by decide +kernel)), (tb_mem (List.mem_of_getElem? (i := 1206) (by decide +kernel)) (by decide +kernel)), ⟨by decide +kernel, by decide +kernel, by decide +kernel⟩⟩
abbrev nX10_counts : MN := (yX10_counts, cX10_counts, 2, (some (FieldType.int)))
theorem vX10_counts : Yv nX10_counts 1 := ⟨(tb_mem (List.mem_of_getElem? (i := 1196) (by decide +kernel)) (by decide +kernel)), (tb_mem (List.mem_of_getElem? (i := 1197) (by decide +kernel)) (by decide +kernel)), (tb_mem (List.mem_of_getElem? (i := 105) (by decide +kernel)) (by decide +kernel)), (tb_mem (List.mem_of_getElem? (i := 1198) (by decide +kernel)) (by decide +kernel)), ⟨by decide +kernel, by decide +kernel, by decide +kernel⟩⟩
abbrev nX10_plainCounts : MN := (yX10_plainCounts, cX10_plainCounts, 2, (some (FieldType.int)))
theorem vX10_plainCounts : Yv nX10_plainCounts 1 := ⟨(tb_mem (List.mem_of_getElem? (i := 1209) (by decide +kernel)) (by decide +kernel)), (tb_mem (List.mem_of_getElem? (i := 41) (by decide +kernel)) (by decide +kernel)), (tb_mem (List.mem_of_getElem? (i := 105) (by decide +kernel)) (by decide +kernel)), (tb_mem (List.mem_of_getElem? (i := 1210) (by decide +kernel)) (by decide +kernel)), ⟨by decide +kernel, by decide +kernel, by decide +kernel⟩⟩
abbrev nX10_turns : MN := (yX10_turns, cX10_turns, 3, (some (FieldType.int)))
theorem vX10_turns : Yv nX10_turns 1 := ⟨(tb_mem (List.mem_of_getElem? (i := 1212) (by decide +kernel)) (by decide +kernel)), (tb_mem (List.mem_of_getElem? (i := 1213) (by decide +kernel)) (by decide +kernel)), (tb_mem (List.mem_of_getElem? (i := 105) (by decide +kernel)) (by decide +kernel)), (tb_mem (List.mem_of_getElem? (i := 1214) (by decide +kernel)) (by decide +kernel)), ⟨by decide +kernel, by decide +kernel, by decide +kernel⟩⟩
abbrev nX10_plainTurns : MN := (yX10_plainTurns, cX10_plainTurns, 2, (some (FieldType.int)))
theorem vX10_plainTurns : Yv nX10_plainTurns 1 := ⟨(tb_mem (List.mem_of_getElem? (i := 1217) (by decide +kernel)) (by decide +kernel)), (tb_mem (List.mem_of_getElem? (i := 42) (by decide +kernel)) (by decide +kernel)), (tb_mem (List.mem_of_getElem? (i := 105) (by decide +kernel)) (by decide +kernel)), (tb_mem (List.mem_of_getElem? (i := 1218) (by decide +kernel)) (by decide +kernel)), ⟨by decide +kernel, by decide +kernel, by decide +kernel⟩⟩
abbrev nX10_sinks : MN := (yX10_sinks, cX10_sinks, 3, (some (FieldType.int)))
theorem vX10_sinks : Yv nX10_sinks 1 := ⟨(tb_mem (List.mem_of_getElem? (i := 1221) (by decide +kernel)) (by decide +kernel)), (tb_mem (List.mem_of_getElem? (i := 1222) (by decide +kernel)) (by decide +kernel)), (tb_mem (List.mem_of_getElem? (i := 105) (by decide +kernel)) (by decide +kernel)), (tb_mem (List.mem_of_getElem? (i := 1223) (by decide +kernel)) (by decide +kernel)), ⟨by decide +kernel, by decide +kernel, by decide +kernel⟩⟩
abbrev nX10_plainSinks : MN := (yX10_plainSinks, cX10_plainSinks, 2, (some (FieldType.int)))
theorem vX10_plainSinks : Yv nX10_plainSinks 1 := ⟨(tb_mem (List.mem_of_getElem? (i := 1226) (by decide +kernel)) (by decide +kernel)), (tb_mem (List.mem_of_getElem? (i := 43) (by decide +kernel)) (by decide +kernel)), (tb_mem (List.mem_of_getElem? (i := 105) (by decide +kernel)) (by decide +kernel)), (tb_mem (List.mem_of_getElem? (i := 1227) (by decide +kernel)) (by decide +kernel)), ⟨by decide +kernel, by decide +kernel, by decide +kernel⟩⟩
abbrev nX10_tells : MN := (yX10_tells, cX10_tells, 2, (some (FieldType.int)))
theorem vX10_tells : Yv nX10_tells 1 := ⟨(tb_mem (List.mem_of_getElem? (i := 1230) (by decide +kernel)) (by decide +kernel)), (tb_mem (List.mem_of_getElem? (i := 1231) (by decide +kernel)) (by decide +kernel)), (tb_mem (List.mem_of_getElem? (i := 105) (by decide +kernel)) (by decide +kernel)), (tb_mem (List.mem_of_getElem? (i := 1232) (by decide +kernel)) (by decide +kernel)), ⟨by decide +kernel, by decide +kernel, by decide +kernel⟩⟩
abbrev nX10_plainTells : MN := (yX10_plainTells, cX10_plainTells, 3, (some (FieldType.int)))
theorem vX10_plainTells : Yv nX10_plainTells 1 := ⟨(tb_mem (List.mem_of_getElem? (i := 1235) (by decide +kernel)) (by decide +kernel)), (tb_mem (List.mem_of_getElem? (i := 44) (by decide +kernel)) (by decide +kernel)), (tb_mem (List.mem_of_getElem? (i := 105) (by decide +kernel)) (by decide +kernel)), (tb_mem (List.mem_of_getElem? (i := 1236) (by decide +kernel)) (by decide +kernel)), ⟨by decide +kernel, by decide +kernel, by decide +kernel⟩⟩
abbrev nX11_init : MN := (yX11_init, cX11_init, 1, none)
abbrev nX11_swimmer : MN := (yX11_swimmer, cX11_swimmer, 5, (some (FieldType.int)))
theorem vX11_swimmer : Yv nX11_swimmer 2 := ⟨(tb_mem (List.mem_of_getElem? (i := 434) (by decide +kernel)) (by decide +kernel)), (tb_mem (List.mem_of_getElem? (i := 435) (by decide +kernel)) (by decide +kernel)), (tb_mem (List.mem_of_getElem? (i := 95) (by decide +kernel)) (by decide +kernel)), (tb_mem (List.mem_of_getElem? (i := 436) (by decide +kernel)) (by decide +kernel)), ⟨by decide +kernel, by decide +kernel, by decide +kernel⟩⟩
abbrev nX11_swimmers : MN := (yX11_swimmers, cX11_swimmers, 5, (some (FieldType.int)))
theorem vX11_swimmers : Yv nX11_swimmers 3 := ⟨(tb_mem (List.mem_of_getElem? (i := 465) (by decide +kernel)) (by decide +kernel)), (tb_mem (List.mem_of_getElem? (i := 466) (by decide +kernel)) (by decide +kernel)), (tb_mem (List.mem_of_getElem? (i := 95) (by decide +kernel)) (by decide +kernel)), (tb_mem (List.mem_of_getElem? (i := 467) (by decide +kernel)) (by decide +kernel)), ⟨by decide +kernel, by decide +kernel, by decide +kernel⟩⟩
abbrev nX11_mend : MN := (yX11_mend, cX11_mend, 5, (some (FieldType.int)))
theorem vX11_mend : Yv nX11_mend 3 := ⟨(tb_mem (List.mem_of_getElem? (i := 499) (by decide +kernel)) (by decide +kernel)), (tb_mem (List.mem_of_getElem? (i := 500) (by decide +kernel)) (by decide +kernel)), (tb_mem (List.mem_of_getElem? (i := 95) (by decide +kernel)) (by decide +kernel)), (tb_mem (List.mem_of_getElem? (i := 501) (by decide +kernel)) (by decide +kernel)), ⟨by decide +kernel, by decide +kernel, by decide +kernel⟩⟩
abbrev nX11_of : MN := (yX11_of, cX11_of, 3, (some (FieldType.int)))
theorem vX11_of : Yv nX11_of 2 := ⟨(tb_mem (List.mem_of_getElem? (i := 520) (by decide +kernel)) (by decide +kernel)), (tb_mem (List.mem_of_getElem? (i := 521) (by decide +kernel)) (by decide +kernel)), (tb_mem (List.mem_of_getElem? (i := 95) (by decide +kernel)) (by decide +kernel)), (tb_mem (List.mem_of_getElem? (i := 522) (by decide +kernel)) (by decide +kernel)), ⟨by decide +kernel, by decide +kernel, by decide +kernel⟩⟩
abbrev nX11_feed : MN := (yX11_feed, cX11_feed, 2, (some (FieldType.int)))
theorem vX11_feed : Yv nX11_feed 1 := ⟨(tb_mem (List.mem_of_getElem? (i := 533) (by decide +kernel)) (by decide +kernel)), (tb_mem (List.mem_of_getElem? (i := 534) (by decide +kernel)) (by decide +kernel)), (tb_mem (List.mem_of_getElem? (i := 95) (by decide +kernel)) (by decide +kernel)), (tb_mem (List.mem_of_getElem? (i := 535) (by decide +kernel)) (by decide +kernel)), ⟨by decide +kernel, by decide +kernel, by decide +kernel⟩⟩
abbrev nX11_law : MN := (yX11_law, cX11_law, 3, (some (FieldType.int)))
theorem vX11_law : Yv nX11_law 0 := ⟨(tb_mem (List.mem_of_getElem? (i := 546) (by decide +kernel)) (by decide +kernel)), (tb_mem (List.mem_of_getElem? (i := 547) (by decide +kernel)) (by decide +kernel)), (tb_mem (List.mem_of_getElem? (i := 95) (by decide +kernel)) (by decide +kernel)), (tb_mem (List.mem_of_getElem? (i := 548) (by decide +kernel)) (by decide +kernel)), ⟨by decide +kernel, by decide +kernel, by decide +kernel⟩⟩
abbrev nX11_loses : MN := (yX11_loses, cX11_loses, 8, (some (FieldType.int)))
theorem vX11_loses : Yv nX11_loses 3 := ⟨(tb_mem (List.mem_of_getElem? (i := 700) (by decide +kernel)) (by decide +kernel)), (tb_mem (List.mem_of_getElem? (i := 701) (by decide +kernel)) (by decide +kernel)), (tb_mem (List.mem_of_getElem? (i := 95) (by decide +kernel)) (by decide +kernel)), (tb_mem (List.mem_of_getElem? (i := 702) (by decide +kernel)) (by decide +kernel)), ⟨by decide +kernel, by decide +kernel, by decide +kernel⟩⟩
abbrev nX11_routine : MN := (yX11_routine, cX11_routine, 4, (some (FieldType.int)))
theorem vX11_routine : Yv nX11_routine 2 := ⟨(tb_mem (List.mem_of_getElem? (i := 760) (by decide +kernel)) (by decide +kernel)), (tb_mem (List.mem_of_getElem? (i := 761) (by decide +kernel)) (by decide +kernel)), (tb_mem (List.mem_of_getElem? (i := 95) (by decide +kernel)) (by decide +kernel)), (tb_mem (List.mem_of_getElem? (i := 762) (by decide +kernel)) (by decide +kernel)), ⟨by decide +kernel, by decide +kernel, by decide +kernel⟩⟩
abbrev nX11_off : MN := (yX11_off, cX11_off, 4, (some (FieldType.int)))
theorem vX11_off : Yv nX11_off 3 := ⟨(tb_mem (List.mem_of_getElem? (i := 821) (by decide +kernel)) (by decide +kernel)), (tb_mem (List.mem_of_getElem? (i := 822) (by decide +kernel)) (by decide +kernel)), (tb_mem (List.mem_of_getElem? (i := 95) (by decide +kernel)) (by decide +kernel)), (tb_mem (List.mem_of_getElem? (i := 823) (by decide +kernel)) (by decide +kernel)), ⟨by decide +kernel, by decide +kernel, by decide +kernel⟩⟩
abbrev nX11_apart : MN := (yX11_apart, cX11_apart, 5, (some (FieldType.int)))
theorem vX11_apart : Yv nX11_apart 3 := ⟨(tb_mem (List.mem_of_getElem? (i := 831) (by decide +kernel)) (by decide +kernel)), (tb_mem (List.mem_of_getElem? (i := 832) (by decide +kernel)) (by decide +kernel)), (tb_mem (List.mem_of_getElem? (i := 95) (by decide +kernel)) (by decide +kernel)), (tb_mem (List.mem_of_getElem? (i := 833) (by decide +kernel)) (by decide +kernel)), ⟨by decide +kernel, by decide +kernel, by decide +kernel⟩⟩
abbrev nX11_gone : MN := (yX11_gone, cX11_gone, 4, (some (FieldType.int)))
theorem vX11_gone : Yv nX11_gone 2 := ⟨(tb_mem (List.mem_of_getElem? (i := 843) (by decide +kernel)) (by decide +kernel)), (tb_mem (List.mem_of_getElem? (i := 844) (by decide +kernel)) (by decide +kernel)), (tb_mem (List.mem_of_getElem? (i := 95) (by decide +kernel)) (by decide +kernel)), (tb_mem (List.mem_of_getElem? (i := 845) (by decide +kernel)) (by decide +kernel)), ⟨by decide +kernel, by decide +kernel, by decide +kernel⟩⟩
abbrev nX11_least : MN := (yX11_least, cX11_least, 4, (some (FieldType.int)))
theorem vX11_least : Yv nX11_least 2 := ⟨(tb_mem (List.mem_of_getElem? (i := 869) (by decide +kernel)) (by decide +kernel)), (tb_mem (List.mem_of_getElem? (i := 870) (by decide +kernel)) (by decide +kernel)), (tb_mem (List.mem_of_getElem? (i := 95) (by decide +kernel)) (by decide +kernel)), (tb_mem (List.mem_of_getElem? (i := 871) (by decide +kernel)) (by decide +kernel)), ⟨by decide +kernel, by decide +kernel, by decide +kernel⟩⟩
abbrev nX11_gasps : MN := (yX11_gasps, cX11_gasps, 4, (some (FieldType.int)))
theorem vX11_gasps : Yv nX11_gasps 2 := ⟨(tb_mem (List.mem_of_getElem? (i := 879) (by decide +kernel)) (by decide +kernel)), (tb_mem (List.mem_of_getElem? (i := 880) (by decide +kernel)) (by decide +kernel)), (tb_mem (List.mem_of_getElem? (i := 95) (by decide +kernel)) (by decide +kernel)), (tb_mem (List.mem_of_getElem? (i := 881) (by decide +kernel)) (by decide +kernel)), ⟨by decide +kernel, by decide +kernel, by decide +kernel⟩⟩
abbrev nX11_looks : MN := (yX11_looks, cX11_looks, 4, (some (FieldType.int)))
theorem vX11_looks : Yv nX11_looks 2 := ⟨(tb_mem (List.mem_of_getElem? (i := 925) (by decide +kernel)) (by decide +kernel)), (tb_mem (List.mem_of_getElem? (i := 926) (by decide +kernel)) (by decide +kernel)), (tb_mem (List.mem_of_getElem? (i := 95) (by decide +kernel)) (by decide +kernel)), (tb_mem (List.mem_of_getElem? (i := 927) (by decide +kernel)) (by decide +kernel)), ⟨by decide +kernel, by decide +kernel, by decide +kernel⟩⟩
abbrev nX11_whose : MN := (yX11_whose, cX11_whose, 4, (some (FieldType.int)))
theorem vX11_whose : Yv nX11_whose 2 := ⟨(tb_mem (List.mem_of_getElem? (i := 941) (by decide +kernel)) (by decide +kernel)), (tb_mem (List.mem_of_getElem? (i := 942) (by decide +kernel)) (by decide +kernel)), (tb_mem (List.mem_of_getElem? (i := 95) (by decide +kernel)) (by decide +kernel)), (tb_mem (List.mem_of_getElem? (i := 943) (by decide +kernel)) (by decide +kernel)), ⟨by decide +kernel, by decide +kernel, by decide +kernel⟩⟩
abbrev nX11_first : MN := (yX11_first, cX11_first, 4, (some (FieldType.int)))
theorem vX11_first : Yv nX11_first 2 := ⟨(tb_mem (List.mem_of_getElem? (i := 958) (by decide +kernel)) (by decide +kernel)), (tb_mem (List.mem_of_getElem? (i := 959) (by decide +kernel)) (by decide +kernel)), (tb_mem (List.mem_of_getElem? (i := 95) (by decide +kernel)) (by decide +kernel)), (tb_mem (List.mem_of_getElem? (i := 960) (by decide +kernel)) (by decide +kernel)), ⟨by decide +kernel, by decide +kernel, by decide +kernel⟩⟩
abbrev nX11_slip : MN := (yX11_slip, cX11_slip, 6, (some (FieldType.int)))
theorem vX11_slip : Yv nX11_slip 3 := ⟨(tb_mem (List.mem_of_getElem? (i := 962) (by decide +kernel)) (by decide +kernel)), (tb_mem (List.mem_of_getElem? (i := 963) (by decide +kernel)) (by decide +kernel)), (tb_mem (List.mem_of_getElem? (i := 95) (by decide +kernel)) (by decide +kernel)), (tb_mem (List.mem_of_getElem? (i := 964) (by decide +kernel)) (by decide +kernel)), ⟨by decide +kernel, by decide +kernel, by decide +kernel⟩⟩
abbrev nX11_line : MN := (yX11_line, cX11_line, 4, (some (FieldType.int)))
theorem vX11_line : Yv nX11_line 2 := ⟨(tb_mem (List.mem_of_getElem? (i := 970) (by decide +kernel)) (by decide +kernel)), (tb_mem (List.mem_of_getElem? (i := 971) (by decide +kernel)) (by decide +kernel)), (tb_mem (List.mem_of_getElem? (i := 95) (by decide +kernel)) (by decide +kernel)), (tb_mem (List.mem_of_getElem? (i := 972) (by decide +kernel)) (by decide +kernel)), ⟨by decide +kernel, by decide +kernel, by decide +kernel⟩⟩
abbrev nX11_lift : MN := (yX11_lift, cX11_lift, 2, (some (FieldType.int)))
theorem vX11_lift : Yv nX11_lift 1 := ⟨(tb_mem (List.mem_of_getElem? (i := 1003) (by decide +kernel)) (by decide +kernel)), (tb_mem (List.mem_of_getElem? (i := 1004) (by decide +kernel)) (by decide +kernel)), (tb_mem (List.mem_of_getElem? (i := 95) (by decide +kernel)) (by decide +kernel)), (tb_mem (List.mem_of_getElem? (i := 1005) (by decide +kernel)) (by decide +kernel)), ⟨by decide +kernel, by decide +kernel, by decide +kernel⟩⟩
abbrev nX11_star : MN := (yX11_star, cX11_star, 2, (some (FieldType.int)))
theorem vX11_star : Yv nX11_star 1 := ⟨(tb_mem (List.mem_of_getElem? (i := 1021) (by decide +kernel)) (by decide +kernel)), (tb_mem (List.mem_of_getElem? (i := 1022) (by decide +kernel)) (by decide +kernel)), (tb_mem (List.mem_of_getElem? (i := 95) (by decide +kernel)) (by decide +kernel)), (tb_mem (List.mem_of_getElem? (i := 1023) (by decide +kernel)) (by decide +kernel)), ⟨by decide +kernel, by decide +kernel, by decide +kernel⟩⟩
abbrev nX11_judge : MN := (yX11_judge, cX11_judge, 3, (some (FieldType.int)))
theorem vX11_judge : Yv nX11_judge 1 := ⟨(tb_mem (List.mem_of_getElem? (i := 1049) (by decide +kernel)) (by decide +kernel)), (tb_mem (List.mem_of_getElem? (i := 1050) (by decide +kernel)) (by decide +kernel)), (tb_mem (List.mem_of_getElem? (i := 95) (by decide +kernel)) (by decide +kernel)), (tb_mem (List.mem_of_getElem? (i := 1051) (by decide +kernel)) (by decide +kernel)), ⟨by decide +kernel, by decide +kernel, by decide +kernel⟩⟩
abbrev nX11_whoLed : MN := (yX11_whoLed, cX11_whoLed, 5, (some (FieldType.int)))
theorem vX11_whoLed : Yv nX11_whoLed 1 := ⟨(tb_mem (List.mem_of_getElem? (i := 1066) (by decide +kernel)) (by decide +kernel)), (tb_mem (List.mem_of_getElem? (i := 1067) (by decide +kernel)) (by decide +kernel)), (tb_mem (List.mem_of_getElem? (i := 95) (by decide +kernel)) (by decide +kernel)), (tb_mem (List.mem_of_getElem? (i := 1068) (by decide +kernel)) (by decide +kernel)), ⟨by decide +kernel, by decide +kernel, by decide +kernel⟩⟩
abbrev nX11_later : MN := (yX11_later, cX11_later, 5, (some (FieldType.int)))
theorem vX11_later : Yv nX11_later 2 := ⟨(tb_mem (List.mem_of_getElem? (i := 1070) (by decide +kernel)) (by decide +kernel)), (tb_mem (List.mem_of_getElem? (i := 1071) (by decide +kernel)) (by decide +kernel)), (tb_mem (List.mem_of_getElem? (i := 95) (by decide +kernel)) (by decide +kernel)), (tb_mem (List.mem_of_getElem? (i := 1072) (by decide +kernel)) (by decide +kernel)), ⟨by decide +kernel, by decide +kernel, by decide +kernel⟩⟩
abbrev nX11_quicker : MN := (yX11_quicker, cX11_quicker, 5, (some (FieldType.int)))
theorem vX11_quicker : Yv nX11_quicker 2 := ⟨(tb_mem (List.mem_of_getElem? (i := 1078) (by decide +kernel)) (by decide +kernel)), (tb_mem (List.mem_of_getElem? (i := 1079) (by decide +kernel)) (by decide +kernel)), (tb_mem (List.mem_of_getElem? (i := 95) (by decide +kernel)) (by decide +kernel)), (tb_mem (List.mem_of_getElem? (i := 1080) (by decide +kernel)) (by decide +kernel)), ⟨by decide +kernel, by decide +kernel, by decide +kernel⟩⟩
abbrev nX11_drawn : MN := (yX11_drawn, cX11_drawn, 8, (some (FieldType.int)))
theorem vX11_drawn : Yv nX11_drawn 4 := ⟨(tb_mem (List.mem_of_getElem? (i := 1082) (by decide +kernel)) (by decide +kernel)), (tb_mem (List.mem_of_getElem? (i := 1083) (by decide +kernel)) (by decide +kernel)), (tb_mem (List.mem_of_getElem? (i := 95) (by decide +kernel)) (by decide +kernel)), (tb_mem (List.mem_of_getElem? (i := 1084) (by decide +kernel)) (by decide +kernel)), ⟨by decide +kernel, by decide +kernel, by decide +kernel⟩⟩
abbrev nX11_swim : MN := (yX11_swim, cX11_swim, 4, (some (FieldType.int)))
theorem vX11_swim : Yv nX11_swim 1 := ⟨(tb_mem (List.mem_of_getElem? (i := 1095) (by decide +kernel)) (by decide +kernel)), (tb_mem (List.mem_of_getElem? (i := 1096) (by decide +kernel)) (by decide +kernel)), (tb_mem (List.mem_of_getElem? (i := 95) (by decide +kernel)) (by decide +kernel)), (tb_mem (List.mem_of_getElem? (i := 1097) (by decide +kernel)) (by decide +kernel)), ⟨by decide +kernel, by decide +kernel, by decide +kernel⟩⟩
abbrev nX11_led : MN := (yX11_led, cX11_led, 2, (some (FieldType.int)))
theorem vX11_led : Yv nX11_led 1 := ⟨(tb_mem (List.mem_of_getElem? (i := 1113) (by decide +kernel)) (by decide +kernel)), (tb_mem (List.mem_of_getElem? (i := 1114) (by decide +kernel)) (by decide +kernel)), (tb_mem (List.mem_of_getElem? (i := 95) (by decide +kernel)) (by decide +kernel)), (tb_mem (List.mem_of_getElem? (i := 1115) (by decide +kernel)) (by decide +kernel)), ⟨by decide +kernel, by decide +kernel, by decide +kernel⟩⟩
abbrev nX11_image : MN := (yX11_image, cX11_image, 1, (some (FieldType.int)))
theorem vX11_image : Yv nX11_image 0 := ⟨(tb_mem (List.mem_of_getElem? (i := 1121) (by decide +kernel)) (by decide +kernel)), (tb_mem (List.mem_of_getElem? (i := 1122) (by decide +kernel)) (by decide +kernel)), (tb_mem (List.mem_of_getElem? (i := 95) (by decide +kernel)) (by decide +kernel)), (tb_mem (List.mem_of_getElem? (i := 1123) (by decide +kernel)) (by decide +kernel)), ⟨by decide +kernel, by decide +kernel, by decide +kernel⟩⟩
abbrev nX11_back : MN := (yX11_back, cX11_back, 1, (some (FieldType.int)))
theorem vX11_back : Yv nX11_back 0 := ⟨(tb_mem (List.mem_of_getElem? (i := 1130) (by decide +kernel)) (by decide +kernel)), (tb_mem (List.mem_of_getElem? (i := 1131) (by decide +kernel)) (by decide +kernel)), (tb_mem (List.mem_of_getElem? (i := 95) (by decide +kernel)) (by decide +kernel)), (tb_mem (List.mem_of_getElem? (i := 1132) (by decide +kernel)) (by decide +kernel)), ⟨by decide +kernel, by decide +kernel, by decide +kernel⟩⟩
abbrev nX11_undo : MN := (yX11_undo, cX11_undo, 1, (some (FieldType.int)))
theorem vX11_undo : Yv nX11_undo 0 := ⟨(tb_mem (List.mem_of_getElem? (i := 1142) (by decide +kernel)) (by decide +kernel)), (tb_mem (List.mem_of_getElem? (i := 1143) (by decide +kernel)) (by decide +kernel)), (tb_mem (List.mem_of_getElem? (i := 95) (by decide +kernel)) (by decide +kernel)), (tb_mem (List.mem_of_getElem? (i := 1144) (by decide +kernel)) (by decide +kernel)), ⟨by decide +kernel, by decide +kernel, by decide +kernel⟩⟩
abbrev nX11_redo : MN := (yX11_redo, cX11_redo, 1, (some (FieldType.int)))
theorem vX11_redo : Yv nX11_redo 0 := ⟨(tb_mem (List.mem_of_getElem? (i := 1154) (by decide +kernel)) (by decide +kernel)), (tb_mem (List.mem_of_getElem? (i := 1155) (by decide +kernel)) (by decide +kernel)), (tb_mem (List.mem_of_getElem? (i := 95) (by decide +kernel)) (by decide +kernel)), (tb_mem (List.mem_of_getElem? (i := 1156) (by decide +kernel)) (by decide +kernel)), ⟨by decide +kernel, by decide +kernel, by decide +kernel⟩⟩
abbrev nX11_body : MN := (yX11_body, cX11_body, 2, (some (FieldType.int)))
theorem vX11_body : Yv nX11_body 1 := ⟨(tb_mem (List.mem_of_getElem? (i := 1166) (by decide +kernel)) (by decide +kernel)), (tb_mem (List.mem_of_getElem? (i := 1167) (by decide +kernel)) (by decide +kernel)), (tb_mem (List.mem_of_getElem? (i := 95) (by decide +kernel)) (by decide +kernel)), (tb_mem (List.mem_of_getElem? (i := 1168) (by decide +kernel)) (by decide +kernel)), ⟨by decide +kernel, by decide +kernel, by decide +kernel⟩⟩
abbrev nX11_act : MN := (yX11_act, cX11_act, 4, (some (FieldType.int)))
theorem vX11_act : Yv nX11_act 3 := ⟨(tb_mem (List.mem_of_getElem? (i := 1182) (by decide +kernel)) (by decide +kernel)), (tb_mem (List.mem_of_getElem? (i := 1183) (by decide +kernel)) (by decide +kernel)), (tb_mem (List.mem_of_getElem? (i := 95) (by decide +kernel)) (by decide +kernel)), (tb_mem (List.mem_of_getElem? (i := 1184) (by decide +kernel)) (by decide +kernel)), ⟨by decide +kernel, by decide +kernel, by decide +kernel⟩⟩
abbrev nX11_trace : MN := (yX11_trace, cX11_trace, 2, (some (FieldType.int)))
theorem vX11_trace : Yv nX11_trace 1 := ⟨(tb_mem (List.mem_of_getElem? (i := 1239) (by decide +kernel)) (by decide +kernel)), (tb_mem (List.mem_of_getElem? (i := 1240) (by decide +kernel)) (by decide +kernel)), (tb_mem (List.mem_of_getElem? (i := 95) (by decide +kernel)) (by decide +kernel)), (tb_mem (List.mem_of_getElem? (i := 1241) (by decide +kernel)) (by decide +kernel)), ⟨by decide +kernel, by decide +kernel, by decide +kernel⟩⟩
abbrev nX11_keep : MN := (yX11_keep, cX11_keep, 3, (some (FieldType.int)))
theorem vX11_keep : Yv nX11_keep 2 := ⟨(tb_mem (List.mem_of_getElem? (i := 1247) (by decide +kernel)) (by decide +kernel)), (tb_mem (List.mem_of_getElem? (i := 1248) (by decide +kernel)) (by decide +kernel)), (tb_mem (List.mem_of_getElem? (i := 95) (by decide +kernel)) (by decide +kernel)), (tb_mem (List.mem_of_getElem? (i := 1249) (by decide +kernel)) (by decide +kernel)), ⟨by decide +kernel, by decide +kernel, by decide +kernel⟩⟩
abbrev nX11_row : MN := (yX11_row, cX11_row, 4, (some (FieldType.int)))
theorem vX11_row : Yv nX11_row 3 := ⟨(tb_mem (List.mem_of_getElem? (i := 1256) (by decide +kernel)) (by decide +kernel)), (tb_mem (List.mem_of_getElem? (i := 1257) (by decide +kernel)) (by decide +kernel)), (tb_mem (List.mem_of_getElem? (i := 95) (by decide +kernel)) (by decide +kernel)), (tb_mem (List.mem_of_getElem? (i := 1258) (by decide +kernel)) (by decide +kernel)), ⟨by decide +kernel, by decide +kernel, by decide +kernel⟩⟩
abbrev nX11_put : MN := (yX11_put, cX11_put, 6, (some (FieldType.int)))
theorem vX11_put : Yv nX11_put 3 := ⟨(tb_mem (List.mem_of_getElem? (i := 1267) (by decide +kernel)) (by decide +kernel)), (tb_mem (List.mem_of_getElem? (i := 1268) (by decide +kernel)) (by decide +kernel)), (tb_mem (List.mem_of_getElem? (i := 95) (by decide +kernel)) (by decide +kernel)), (tb_mem (List.mem_of_getElem? (i := 1269) (by decide +kernel)) (by decide +kernel)), ⟨by decide +kernel, by decide +kernel, by decide +kernel⟩⟩
abbrev nX11_element : MN := (yX11_element, cX11_element, 3, (some (FieldType.long)))
theorem vX11_element : Yv nX11_element 2 := ⟨(tb_mem (List.mem_of_getElem? (i := 1287) (by decide +kernel)) (by decide +kernel)), (tb_mem (List.mem_of_getElem? (i := 1288) (by decide +kernel)) (by decide +kernel)), (tb_mem (List.mem_of_getElem? (i := 95) (by decide +kernel)) (by decide +kernel)), (tb_mem (List.mem_of_getElem? (i := 1289) (by decide +kernel)) (by decide +kernel)), ⟨by decide +kernel, by decide +kernel, by decide +kernel⟩⟩
abbrev nX11_shift : MN := (yX11_shift, cX11_shift, 7, (some (FieldType.int)))
theorem vX11_shift : Yv nX11_shift 5 := ⟨(tb_mem (List.mem_of_getElem? (i := 1297) (by decide +kernel)) (by decide +kernel)), (tb_mem (List.mem_of_getElem? (i := 1298) (by decide +kernel)) (by decide +kernel)), (tb_mem (List.mem_of_getElem? (i := 95) (by decide +kernel)) (by decide +kernel)), (tb_mem (List.mem_of_getElem? (i := 1299) (by decide +kernel)) (by decide +kernel)), ⟨by decide +kernel, by decide +kernel, by decide +kernel⟩⟩
abbrev nX11_taken : MN := (yX11_taken, cX11_taken, 5, (some (FieldType.int)))
theorem vX11_taken : Yv nX11_taken 2 := ⟨(tb_mem (List.mem_of_getElem? (i := 1314) (by decide +kernel)) (by decide +kernel)), (tb_mem (List.mem_of_getElem? (i := 1315) (by decide +kernel)) (by decide +kernel)), (tb_mem (List.mem_of_getElem? (i := 95) (by decide +kernel)) (by decide +kernel)), (tb_mem (List.mem_of_getElem? (i := 1316) (by decide +kernel)) (by decide +kernel)), ⟨by decide +kernel, by decide +kernel, by decide +kernel⟩⟩
abbrev nX11_count : MN := (yX11_count, cX11_count, 2, (some (FieldType.int)))
theorem vX11_count : Yv nX11_count 1 := ⟨(tb_mem (List.mem_of_getElem? (i := 1330) (by decide +kernel)) (by decide +kernel)), (tb_mem (List.mem_of_getElem? (i := 1331) (by decide +kernel)) (by decide +kernel)), (tb_mem (List.mem_of_getElem? (i := 95) (by decide +kernel)) (by decide +kernel)), (tb_mem (List.mem_of_getElem? (i := 1332) (by decide +kernel)) (by decide +kernel)), ⟨by decide +kernel, by decide +kernel, by decide +kernel⟩⟩
abbrev nX11_isZeroOrOne : MN := (yX11_isZeroOrOne, cX11_isZeroOrOne, 1, (some (FieldType.boolean)))
theorem vX11_isZeroOrOne : Ys nX11_isZeroOrOne 1 := ⟨(tb_mem (List.mem_of_getElem? (i := 835) (by decide +kernel)) (by decide +kernel)), (tb_mem (List.mem_of_getElem? (i := 95) (by decide +kernel)) (by decide +kernel)), (tb_mem (List.mem_of_getElem? (i := 836) (by decide +kernel)) (by decide +kernel)), ⟨by decide +kernel, by decide +kernel, by decide +kernel⟩⟩
abbrev nX11_begin : MN := (yX11_begin, cX11_begin, 4, (some (FieldType.int)))
theorem vX11_begin : Yv nX11_begin 2 := ⟨(tb_mem (List.mem_of_getElem? (i := 765) (by decide +kernel)) (by decide +kernel)), (tb_mem (List.mem_of_getElem? (i := 15) (by decide +kernel)) (by decide +kernel)), (tb_mem (List.mem_of_getElem? (i := 95) (by decide +kernel)) (by decide +kernel)), (tb_mem (List.mem_of_getElem? (i := 766) (by decide +kernel)) (by decide +kernel)), ⟨by decide +kernel, by decide +kernel, by decide +kernel⟩⟩
abbrev nX11_fewestLost : MN := (yX11_fewestLost, cX11_fewestLost, 7, (some (FieldType.int)))
theorem vX11_fewestLost : Yv nX11_fewestLost 2 := ⟨(tb_mem (List.mem_of_getElem? (i := 946) (by decide +kernel)) (by decide +kernel)), (tb_mem (List.mem_of_getElem? (i := 26) (by decide +kernel)) (by decide +kernel)), (tb_mem (List.mem_of_getElem? (i := 95) (by decide +kernel)) (by decide +kernel)), (tb_mem (List.mem_of_getElem? (i := 947) (by decide +kernel)) (by decide +kernel)), ⟨by decide +kernel, by decide +kernel, by decide +kernel⟩⟩
abbrev nX11_beginRipples : MN := (yX11_beginRipples, cX11_beginRipples, 4, (some (FieldType.int)))
theorem vX11_beginRipples : Yv nX11_beginRipples 2 := ⟨(tb_mem (List.mem_of_getElem? (i := 1054) (by decide +kernel)) (by decide +kernel)), (tb_mem (List.mem_of_getElem? (i := 35) (by decide +kernel)) (by decide +kernel)), (tb_mem (List.mem_of_getElem? (i := 95) (by decide +kernel)) (by decide +kernel)), (tb_mem (List.mem_of_getElem? (i := 1055) (by decide +kernel)) (by decide +kernel)), ⟨by decide +kernel, by decide +kernel, by decide +kernel⟩⟩
abbrev nX11_judged : MN := (yX11_judged, cX11_judged, 2, (some (FieldType.int)))
theorem vX11_judged : Yv nX11_judged 1 := ⟨(tb_mem (List.mem_of_getElem? (i := 1059) (by decide +kernel)) (by decide +kernel)), (tb_mem (List.mem_of_getElem? (i := 36) (by decide +kernel)) (by decide +kernel)), (tb_mem (List.mem_of_getElem? (i := 95) (by decide +kernel)) (by decide +kernel)), (tb_mem (List.mem_of_getElem? (i := 1060) (by decide +kernel)) (by decide +kernel)), ⟨by decide +kernel, by decide +kernel, by decide +kernel⟩⟩
abbrev nX12_init : MN := (yX12_init, cX12_init, 2, none)
abbrev nX12_within : MN := (yX12_within, cX12_within, 3, (some (FieldType.boolean)))
theorem vX12_within : Ys nX12_within 3 := ⟨(tb_mem (List.mem_of_getElem? (i := 1525) (by decide +kernel)) (by decide +kernel)), (tb_mem (List.mem_of_getElem? (i := 107) (by decide +kernel)) (by decide +kernel)), (tb_mem (List.mem_of_getElem? (i := 1526) (by decide +kernel)) (by decide +kernel)), ⟨by decide +kernel, by decide +kernel, by decide +kernel⟩⟩
abbrev nX12_isOne : MN := (yX12_isOne, cX12_isOne, 2, (some (FieldType.boolean)))
theorem vX12_isOne : Yv nX12_isOne 1 := ⟨(tb_mem (List.mem_of_getElem? (i := 1549) (by decide +kernel)) (by decide +kernel)), (tb_mem (List.mem_of_getElem? (i := 49) (by decide +kernel)) (by decide +kernel)), (tb_mem (List.mem_of_getElem? (i := 107) (by decide +kernel)) (by decide +kernel)), (tb_mem (List.mem_of_getElem? (i := 1550) (by decide +kernel)) (by decide +kernel)), ⟨by decide +kernel, by decide +kernel, by decide +kernel⟩⟩
abbrev nX12_areTwo : MN := (yX12_areTwo, cX12_areTwo, 2, (some (FieldType.boolean)))
theorem vX12_areTwo : Yv nX12_areTwo 1 := ⟨(tb_mem (List.mem_of_getElem? (i := 1636) (by decide +kernel)) (by decide +kernel)), (tb_mem (List.mem_of_getElem? (i := 63) (by decide +kernel)) (by decide +kernel)), (tb_mem (List.mem_of_getElem? (i := 107) (by decide +kernel)) (by decide +kernel)), (tb_mem (List.mem_of_getElem? (i := 1637) (by decide +kernel)) (by decide +kernel)), ⟨by decide +kernel, by decide +kernel, by decide +kernel⟩⟩
abbrev nX12_isShelf : MN := (yX12_isShelf, cX12_isShelf, 1, (some (FieldType.boolean)))
theorem vX12_isShelf : Ys nX12_isShelf 1 := ⟨(tb_mem (List.mem_of_getElem? (i := 1536) (by decide +kernel)) (by decide +kernel)), (tb_mem (List.mem_of_getElem? (i := 107) (by decide +kernel)) (by decide +kernel)), (tb_mem (List.mem_of_getElem? (i := 1537) (by decide +kernel)) (by decide +kernel)), ⟨by decide +kernel, by decide +kernel, by decide +kernel⟩⟩
abbrev nX12_newSwimmer : MN := (yX12_newSwimmer, cX12_newSwimmer, 5, (some (FieldType.int)))
theorem vX12_newSwimmer : Yv nX12_newSwimmer 4 := ⟨(tb_mem (List.mem_of_getElem? (i := 1529) (by decide +kernel)) (by decide +kernel)), (tb_mem (List.mem_of_getElem? (i := 47) (by decide +kernel)) (by decide +kernel)), (tb_mem (List.mem_of_getElem? (i := 107) (by decide +kernel)) (by decide +kernel)), (tb_mem (List.mem_of_getElem? (i := 1530) (by decide +kernel)) (by decide +kernel)), ⟨by decide +kernel, by decide +kernel, by decide +kernel⟩⟩
abbrev nX12_swimmer : MN := (yX12_swimmer, cX12_swimmer, 3, (some (FieldType.int)))
theorem vX12_swimmer : Yv nX12_swimmer 2 := ⟨(tb_mem (List.mem_of_getElem? (i := 1521) (by decide +kernel)) (by decide +kernel)), (tb_mem (List.mem_of_getElem? (i := 1522) (by decide +kernel)) (by decide +kernel)), (tb_mem (List.mem_of_getElem? (i := 107) (by decide +kernel)) (by decide +kernel)), (tb_mem (List.mem_of_getElem? (i := 1523) (by decide +kernel)) (by decide +kernel)), ⟨by decide +kernel, by decide +kernel, by decide +kernel⟩⟩
abbrev nX12_swimmers : MN := (yX12_swimmers, cX12_swimmers, 9, (some (FieldType.int)))
theorem vX12_swimmers : Yv nX12_swimmers 3 := ⟨(tb_mem (List.mem_of_getElem? (i := 1532) (by decide +kernel)) (by decide +kernel)), (tb_mem (List.mem_of_getElem? (i := 1533) (by decide +kernel)) (by decide +kernel)), (tb_mem (List.mem_of_getElem? (i := 107) (by decide +kernel)) (by decide +kernel)), (tb_mem (List.mem_of_getElem? (i := 1534) (by decide +kernel)) (by decide +kernel)), ⟨by decide +kernel, by decide +kernel, by decide +kernel⟩⟩
abbrev nX12_isOf : MN := (yX12_isOf, cX12_isOf, 3, (some (FieldType.boolean)))
theorem vX12_isOf : Yv nX12_isOf 2 := ⟨(tb_mem (List.mem_of_getElem? (i := 1545) (by decide +kernel)) (by decide +kernel)), (tb_mem (List.mem_of_getElem? (i := 48) (by decide +kernel)) (by decide +kernel)), (tb_mem (List.mem_of_getElem? (i := 107) (by decide +kernel)) (by decide +kernel)), (tb_mem (List.mem_of_getElem? (i := 1546) (by decide +kernel)) (by decide +kernel)), ⟨by decide +kernel, by decide +kernel, by decide +kernel⟩⟩
abbrev nX12_isFit : MN := (yX12_isFit, cX12_isFit, 2, (some (FieldType.boolean)))
theorem vX12_isFit : Ys nX12_isFit 2 := ⟨(tb_mem (List.mem_of_getElem? (i := 1552) (by decide +kernel)) (by decide +kernel)), (tb_mem (List.mem_of_getElem? (i := 107) (by decide +kernel)) (by decide +kernel)), (tb_mem (List.mem_of_getElem? (i := 1553) (by decide +kernel)) (by decide +kernel)), ⟨by decide +kernel, by decide +kernel, by decide +kernel⟩⟩
abbrev nX12_get : MN := (yX12_get, cX12_get, 3, (some (FieldType.int)))
theorem vX12_get : Yv nX12_get 2 := ⟨(tb_mem (List.mem_of_getElem? (i := 1557) (by decide +kernel)) (by decide +kernel)), (tb_mem (List.mem_of_getElem? (i := 50) (by decide +kernel)) (by decide +kernel)), (tb_mem (List.mem_of_getElem? (i := 107) (by decide +kernel)) (by decide +kernel)), (tb_mem (List.mem_of_getElem? (i := 1558) (by decide +kernel)) (by decide +kernel)), ⟨by decide +kernel, by decide +kernel, by decide +kernel⟩⟩
abbrev nX12_becomes : MN := (yX12_becomes, cX12_becomes, 4, none)
theorem vX12_becomes : Yv nX12_becomes 3 := ⟨(tb_mem (List.mem_of_getElem? (i := 1561) (by decide +kernel)) (by decide +kernel)), (tb_mem (List.mem_of_getElem? (i := 51) (by decide +kernel)) (by decide +kernel)), (tb_mem (List.mem_of_getElem? (i := 107) (by decide +kernel)) (by decide +kernel)), (tb_mem (List.mem_of_getElem? (i := 1562) (by decide +kernel)) (by decide +kernel)), ⟨by decide +kernel, by decide +kernel, by decide +kernel⟩⟩
abbrev nX12_mend : MN := (yX12_mend, cX12_mend, 6, (some (FieldType.int)))
theorem vX12_mend : Yv nX12_mend 3 := ⟨(tb_mem (List.mem_of_getElem? (i := 1540) (by decide +kernel)) (by decide +kernel)), (tb_mem (List.mem_of_getElem? (i := 1541) (by decide +kernel)) (by decide +kernel)), (tb_mem (List.mem_of_getElem? (i := 107) (by decide +kernel)) (by decide +kernel)), (tb_mem (List.mem_of_getElem? (i := 1542) (by decide +kernel)) (by decide +kernel)), ⟨by decide +kernel, by decide +kernel, by decide +kernel⟩⟩
abbrev nX12_of : MN := (yX12_of, cX12_of, 3, (some (FieldType.int)))
theorem vX12_of : Yv nX12_of 2 := ⟨(tb_mem (List.mem_of_getElem? (i := 1564) (by decide +kernel)) (by decide +kernel)), (tb_mem (List.mem_of_getElem? (i := 1565) (by decide +kernel)) (by decide +kernel)), (tb_mem (List.mem_of_getElem? (i := 107) (by decide +kernel)) (by decide +kernel)), (tb_mem (List.mem_of_getElem? (i := 1566) (by decide +kernel)) (by decide +kernel)), ⟨by decide +kernel, by decide +kernel, by decide +kernel⟩⟩
abbrev nX12_undo : MN := (yX12_undo, cX12_undo, 1, (some (FieldType.int)))
theorem vX12_undo : Yv nX12_undo 0 := ⟨(tb_mem (List.mem_of_getElem? (i := 1568) (by decide +kernel)) (by decide +kernel)), (tb_mem (List.mem_of_getElem? (i := 1569) (by decide +kernel)) (by decide +kernel)), (tb_mem (List.mem_of_getElem? (i := 107) (by decide +kernel)) (by decide +kernel)), (tb_mem (List.mem_of_getElem? (i := 1570) (by decide +kernel)) (by decide +kernel)), ⟨by decide +kernel, by decide +kernel, by decide +kernel⟩⟩
abbrev nX12_redo : MN := (yX12_redo, cX12_redo, 1, (some (FieldType.int)))
theorem vX12_redo : Yv nX12_redo 0 := ⟨(tb_mem (List.mem_of_getElem? (i := 1572) (by decide +kernel)) (by decide +kernel)), (tb_mem (List.mem_of_getElem? (i := 1573) (by decide +kernel)) (by decide +kernel)), (tb_mem (List.mem_of_getElem? (i := 107) (by decide +kernel)) (by decide +kernel)), (tb_mem (List.mem_of_getElem? (i := 1574) (by decide +kernel)) (by decide +kernel)), ⟨by decide +kernel, by decide +kernel, by decide +kernel⟩⟩
abbrev nX12_feed : MN := (yX12_feed, cX12_feed, 2, (some (FieldType.int)))
theorem vX12_feed : Yv nX12_feed 1 := ⟨(tb_mem (List.mem_of_getElem? (i := 1576) (by decide +kernel)) (by decide +kernel)), (tb_mem (List.mem_of_getElem? (i := 1577) (by decide +kernel)) (by decide +kernel)), (tb_mem (List.mem_of_getElem? (i := 107) (by decide +kernel)) (by decide +kernel)), (tb_mem (List.mem_of_getElem? (i := 1578) (by decide +kernel)) (by decide +kernel)), ⟨by decide +kernel, by decide +kernel, by decide +kernel⟩⟩
abbrev nX12_sign : MN := (yX12_sign, cX12_sign, 1, (some (FieldType.int)))
theorem vX12_sign : Yv nX12_sign 0 := ⟨(tb_mem (List.mem_of_getElem? (i := 1617) (by decide +kernel)) (by decide +kernel)), (tb_mem (List.mem_of_getElem? (i := 60) (by decide +kernel)) (by decide +kernel)), (tb_mem (List.mem_of_getElem? (i := 107) (by decide +kernel)) (by decide +kernel)), (tb_mem (List.mem_of_getElem? (i := 1618) (by decide +kernel)) (by decide +kernel)), ⟨by decide +kernel, by decide +kernel, by decide +kernel⟩⟩
abbrev nX12_is : MN := (yX12_is, cX12_is, 2, (some (FieldType.boolean)))
theorem vX12_is : Yv nX12_is 1 := ⟨(tb_mem (List.mem_of_getElem? (i := 1628) (by decide +kernel)) (by decide +kernel)), (tb_mem (List.mem_of_getElem? (i := 62) (by decide +kernel)) (by decide +kernel)), (tb_mem (List.mem_of_getElem? (i := 107) (by decide +kernel)) (by decide +kernel)), (tb_mem (List.mem_of_getElem? (i := 1629) (by decide +kernel)) (by decide +kernel)), ⟨by decide +kernel, by decide +kernel, by decide +kernel⟩⟩
abbrev nX12_codes : MN := (yX12_codes, cX12_codes, 2, (some (FieldType.boolean)))
theorem vX12_codes : Yv nX12_codes 1 := ⟨(tb_mem (List.mem_of_getElem? (i := 1621) (by decide +kernel)) (by decide +kernel)), (tb_mem (List.mem_of_getElem? (i := 61) (by decide +kernel)) (by decide +kernel)), (tb_mem (List.mem_of_getElem? (i := 107) (by decide +kernel)) (by decide +kernel)), (tb_mem (List.mem_of_getElem? (i := 1622) (by decide +kernel)) (by decide +kernel)), ⟨by decide +kernel, by decide +kernel, by decide +kernel⟩⟩
abbrev nX12_isDigit : MN := (yX12_isDigit, cX12_isDigit, 1, (some (FieldType.boolean)))
theorem vX12_isDigit : Yv nX12_isDigit 0 := ⟨(tb_mem (List.mem_of_getElem? (i := 1613) (by decide +kernel)) (by decide +kernel)), (tb_mem (List.mem_of_getElem? (i := 59) (by decide +kernel)) (by decide +kernel)), (tb_mem (List.mem_of_getElem? (i := 107) (by decide +kernel)) (by decide +kernel)), (tb_mem (List.mem_of_getElem? (i := 1614) (by decide +kernel)) (by decide +kernel)), ⟨by decide +kernel, by decide +kernel, by decide +kernel⟩⟩
abbrev nX12_nameOf : MN := (yX12_nameOf, cX12_nameOf, 1, (some (FieldType.int)))
theorem vX12_nameOf : Ys nX12_nameOf 1 := ⟨(tb_mem (List.mem_of_getElem? (i := 1624) (by decide +kernel)) (by decide +kernel)), (tb_mem (List.mem_of_getElem? (i := 107) (by decide +kernel)) (by decide +kernel)), (tb_mem (List.mem_of_getElem? (i := 1625) (by decide +kernel)) (by decide +kernel)), ⟨by decide +kernel, by decide +kernel, by decide +kernel⟩⟩
abbrev nX12_isO : MN := (yX12_isO, cX12_isO, 3, (some (FieldType.boolean)))
theorem vX12_isO : Yv nX12_isO 0 := ⟨(tb_mem (List.mem_of_getElem? (i := 1609) (by decide +kernel)) (by decide +kernel)), (tb_mem (List.mem_of_getElem? (i := 58) (by decide +kernel)) (by decide +kernel)), (tb_mem (List.mem_of_getElem? (i := 107) (by decide +kernel)) (by decide +kernel)), (tb_mem (List.mem_of_getElem? (i := 1610) (by decide +kernel)) (by decide +kernel)), ⟨by decide +kernel, by decide +kernel, by decide +kernel⟩⟩
abbrev nX12_isP : MN := (yX12_isP, cX12_isP, 2, (some (FieldType.boolean)))
theorem vX12_isP : Yv nX12_isP 0 := ⟨(tb_mem (List.mem_of_getElem? (i := 1605) (by decide +kernel)) (by decide +kernel)), (tb_mem (List.mem_of_getElem? (i := 57) (by decide +kernel)) (by decide +kernel)), (tb_mem (List.mem_of_getElem? (i := 107) (by decide +kernel)) (by decide +kernel)), (tb_mem (List.mem_of_getElem? (i := 1606) (by decide +kernel)) (by decide +kernel)), ⟨by decide +kernel, by decide +kernel, by decide +kernel⟩⟩
abbrev nX12_isS : MN := (yX12_isS, cX12_isS, 2, (some (FieldType.boolean)))
theorem vX12_isS : Yv nX12_isS 0 := ⟨(tb_mem (List.mem_of_getElem? (i := 1601) (by decide +kernel)) (by decide +kernel)), (tb_mem (List.mem_of_getElem? (i := 56) (by decide +kernel)) (by decide +kernel)), (tb_mem (List.mem_of_getElem? (i := 107) (by decide +kernel)) (by decide +kernel)), (tb_mem (List.mem_of_getElem? (i := 1602) (by decide +kernel)) (by decide +kernel)), ⟨by decide +kernel, by decide +kernel, by decide +kernel⟩⟩
abbrev nX12_isB : MN := (yX12_isB, cX12_isB, 2, (some (FieldType.boolean)))
theorem vX12_isB : Yv nX12_isB 0 := ⟨(tb_mem (List.mem_of_getElem? (i := 1597) (by decide +kernel)) (by decide +kernel)), (tb_mem (List.mem_of_getElem? (i := 55) (by decide +kernel)) (by decide +kernel)), (tb_mem (List.mem_of_getElem? (i := 107) (by decide +kernel)) (by decide +kernel)), (tb_mem (List.mem_of_getElem? (i := 1598) (by decide +kernel)) (by decide +kernel)), ⟨by decide +kernel, by decide +kernel, by decide +kernel⟩⟩
abbrev nX12_isA : MN := (yX12_isA, cX12_isA, 1, (some (FieldType.boolean)))
theorem vX12_isA : Yv nX12_isA 0 := ⟨(tb_mem (List.mem_of_getElem? (i := 1593) (by decide +kernel)) (by decide +kernel)), (tb_mem (List.mem_of_getElem? (i := 54) (by decide +kernel)) (by decide +kernel)), (tb_mem (List.mem_of_getElem? (i := 107) (by decide +kernel)) (by decide +kernel)), (tb_mem (List.mem_of_getElem? (i := 1594) (by decide +kernel)) (by decide +kernel)), ⟨by decide +kernel, by decide +kernel, by decide +kernel⟩⟩
abbrev nX12_isE : MN := (yX12_isE, cX12_isE, 1, (some (FieldType.boolean)))
theorem vX12_isE : Yv nX12_isE 0 := ⟨(tb_mem (List.mem_of_getElem? (i := 1589) (by decide +kernel)) (by decide +kernel)), (tb_mem (List.mem_of_getElem? (i := 53) (by decide +kernel)) (by decide +kernel)), (tb_mem (List.mem_of_getElem? (i := 107) (by decide +kernel)) (by decide +kernel)), (tb_mem (List.mem_of_getElem? (i := 1590) (by decide +kernel)) (by decide +kernel)), ⟨by decide +kernel, by decide +kernel, by decide +kernel⟩⟩
abbrev nX12_isLine : MN := (yX12_isLine, cX12_isLine, 1, (some (FieldType.boolean)))
theorem vX12_isLine : Yv nX12_isLine 0 := ⟨(tb_mem (List.mem_of_getElem? (i := 1585) (by decide +kernel)) (by decide +kernel)), (tb_mem (List.mem_of_getElem? (i := 52) (by decide +kernel)) (by decide +kernel)), (tb_mem (List.mem_of_getElem? (i := 107) (by decide +kernel)) (by decide +kernel)), (tb_mem (List.mem_of_getElem? (i := 1586) (by decide +kernel)) (by decide +kernel)), ⟨by decide +kernel, by decide +kernel, by decide +kernel⟩⟩
abbrev nX12_law : MN := (yX12_law, cX12_law, 4, (some (FieldType.int)))
theorem vX12_law : Yv nX12_law 0 := ⟨(tb_mem (List.mem_of_getElem? (i := 1580) (by decide +kernel)) (by decide +kernel)), (tb_mem (List.mem_of_getElem? (i := 1581) (by decide +kernel)) (by decide +kernel)), (tb_mem (List.mem_of_getElem? (i := 107) (by decide +kernel)) (by decide +kernel)), (tb_mem (List.mem_of_getElem? (i := 1582) (by decide +kernel)) (by decide +kernel)), ⟨by decide +kernel, by decide +kernel, by decide +kernel⟩⟩
abbrev nX12_both : MN := (yX12_both, cX12_both, 3, (some (FieldType.int)))
theorem vX12_both : Ys nX12_both 3 := ⟨(tb_mem (List.mem_of_getElem? (i := 1649) (by decide +kernel)) (by decide +kernel)), (tb_mem (List.mem_of_getElem? (i := 107) (by decide +kernel)) (by decide +kernel)), (tb_mem (List.mem_of_getElem? (i := 1650) (by decide +kernel)) (by decide +kernel)), ⟨by decide +kernel, by decide +kernel, by decide +kernel⟩⟩
abbrev nX12_worked : MN := (yX12_worked, cX12_worked, 6, (some (FieldType.int)))
theorem vX12_worked : Yv nX12_worked 2 := ⟨(tb_mem (List.mem_of_getElem? (i := 1646) (by decide +kernel)) (by decide +kernel)), (tb_mem (List.mem_of_getElem? (i := 65) (by decide +kernel)) (by decide +kernel)), (tb_mem (List.mem_of_getElem? (i := 107) (by decide +kernel)) (by decide +kernel)), (tb_mem (List.mem_of_getElem? (i := 1647) (by decide +kernel)) (by decide +kernel)), ⟨by decide +kernel, by decide +kernel, by decide +kernel⟩⟩
abbrev nX12_loss : MN := (yX12_loss, cX12_loss, 7, (some (FieldType.int)))
theorem vX12_loss : Yv nX12_loss 5 := ⟨(tb_mem (List.mem_of_getElem? (i := 1640) (by decide +kernel)) (by decide +kernel)), (tb_mem (List.mem_of_getElem? (i := 64) (by decide +kernel)) (by decide +kernel)), (tb_mem (List.mem_of_getElem? (i := 107) (by decide +kernel)) (by decide +kernel)), (tb_mem (List.mem_of_getElem? (i := 1641) (by decide +kernel)) (by decide +kernel)), ⟨by decide +kernel, by decide +kernel, by decide +kernel⟩⟩
abbrev nX12_loses : MN := (yX12_loses, cX12_loses, 4, (some (FieldType.int)))
theorem vX12_loses : Yv nX12_loses 3 := ⟨(tb_mem (List.mem_of_getElem? (i := 1631) (by decide +kernel)) (by decide +kernel)), (tb_mem (List.mem_of_getElem? (i := 1632) (by decide +kernel)) (by decide +kernel)), (tb_mem (List.mem_of_getElem? (i := 107) (by decide +kernel)) (by decide +kernel)), (tb_mem (List.mem_of_getElem? (i := 1633) (by decide +kernel)) (by decide +kernel)), ⟨by decide +kernel, by decide +kernel, by decide +kernel⟩⟩
abbrev nX12_noRow : MN := (yX12_noRow, cX12_noRow, 3, (some (FieldType.int)))
theorem vX12_noRow : Yv nX12_noRow 2 := ⟨(tb_mem (List.mem_of_getElem? (i := 1658) (by decide +kernel)) (by decide +kernel)), (tb_mem (List.mem_of_getElem? (i := 66) (by decide +kernel)) (by decide +kernel)), (tb_mem (List.mem_of_getElem? (i := 107) (by decide +kernel)) (by decide +kernel)), (tb_mem (List.mem_of_getElem? (i := 1659) (by decide +kernel)) (by decide +kernel)), ⟨by decide +kernel, by decide +kernel, by decide +kernel⟩⟩
abbrev nX12_reads : MN := (yX12_reads, cX12_reads, 2, none)
theorem vX12_reads : Yv nX12_reads 1 := ⟨(tb_mem (List.mem_of_getElem? (i := 1662) (by decide +kernel)) (by decide +kernel)), (tb_mem (List.mem_of_getElem? (i := 67) (by decide +kernel)) (by decide +kernel)), (tb_mem (List.mem_of_getElem? (i := 107) (by decide +kernel)) (by decide +kernel)), (tb_mem (List.mem_of_getElem? (i := 1663) (by decide +kernel)) (by decide +kernel)), ⟨by decide +kernel, by decide +kernel, by decide +kernel⟩⟩
abbrev nX12_drifts : MN := (yX12_drifts, cX12_drifts, 5, none)
theorem vX12_drifts : Yv nX12_drifts 1 := ⟨(tb_mem (List.mem_of_getElem? (i := 1670) (by decide +kernel)) (by decide +kernel)), (tb_mem (List.mem_of_getElem? (i := 69) (by decide +kernel)) (by decide +kernel)), (tb_mem (List.mem_of_getElem? (i := 107) (by decide +kernel)) (by decide +kernel)), (tb_mem (List.mem_of_getElem? (i := 1671) (by decide +kernel)) (by decide +kernel)), ⟨by decide +kernel, by decide +kernel, by decide +kernel⟩⟩
abbrev nX12_offOf : MN := (yX12_offOf, cX12_offOf, 3, (some (FieldType.int)))
theorem vX12_offOf : Yv nX12_offOf 2 := ⟨(tb_mem (List.mem_of_getElem? (i := 1683) (by decide +kernel)) (by decide +kernel)), (tb_mem (List.mem_of_getElem? (i := 72) (by decide +kernel)) (by decide +kernel)), (tb_mem (List.mem_of_getElem? (i := 107) (by decide +kernel)) (by decide +kernel)), (tb_mem (List.mem_of_getElem? (i := 1684) (by decide +kernel)) (by decide +kernel)), ⟨by decide +kernel, by decide +kernel, by decide +kernel⟩⟩
abbrev nX12_apartOf : MN := (yX12_apartOf, cX12_apartOf, 4, (some (FieldType.int)))
theorem vX12_apartOf : Yv nX12_apartOf 3 := ⟨(tb_mem (List.mem_of_getElem? (i := 1679) (by decide +kernel)) (by decide +kernel)), (tb_mem (List.mem_of_getElem? (i := 71) (by decide +kernel)) (by decide +kernel)), (tb_mem (List.mem_of_getElem? (i := 107) (by decide +kernel)) (by decide +kernel)), (tb_mem (List.mem_of_getElem? (i := 1680) (by decide +kernel)) (by decide +kernel)), ⟨by decide +kernel, by decide +kernel, by decide +kernel⟩⟩
abbrev nX12_farthest : MN := (yX12_farthest, cX12_farthest, 6, (some (FieldType.int)))
theorem vX12_farthest : Yv nX12_farthest 1 := ⟨(tb_mem (List.mem_of_getElem? (i := 1695) (by decide +kernel)) (by decide +kernel)), (tb_mem (List.mem_of_getElem? (i := 75) (by decide +kernel)) (by decide +kernel)), (tb_mem (List.mem_of_getElem? (i := 107) (by decide +kernel)) (by decide +kernel)), (tb_mem (List.mem_of_getElem? (i := 1696) (by decide +kernel)) (by decide +kernel)), ⟨by decide +kernel, by decide +kernel, by decide +kernel⟩⟩
abbrev nX12_greatest : MN := (yX12_greatest, cX12_greatest, 3, (some (FieldType.int)))
theorem vX12_greatest : Yv nX12_greatest 1 := ⟨(tb_mem (List.mem_of_getElem? (i := 1691) (by decide +kernel)) (by decide +kernel)), (tb_mem (List.mem_of_getElem? (i := 74) (by decide +kernel)) (by decide +kernel)), (tb_mem (List.mem_of_getElem? (i := 107) (by decide +kernel)) (by decide +kernel)), (tb_mem (List.mem_of_getElem? (i := 1692) (by decide +kernel)) (by decide +kernel)), ⟨by decide +kernel, by decide +kernel, by decide +kernel⟩⟩
abbrev nX12_marks : MN := (yX12_marks, cX12_marks, 5, (some (FieldType.int)))
theorem vX12_marks : Yv nX12_marks 0 := ⟨(tb_mem (List.mem_of_getElem? (i := 1675) (by decide +kernel)) (by decide +kernel)), (tb_mem (List.mem_of_getElem? (i := 70) (by decide +kernel)) (by decide +kernel)), (tb_mem (List.mem_of_getElem? (i := 107) (by decide +kernel)) (by decide +kernel)), (tb_mem (List.mem_of_getElem? (i := 1676) (by decide +kernel)) (by decide +kernel)), ⟨by decide +kernel, by decide +kernel, by decide +kernel⟩⟩
abbrev nX12_marksNow : MN := (yX12_marksNow, cX12_marksNow, 1, (some (FieldType.int)))
theorem vX12_marksNow : Yv nX12_marksNow 0 := ⟨(tb_mem (List.mem_of_getElem? (i := 1666) (by decide +kernel)) (by decide +kernel)), (tb_mem (List.mem_of_getElem? (i := 68) (by decide +kernel)) (by decide +kernel)), (tb_mem (List.mem_of_getElem? (i := 107) (by decide +kernel)) (by decide +kernel)), (tb_mem (List.mem_of_getElem? (i := 1667) (by decide +kernel)) (by decide +kernel)), ⟨by decide +kernel, by decide +kernel, by decide +kernel⟩⟩
abbrev nX12_firstApart : MN := (yX12_firstApart, cX12_firstApart, 2, (some (FieldType.int)))
theorem vX12_firstApart : Yv nX12_firstApart 0 := ⟨(tb_mem (List.mem_of_getElem? (i := 1687) (by decide +kernel)) (by decide +kernel)), (tb_mem (List.mem_of_getElem? (i := 73) (by decide +kernel)) (by decide +kernel)), (tb_mem (List.mem_of_getElem? (i := 107) (by decide +kernel)) (by decide +kernel)), (tb_mem (List.mem_of_getElem? (i := 1688) (by decide +kernel)) (by decide +kernel)), ⟨by decide +kernel, by decide +kernel, by decide +kernel⟩⟩
abbrev nX12_losers : MN := (yX12_losers, cX12_losers, 5, (some (FieldType.int)))
theorem vX12_losers : Yv nX12_losers 0 := ⟨(tb_mem (List.mem_of_getElem? (i := 1699) (by decide +kernel)) (by decide +kernel)), (tb_mem (List.mem_of_getElem? (i := 76) (by decide +kernel)) (by decide +kernel)), (tb_mem (List.mem_of_getElem? (i := 107) (by decide +kernel)) (by decide +kernel)), (tb_mem (List.mem_of_getElem? (i := 1700) (by decide +kernel)) (by decide +kernel)), ⟨by decide +kernel, by decide +kernel, by decide +kernel⟩⟩
abbrev nX12_routine : MN := (yX12_routine, cX12_routine, 5, (some (FieldType.int)))
theorem vX12_routine : Yv nX12_routine 2 := ⟨(tb_mem (List.mem_of_getElem? (i := 1653) (by decide +kernel)) (by decide +kernel)), (tb_mem (List.mem_of_getElem? (i := 1654) (by decide +kernel)) (by decide +kernel)), (tb_mem (List.mem_of_getElem? (i := 107) (by decide +kernel)) (by decide +kernel)), (tb_mem (List.mem_of_getElem? (i := 1655) (by decide +kernel)) (by decide +kernel)), ⟨by decide +kernel, by decide +kernel, by decide +kernel⟩⟩
abbrev nX12_off : MN := (yX12_off, cX12_off, 4, (some (FieldType.int)))
theorem vX12_off : Yv nX12_off 3 := ⟨(tb_mem (List.mem_of_getElem? (i := 1702) (by decide +kernel)) (by decide +kernel)), (tb_mem (List.mem_of_getElem? (i := 1703) (by decide +kernel)) (by decide +kernel)), (tb_mem (List.mem_of_getElem? (i := 107) (by decide +kernel)) (by decide +kernel)), (tb_mem (List.mem_of_getElem? (i := 1704) (by decide +kernel)) (by decide +kernel)), ⟨by decide +kernel, by decide +kernel, by decide +kernel⟩⟩
abbrev nX12_apart : MN := (yX12_apart, cX12_apart, 5, (some (FieldType.int)))
theorem vX12_apart : Yv nX12_apart 3 := ⟨(tb_mem (List.mem_of_getElem? (i := 1706) (by decide +kernel)) (by decide +kernel)), (tb_mem (List.mem_of_getElem? (i := 1707) (by decide +kernel)) (by decide +kernel)), (tb_mem (List.mem_of_getElem? (i := 107) (by decide +kernel)) (by decide +kernel)), (tb_mem (List.mem_of_getElem? (i := 1708) (by decide +kernel)) (by decide +kernel)), ⟨by decide +kernel, by decide +kernel, by decide +kernel⟩⟩
abbrev nX12_isUnder : MN := (yX12_isUnder, cX12_isUnder, 1, (some (FieldType.boolean)))
theorem vX12_isUnder : Ys nX12_isUnder 1 := ⟨(tb_mem (List.mem_of_getElem? (i := 1722) (by decide +kernel)) (by decide +kernel)), (tb_mem (List.mem_of_getElem? (i := 107) (by decide +kernel)) (by decide +kernel)), (tb_mem (List.mem_of_getElem? (i := 1723) (by decide +kernel)) (by decide +kernel)), ⟨by decide +kernel, by decide +kernel, by decide +kernel⟩⟩
abbrev nX12_goneAt : MN := (yX12_goneAt, cX12_goneAt, 5, (some (FieldType.int)))
theorem vX12_goneAt : Yv nX12_goneAt 1 := ⟨(tb_mem (List.mem_of_getElem? (i := 1719) (by decide +kernel)) (by decide +kernel)), (tb_mem (List.mem_of_getElem? (i := 78) (by decide +kernel)) (by decide +kernel)), (tb_mem (List.mem_of_getElem? (i := 107) (by decide +kernel)) (by decide +kernel)), (tb_mem (List.mem_of_getElem? (i := 1720) (by decide +kernel)) (by decide +kernel)), ⟨by decide +kernel, by decide +kernel, by decide +kernel⟩⟩
abbrev nX12_goneBits : MN := (yX12_goneBits, cX12_goneBits, 3, (some (FieldType.int)))
theorem vX12_goneBits : Yv nX12_goneBits 0 := ⟨(tb_mem (List.mem_of_getElem? (i := 1715) (by decide +kernel)) (by decide +kernel)), (tb_mem (List.mem_of_getElem? (i := 77) (by decide +kernel)) (by decide +kernel)), (tb_mem (List.mem_of_getElem? (i := 107) (by decide +kernel)) (by decide +kernel)), (tb_mem (List.mem_of_getElem? (i := 1716) (by decide +kernel)) (by decide +kernel)), ⟨by decide +kernel, by decide +kernel, by decide +kernel⟩⟩
abbrev nX12_gone : MN := (yX12_gone, cX12_gone, 4, (some (FieldType.int)))
theorem vX12_gone : Yv nX12_gone 2 := ⟨(tb_mem (List.mem_of_getElem? (i := 1710) (by decide +kernel)) (by decide +kernel)), (tb_mem (List.mem_of_getElem? (i := 1711) (by decide +kernel)) (by decide +kernel)), (tb_mem (List.mem_of_getElem? (i := 107) (by decide +kernel)) (by decide +kernel)), (tb_mem (List.mem_of_getElem? (i := 1712) (by decide +kernel)) (by decide +kernel)), ⟨by decide +kernel, by decide +kernel, by decide +kernel⟩⟩
abbrev nX12_least : MN := (yX12_least, cX12_least, 5, (some (FieldType.int)))
theorem vX12_least : Yv nX12_least 2 := ⟨(tb_mem (List.mem_of_getElem? (i := 1725) (by decide +kernel)) (by decide +kernel)), (tb_mem (List.mem_of_getElem? (i := 1726) (by decide +kernel)) (by decide +kernel)), (tb_mem (List.mem_of_getElem? (i := 107) (by decide +kernel)) (by decide +kernel)), (tb_mem (List.mem_of_getElem? (i := 1727) (by decide +kernel)) (by decide +kernel)), ⟨by decide +kernel, by decide +kernel, by decide +kernel⟩⟩
abbrev nX12_isNeverApart : MN := (yX12_isNeverApart, cX12_isNeverApart, 1, (some (FieldType.boolean)))
theorem vX12_isNeverApart : Yv nX12_isNeverApart 0 := ⟨(tb_mem (List.mem_of_getElem? (i := 1742) (by decide +kernel)) (by decide +kernel)), (tb_mem (List.mem_of_getElem? (i := 81) (by decide +kernel)) (by decide +kernel)), (tb_mem (List.mem_of_getElem? (i := 107) (by decide +kernel)) (by decide +kernel)), (tb_mem (List.mem_of_getElem? (i := 1743) (by decide +kernel)) (by decide +kernel)), ⟨by decide +kernel, by decide +kernel, by decide +kernel⟩⟩
abbrev nX12_picks : MN := (yX12_picks, cX12_picks, 8, (some (FieldType.boolean)))
theorem vX12_picks : Yv nX12_picks 5 := ⟨(tb_mem (List.mem_of_getElem? (i := 1738) (by decide +kernel)) (by decide +kernel)), (tb_mem (List.mem_of_getElem? (i := 80) (by decide +kernel)) (by decide +kernel)), (tb_mem (List.mem_of_getElem? (i := 107) (by decide +kernel)) (by decide +kernel)), (tb_mem (List.mem_of_getElem? (i := 1739) (by decide +kernel)) (by decide +kernel)), ⟨by decide +kernel, by decide +kernel, by decide +kernel⟩⟩
abbrev nX12_fewest : MN := (yX12_fewest, cX12_fewest, 7, (some (FieldType.int)))
theorem vX12_fewest : Yv nX12_fewest 4 := ⟨(tb_mem (List.mem_of_getElem? (i := 1734) (by decide +kernel)) (by decide +kernel)), (tb_mem (List.mem_of_getElem? (i := 79) (by decide +kernel)) (by decide +kernel)), (tb_mem (List.mem_of_getElem? (i := 107) (by decide +kernel)) (by decide +kernel)), (tb_mem (List.mem_of_getElem? (i := 1735) (by decide +kernel)) (by decide +kernel)), ⟨by decide +kernel, by decide +kernel, by decide +kernel⟩⟩
abbrev nX12_gasps : MN := (yX12_gasps, cX12_gasps, 3, (some (FieldType.int)))
theorem vX12_gasps : Yv nX12_gasps 2 := ⟨(tb_mem (List.mem_of_getElem? (i := 1729) (by decide +kernel)) (by decide +kernel)), (tb_mem (List.mem_of_getElem? (i := 1730) (by decide +kernel)) (by decide +kernel)), (tb_mem (List.mem_of_getElem? (i := 107) (by decide +kernel)) (by decide +kernel)), (tb_mem (List.mem_of_getElem? (i := 1731) (by decide +kernel)) (by decide +kernel)), ⟨by decide +kernel, by decide +kernel, by decide +kernel⟩⟩
abbrev nX12_looks : MN := (yX12_looks, cX12_looks, 3, (some (FieldType.int)))
theorem vX12_looks : Yv nX12_looks 2 := ⟨(tb_mem (List.mem_of_getElem? (i := 1745) (by decide +kernel)) (by decide +kernel)), (tb_mem (List.mem_of_getElem? (i := 1746) (by decide +kernel)) (by decide +kernel)), (tb_mem (List.mem_of_getElem? (i := 107) (by decide +kernel)) (by decide +kernel)), (tb_mem (List.mem_of_getElem? (i := 1747) (by decide +kernel)) (by decide +kernel)), ⟨by decide +kernel, by decide +kernel, by decide +kernel⟩⟩
abbrev nX12_whose : MN := (yX12_whose, cX12_whose, 9, (some (FieldType.int)))
theorem vX12_whose : Yv nX12_whose 2 := ⟨(tb_mem (List.mem_of_getElem? (i := 1749) (by decide +kernel)) (by decide +kernel)), (tb_mem (List.mem_of_getElem? (i := 1750) (by decide +kernel)) (by decide +kernel)), (tb_mem (List.mem_of_getElem? (i := 107) (by decide +kernel)) (by decide +kernel)), (tb_mem (List.mem_of_getElem? (i := 1751) (by decide +kernel)) (by decide +kernel)), ⟨by decide +kernel, by decide +kernel, by decide +kernel⟩⟩
abbrev nX12_first : MN := (yX12_first, cX12_first, 9, (some (FieldType.int)))
theorem vX12_first : Yv nX12_first 2 := ⟨(tb_mem (List.mem_of_getElem? (i := 1753) (by decide +kernel)) (by decide +kernel)), (tb_mem (List.mem_of_getElem? (i := 1754) (by decide +kernel)) (by decide +kernel)), (tb_mem (List.mem_of_getElem? (i := 107) (by decide +kernel)) (by decide +kernel)), (tb_mem (List.mem_of_getElem? (i := 1755) (by decide +kernel)) (by decide +kernel)), ⟨by decide +kernel, by decide +kernel, by decide +kernel⟩⟩
abbrev nX12_slip : MN := (yX12_slip, cX12_slip, 6, (some (FieldType.int)))
theorem vX12_slip : Yv nX12_slip 3 := ⟨(tb_mem (List.mem_of_getElem? (i := 1757) (by decide +kernel)) (by decide +kernel)), (tb_mem (List.mem_of_getElem? (i := 1758) (by decide +kernel)) (by decide +kernel)), (tb_mem (List.mem_of_getElem? (i := 107) (by decide +kernel)) (by decide +kernel)), (tb_mem (List.mem_of_getElem? (i := 1759) (by decide +kernel)) (by decide +kernel)), ⟨by decide +kernel, by decide +kernel, by decide +kernel⟩⟩
abbrev nX12_unlike : MN := (yX12_unlike, cX12_unlike, 6, (some (FieldType.int)))
theorem vX12_unlike : Yv nX12_unlike 1 := ⟨(tb_mem (List.mem_of_getElem? (i := 1766) (by decide +kernel)) (by decide +kernel)), (tb_mem (List.mem_of_getElem? (i := 82) (by decide +kernel)) (by decide +kernel)), (tb_mem (List.mem_of_getElem? (i := 107) (by decide +kernel)) (by decide +kernel)), (tb_mem (List.mem_of_getElem? (i := 1767) (by decide +kernel)) (by decide +kernel)), ⟨by decide +kernel, by decide +kernel, by decide +kernel⟩⟩
abbrev nX12_nextOrder : MN := (yX12_nextOrder, cX12_nextOrder, 5, (some (FieldType.boolean)))
theorem vX12_nextOrder : Yv nX12_nextOrder 0 := ⟨(tb_mem (List.mem_of_getElem? (i := 1770) (by decide +kernel)) (by decide +kernel)), (tb_mem (List.mem_of_getElem? (i := 83) (by decide +kernel)) (by decide +kernel)), (tb_mem (List.mem_of_getElem? (i := 107) (by decide +kernel)) (by decide +kernel)), (tb_mem (List.mem_of_getElem? (i := 1771) (by decide +kernel)) (by decide +kernel)), ⟨by decide +kernel, by decide +kernel, by decide +kernel⟩⟩
abbrev nX12_exchange : MN := (yX12_exchange, cX12_exchange, 4, none)
theorem vX12_exchange : Yv nX12_exchange 2 := ⟨(tb_mem (List.mem_of_getElem? (i := 1774) (by decide +kernel)) (by decide +kernel)), (tb_mem (List.mem_of_getElem? (i := 84) (by decide +kernel)) (by decide +kernel)), (tb_mem (List.mem_of_getElem? (i := 107) (by decide +kernel)) (by decide +kernel)), (tb_mem (List.mem_of_getElem? (i := 1775) (by decide +kernel)) (by decide +kernel)), ⟨by decide +kernel, by decide +kernel, by decide +kernel⟩⟩
abbrev nX12_line : MN := (yX12_line, cX12_line, 7, (some (FieldType.int)))
theorem vX12_line : Yv nX12_line 2 := ⟨(tb_mem (List.mem_of_getElem? (i := 1761) (by decide +kernel)) (by decide +kernel)), (tb_mem (List.mem_of_getElem? (i := 1762) (by decide +kernel)) (by decide +kernel)), (tb_mem (List.mem_of_getElem? (i := 107) (by decide +kernel)) (by decide +kernel)), (tb_mem (List.mem_of_getElem? (i := 1763) (by decide +kernel)) (by decide +kernel)), ⟨by decide +kernel, by decide +kernel, by decide +kernel⟩⟩
abbrev nX12_lift : MN := (yX12_lift, cX12_lift, 9, (some (FieldType.int)))
theorem vX12_lift : Yv nX12_lift 1 := ⟨(tb_mem (List.mem_of_getElem? (i := 1777) (by decide +kernel)) (by decide +kernel)), (tb_mem (List.mem_of_getElem? (i := 1778) (by decide +kernel)) (by decide +kernel)), (tb_mem (List.mem_of_getElem? (i := 107) (by decide +kernel)) (by decide +kernel)), (tb_mem (List.mem_of_getElem? (i := 1779) (by decide +kernel)) (by decide +kernel)), ⟨by decide +kernel, by decide +kernel, by decide +kernel⟩⟩
abbrev nX12_span : MN := (yX12_span, cX12_span, 5, (some (FieldType.int)))
theorem vX12_span : Ys nX12_span 2 := ⟨(tb_mem (List.mem_of_getElem? (i := 1786) (by decide +kernel)) (by decide +kernel)), (tb_mem (List.mem_of_getElem? (i := 107) (by decide +kernel)) (by decide +kernel)), (tb_mem (List.mem_of_getElem? (i := 1787) (by decide +kernel)) (by decide +kernel)), ⟨by decide +kernel, by decide +kernel, by decide +kernel⟩⟩
abbrev nX12_isAt : MN := (yX12_isAt, cX12_isAt, 5, (some (FieldType.boolean)))
theorem vX12_isAt : Yv nX12_isAt 3 := ⟨(tb_mem (List.mem_of_getElem? (i := 1790) (by decide +kernel)) (by decide +kernel)), (tb_mem (List.mem_of_getElem? (i := 85) (by decide +kernel)) (by decide +kernel)), (tb_mem (List.mem_of_getElem? (i := 107) (by decide +kernel)) (by decide +kernel)), (tb_mem (List.mem_of_getElem? (i := 1791) (by decide +kernel)) (by decide +kernel)), ⟨by decide +kernel, by decide +kernel, by decide +kernel⟩⟩
abbrev nX12_star : MN := (yX12_star, cX12_star, 5, (some (FieldType.int)))
theorem vX12_star : Yv nX12_star 1 := ⟨(tb_mem (List.mem_of_getElem? (i := 1782) (by decide +kernel)) (by decide +kernel)), (tb_mem (List.mem_of_getElem? (i := 1783) (by decide +kernel)) (by decide +kernel)), (tb_mem (List.mem_of_getElem? (i := 107) (by decide +kernel)) (by decide +kernel)), (tb_mem (List.mem_of_getElem? (i := 1784) (by decide +kernel)) (by decide +kernel)), ⟨by decide +kernel, by decide +kernel, by decide +kernel⟩⟩
abbrev nX12_areShelves : MN := (yX12_areShelves, cX12_areShelves, 1, (some (FieldType.boolean)))
theorem vX12_areShelves : Ys nX12_areShelves 1 := ⟨(tb_mem (List.mem_of_getElem? (i := 1797) (by decide +kernel)) (by decide +kernel)), (tb_mem (List.mem_of_getElem? (i := 107) (by decide +kernel)) (by decide +kernel)), (tb_mem (List.mem_of_getElem? (i := 1798) (by decide +kernel)) (by decide +kernel)), ⟨by decide +kernel, by decide +kernel, by decide +kernel⟩⟩
abbrev nX12_noRipples : MN := (yX12_noRipples, cX12_noRipples, 2, (some (FieldType.int)))
theorem vX12_noRipples : Yv nX12_noRipples 1 := ⟨(tb_mem (List.mem_of_getElem? (i := 1801) (by decide +kernel)) (by decide +kernel)), (tb_mem (List.mem_of_getElem? (i := 86) (by decide +kernel)) (by decide +kernel)), (tb_mem (List.mem_of_getElem? (i := 107) (by decide +kernel)) (by decide +kernel)), (tb_mem (List.mem_of_getElem? (i := 1802) (by decide +kernel)) (by decide +kernel)), ⟨by decide +kernel, by decide +kernel, by decide +kernel⟩⟩
abbrev nX12_wrong : MN := (yX12_wrong, cX12_wrong, 3, (some (FieldType.int)))
theorem vX12_wrong : Yv nX12_wrong 1 := ⟨(tb_mem (List.mem_of_getElem? (i := 1805) (by decide +kernel)) (by decide +kernel)), (tb_mem (List.mem_of_getElem? (i := 87) (by decide +kernel)) (by decide +kernel)), (tb_mem (List.mem_of_getElem? (i := 107) (by decide +kernel)) (by decide +kernel)), (tb_mem (List.mem_of_getElem? (i := 1806) (by decide +kernel)) (by decide +kernel)), ⟨by decide +kernel, by decide +kernel, by decide +kernel⟩⟩
abbrev nX12_judge : MN := (yX12_judge, cX12_judge, 3, (some (FieldType.int)))
theorem vX12_judge : Yv nX12_judge 1 := ⟨(tb_mem (List.mem_of_getElem? (i := 1793) (by decide +kernel)) (by decide +kernel)), (tb_mem (List.mem_of_getElem? (i := 1794) (by decide +kernel)) (by decide +kernel)), (tb_mem (List.mem_of_getElem? (i := 107) (by decide +kernel)) (by decide +kernel)), (tb_mem (List.mem_of_getElem? (i := 1795) (by decide +kernel)) (by decide +kernel)), ⟨by decide +kernel, by decide +kernel, by decide +kernel⟩⟩
abbrev nX12_whoLed : MN := (yX12_whoLed, cX12_whoLed, 6, (some (FieldType.int)))
theorem vX12_whoLed : Yv nX12_whoLed 1 := ⟨(tb_mem (List.mem_of_getElem? (i := 1808) (by decide +kernel)) (by decide +kernel)), (tb_mem (List.mem_of_getElem? (i := 1809) (by decide +kernel)) (by decide +kernel)), (tb_mem (List.mem_of_getElem? (i := 107) (by decide +kernel)) (by decide +kernel)), (tb_mem (List.mem_of_getElem? (i := 1810) (by decide +kernel)) (by decide +kernel)), ⟨by decide +kernel, by decide +kernel, by decide +kernel⟩⟩
abbrev nX12_later : MN := (yX12_later, cX12_later, 7, (some (FieldType.int)))
theorem vX12_later : Yv nX12_later 2 := ⟨(tb_mem (List.mem_of_getElem? (i := 1812) (by decide +kernel)) (by decide +kernel)), (tb_mem (List.mem_of_getElem? (i := 1813) (by decide +kernel)) (by decide +kernel)), (tb_mem (List.mem_of_getElem? (i := 107) (by decide +kernel)) (by decide +kernel)), (tb_mem (List.mem_of_getElem? (i := 1814) (by decide +kernel)) (by decide +kernel)), ⟨by decide +kernel, by decide +kernel, by decide +kernel⟩⟩
abbrev nX12_quicker : MN := (yX12_quicker, cX12_quicker, 7, (some (FieldType.int)))
theorem vX12_quicker : Yv nX12_quicker 2 := ⟨(tb_mem (List.mem_of_getElem? (i := 1816) (by decide +kernel)) (by decide +kernel)), (tb_mem (List.mem_of_getElem? (i := 1817) (by decide +kernel)) (by decide +kernel)), (tb_mem (List.mem_of_getElem? (i := 107) (by decide +kernel)) (by decide +kernel)), (tb_mem (List.mem_of_getElem? (i := 1818) (by decide +kernel)) (by decide +kernel)), ⟨by decide +kernel, by decide +kernel, by decide +kernel⟩⟩
abbrev nX12_drawn : MN := (yX12_drawn, cX12_drawn, 10, (some (FieldType.int)))
theorem vX12_drawn : Yv nX12_drawn 4 := ⟨(tb_mem (List.mem_of_getElem? (i := 1820) (by decide +kernel)) (by decide +kernel)), (tb_mem (List.mem_of_getElem? (i := 1821) (by decide +kernel)) (by decide +kernel)), (tb_mem (List.mem_of_getElem? (i := 107) (by decide +kernel)) (by decide +kernel)), (tb_mem (List.mem_of_getElem? (i := 1822) (by decide +kernel)) (by decide +kernel)), ⟨by decide +kernel, by decide +kernel, by decide +kernel⟩⟩
abbrev nX12_swim : MN := (yX12_swim, cX12_swim, 6, (some (FieldType.int)))
theorem vX12_swim : Yv nX12_swim 1 := ⟨(tb_mem (List.mem_of_getElem? (i := 1824) (by decide +kernel)) (by decide +kernel)), (tb_mem (List.mem_of_getElem? (i := 1825) (by decide +kernel)) (by decide +kernel)), (tb_mem (List.mem_of_getElem? (i := 107) (by decide +kernel)) (by decide +kernel)), (tb_mem (List.mem_of_getElem? (i := 1826) (by decide +kernel)) (by decide +kernel)), ⟨by decide +kernel, by decide +kernel, by decide +kernel⟩⟩
abbrev nX12_led : MN := (yX12_led, cX12_led, 2, (some (FieldType.int)))
theorem vX12_led : Yv nX12_led 1 := ⟨(tb_mem (List.mem_of_getElem? (i := 1828) (by decide +kernel)) (by decide +kernel)), (tb_mem (List.mem_of_getElem? (i := 1829) (by decide +kernel)) (by decide +kernel)), (tb_mem (List.mem_of_getElem? (i := 107) (by decide +kernel)) (by decide +kernel)), (tb_mem (List.mem_of_getElem? (i := 1830) (by decide +kernel)) (by decide +kernel)), ⟨by decide +kernel, by decide +kernel, by decide +kernel⟩⟩
abbrev nX12_image : MN := (yX12_image, cX12_image, 2, (some (FieldType.int)))
theorem vX12_image : Yv nX12_image 0 := ⟨(tb_mem (List.mem_of_getElem? (i := 1832) (by decide +kernel)) (by decide +kernel)), (tb_mem (List.mem_of_getElem? (i := 1833) (by decide +kernel)) (by decide +kernel)), (tb_mem (List.mem_of_getElem? (i := 107) (by decide +kernel)) (by decide +kernel)), (tb_mem (List.mem_of_getElem? (i := 1834) (by decide +kernel)) (by decide +kernel)), ⟨by decide +kernel, by decide +kernel, by decide +kernel⟩⟩
abbrev nX12_back : MN := (yX12_back, cX12_back, 2, (some (FieldType.int)))
theorem vX12_back : Yv nX12_back 0 := ⟨(tb_mem (List.mem_of_getElem? (i := 1836) (by decide +kernel)) (by decide +kernel)), (tb_mem (List.mem_of_getElem? (i := 1837) (by decide +kernel)) (by decide +kernel)), (tb_mem (List.mem_of_getElem? (i := 107) (by decide +kernel)) (by decide +kernel)), (tb_mem (List.mem_of_getElem? (i := 1838) (by decide +kernel)) (by decide +kernel)), ⟨by decide +kernel, by decide +kernel, by decide +kernel⟩⟩
abbrev nX12_above : MN := (yX12_above, cX12_above, 1, (some (FieldType.int)))
theorem vX12_above : Ys nX12_above 1 := ⟨(tb_mem (List.mem_of_getElem? (i := 1856) (by decide +kernel)) (by decide +kernel)), (tb_mem (List.mem_of_getElem? (i := 107) (by decide +kernel)) (by decide +kernel)), (tb_mem (List.mem_of_getElem? (i := 1857) (by decide +kernel)) (by decide +kernel)), ⟨by decide +kernel, by decide +kernel, by decide +kernel⟩⟩
abbrev nX12_ran : MN := (yX12_ran, cX12_ran, 2, none)
theorem vX12_ran : Yv nX12_ran 1 := ⟨(tb_mem (List.mem_of_getElem? (i := 1853) (by decide +kernel)) (by decide +kernel)), (tb_mem (List.mem_of_getElem? (i := 89) (by decide +kernel)) (by decide +kernel)), (tb_mem (List.mem_of_getElem? (i := 107) (by decide +kernel)) (by decide +kernel)), (tb_mem (List.mem_of_getElem? (i := 1854) (by decide +kernel)) (by decide +kernel)), ⟨by decide +kernel, by decide +kernel, by decide +kernel⟩⟩
abbrev nX12_countsBy : MN := (yX12_countsBy, cX12_countsBy, 4, (some (FieldType.int)))
theorem vX12_countsBy : Yv nX12_countsBy 3 := ⟨(tb_mem (List.mem_of_getElem? (i := 1849) (by decide +kernel)) (by decide +kernel)), (tb_mem (List.mem_of_getElem? (i := 88) (by decide +kernel)) (by decide +kernel)), (tb_mem (List.mem_of_getElem? (i := 107) (by decide +kernel)) (by decide +kernel)), (tb_mem (List.mem_of_getElem? (i := 1850) (by decide +kernel)) (by decide +kernel)), ⟨by decide +kernel, by decide +kernel, by decide +kernel⟩⟩
abbrev nX12_turnsBy : MN := (yX12_turnsBy, cX12_turnsBy, 5, (some (FieldType.int)))
theorem vX12_turnsBy : Yv nX12_turnsBy 3 := ⟨(tb_mem (List.mem_of_getElem? (i := 1860) (by decide +kernel)) (by decide +kernel)), (tb_mem (List.mem_of_getElem? (i := 90) (by decide +kernel)) (by decide +kernel)), (tb_mem (List.mem_of_getElem? (i := 107) (by decide +kernel)) (by decide +kernel)), (tb_mem (List.mem_of_getElem? (i := 1861) (by decide +kernel)) (by decide +kernel)), ⟨by decide +kernel, by decide +kernel, by decide +kernel⟩⟩
abbrev nX12_sinksBy : MN := (yX12_sinksBy, cX12_sinksBy, 5, (some (FieldType.int)))
theorem vX12_sinksBy : Yv nX12_sinksBy 3 := ⟨(tb_mem (List.mem_of_getElem? (i := 1864) (by decide +kernel)) (by decide +kernel)), (tb_mem (List.mem_of_getElem? (i := 91) (by decide +kernel)) (by decide +kernel)), (tb_mem (List.mem_of_getElem? (i := 107) (by decide +kernel)) (by decide +kernel)), (tb_mem (List.mem_of_getElem? (i := 1865) (by decide +kernel)) (by decide +kernel)), ⟨by decide +kernel, by decide +kernel, by decide +kernel⟩⟩
abbrev nX12_tells : MN := (yX12_tells, cX12_tells, 5, (some (FieldType.int)))
theorem vX12_tells : Yv nX12_tells 3 := ⟨(tb_mem (List.mem_of_getElem? (i := 1868) (by decide +kernel)) (by decide +kernel)), (tb_mem (List.mem_of_getElem? (i := 92) (by decide +kernel)) (by decide +kernel)), (tb_mem (List.mem_of_getElem? (i := 107) (by decide +kernel)) (by decide +kernel)), (tb_mem (List.mem_of_getElem? (i := 1869) (by decide +kernel)) (by decide +kernel)), ⟨by decide +kernel, by decide +kernel, by decide +kernel⟩⟩
abbrev nX12_body : MN := (yX12_body, cX12_body, 2, (some (FieldType.int)))
theorem vX12_body : Yv nX12_body 1 := ⟨(tb_mem (List.mem_of_getElem? (i := 1840) (by decide +kernel)) (by decide +kernel)), (tb_mem (List.mem_of_getElem? (i := 1841) (by decide +kernel)) (by decide +kernel)), (tb_mem (List.mem_of_getElem? (i := 107) (by decide +kernel)) (by decide +kernel)), (tb_mem (List.mem_of_getElem? (i := 1842) (by decide +kernel)) (by decide +kernel)), ⟨by decide +kernel, by decide +kernel, by decide +kernel⟩⟩
abbrev nX12_act : MN := (yX12_act, cX12_act, 5, (some (FieldType.int)))
theorem vX12_act : Yv nX12_act 3 := ⟨(tb_mem (List.mem_of_getElem? (i := 1844) (by decide +kernel)) (by decide +kernel)), (tb_mem (List.mem_of_getElem? (i := 1845) (by decide +kernel)) (by decide +kernel)), (tb_mem (List.mem_of_getElem? (i := 107) (by decide +kernel)) (by decide +kernel)), (tb_mem (List.mem_of_getElem? (i := 1846) (by decide +kernel)) (by decide +kernel)), ⟨by decide +kernel, by decide +kernel, by decide +kernel⟩⟩
abbrev nX12_trace : MN := (yX12_trace, cX12_trace, 2, (some (FieldType.int)))
theorem vX12_trace : Yv nX12_trace 1 := ⟨(tb_mem (List.mem_of_getElem? (i := 1871) (by decide +kernel)) (by decide +kernel)), (tb_mem (List.mem_of_getElem? (i := 1872) (by decide +kernel)) (by decide +kernel)), (tb_mem (List.mem_of_getElem? (i := 107) (by decide +kernel)) (by decide +kernel)), (tb_mem (List.mem_of_getElem? (i := 1873) (by decide +kernel)) (by decide +kernel)), ⟨by decide +kernel, by decide +kernel, by decide +kernel⟩⟩
abbrev nX12_keep : MN := (yX12_keep, cX12_keep, 3, (some (FieldType.int)))
theorem vX12_keep : Yv nX12_keep 2 := ⟨(tb_mem (List.mem_of_getElem? (i := 1875) (by decide +kernel)) (by decide +kernel)), (tb_mem (List.mem_of_getElem? (i := 1876) (by decide +kernel)) (by decide +kernel)), (tb_mem (List.mem_of_getElem? (i := 107) (by decide +kernel)) (by decide +kernel)), (tb_mem (List.mem_of_getElem? (i := 1877) (by decide +kernel)) (by decide +kernel)), ⟨by decide +kernel, by decide +kernel, by decide +kernel⟩⟩
abbrev nX12_row : MN := (yX12_row, cX12_row, 5, (some (FieldType.int)))
theorem vX12_row : Yv nX12_row 3 := ⟨(tb_mem (List.mem_of_getElem? (i := 1879) (by decide +kernel)) (by decide +kernel)), (tb_mem (List.mem_of_getElem? (i := 1880) (by decide +kernel)) (by decide +kernel)), (tb_mem (List.mem_of_getElem? (i := 107) (by decide +kernel)) (by decide +kernel)), (tb_mem (List.mem_of_getElem? (i := 1881) (by decide +kernel)) (by decide +kernel)), ⟨by decide +kernel, by decide +kernel, by decide +kernel⟩⟩
abbrev nX12_isRow : MN := (yX12_isRow, cX12_isRow, 2, (some (FieldType.boolean)))
theorem vX12_isRow : Yv nX12_isRow 1 := ⟨(tb_mem (List.mem_of_getElem? (i := 1888) (by decide +kernel)) (by decide +kernel)), (tb_mem (List.mem_of_getElem? (i := 93) (by decide +kernel)) (by decide +kernel)), (tb_mem (List.mem_of_getElem? (i := 107) (by decide +kernel)) (by decide +kernel)), (tb_mem (List.mem_of_getElem? (i := 1889) (by decide +kernel)) (by decide +kernel)), ⟨by decide +kernel, by decide +kernel, by decide +kernel⟩⟩
abbrev nX12_kept : MN := (yX12_kept, cX12_kept, 3, (some (FieldType.long)))
theorem vX12_kept : Ys nX12_kept 2 := ⟨(tb_mem (List.mem_of_getElem? (i := 1891) (by decide +kernel)) (by decide +kernel)), (tb_mem (List.mem_of_getElem? (i := 107) (by decide +kernel)) (by decide +kernel)), (tb_mem (List.mem_of_getElem? (i := 1892) (by decide +kernel)) (by decide +kernel)), ⟨by decide +kernel, by decide +kernel, by decide +kernel⟩⟩
abbrev nX12_put : MN := (yX12_put, cX12_put, 5, (some (FieldType.int)))
theorem vX12_put : Yv nX12_put 3 := ⟨(tb_mem (List.mem_of_getElem? (i := 1883) (by decide +kernel)) (by decide +kernel)), (tb_mem (List.mem_of_getElem? (i := 1884) (by decide +kernel)) (by decide +kernel)), (tb_mem (List.mem_of_getElem? (i := 107) (by decide +kernel)) (by decide +kernel)), (tb_mem (List.mem_of_getElem? (i := 1885) (by decide +kernel)) (by decide +kernel)), ⟨by decide +kernel, by decide +kernel, by decide +kernel⟩⟩
abbrev nX12_element : MN := (yX12_element, cX12_element, 3, (some (FieldType.long)))
theorem vX12_element : Yv nX12_element 2 := ⟨(tb_mem (List.mem_of_getElem? (i := 1894) (by decide +kernel)) (by decide +kernel)), (tb_mem (List.mem_of_getElem? (i := 1895) (by decide +kernel)) (by decide +kernel)), (tb_mem (List.mem_of_getElem? (i := 107) (by decide +kernel)) (by decide +kernel)), (tb_mem (List.mem_of_getElem? (i := 1896) (by decide +kernel)) (by decide +kernel)), ⟨by decide +kernel, by decide +kernel, by decide +kernel⟩⟩
abbrev nX12_shift : MN := (yX12_shift, cX12_shift, 7, (some (FieldType.int)))
theorem vX12_shift : Yv nX12_shift 5 := ⟨(tb_mem (List.mem_of_getElem? (i := 1899) (by decide +kernel)) (by decide +kernel)), (tb_mem (List.mem_of_getElem? (i := 1900) (by decide +kernel)) (by decide +kernel)), (tb_mem (List.mem_of_getElem? (i := 107) (by decide +kernel)) (by decide +kernel)), (tb_mem (List.mem_of_getElem? (i := 1901) (by decide +kernel)) (by decide +kernel)), ⟨by decide +kernel, by decide +kernel, by decide +kernel⟩⟩
abbrev nX12_taken : MN := (yX12_taken, cX12_taken, 5, (some (FieldType.int)))
theorem vX12_taken : Yv nX12_taken 2 := ⟨(tb_mem (List.mem_of_getElem? (i := 1903) (by decide +kernel)) (by decide +kernel)), (tb_mem (List.mem_of_getElem? (i := 1904) (by decide +kernel)) (by decide +kernel)), (tb_mem (List.mem_of_getElem? (i := 107) (by decide +kernel)) (by decide +kernel)), (tb_mem (List.mem_of_getElem? (i := 1905) (by decide +kernel)) (by decide +kernel)), ⟨by decide +kernel, by decide +kernel, by decide +kernel⟩⟩
abbrev nX12_count : MN := (yX12_count, cX12_count, 2, (some (FieldType.int)))
theorem vX12_count : Yv nX12_count 1 := ⟨(tb_mem (List.mem_of_getElem? (i := 1907) (by decide +kernel)) (by decide +kernel)), (tb_mem (List.mem_of_getElem? (i := 1908) (by decide +kernel)) (by decide +kernel)), (tb_mem (List.mem_of_getElem? (i := 107) (by decide +kernel)) (by decide +kernel)), (tb_mem (List.mem_of_getElem? (i := 1909) (by decide +kernel)) (by decide +kernel)), ⟨by decide +kernel, by decide +kernel, by decide +kernel⟩⟩
abbrev nJ11_isValidCodePoint_9a6ad : MN := (yJ11_isValidCodePoint_9a6ad, cJ11_isValidCodePoint_9a6ad, 2, (some (FieldType.boolean)))
theorem vJ11_isValidCodePoint_9a6ad : Ys nJ11_isValidCodePoint_9a6ad 1 := ⟨(tb_mem (List.mem_of_getElem? (i := 653) (by decide +kernel)) (by decide +kernel)), (tb_mem (List.mem_of_getElem? (i := 113) (by decide +kernel)) (by decide +kernel)), (tb_mem (List.mem_of_getElem? (i := 654) (by decide +kernel)) (by decide +kernel)), ⟨by decide +kernel, by decide +kernel, by decide +kernel⟩⟩
abbrev nJ11_highSurrogate_5068e : MN := (yJ11_highSurrogate_5068e, cJ11_highSurrogate_5068e, 1, (some (FieldType.char)))
theorem vJ11_highSurrogate_5068e : Ys nJ11_highSurrogate_5068e 1 := ⟨(tb_mem (List.mem_of_getElem? (i := 656) (by decide +kernel)) (by decide +kernel)), (tb_mem (List.mem_of_getElem? (i := 113) (by decide +kernel)) (by decide +kernel)), (tb_mem (List.mem_of_getElem? (i := 657) (by decide +kernel)) (by decide +kernel)), ⟨by decide +kernel, by decide +kernel, by decide +kernel⟩⟩
abbrev nJ11_lowSurrogate_5068e : MN := (yJ11_lowSurrogate_5068e, cJ11_lowSurrogate_5068e, 1, (some (FieldType.char)))
theorem vJ11_lowSurrogate_5068e : Ys nJ11_lowSurrogate_5068e 1 := ⟨(tb_mem (List.mem_of_getElem? (i := 660) (by decide +kernel)) (by decide +kernel)), (tb_mem (List.mem_of_getElem? (i := 113) (by decide +kernel)) (by decide +kernel)), (tb_mem (List.mem_of_getElem? (i := 661) (by decide +kernel)) (by decide +kernel)), ⟨by decide +kernel, by decide +kernel, by decide +kernel⟩⟩
abbrev nJ6_bitCount_0f7a4 : MN := (yJ6_bitCount_0f7a4, cJ6_bitCount_0f7a4, 1, (some (FieldType.int)))
theorem vJ6_bitCount_0f7a4 : Ys nJ6_bitCount_0f7a4 1 := ⟨(tb_mem (List.mem_of_getElem? (i := 1015) (by decide +kernel)) (by decide +kernel)), (tb_mem (List.mem_of_getElem? (i := 115) (by decide +kernel)) (by decide +kernel)), (tb_mem (List.mem_of_getElem? (i := 1016) (by decide +kernel)) (by decide +kernel)), ⟨by decide +kernel, by decide +kernel, by decide +kernel⟩⟩
abbrev nJ9_abs_0f7a4 : MN := (yJ9_abs_0f7a4, cJ9_abs_0f7a4, 1, (some (FieldType.int)))
theorem vJ9_abs_0f7a4 : Ys nJ9_abs_0f7a4 1 := ⟨(tb_mem (List.mem_of_getElem? (i := 725) (by decide +kernel)) (by decide +kernel)), (tb_mem (List.mem_of_getElem? (i := 110) (by decide +kernel)) (by decide +kernel)), (tb_mem (List.mem_of_getElem? (i := 726) (by decide +kernel)) (by decide +kernel)), ⟨by decide +kernel, by decide +kernel, by decide +kernel⟩⟩
abbrev nJ9_max_7cf53 : MN := (yJ9_max_7cf53, cJ9_max_7cf53, 2, (some (FieldType.int)))
theorem vJ9_max_7cf53 : Ys nJ9_max_7cf53 2 := ⟨(tb_mem (List.mem_of_getElem? (i := 606) (by decide +kernel)) (by decide +kernel)), (tb_mem (List.mem_of_getElem? (i := 110) (by decide +kernel)) (by decide +kernel)), (tb_mem (List.mem_of_getElem? (i := 607) (by decide +kernel)) (by decide +kernel)), ⟨by decide +kernel, by decide +kernel, by decide +kernel⟩⟩
abbrev nJ9_min_7cf53 : MN := (yJ9_min_7cf53, cJ9_min_7cf53, 2, (some (FieldType.int)))
theorem vJ9_min_7cf53 : Ys nJ9_min_7cf53 2 := ⟨(tb_mem (List.mem_of_getElem? (i := 609) (by decide +kernel)) (by decide +kernel)), (tb_mem (List.mem_of_getElem? (i := 110) (by decide +kernel)) (by decide +kernel)), (tb_mem (List.mem_of_getElem? (i := 610) (by decide +kernel)) (by decide +kernel)), ⟨by decide +kernel, by decide +kernel, by decide +kernel⟩⟩
abbrev nJ0_length_8abf5 : MN := (yJ0_length_8abf5, cJ0_length_8abf5, 1, (some (FieldType.int)))
theorem vJ0_length_8abf5 : Yv nJ0_length_8abf5 0 := ⟨(tb_mem (List.mem_of_getElem? (i := 592) (by decide +kernel)) (by decide +kernel)), (tb_mem (List.mem_of_getElem? (i := 593) (by decide +kernel)) (by decide +kernel)), (tb_mem (List.mem_of_getElem? (i := 108) (by decide +kernel)) (by decide +kernel)), (tb_mem (List.mem_of_getElem? (i := 594) (by decide +kernel)) (by decide +kernel)), ⟨by decide +kernel, by decide +kernel, by decide +kernel⟩⟩
abbrev nJ0_indexOf_0f7a4 : MN := (yJ0_indexOf_0f7a4, cJ0_indexOf_0f7a4, 2, (some (FieldType.int)))
theorem vJ0_indexOf_0f7a4 : Yv nJ0_indexOf_0f7a4 1 := ⟨(tb_mem (List.mem_of_getElem? (i := 578) (by decide +kernel)) (by decide +kernel)), (tb_mem (List.mem_of_getElem? (i := 579) (by decide +kernel)) (by decide +kernel)), (tb_mem (List.mem_of_getElem? (i := 108) (by decide +kernel)) (by decide +kernel)), (tb_mem (List.mem_of_getElem? (i := 580) (by decide +kernel)) (by decide +kernel)), ⟨by decide +kernel, by decide +kernel, by decide +kernel⟩⟩
abbrev nJ0_indexOf_7cf53 : MN := (yJ0_indexOf_7cf53, cJ0_indexOf_7cf53, 3, (some (FieldType.int)))
theorem vJ0_indexOf_7cf53 : Yv nJ0_indexOf_7cf53 2 := ⟨(tb_mem (List.mem_of_getElem? (i := 582) (by decide +kernel)) (by decide +kernel)), (tb_mem (List.mem_of_getElem? (i := 583) (by decide +kernel)) (by decide +kernel)), (tb_mem (List.mem_of_getElem? (i := 108) (by decide +kernel)) (by decide +kernel)), (tb_mem (List.mem_of_getElem? (i := 584) (by decide +kernel)) (by decide +kernel)), ⟨by decide +kernel, by decide +kernel, by decide +kernel⟩⟩
abbrev nJ0_coder_7d493 : MN := (yJ0_coder_7d493, cJ0_coder_7d493, 1, (some (FieldType.byte)))
theorem vJ0_coder_7d493 : Yv nJ0_coder_7d493 0 := ⟨(tb_mem (List.mem_of_getElem? (i := 596) (by decide +kernel)) (by decide +kernel)), (tb_mem (List.mem_of_getElem? (i := 597) (by decide +kernel)) (by decide +kernel)), (tb_mem (List.mem_of_getElem? (i := 108) (by decide +kernel)) (by decide +kernel)), (tb_mem (List.mem_of_getElem? (i := 598) (by decide +kernel)) (by decide +kernel)), ⟨by decide +kernel, by decide +kernel, by decide +kernel⟩⟩
abbrev nJ0_isLatin1_aae02 : MN := (yJ0_isLatin1_aae02, cJ0_isLatin1_aae02, 1, (some (FieldType.boolean)))
theorem vJ0_isLatin1_aae02 : Yv nJ0_isLatin1_aae02 0 := ⟨(tb_mem (List.mem_of_getElem? (i := 586) (by decide +kernel)) (by decide +kernel)), (tb_mem (List.mem_of_getElem? (i := 587) (by decide +kernel)) (by decide +kernel)), (tb_mem (List.mem_of_getElem? (i := 108) (by decide +kernel)) (by decide +kernel)), (tb_mem (List.mem_of_getElem? (i := 588) (by decide +kernel)) (by decide +kernel)), ⟨by decide +kernel, by decide +kernel, by decide +kernel⟩⟩
abbrev nJ0_checkBoundsBeginEnd_23922 : MN := (yJ0_checkBoundsBeginEnd_23922, cJ0_checkBoundsBeginEnd_23922, 3, none)
theorem vJ0_checkBoundsBeginEnd_23922 : Ys nJ0_checkBoundsBeginEnd_23922 3 := ⟨(tb_mem (List.mem_of_getElem? (i := 630) (by decide +kernel)) (by decide +kernel)), (tb_mem (List.mem_of_getElem? (i := 108) (by decide +kernel)) (by decide +kernel)), (tb_mem (List.mem_of_getElem? (i := 631) (by decide +kernel)) (by decide +kernel)), ⟨by decide +kernel, by decide +kernel, by decide +kernel⟩⟩
abbrev nJ1_canEncode_9a6ad : MN := (yJ1_canEncode_9a6ad, cJ1_canEncode_9a6ad, 1, (some (FieldType.boolean)))
theorem vJ1_canEncode_9a6ad : Ys nJ1_canEncode_9a6ad 1 := ⟨(tb_mem (List.mem_of_getElem? (i := 603) (by decide +kernel)) (by decide +kernel)), (tb_mem (List.mem_of_getElem? (i := 109) (by decide +kernel)) (by decide +kernel)), (tb_mem (List.mem_of_getElem? (i := 604) (by decide +kernel)) (by decide +kernel)), ⟨by decide +kernel, by decide +kernel, by decide +kernel⟩⟩
abbrev nJ1_indexOf_4cfef : MN := (yJ1_indexOf_4cfef, cJ1_indexOf_4cfef, 4, (some (FieldType.int)))
theorem vJ1_indexOf_4cfef : Ys nJ1_indexOf_4cfef 4 := ⟨(tb_mem (List.mem_of_getElem? (i := 600) (by decide +kernel)) (by decide +kernel)), (tb_mem (List.mem_of_getElem? (i := 109) (by decide +kernel)) (by decide +kernel)), (tb_mem (List.mem_of_getElem? (i := 601) (by decide +kernel)) (by decide +kernel)), ⟨by decide +kernel, by decide +kernel, by decide +kernel⟩⟩
abbrev nJ1_indexOfChar_4cfef : MN := (yJ1_indexOfChar_4cfef, cJ1_indexOfChar_4cfef, 6, (some (FieldType.int)))
theorem vJ1_indexOfChar_4cfef : Ys nJ1_indexOfChar_4cfef 4 := ⟨(tb_mem (List.mem_of_getElem? (i := 612) (by decide +kernel)) (by decide +kernel)), (tb_mem (List.mem_of_getElem? (i := 109) (by decide +kernel)) (by decide +kernel)), (tb_mem (List.mem_of_getElem? (i := 613) (by decide +kernel)) (by decide +kernel)), ⟨by decide +kernel, by decide +kernel, by decide +kernel⟩⟩
abbrev nJ2_getChar_3b067 : MN := (yJ2_getChar_3b067, cJ2_getChar_3b067, 2, (some (FieldType.char)))
theorem vJ2_getChar_3b067 : Ys nJ2_getChar_3b067 2 := ⟨(tb_mem (List.mem_of_getElem? (i := 641) (by decide +kernel)) (by decide +kernel)), (tb_mem (List.mem_of_getElem? (i := 111) (by decide +kernel)) (by decide +kernel)), (tb_mem (List.mem_of_getElem? (i := 642) (by decide +kernel)) (by decide +kernel)), ⟨by decide +kernel, by decide +kernel, by decide +kernel⟩⟩
abbrev nJ2_length_9d52b : MN := (yJ2_length_9d52b, cJ2_length_9d52b, 1, (some (FieldType.int)))
theorem vJ2_length_9d52b : Ys nJ2_length_9d52b 1 := ⟨(tb_mem (List.mem_of_getElem? (i := 627) (by decide +kernel)) (by decide +kernel)), (tb_mem (List.mem_of_getElem? (i := 111) (by decide +kernel)) (by decide +kernel)), (tb_mem (List.mem_of_getElem? (i := 628) (by decide +kernel)) (by decide +kernel)), ⟨by decide +kernel, by decide +kernel, by decide +kernel⟩⟩
abbrev nJ2_indexOf_4cfef : MN := (yJ2_indexOf_4cfef, cJ2_indexOf_4cfef, 4, (some (FieldType.int)))
theorem vJ2_indexOf_4cfef : Ys nJ2_indexOf_4cfef 4 := ⟨(tb_mem (List.mem_of_getElem? (i := 615) (by decide +kernel)) (by decide +kernel)), (tb_mem (List.mem_of_getElem? (i := 111) (by decide +kernel)) (by decide +kernel)), (tb_mem (List.mem_of_getElem? (i := 616) (by decide +kernel)) (by decide +kernel)), ⟨by decide +kernel, by decide +kernel, by decide +kernel⟩⟩
abbrev nJ2_indexOfChar_4cfef : MN := (yJ2_indexOfChar_4cfef, cJ2_indexOfChar_4cfef, 4, (some (FieldType.int)))
theorem vJ2_indexOfChar_4cfef : Ys nJ2_indexOfChar_4cfef 4 := ⟨(tb_mem (List.mem_of_getElem? (i := 621) (by decide +kernel)) (by decide +kernel)), (tb_mem (List.mem_of_getElem? (i := 111) (by decide +kernel)) (by decide +kernel)), (tb_mem (List.mem_of_getElem? (i := 622) (by decide +kernel)) (by decide +kernel)), ⟨by decide +kernel, by decide +kernel, by decide +kernel⟩⟩
abbrev nJ2_indexOfCharUnsafe_4cfef : MN := (yJ2_indexOfCharUnsafe_4cfef, cJ2_indexOfCharUnsafe_4cfef, 5, (some (FieldType.int)))
theorem vJ2_indexOfCharUnsafe_4cfef : Ys nJ2_indexOfCharUnsafe_4cfef 4 := ⟨(tb_mem (List.mem_of_getElem? (i := 638) (by decide +kernel)) (by decide +kernel)), (tb_mem (List.mem_of_getElem? (i := 111) (by decide +kernel)) (by decide +kernel)), (tb_mem (List.mem_of_getElem? (i := 639) (by decide +kernel)) (by decide +kernel)), ⟨by decide +kernel, by decide +kernel, by decide +kernel⟩⟩
abbrev nJ2_indexOfSupplementary_4cfef : MN := (yJ2_indexOfSupplementary_4cfef, cJ2_indexOfSupplementary_4cfef, 7, (some (FieldType.int)))
theorem vJ2_indexOfSupplementary_4cfef : Ys nJ2_indexOfSupplementary_4cfef 4 := ⟨(tb_mem (List.mem_of_getElem? (i := 650) (by decide +kernel)) (by decide +kernel)), (tb_mem (List.mem_of_getElem? (i := 111) (by decide +kernel)) (by decide +kernel)), (tb_mem (List.mem_of_getElem? (i := 651) (by decide +kernel)) (by decide +kernel)), ⟨by decide +kernel, by decide +kernel, by decide +kernel⟩⟩
abbrev nJ2_checkBoundsBeginEnd_d044e : MN := (yJ2_checkBoundsBeginEnd_d044e, cJ2_checkBoundsBeginEnd_d044e, 3, none)
theorem vJ2_checkBoundsBeginEnd_d044e : Ys nJ2_checkBoundsBeginEnd_d044e 3 := ⟨(tb_mem (List.mem_of_getElem? (i := 624) (by decide +kernel)) (by decide +kernel)), (tb_mem (List.mem_of_getElem? (i := 111) (by decide +kernel)) (by decide +kernel)), (tb_mem (List.mem_of_getElem? (i := 625) (by decide +kernel)) (by decide +kernel)), ⟨by decide +kernel, by decide +kernel, by decide +kernel⟩⟩
abbrev nJ3_checkFromToIndex_8c36e : MN := (yJ3_checkFromToIndex_8c36e, cJ3_checkFromToIndex_8c36e, 4, (some (FieldType.int)))
theorem vJ3_checkFromToIndex_8c36e : Ys nJ3_checkFromToIndex_8c36e 4 := ⟨(tb_mem (List.mem_of_getElem? (i := 635) (by decide +kernel)) (by decide +kernel)), (tb_mem (List.mem_of_getElem? (i := 112) (by decide +kernel)) (by decide +kernel)), (tb_mem (List.mem_of_getElem? (i := 636) (by decide +kernel)) (by decide +kernel)), ⟨by decide +kernel, by decide +kernel, by decide +kernel⟩⟩
theorem flX5_13 : Fl RX5 13 TX5 0 := (tb_mem (List.mem_of_getElem? (i := 132) (by decide +kernel)) (by decide +kernel))
theorem flX5_27 : Fl RX5 27 TX5 1 := (tb_mem (List.mem_of_getElem? (i := 133) (by decide +kernel)) (by decide +kernel))
theorem flX0_22 : Fl RX0 22 TX0 0 := (tb_mem (List.mem_of_getElem? (i := 146) (by decide +kernel)) (by decide +kernel))
theorem flX0_9 : Fl RX0 9 TX0 1 := (tb_mem (List.mem_of_getElem? (i := 147) (by decide +kernel)) (by decide +kernel))
theorem flX0_13 : Fl RX0 13 TX0 2 := (tb_mem (List.mem_of_getElem? (i := 148) (by decide +kernel)) (by decide +kernel))
theorem flX0_16 : Fl RX0 16 TX0 3 := (tb_mem (List.mem_of_getElem? (i := 149) (by decide +kernel)) (by decide +kernel))
theorem flX0_19 : Fl RX0 19 TX0 4 := (tb_mem (List.mem_of_getElem? (i := 150) (by decide +kernel)) (by decide +kernel))
theorem flX0_26 : Fl RX0 26 TX0 5 := (tb_mem (List.mem_of_getElem? (i := 151) (by decide +kernel)) (by decide +kernel))
theorem flX0_30 : Fl RX0 30 TX0 6 := (tb_mem (List.mem_of_getElem? (i := 152) (by decide +kernel)) (by decide +kernel))
theorem flX8_9 : Fl RX8 9 TX8 0 := (tb_mem (List.mem_of_getElem? (i := 174) (by decide +kernel)) (by decide +kernel))
theorem flX8_15 : Fl RX8 15 TX8 1 := (tb_mem (List.mem_of_getElem? (i := 175) (by decide +kernel)) (by decide +kernel))
theorem flX8_18 : Fl RX8 18 TX8 2 := (tb_mem (List.mem_of_getElem? (i := 176) (by decide +kernel)) (by decide +kernel))
theorem flX8_26 : Fl RX8 26 TX8 3 := (tb_mem (List.mem_of_getElem? (i := 177) (by decide +kernel)) (by decide +kernel))
theorem flX8_29 : Fl RX8 29 TX8 4 := (tb_mem (List.mem_of_getElem? (i := 178) (by decide +kernel)) (by decide +kernel))
theorem flX4_9 : Fl RX4 9 TX4 0 := (tb_mem (List.mem_of_getElem? (i := 196) (by decide +kernel)) (by decide +kernel))
theorem flX4_15 : Fl RX4 15 TX4 1 := (tb_mem (List.mem_of_getElem? (i := 197) (by decide +kernel)) (by decide +kernel))
theorem flX4_18 : Fl RX4 18 TX4 2 := (tb_mem (List.mem_of_getElem? (i := 198) (by decide +kernel)) (by decide +kernel))
theorem flX4_27 : Fl RX4 27 TX4 3 := (tb_mem (List.mem_of_getElem? (i := 199) (by decide +kernel)) (by decide +kernel))
theorem flX4_50 : Fl RX4 50 TX4 4 := (tb_mem (List.mem_of_getElem? (i := 200) (by decide +kernel)) (by decide +kernel))
theorem flX6_9 : Fl RX6 9 TX6 0 := (tb_mem (List.mem_of_getElem? (i := 218) (by decide +kernel)) (by decide +kernel))
theorem flX6_17 : Fl RX6 17 TX6 1 := (tb_mem (List.mem_of_getElem? (i := 219) (by decide +kernel)) (by decide +kernel))
theorem flX9_32 : Fl RX9 32 TX9 0 := (tb_mem (List.mem_of_getElem? (i := 232) (by decide +kernel)) (by decide +kernel))
theorem flX9_36 : Fl RX9 36 TX9 1 := (tb_mem (List.mem_of_getElem? (i := 233) (by decide +kernel)) (by decide +kernel))
theorem flX9_40 : Fl RX9 40 TX9 2 := (tb_mem (List.mem_of_getElem? (i := 234) (by decide +kernel)) (by decide +kernel))
theorem flX9_9 : Fl RX9 9 TX9 3 := (tb_mem (List.mem_of_getElem? (i := 235) (by decide +kernel)) (by decide +kernel))
theorem flX9_15 : Fl RX9 15 TX9 4 := (tb_mem (List.mem_of_getElem? (i := 236) (by decide +kernel)) (by decide +kernel))
theorem flX9_18 : Fl RX9 18 TX9 5 := (tb_mem (List.mem_of_getElem? (i := 237) (by decide +kernel)) (by decide +kernel))
theorem flX9_23 : Fl RX9 23 TX9 6 := (tb_mem (List.mem_of_getElem? (i := 238) (by decide +kernel)) (by decide +kernel))
theorem flX9_26 : Fl RX9 26 TX9 7 := (tb_mem (List.mem_of_getElem? (i := 239) (by decide +kernel)) (by decide +kernel))
theorem flX9_29 : Fl RX9 29 TX9 8 := (tb_mem (List.mem_of_getElem? (i := 240) (by decide +kernel)) (by decide +kernel))
theorem flX9_54 : Fl RX9 54 TX9 9 := (tb_mem (List.mem_of_getElem? (i := 241) (by decide +kernel)) (by decide +kernel))
theorem flX9_58 : Fl RX9 58 TX9 10 := (tb_mem (List.mem_of_getElem? (i := 242) (by decide +kernel)) (by decide +kernel))
theorem flX9_77 : Fl RX9 77 TX9 11 := (tb_mem (List.mem_of_getElem? (i := 243) (by decide +kernel)) (by decide +kernel))
theorem flX9_61 : Fl RX9 61 TX9 12 := (tb_mem (List.mem_of_getElem? (i := 244) (by decide +kernel)) (by decide +kernel))
theorem flX9_80 : Fl RX9 80 TX9 13 := (tb_mem (List.mem_of_getElem? (i := 245) (by decide +kernel)) (by decide +kernel))
theorem flX2_13 : Fl RX2 13 TX2 0 := (tb_mem (List.mem_of_getElem? (i := 282) (by decide +kernel)) (by decide +kernel))
theorem flX2_16 : Fl RX2 16 TX2 1 := (tb_mem (List.mem_of_getElem? (i := 283) (by decide +kernel)) (by decide +kernel))
theorem flX2_20 : Fl RX2 20 TX2 2 := (tb_mem (List.mem_of_getElem? (i := 284) (by decide +kernel)) (by decide +kernel))
theorem flX2_24 : Fl RX2 24 TX2 3 := (tb_mem (List.mem_of_getElem? (i := 285) (by decide +kernel)) (by decide +kernel))
theorem flX2_47 : Fl RX2 47 TX2 4 := (tb_mem (List.mem_of_getElem? (i := 286) (by decide +kernel)) (by decide +kernel))
theorem flX2_28 : Fl RX2 28 TX2 5 := (tb_mem (List.mem_of_getElem? (i := 287) (by decide +kernel)) (by decide +kernel))
theorem flX2_32 : Fl RX2 32 TX2 6 := (tb_mem (List.mem_of_getElem? (i := 288) (by decide +kernel)) (by decide +kernel))
theorem flX2_54 : Fl RX2 54 TX2 7 := (tb_mem (List.mem_of_getElem? (i := 289) (by decide +kernel)) (by decide +kernel))
theorem flX3_18 : Fl RX3 18 TX3 0 := (tb_mem (List.mem_of_getElem? (i := 314) (by decide +kernel)) (by decide +kernel))
theorem flX3_9 : Fl RX3 9 TX3 1 := (tb_mem (List.mem_of_getElem? (i := 315) (by decide +kernel)) (by decide +kernel))
theorem flX3_15 : Fl RX3 15 TX3 2 := (tb_mem (List.mem_of_getElem? (i := 316) (by decide +kernel)) (by decide +kernel))
theorem flX1_9 : Fl RX1 9 TX1 0 := (tb_mem (List.mem_of_getElem? (i := 330) (by decide +kernel)) (by decide +kernel))
theorem flX1_15 : Fl RX1 15 TX1 1 := (tb_mem (List.mem_of_getElem? (i := 331) (by decide +kernel)) (by decide +kernel))
theorem flX1_18 : Fl RX1 18 TX1 2 := (tb_mem (List.mem_of_getElem? (i := 332) (by decide +kernel)) (by decide +kernel))
theorem flX1_21 : Fl RX1 21 TX1 3 := (tb_mem (List.mem_of_getElem? (i := 333) (by decide +kernel)) (by decide +kernel))
theorem flX1_24 : Fl RX1 24 TX1 4 := (tb_mem (List.mem_of_getElem? (i := 334) (by decide +kernel)) (by decide +kernel))
theorem flX1_27 : Fl RX1 27 TX1 5 := (tb_mem (List.mem_of_getElem? (i := 335) (by decide +kernel)) (by decide +kernel))
theorem flX1_50 : Fl RX1 50 TX1 6 := (tb_mem (List.mem_of_getElem? (i := 336) (by decide +kernel)) (by decide +kernel))
theorem flX10_11 : Fl RX10 11 TX10 0 := (tb_mem (List.mem_of_getElem? (i := 358) (by decide +kernel)) (by decide +kernel))
theorem flX10_15 : Fl RX10 15 TX10 1 := (tb_mem (List.mem_of_getElem? (i := 359) (by decide +kernel)) (by decide +kernel))
theorem flX10_25 : Fl RX10 25 TX10 2 := (tb_mem (List.mem_of_getElem? (i := 360) (by decide +kernel)) (by decide +kernel))
theorem flX10_29 : Fl RX10 29 TX10 3 := (tb_mem (List.mem_of_getElem? (i := 361) (by decide +kernel)) (by decide +kernel))
theorem flX10_39 : Fl RX10 39 TX10 4 := (tb_mem (List.mem_of_getElem? (i := 362) (by decide +kernel)) (by decide +kernel))
theorem flX10_42 : Fl RX10 42 TX10 5 := (tb_mem (List.mem_of_getElem? (i := 363) (by decide +kernel)) (by decide +kernel))
theorem flX7_11 : Fl RX7 11 TX7 0 := (tb_mem (List.mem_of_getElem? (i := 385) (by decide +kernel)) (by decide +kernel))
theorem flX7_15 : Fl RX7 15 TX7 1 := (tb_mem (List.mem_of_getElem? (i := 386) (by decide +kernel)) (by decide +kernel))
theorem flX7_18 : Fl RX7 18 TX7 2 := (tb_mem (List.mem_of_getElem? (i := 387) (by decide +kernel)) (by decide +kernel))
theorem flX7_23 : Fl RX7 23 TX7 3 := (tb_mem (List.mem_of_getElem? (i := 388) (by decide +kernel)) (by decide +kernel))
theorem flX11_10 : Fl RX11 10 TX11 0 := (tb_mem (List.mem_of_getElem? (i := 399) (by decide +kernel)) (by decide +kernel))
theorem flX11_21 : Fl RX11 21 TX11 1 := (tb_mem (List.mem_of_getElem? (i := 400) (by decide +kernel)) (by decide +kernel))
theorem flX11_28 : Fl RX11 28 TX11 2 := (tb_mem (List.mem_of_getElem? (i := 401) (by decide +kernel)) (by decide +kernel))
theorem flX11_35 : Fl RX11 35 TX11 3 := (tb_mem (List.mem_of_getElem? (i := 402) (by decide +kernel)) (by decide +kernel))
theorem flX11_42 : Fl RX11 42 TX11 4 := (tb_mem (List.mem_of_getElem? (i := 403) (by decide +kernel)) (by decide +kernel))
theorem flX11_51 : Fl RX11 51 TX11 5 := (tb_mem (List.mem_of_getElem? (i := 404) (by decide +kernel)) (by decide +kernel))
theorem flX11_58 : Fl RX11 58 TX11 6 := (tb_mem (List.mem_of_getElem? (i := 405) (by decide +kernel)) (by decide +kernel))
theorem flX11_65 : Fl RX11 65 TX11 7 := (tb_mem (List.mem_of_getElem? (i := 406) (by decide +kernel)) (by decide +kernel))
theorem flX11_72 : Fl RX11 72 TX11 8 := (tb_mem (List.mem_of_getElem? (i := 407) (by decide +kernel)) (by decide +kernel))
theorem flX11_79 : Fl RX11 79 TX11 9 := (tb_mem (List.mem_of_getElem? (i := 408) (by decide +kernel)) (by decide +kernel))
theorem flX11_86 : Fl RX11 86 TX11 10 := (tb_mem (List.mem_of_getElem? (i := 409) (by decide +kernel)) (by decide +kernel))
theorem stX5_16 : Cond.fieldLink RX5 16 RX5 "LEAST" "[I" ∈ tb := (tb_mem (List.mem_of_getElem? (i := 443) (by decide +kernel)) (by decide +kernel))
theorem stX5_20 : Cond.fieldLink RX5 20 RX5 "MOST" "[I" ∈ tb := (tb_mem (List.mem_of_getElem? (i := 445) (by decide +kernel)) (by decide +kernel))
theorem stX10_22 : Cond.fieldLink RX10 22 RX10 "UP" "[I" ∈ tb := (tb_mem (List.mem_of_getElem? (i := 1193) (by decide +kernel)) (by decide +kernel))
theorem flX12_125 : Fl RX12 125 TX12 0 := (tb_mem (List.mem_of_getElem? (i := 1351) (by decide +kernel)) (by decide +kernel))
theorem flX12_9 : Fl RX12 9 TX12 1 := (tb_mem (List.mem_of_getElem? (i := 1352) (by decide +kernel)) (by decide +kernel))
theorem flX12_15 : Fl RX12 15 TX12 2 := (tb_mem (List.mem_of_getElem? (i := 1353) (by decide +kernel)) (by decide +kernel))
theorem flX12_18 : Fl RX12 18 TX12 3 := (tb_mem (List.mem_of_getElem? (i := 1354) (by decide +kernel)) (by decide +kernel))
theorem flX12_21 : Fl RX12 21 TX12 4 := (tb_mem (List.mem_of_getElem? (i := 1355) (by decide +kernel)) (by decide +kernel))
theorem flX12_24 : Fl RX12 24 TX12 5 := (tb_mem (List.mem_of_getElem? (i := 1356) (by decide +kernel)) (by decide +kernel))
theorem flX12_27 : Fl RX12 27 TX12 6 := (tb_mem (List.mem_of_getElem? (i := 1357) (by decide +kernel)) (by decide +kernel))
theorem flX12_30 : Fl RX12 30 TX12 7 := (tb_mem (List.mem_of_getElem? (i := 1358) (by decide +kernel)) (by decide +kernel))
theorem flX12_33 : Fl RX12 33 TX12 8 := (tb_mem (List.mem_of_getElem? (i := 1359) (by decide +kernel)) (by decide +kernel))
theorem flX12_36 : Fl RX12 36 TX12 9 := (tb_mem (List.mem_of_getElem? (i := 1360) (by decide +kernel)) (by decide +kernel))
theorem flX12_167 : Fl RX12 167 TX12 10 := (tb_mem (List.mem_of_getElem? (i := 1361) (by decide +kernel)) (by decide +kernel))
theorem flX12_39 : Fl RX12 39 TX12 11 := (tb_mem (List.mem_of_getElem? (i := 1362) (by decide +kernel)) (by decide +kernel))
theorem flX12_221 : Fl RX12 221 TX12 12 := (tb_mem (List.mem_of_getElem? (i := 1363) (by decide +kernel)) (by decide +kernel))
theorem flX12_225 : Fl RX12 225 TX12 13 := (tb_mem (List.mem_of_getElem? (i := 1364) (by decide +kernel)) (by decide +kernel))
theorem flX12_42 : Fl RX12 42 TX12 14 := (tb_mem (List.mem_of_getElem? (i := 1365) (by decide +kernel)) (by decide +kernel))
theorem flX12_45 : Fl RX12 45 TX12 15 := (tb_mem (List.mem_of_getElem? (i := 1366) (by decide +kernel)) (by decide +kernel))
theorem flX12_48 : Fl RX12 48 TX12 16 := (tb_mem (List.mem_of_getElem? (i := 1367) (by decide +kernel)) (by decide +kernel))
theorem flX12_51 : Fl RX12 51 TX12 17 := (tb_mem (List.mem_of_getElem? (i := 1368) (by decide +kernel)) (by decide +kernel))
theorem flX12_170 : Fl RX12 170 TX12 18 := (tb_mem (List.mem_of_getElem? (i := 1369) (by decide +kernel)) (by decide +kernel))
theorem flX12_191 : Fl RX12 191 TX12 19 := (tb_mem (List.mem_of_getElem? (i := 1370) (by decide +kernel)) (by decide +kernel))
theorem flX12_177 : Fl RX12 177 TX12 20 := (tb_mem (List.mem_of_getElem? (i := 1371) (by decide +kernel)) (by decide +kernel))
theorem flX12_215 : Fl RX12 215 TX12 21 := (tb_mem (List.mem_of_getElem? (i := 1372) (by decide +kernel)) (by decide +kernel))
theorem flX12_54 : Fl RX12 54 TX12 22 := (tb_mem (List.mem_of_getElem? (i := 1373) (by decide +kernel)) (by decide +kernel))
theorem flX12_57 : Fl RX12 57 TX12 23 := (tb_mem (List.mem_of_getElem? (i := 1374) (by decide +kernel)) (by decide +kernel))
theorem flX12_60 : Fl RX12 60 TX12 24 := (tb_mem (List.mem_of_getElem? (i := 1375) (by decide +kernel)) (by decide +kernel))
theorem flX12_63 : Fl RX12 63 TX12 25 := (tb_mem (List.mem_of_getElem? (i := 1376) (by decide +kernel)) (by decide +kernel))
theorem flX12_66 : Fl RX12 66 TX12 26 := (tb_mem (List.mem_of_getElem? (i := 1377) (by decide +kernel)) (by decide +kernel))
theorem flX12_69 : Fl RX12 69 TX12 27 := (tb_mem (List.mem_of_getElem? (i := 1378) (by decide +kernel)) (by decide +kernel))
theorem flX12_72 : Fl RX12 72 TX12 28 := (tb_mem (List.mem_of_getElem? (i := 1379) (by decide +kernel)) (by decide +kernel))
theorem flX12_354 : Fl RX12 354 TX12 29 := (tb_mem (List.mem_of_getElem? (i := 1380) (by decide +kernel)) (by decide +kernel))
theorem flX12_357 : Fl RX12 357 TX12 30 := (tb_mem (List.mem_of_getElem? (i := 1381) (by decide +kernel)) (by decide +kernel))
theorem flX12_75 : Fl RX12 75 TX12 31 := (tb_mem (List.mem_of_getElem? (i := 1382) (by decide +kernel)) (by decide +kernel))
theorem flX12_78 : Fl RX12 78 TX12 32 := (tb_mem (List.mem_of_getElem? (i := 1383) (by decide +kernel)) (by decide +kernel))
theorem flX12_81 : Fl RX12 81 TX12 33 := (tb_mem (List.mem_of_getElem? (i := 1384) (by decide +kernel)) (by decide +kernel))
theorem flX12_164 : Fl RX12 164 TX12 34 := (tb_mem (List.mem_of_getElem? (i := 1385) (by decide +kernel)) (by decide +kernel))
theorem flX12_161 : Fl RX12 161 TX12 35 := (tb_mem (List.mem_of_getElem? (i := 1386) (by decide +kernel)) (by decide +kernel))
theorem flX12_84 : Fl RX12 84 TX12 36 := (tb_mem (List.mem_of_getElem? (i := 1387) (by decide +kernel)) (by decide +kernel))
theorem flX12_381 : Fl RX12 381 TX12 37 := (tb_mem (List.mem_of_getElem? (i := 1388) (by decide +kernel)) (by decide +kernel))
theorem flX12_87 : Fl RX12 87 TX12 38 := (tb_mem (List.mem_of_getElem? (i := 1389) (by decide +kernel)) (by decide +kernel))
theorem flX12_360 : Fl RX12 360 TX12 39 := (tb_mem (List.mem_of_getElem? (i := 1390) (by decide +kernel)) (by decide +kernel))
theorem flX12_90 : Fl RX12 90 TX12 40 := (tb_mem (List.mem_of_getElem? (i := 1391) (by decide +kernel)) (by decide +kernel))
theorem flX12_93 : Fl RX12 93 TX12 41 := (tb_mem (List.mem_of_getElem? (i := 1392) (by decide +kernel)) (by decide +kernel))
theorem flX12_96 : Fl RX12 96 TX12 42 := (tb_mem (List.mem_of_getElem? (i := 1393) (by decide +kernel)) (by decide +kernel))
theorem flX12_99 : Fl RX12 99 TX12 43 := (tb_mem (List.mem_of_getElem? (i := 1394) (by decide +kernel)) (by decide +kernel))
theorem flX12_253 : Fl RX12 253 TX12 44 := (tb_mem (List.mem_of_getElem? (i := 1395) (by decide +kernel)) (by decide +kernel))
theorem flX12_103 : Fl RX12 103 TX12 45 := (tb_mem (List.mem_of_getElem? (i := 1396) (by decide +kernel)) (by decide +kernel))
theorem flX12_106 : Fl RX12 106 TX12 46 := (tb_mem (List.mem_of_getElem? (i := 1397) (by decide +kernel)) (by decide +kernel))
theorem flX12_109 : Fl RX12 109 TX12 47 := (tb_mem (List.mem_of_getElem? (i := 1398) (by decide +kernel)) (by decide +kernel))
theorem flX12_121 : Fl RX12 121 TX12 48 := (tb_mem (List.mem_of_getElem? (i := 1399) (by decide +kernel)) (by decide +kernel))
theorem flX12_263 : Fl RX12 263 TX12 49 := (tb_mem (List.mem_of_getElem? (i := 1400) (by decide +kernel)) (by decide +kernel))
theorem flX12_266 : Fl RX12 266 TX12 50 := (tb_mem (List.mem_of_getElem? (i := 1401) (by decide +kernel)) (by decide +kernel))
theorem flX12_256 : Fl RX12 256 TX12 51 := (tb_mem (List.mem_of_getElem? (i := 1402) (by decide +kernel)) (by decide +kernel))
theorem flX12_260 : Fl RX12 260 TX12 52 := (tb_mem (List.mem_of_getElem? (i := 1403) (by decide +kernel)) (by decide +kernel))
theorem flX12_112 : Fl RX12 112 TX12 53 := (tb_mem (List.mem_of_getElem? (i := 1404) (by decide +kernel)) (by decide +kernel))
theorem flX12_115 : Fl RX12 115 TX12 54 := (tb_mem (List.mem_of_getElem? (i := 1405) (by decide +kernel)) (by decide +kernel))
theorem flX12_118 : Fl RX12 118 TX12 55 := (tb_mem (List.mem_of_getElem? (i := 1406) (by decide +kernel)) (by decide +kernel))
theorem lkL_13 : Cond.methodLink RL 13 yX11_swimmer ∈ tb := (tb_mem (List.mem_of_getElem? (i := 433) (by decide +kernel)) (by decide +kernel))
theorem lkX11_90 : Cond.methodLink RX11 90 yX5_isSwimmer ∈ tb := (tb_mem (List.mem_of_getElem? (i := 437) (by decide +kernel)) (by decide +kernel))
theorem lkX5_23 : Cond.methodLink RX5 23 yX5_allows ∈ tb := (tb_mem (List.mem_of_getElem? (i := 440) (by decide +kernel)) (by decide +kernel))
theorem lkX11_94 : Cond.methodLink RX11 94 yX5_isFull ∈ tb := (tb_mem (List.mem_of_getElem? (i := 447) (by decide +kernel)) (by decide +kernel))
theorem lkX11_98 : Cond.methodLink RX11 98 yX5_join ∈ tb := (tb_mem (List.mem_of_getElem? (i := 451) (by decide +kernel)) (by decide +kernel))
theorem lkX5_34 : Cond.methodLink RX5 34 yX5_isFull ∈ tb := (tb_mem (List.mem_of_getElem? (i := 455) (by decide +kernel)) (by decide +kernel))
theorem lkX5_38 : Cond.methodLink RX5 38 yX5_tell ∈ tb := (tb_mem (List.mem_of_getElem? (i := 456) (by decide +kernel)) (by decide +kernel))
theorem lkX5_31 : Cond.methodLink RX5 31 yX5_keeps ∈ tb := (tb_mem (List.mem_of_getElem? (i := 460) (by decide +kernel)) (by decide +kernel))
theorem lkL_18 : Cond.methodLink RL 18 yX11_swimmers ∈ tb := (tb_mem (List.mem_of_getElem? (i := 464) (by decide +kernel)) (by decide +kernel))
theorem lkX11_102 : Cond.methodLink RX11 102 yX7_isShelf ∈ tb := (tb_mem (List.mem_of_getElem? (i := 468) (by decide +kernel)) (by decide +kernel))
theorem lkX11_106 : Cond.methodLink RX11 106 yX7_refusal ∈ tb := (tb_mem (List.mem_of_getElem? (i := 471) (by decide +kernel)) (by decide +kernel))
theorem lkX7_30 : Cond.methodLink RX7 30 yX7_isEmpty ∈ tb := (tb_mem (List.mem_of_getElem? (i := 475) (by decide +kernel)) (by decide +kernel))
theorem lkX7_26 : Cond.methodLink RX7 26 yX7_isShelf ∈ tb := (tb_mem (List.mem_of_getElem? (i := 479) (by decide +kernel)) (by decide +kernel))
theorem lkX11_110 : Cond.methodLink RX11 110 yX7_elements ∈ tb := (tb_mem (List.mem_of_getElem? (i := 480) (by decide +kernel)) (by decide +kernel))
theorem lkX11_114 : Cond.methodLink RX11 114 yX7_size ∈ tb := (tb_mem (List.mem_of_getElem? (i := 484) (by decide +kernel)) (by decide +kernel))
theorem lkX11_118 : Cond.methodLink RX11 118 yX5_joinFrom ∈ tb := (tb_mem (List.mem_of_getElem? (i := 488) (by decide +kernel)) (by decide +kernel))
theorem lkX5_42 : Cond.methodLink RX5 42 yX5_joinFour ∈ tb := (tb_mem (List.mem_of_getElem? (i := 492) (by decide +kernel)) (by decide +kernel))
theorem lkX5_46 : Cond.methodLink RX5 46 yX5_isSwimmer ∈ tb := (tb_mem (List.mem_of_getElem? (i := 496) (by decide +kernel)) (by decide +kernel))
theorem lkX5_50 : Cond.methodLink RX5 50 yX5_join ∈ tb := (tb_mem (List.mem_of_getElem? (i := 497) (by decide +kernel)) (by decide +kernel))
theorem lkL_23 : Cond.methodLink RL 23 yX11_mend ∈ tb := (tb_mem (List.mem_of_getElem? (i := 498) (by decide +kernel)) (by decide +kernel))
theorem lkX11_122 : Cond.methodLink RX11 122 yX5_keeps ∈ tb := (tb_mem (List.mem_of_getElem? (i := 502) (by decide +kernel)) (by decide +kernel))
theorem lkX11_126 : Cond.methodLink RX11 126 yX5_allows ∈ tb := (tb_mem (List.mem_of_getElem? (i := 503) (by decide +kernel)) (by decide +kernel))
theorem lkX11_130 : Cond.methodLink RX11 130 yX5_told ∈ tb := (tb_mem (List.mem_of_getElem? (i := 505) (by decide +kernel)) (by decide +kernel))
theorem lkX11_133 : Cond.methodLink RX11 133 yX0_tell ∈ tb := (tb_mem (List.mem_of_getElem? (i := 509) (by decide +kernel)) (by decide +kernel))
theorem lkX0_33 : Cond.methodLink RX0 33 yX5_told ∈ tb := (tb_mem (List.mem_of_getElem? (i := 513) (by decide +kernel)) (by decide +kernel))
theorem lkX0_39 : Cond.methodLink RX0 39 yX0_forgetOldest ∈ tb := (tb_mem (List.mem_of_getElem? (i := 514) (by decide +kernel)) (by decide +kernel))
theorem lkX0_42 : Cond.methodLink RX0 42 yX5_tell ∈ tb := (tb_mem (List.mem_of_getElem? (i := 518) (by decide +kernel)) (by decide +kernel))
theorem lkL_27 : Cond.methodLink RL 27 yX11_of ∈ tb := (tb_mem (List.mem_of_getElem? (i := 519) (by decide +kernel)) (by decide +kernel))
theorem lkX11_137 : Cond.methodLink RX11 137 yX5_has ∈ tb := (tb_mem (List.mem_of_getElem? (i := 523) (by decide +kernel)) (by decide +kernel))
theorem lkX11_140 : Cond.methodLink RX11 140 yX1_told ∈ tb := (tb_mem (List.mem_of_getElem? (i := 527) (by decide +kernel)) (by decide +kernel))
theorem lkL_31 : Cond.methodLink RL 31 yX11_feed ∈ tb := (tb_mem (List.mem_of_getElem? (i := 532) (by decide +kernel)) (by decide +kernel))
theorem lkX11_143 : Cond.methodLink RX11 143 yX8_isFull ∈ tb := (tb_mem (List.mem_of_getElem? (i := 536) (by decide +kernel)) (by decide +kernel))
theorem lkX11_144 : Cond.methodLink RX11 144 yX8_take ∈ tb := (tb_mem (List.mem_of_getElem? (i := 540) (by decide +kernel)) (by decide +kernel))
theorem lkX8_22 : Cond.methodLink RX8 22 yX8_isFull ∈ tb := (tb_mem (List.mem_of_getElem? (i := 544) (by decide +kernel)) (by decide +kernel))
theorem lkL_36 : Cond.methodLink RL 36 yX11_law ∈ tb := (tb_mem (List.mem_of_getElem? (i := 545) (by decide +kernel)) (by decide +kernel))
theorem lkX11_147 : Cond.methodLink RX11 147 yX8_isText ∈ tb := (tb_mem (List.mem_of_getElem? (i := 549) (by decide +kernel)) (by decide +kernel))
theorem lkX8_32 : Cond.methodLink RX8 32 yX8_isLine ∈ tb := (tb_mem (List.mem_of_getElem? (i := 553) (by decide +kernel)) (by decide +kernel))
theorem lkX8_39 : Cond.methodLink RX8 39 yX8_isLevel ∈ tb := (tb_mem (List.mem_of_getElem? (i := 557) (by decide +kernel)) (by decide +kernel))
theorem lkX8_47 : Cond.methodLink RX8 47 yX8_isFactor ∈ tb := (tb_mem (List.mem_of_getElem? (i := 561) (by decide +kernel)) (by decide +kernel))
theorem lkX8_54 : Cond.methodLink RX8 54 yX8_isDigit ∈ tb := (tb_mem (List.mem_of_getElem? (i := 565) (by decide +kernel)) (by decide +kernel))
theorem lkX8_57 : Cond.methodLink RX8 57 yX8_writeNumber ∈ tb := (tb_mem (List.mem_of_getElem? (i := 568) (by decide +kernel)) (by decide +kernel))
theorem lkX8_43 : Cond.methodLink RX8 43 yX8_write ∈ tb := (tb_mem (List.mem_of_getElem? (i := 572) (by decide +kernel)) (by decide +kernel))
theorem lkX8_62 : Cond.methodLink RX8 62 yJ0_indexOf_0f7a4 ∈ tb := (tb_mem (List.mem_of_getElem? (i := 577) (by decide +kernel)) (by decide +kernel))
theorem lkJ0_633 : Cond.methodLink RJ0 633 yJ0_indexOf_7cf53 ∈ tb := (tb_mem (List.mem_of_getElem? (i := 581) (by decide +kernel)) (by decide +kernel))
theorem lkJ0_492 : Cond.methodLink RJ0 492 yJ0_isLatin1_aae02 ∈ tb := (tb_mem (List.mem_of_getElem? (i := 585) (by decide +kernel)) (by decide +kernel))
theorem lkJ0_505 : Cond.methodLink RJ0 505 yJ0_length_8abf5 ∈ tb := (tb_mem (List.mem_of_getElem? (i := 591) (by decide +kernel)) (by decide +kernel))
theorem lkJ0_335 : Cond.methodLink RJ0 335 yJ0_coder_7d493 ∈ tb := (tb_mem (List.mem_of_getElem? (i := 595) (by decide +kernel)) (by decide +kernel))
theorem lkJ0_637 : Cond.methodLink RJ0 637 yJ1_indexOf_4cfef ∈ tb := (tb_mem (List.mem_of_getElem? (i := 599) (by decide +kernel)) (by decide +kernel))
theorem lkJ1_88 : Cond.methodLink RJ1 88 yJ1_canEncode_9a6ad ∈ tb := (tb_mem (List.mem_of_getElem? (i := 602) (by decide +kernel)) (by decide +kernel))
theorem lkJ1_92 : Cond.methodLink RJ1 92 yJ9_max_7cf53 ∈ tb := (tb_mem (List.mem_of_getElem? (i := 605) (by decide +kernel)) (by decide +kernel))
theorem lkJ1_38 : Cond.methodLink RJ1 38 yJ9_min_7cf53 ∈ tb := (tb_mem (List.mem_of_getElem? (i := 608) (by decide +kernel)) (by decide +kernel))
theorem lkJ1_95 : Cond.methodLink RJ1 95 yJ1_indexOfChar_4cfef ∈ tb := (tb_mem (List.mem_of_getElem? (i := 611) (by decide +kernel)) (by decide +kernel))
theorem lkJ0_640 : Cond.methodLink RJ0 640 yJ2_indexOf_4cfef ∈ tb := (tb_mem (List.mem_of_getElem? (i := 614) (by decide +kernel)) (by decide +kernel))
theorem lkJ2_224 : Cond.methodLink RJ2 224 yJ9_max_7cf53 ∈ tb := (tb_mem (List.mem_of_getElem? (i := 617) (by decide +kernel)) (by decide +kernel))
theorem lkJ2_183 : Cond.methodLink RJ2 183 yJ9_min_7cf53 ∈ tb := (tb_mem (List.mem_of_getElem? (i := 618) (by decide +kernel)) (by decide +kernel))
theorem lkJ2_228 : Cond.methodLink RJ2 228 yJ2_indexOfChar_4cfef ∈ tb := (tb_mem (List.mem_of_getElem? (i := 620) (by decide +kernel)) (by decide +kernel))
theorem lkJ2_96 : Cond.methodLink RJ2 96 yJ2_checkBoundsBeginEnd_d044e ∈ tb := (tb_mem (List.mem_of_getElem? (i := 623) (by decide +kernel)) (by decide +kernel))
theorem lkJ2_48 : Cond.methodLink RJ2 48 yJ2_length_9d52b ∈ tb := (tb_mem (List.mem_of_getElem? (i := 626) (by decide +kernel)) (by decide +kernel))
theorem lkJ2_241 : Cond.methodLink RJ2 241 yJ0_checkBoundsBeginEnd_23922 ∈ tb := (tb_mem (List.mem_of_getElem? (i := 629) (by decide +kernel)) (by decide +kernel))
theorem lkJ0_1062 : Cond.methodLink RJ0 1062 yJ3_checkFromToIndex_8c36e ∈ tb := (tb_mem (List.mem_of_getElem? (i := 634) (by decide +kernel)) (by decide +kernel))
theorem lkJ2_244 : Cond.methodLink RJ2 244 yJ2_indexOfCharUnsafe_4cfef ∈ tb := (tb_mem (List.mem_of_getElem? (i := 637) (by decide +kernel)) (by decide +kernel))
theorem lkJ2_71 : Cond.methodLink RJ2 71 yJ2_getChar_3b067 ∈ tb := (tb_mem (List.mem_of_getElem? (i := 640) (by decide +kernel)) (by decide +kernel))
theorem lkJ2_232 : Cond.methodLink RJ2 232 yJ2_indexOfSupplementary_4cfef ∈ tb := (tb_mem (List.mem_of_getElem? (i := 649) (by decide +kernel)) (by decide +kernel))
theorem lkJ2_164 : Cond.methodLink RJ2 164 yJ11_isValidCodePoint_9a6ad ∈ tb := (tb_mem (List.mem_of_getElem? (i := 652) (by decide +kernel)) (by decide +kernel))
theorem lkJ2_157 : Cond.methodLink RJ2 157 yJ11_highSurrogate_5068e ∈ tb := (tb_mem (List.mem_of_getElem? (i := 655) (by decide +kernel)) (by decide +kernel))
theorem lkJ2_161 : Cond.methodLink RJ2 161 yJ11_lowSurrogate_5068e ∈ tb := (tb_mem (List.mem_of_getElem? (i := 659) (by decide +kernel)) (by decide +kernel))
theorem lkX8_67 : Cond.methodLink RX8 67 yX8_isOpened ∈ tb := (tb_mem (List.mem_of_getElem? (i := 663) (by decide +kernel)) (by decide +kernel))
theorem lkX8_35 : Cond.methodLink RX8 35 yX8_takes ∈ tb := (tb_mem (List.mem_of_getElem? (i := 667) (by decide +kernel)) (by decide +kernel))
theorem lkX8_50 : Cond.methodLink RX8 50 yX8_levelOf ∈ tb := (tb_mem (List.mem_of_getElem? (i := 671) (by decide +kernel)) (by decide +kernel))
theorem lkX11_150 : Cond.methodLink RX11 150 yX8_place ∈ tb := (tb_mem (List.mem_of_getElem? (i := 674) (by decide +kernel)) (by decide +kernel))
theorem lkX11_154 : Cond.methodLink RX11 154 yX8_code ∈ tb := (tb_mem (List.mem_of_getElem? (i := 678) (by decide +kernel)) (by decide +kernel))
theorem lkX11_158 : Cond.methodLink RX11 158 yX8_codes ∈ tb := (tb_mem (List.mem_of_getElem? (i := 682) (by decide +kernel)) (by decide +kernel))
theorem lkX11_161 : Cond.methodLink RX11 161 yX4_become ∈ tb := (tb_mem (List.mem_of_getElem? (i := 686) (by decide +kernel)) (by decide +kernel))
theorem lkX4_21 : Cond.methodLink RX4 21 yJ9_min_7cf53 ∈ tb := (tb_mem (List.mem_of_getElem? (i := 690) (by decide +kernel)) (by decide +kernel))
theorem lkX4_31 : Cond.methodLink RX4 31 arraycopyName ∈ tb := (tb_mem (List.mem_of_getElem? (i := 691) (by decide +kernel)) (by decide +kernel))
theorem lkX11_165 : Cond.methodLink RX11 165 yX8_empty ∈ tb := (tb_mem (List.mem_of_getElem? (i := 694) (by decide +kernel)) (by decide +kernel))
theorem lkL_41 : Cond.methodLink RL 41 yX11_loses ∈ tb := (tb_mem (List.mem_of_getElem? (i := 699) (by decide +kernel)) (by decide +kernel))
theorem lkX11_168 : Cond.methodLink RX11 168 yX6_isAct ∈ tb := (tb_mem (List.mem_of_getElem? (i := 703) (by decide +kernel)) (by decide +kernel))
theorem lkX11_172 : Cond.methodLink RX11 172 yX9_ready ∈ tb := (tb_mem (List.mem_of_getElem? (i := 707) (by decide +kernel)) (by decide +kernel))
theorem lkX9_44 : Cond.methodLink RX9 44 yX5_many ∈ tb := (tb_mem (List.mem_of_getElem? (i := 711) (by decide +kernel)) (by decide +kernel))
theorem lkX9_50 : Cond.methodLink RX9 50 yX5_told ∈ tb := (tb_mem (List.mem_of_getElem? (i := 715) (by decide +kernel)) (by decide +kernel))
theorem lkX9_64 : Cond.methodLink RX9 64 yX9_compare ∈ tb := (tb_mem (List.mem_of_getElem? (i := 716) (by decide +kernel)) (by decide +kernel))
theorem lkX9_67 : Cond.methodLink RX9 67 yX9_differing ∈ tb := (tb_mem (List.mem_of_getElem? (i := 720) (by decide +kernel)) (by decide +kernel))
theorem lkX9_71 : Cond.methodLink RX9 71 yJ9_abs_0f7a4 ∈ tb := (tb_mem (List.mem_of_getElem? (i := 724) (by decide +kernel)) (by decide +kernel))
theorem lkX11_175 : Cond.methodLink RX11 175 yX9_marksOfTwo ∈ tb := (tb_mem (List.mem_of_getElem? (i := 727) (by decide +kernel)) (by decide +kernel))
theorem lkX9_83 : Cond.methodLink RX9 83 yX5_has ∈ tb := (tb_mem (List.mem_of_getElem? (i := 731) (by decide +kernel)) (by decide +kernel))
theorem lkX9_117 : Cond.methodLink RX9 117 yX4_marks ∈ tb := (tb_mem (List.mem_of_getElem? (i := 732) (by decide +kernel)) (by decide +kernel))
theorem lkX4_37 : Cond.methodLink RX4 37 yX4_byRote ∈ tb := (tb_mem (List.mem_of_getElem? (i := 736) (by decide +kernel)) (by decide +kernel))
theorem lkX4_41 : Cond.methodLink RX4 41 yX4_byText ∈ tb := (tb_mem (List.mem_of_getElem? (i := 739) (by decide +kernel)) (by decide +kernel))
theorem lkX4_53 : Cond.methodLink RX4 53 yX4_pop ∈ tb := (tb_mem (List.mem_of_getElem? (i := 743) (by decide +kernel)) (by decide +kernel))
theorem lkX4_56 : Cond.methodLink RX4 56 yX4_worth ∈ tb := (tb_mem (List.mem_of_getElem? (i := 747) (by decide +kernel)) (by decide +kernel))
theorem lkX4_64 : Cond.methodLink RX4 64 yX4_joined ∈ tb := (tb_mem (List.mem_of_getElem? (i := 751) (by decide +kernel)) (by decide +kernel))
theorem lkX4_60 : Cond.methodLink RX4 60 yX4_push ∈ tb := (tb_mem (List.mem_of_getElem? (i := 754) (by decide +kernel)) (by decide +kernel))
theorem lkX4_45 : Cond.methodLink RX4 45 yJ9_max_7cf53 ∈ tb := (tb_mem (List.mem_of_getElem? (i := 758) (by decide +kernel)) (by decide +kernel))
theorem lkL_45 : Cond.methodLink RL 45 yX11_routine ∈ tb := (tb_mem (List.mem_of_getElem? (i := 759) (by decide +kernel)) (by decide +kernel))
theorem lkX11_179 : Cond.methodLink RX11 179 yX11_begin ∈ tb := (tb_mem (List.mem_of_getElem? (i := 763) (by decide +kernel)) (by decide +kernel))
theorem lkX11_385 : Cond.methodLink RX11 385 yX6_take ∈ tb := (tb_mem (List.mem_of_getElem? (i := 767) (by decide +kernel)) (by decide +kernel))
theorem lkX6_21 : Cond.methodLink RX6 21 yJ9_min_7cf53 ∈ tb := (tb_mem (List.mem_of_getElem? (i := 771) (by decide +kernel)) (by decide +kernel))
theorem lkX6_27 : Cond.methodLink RX6 27 yX6_isAct ∈ tb := (tb_mem (List.mem_of_getElem? (i := 772) (by decide +kernel)) (by decide +kernel))
theorem lkX11_182 : Cond.methodLink RX11 182 yX6_counts ∈ tb := (tb_mem (List.mem_of_getElem? (i := 773) (by decide +kernel)) (by decide +kernel))
theorem lkX11_185 : Cond.methodLink RX11 185 yX9_lost ∈ tb := (tb_mem (List.mem_of_getElem? (i := 777) (by decide +kernel)) (by decide +kernel))
theorem lkX9_87 : Cond.methodLink RX9 87 yX9_still ∈ tb := (tb_mem (List.mem_of_getElem? (i := 781) (by decide +kernel)) (by decide +kernel))
theorem lkX9_90 : Cond.methodLink RX9 90 yX6_counts ∈ tb := (tb_mem (List.mem_of_getElem? (i := 785) (by decide +kernel)) (by decide +kernel))
theorem lkX9_98 : Cond.methodLink RX9 98 yX6_actAt ∈ tb := (tb_mem (List.mem_of_getElem? (i := 786) (by decide +kernel)) (by decide +kernel))
theorem lkX9_101 : Cond.methodLink RX9 101 yX9_step ∈ tb := (tb_mem (List.mem_of_getElem? (i := 790) (by decide +kernel)) (by decide +kernel))
theorem lkX9_123 : Cond.methodLink RX9 123 yX9_marksBehind ∈ tb := (tb_mem (List.mem_of_getElem? (i := 794) (by decide +kernel)) (by decide +kernel))
theorem lkX9_108 : Cond.methodLink RX9 108 yX9_between ∈ tb := (tb_mem (List.mem_of_getElem? (i := 798) (by decide +kernel)) (by decide +kernel))
theorem lkX9_105 : Cond.methodLink RX9 105 yX9_offOf ∈ tb := (tb_mem (List.mem_of_getElem? (i := 802) (by decide +kernel)) (by decide +kernel))
theorem lkX11_188 : Cond.methodLink RX11 188 yX9_firstSeen ∈ tb := (tb_mem (List.mem_of_getElem? (i := 806) (by decide +kernel)) (by decide +kernel))
theorem lkX9_114 : Cond.methodLink RX9 114 yX9_widest ∈ tb := (tb_mem (List.mem_of_getElem? (i := 810) (by decide +kernel)) (by decide +kernel))
theorem lkX9_111 : Cond.methodLink RX9 111 yJ9_max_7cf53 ∈ tb := (tb_mem (List.mem_of_getElem? (i := 814) (by decide +kernel)) (by decide +kernel))
theorem lkX11_191 : Cond.methodLink RX11 191 yX9_worstTwo ∈ tb := (tb_mem (List.mem_of_getElem? (i := 815) (by decide +kernel)) (by decide +kernel))
theorem lkX9_126 : Cond.methodLink RX9 126 yX9_lost ∈ tb := (tb_mem (List.mem_of_getElem? (i := 819) (by decide +kernel)) (by decide +kernel))
theorem lkL_49 : Cond.methodLink RL 49 yX11_off ∈ tb := (tb_mem (List.mem_of_getElem? (i := 820) (by decide +kernel)) (by decide +kernel))
theorem lkX11_194 : Cond.methodLink RX11 194 yX9_think ∈ tb := (tb_mem (List.mem_of_getElem? (i := 824) (by decide +kernel)) (by decide +kernel))
theorem lkX9_95 : Cond.methodLink RX9 95 yJ9_min_7cf53 ∈ tb := (tb_mem (List.mem_of_getElem? (i := 828) (by decide +kernel)) (by decide +kernel))
theorem lkX11_198 : Cond.methodLink RX11 198 yX9_offOf ∈ tb := (tb_mem (List.mem_of_getElem? (i := 829) (by decide +kernel)) (by decide +kernel))
theorem lkL_53 : Cond.methodLink RL 53 yX11_apart ∈ tb := (tb_mem (List.mem_of_getElem? (i := 830) (by decide +kernel)) (by decide +kernel))
theorem lkX11_201 : Cond.methodLink RX11 201 yX11_isZeroOrOne ∈ tb := (tb_mem (List.mem_of_getElem? (i := 834) (by decide +kernel)) (by decide +kernel))
theorem lkX11_204 : Cond.methodLink RX11 204 yX9_widest ∈ tb := (tb_mem (List.mem_of_getElem? (i := 837) (by decide +kernel)) (by decide +kernel))
theorem lkX11_207 : Cond.methodLink RX11 207 yX9_widestTwo ∈ tb := (tb_mem (List.mem_of_getElem? (i := 838) (by decide +kernel)) (by decide +kernel))
theorem lkL_57 : Cond.methodLink RL 57 yX11_gone ∈ tb := (tb_mem (List.mem_of_getElem? (i := 842) (by decide +kernel)) (by decide +kernel))
theorem lkX11_210 : Cond.methodLink RX11 210 yX9_allGone ∈ tb := (tb_mem (List.mem_of_getElem? (i := 846) (by decide +kernel)) (by decide +kernel))
theorem lkX9_132 : Cond.methodLink RX9 132 yX9_goneOf ∈ tb := (tb_mem (List.mem_of_getElem? (i := 850) (by decide +kernel)) (by decide +kernel))
theorem lkX9_129 : Cond.methodLink RX9 129 yX6_firstGone ∈ tb := (tb_mem (List.mem_of_getElem? (i := 854) (by decide +kernel)) (by decide +kernel))
theorem lkX6_35 : Cond.methodLink RX6 35 yX6_aboveThen ∈ tb := (tb_mem (List.mem_of_getElem? (i := 858) (by decide +kernel)) (by decide +kernel))
theorem lkX6_31 : Cond.methodLink RX6 31 yX6_isUnder ∈ tb := (tb_mem (List.mem_of_getElem? (i := 861) (by decide +kernel)) (by decide +kernel))
theorem lkX6_39 : Cond.methodLink RX6 39 yX6_underThen ∈ tb := (tb_mem (List.mem_of_getElem? (i := 864) (by decide +kernel)) (by decide +kernel))
theorem lkX11_213 : Cond.methodLink RX11 213 yX9_goneOf ∈ tb := (tb_mem (List.mem_of_getElem? (i := 867) (by decide +kernel)) (by decide +kernel))
theorem lkL_61 : Cond.methodLink RL 61 yX11_least ∈ tb := (tb_mem (List.mem_of_getElem? (i := 868) (by decide +kernel)) (by decide +kernel))
theorem lkX11_216 : Cond.methodLink RX11 216 yX6_longest ∈ tb := (tb_mem (List.mem_of_getElem? (i := 872) (by decide +kernel)) (by decide +kernel))
theorem lkX6_43 : Cond.methodLink RX6 43 yJ9_max_7cf53 ∈ tb := (tb_mem (List.mem_of_getElem? (i := 876) (by decide +kernel)) (by decide +kernel))
theorem lkX11_219 : Cond.methodLink RX11 219 yJ9_max_7cf53 ∈ tb := (tb_mem (List.mem_of_getElem? (i := 877) (by decide +kernel)) (by decide +kernel))
theorem lkL_65 : Cond.methodLink RL 65 yX11_gasps ∈ tb := (tb_mem (List.mem_of_getElem? (i := 878) (by decide +kernel)) (by decide +kernel))
theorem lkX11_224 : Cond.methodLink RX11 224 yX5_leastBreath ∈ tb := (tb_mem (List.mem_of_getElem? (i := 882) (by decide +kernel)) (by decide +kernel))
theorem lkX5_54 : Cond.methodLink RX5 54 yJ9_min_7cf53 ∈ tb := (tb_mem (List.mem_of_getElem? (i := 886) (by decide +kernel)) (by decide +kernel))
theorem lkX11_227 : Cond.methodLink RX11 227 yX2_chooseGasps ∈ tb := (tb_mem (List.mem_of_getElem? (i := 887) (by decide +kernel)) (by decide +kernel))
theorem lkX2_37 : Cond.methodLink RX2 37 yX2_choose ∈ tb := (tb_mem (List.mem_of_getElem? (i := 891) (by decide +kernel)) (by decide +kernel))
theorem lkX2_57 : Cond.methodLink RX2 57 yX6_counts ∈ tb := (tb_mem (List.mem_of_getElem? (i := 895) (by decide +kernel)) (by decide +kernel))
theorem lkX2_61 : Cond.methodLink RX2 61 yJ9_min_7cf53 ∈ tb := (tb_mem (List.mem_of_getElem? (i := 896) (by decide +kernel)) (by decide +kernel))
theorem lkX2_67 : Cond.methodLink RX2 67 yX6_actAt ∈ tb := (tb_mem (List.mem_of_getElem? (i := 897) (by decide +kernel)) (by decide +kernel))
theorem lkX2_71 : Cond.methodLink RX2 71 yX2_after ∈ tb := (tb_mem (List.mem_of_getElem? (i := 898) (by decide +kernel)) (by decide +kernel))
theorem lkX2_81 : Cond.methodLink RX2 81 yX2_afterLooking ∈ tb := (tb_mem (List.mem_of_getElem? (i := 902) (by decide +kernel)) (by decide +kernel))
theorem lkX2_84 : Cond.methodLink RX2 84 yX2_afterBreathing ∈ tb := (tb_mem (List.mem_of_getElem? (i := 906) (by decide +kernel)) (by decide +kernel))
theorem lkX2_87 : Cond.methodLink RX2 87 yX6_aboveThen ∈ tb := (tb_mem (List.mem_of_getElem? (i := 910) (by decide +kernel)) (by decide +kernel))
theorem lkX2_91 : Cond.methodLink RX2 91 yX6_underThen ∈ tb := (tb_mem (List.mem_of_getElem? (i := 911) (by decide +kernel)) (by decide +kernel))
theorem lkX2_74 : Cond.methodLink RX2 74 yX2_from ∈ tb := (tb_mem (List.mem_of_getElem? (i := 912) (by decide +kernel)) (by decide +kernel))
theorem lkX2_77 : Cond.methodLink RX2 77 yX2_walk ∈ tb := (tb_mem (List.mem_of_getElem? (i := 916) (by decide +kernel)) (by decide +kernel))
theorem lkX11_231 : Cond.methodLink RX11 231 yX2_answer ∈ tb := (tb_mem (List.mem_of_getElem? (i := 920) (by decide +kernel)) (by decide +kernel))
theorem lkL_69 : Cond.methodLink RL 69 yX11_looks ∈ tb := (tb_mem (List.mem_of_getElem? (i := 924) (by decide +kernel)) (by decide +kernel))
theorem lkX11_234 : Cond.methodLink RX11 234 yX2_chooseLooks ∈ tb := (tb_mem (List.mem_of_getElem? (i := 928) (by decide +kernel)) (by decide +kernel))
theorem lkX2_41 : Cond.methodLink RX2 41 yX9_isLed ∈ tb := (tb_mem (List.mem_of_getElem? (i := 932) (by decide +kernel)) (by decide +kernel))
theorem lkX2_50 : Cond.methodLink RX2 50 yX9_isSeenSince ∈ tb := (tb_mem (List.mem_of_getElem? (i := 936) (by decide +kernel)) (by decide +kernel))
theorem lkL_73 : Cond.methodLink RL 73 yX11_whose ∈ tb := (tb_mem (List.mem_of_getElem? (i := 940) (by decide +kernel)) (by decide +kernel))
theorem lkX11_238 : Cond.methodLink RX11 238 yX11_fewestLost ∈ tb := (tb_mem (List.mem_of_getElem? (i := 944) (by decide +kernel)) (by decide +kernel))
theorem lkX11_245 : Cond.methodLink RX11 245 yX5_many ∈ tb := (tb_mem (List.mem_of_getElem? (i := 948) (by decide +kernel)) (by decide +kernel))
theorem lkX11_273 : Cond.methodLink RX11 273 yX9_leadBy ∈ tb := (tb_mem (List.mem_of_getElem? (i := 949) (by decide +kernel)) (by decide +kernel))
theorem lkX11_280 : Cond.methodLink RX11 280 yX9_quicken ∈ tb := (tb_mem (List.mem_of_getElem? (i := 953) (by decide +kernel)) (by decide +kernel))
theorem lkL_77 : Cond.methodLink RL 77 yX11_first ∈ tb := (tb_mem (List.mem_of_getElem? (i := 957) (by decide +kernel)) (by decide +kernel))
theorem lkL_81 : Cond.methodLink RL 81 yX11_slip ∈ tb := (tb_mem (List.mem_of_getElem? (i := 961) (by decide +kernel)) (by decide +kernel))
theorem lkX11_242 : Cond.methodLink RX11 242 yX9_slipAt ∈ tb := (tb_mem (List.mem_of_getElem? (i := 965) (by decide +kernel)) (by decide +kernel))
theorem lkL_85 : Cond.methodLink RL 85 yX11_line ∈ tb := (tb_mem (List.mem_of_getElem? (i := 969) (by decide +kernel)) (by decide +kernel))
theorem lkX11_248 : Cond.methodLink RX11 248 yX3_lineUp ∈ tb := (tb_mem (List.mem_of_getElem? (i := 973) (by decide +kernel)) (by decide +kernel))
theorem lkX3_22 : Cond.methodLink RX3 22 yX5_many ∈ tb := (tb_mem (List.mem_of_getElem? (i := 977) (by decide +kernel)) (by decide +kernel))
theorem lkX3_28 : Cond.methodLink RX3 28 yJ9_min_7cf53 ∈ tb := (tb_mem (List.mem_of_getElem? (i := 978) (by decide +kernel)) (by decide +kernel))
theorem lkX3_34 : Cond.methodLink RX3 34 yX3_spread ∈ tb := (tb_mem (List.mem_of_getElem? (i := 979) (by decide +kernel)) (by decide +kernel))
theorem lkX3_47 : Cond.methodLink RX3 47 yX3_tall ∈ tb := (tb_mem (List.mem_of_getElem? (i := 983) (by decide +kernel)) (by decide +kernel))
theorem lkX3_58 : Cond.methodLink RX3 58 yX5_told ∈ tb := (tb_mem (List.mem_of_getElem? (i := 987) (by decide +kernel)) (by decide +kernel))
theorem lkX3_51 : Cond.methodLink RX3 51 yJ9_max_7cf53 ∈ tb := (tb_mem (List.mem_of_getElem? (i := 988) (by decide +kernel)) (by decide +kernel))
theorem lkX3_37 : Cond.methodLink RX3 37 arraycopyName ∈ tb := (tb_mem (List.mem_of_getElem? (i := 989) (by decide +kernel)) (by decide +kernel))
theorem lkX3_43 : Cond.methodLink RX3 43 yX3_nextOrder ∈ tb := (tb_mem (List.mem_of_getElem? (i := 990) (by decide +kernel)) (by decide +kernel))
theorem lkX3_54 : Cond.methodLink RX3 54 yX3_swap ∈ tb := (tb_mem (List.mem_of_getElem? (i := 994) (by decide +kernel)) (by decide +kernel))
theorem lkX11_251 : Cond.methodLink RX11 251 yX3_inLine ∈ tb := (tb_mem (List.mem_of_getElem? (i := 998) (by decide +kernel)) (by decide +kernel))
theorem lkL_89 : Cond.methodLink RL 89 yX11_lift ∈ tb := (tb_mem (List.mem_of_getElem? (i := 1002) (by decide +kernel)) (by decide +kernel))
theorem lkX11_254 : Cond.methodLink RX11 254 yX3_lifted ∈ tb := (tb_mem (List.mem_of_getElem? (i := 1006) (by decide +kernel)) (by decide +kernel))
theorem lkX3_61 : Cond.methodLink RX3 61 yX3_tallTogether ∈ tb := (tb_mem (List.mem_of_getElem? (i := 1010) (by decide +kernel)) (by decide +kernel))
theorem lkX3_64 : Cond.methodLink RX3 64 yJ6_bitCount_0f7a4 ∈ tb := (tb_mem (List.mem_of_getElem? (i := 1014) (by decide +kernel)) (by decide +kernel))
theorem lkL_93 : Cond.methodLink RL 93 yX11_star ∈ tb := (tb_mem (List.mem_of_getElem? (i := 1020) (by decide +kernel)) (by decide +kernel))
theorem lkX11_258 : Cond.methodLink RX11 258 yX3_starSize ∈ tb := (tb_mem (List.mem_of_getElem? (i := 1024) (by decide +kernel)) (by decide +kernel))
theorem lkX3_69 : Cond.methodLink RX3 69 yX3_reach ∈ tb := (tb_mem (List.mem_of_getElem? (i := 1028) (by decide +kernel)) (by decide +kernel))
theorem lkX11_261 : Cond.methodLink RX11 261 yX3_onOneCell ∈ tb := (tb_mem (List.mem_of_getElem? (i := 1032) (by decide +kernel)) (by decide +kernel))
theorem lkX3_72 : Cond.methodLink RX3 72 yX3_isAt ∈ tb := (tb_mem (List.mem_of_getElem? (i := 1036) (by decide +kernel)) (by decide +kernel))
theorem lkX11_264 : Cond.methodLink RX11 264 yX3_isMirror ∈ tb := (tb_mem (List.mem_of_getElem? (i := 1040) (by decide +kernel)) (by decide +kernel))
theorem lkX3_76 : Cond.methodLink RX3 76 yX3_isAnybodyAt ∈ tb := (tb_mem (List.mem_of_getElem? (i := 1044) (by decide +kernel)) (by decide +kernel))
theorem lkL_97 : Cond.methodLink RL 97 yX11_judge ∈ tb := (tb_mem (List.mem_of_getElem? (i := 1048) (by decide +kernel)) (by decide +kernel))
theorem lkX11_267 : Cond.methodLink RX11 267 yX11_beginRipples ∈ tb := (tb_mem (List.mem_of_getElem? (i := 1052) (by decide +kernel)) (by decide +kernel))
theorem lkX11_388 : Cond.methodLink RX11 388 yX7_isEmpty ∈ tb := (tb_mem (List.mem_of_getElem? (i := 1056) (by decide +kernel)) (by decide +kernel))
theorem lkX11_270 : Cond.methodLink RX11 270 yX11_judged ∈ tb := (tb_mem (List.mem_of_getElem? (i := 1057) (by decide +kernel)) (by decide +kernel))
theorem lkX11_391 : Cond.methodLink RX11 391 yX9_judged ∈ tb := (tb_mem (List.mem_of_getElem? (i := 1061) (by decide +kernel)) (by decide +kernel))
theorem lkL_101 : Cond.methodLink RL 101 yX11_whoLed ∈ tb := (tb_mem (List.mem_of_getElem? (i := 1065) (by decide +kernel)) (by decide +kernel))
theorem lkL_105 : Cond.methodLink RL 105 yX11_later ∈ tb := (tb_mem (List.mem_of_getElem? (i := 1069) (by decide +kernel)) (by decide +kernel))
theorem lkX11_276 : Cond.methodLink RX11 276 yX9_delay ∈ tb := (tb_mem (List.mem_of_getElem? (i := 1073) (by decide +kernel)) (by decide +kernel))
theorem lkL_109 : Cond.methodLink RL 109 yX11_quicker ∈ tb := (tb_mem (List.mem_of_getElem? (i := 1077) (by decide +kernel)) (by decide +kernel))
theorem lkL_113 : Cond.methodLink RL 113 yX11_drawn ∈ tb := (tb_mem (List.mem_of_getElem? (i := 1081) (by decide +kernel)) (by decide +kernel))
theorem lkX11_283 : Cond.methodLink RX11 283 yX9_train ∈ tb := (tb_mem (List.mem_of_getElem? (i := 1085) (by decide +kernel)) (by decide +kernel))
theorem lkX9_135 : Cond.methodLink RX9 135 yX9_slipByDraws ∈ tb := (tb_mem (List.mem_of_getElem? (i := 1089) (by decide +kernel)) (by decide +kernel))
theorem lkL_118 : Cond.methodLink RL 118 yX11_swim ∈ tb := (tb_mem (List.mem_of_getElem? (i := 1094) (by decide +kernel)) (by decide +kernel))
theorem lkX11_287 : Cond.methodLink RX11 287 yX1_swum ∈ tb := (tb_mem (List.mem_of_getElem? (i := 1098) (by decide +kernel)) (by decide +kernel))
theorem lkX1_31 : Cond.methodLink RX1 31 yX6_countsUnder ∈ tb := (tb_mem (List.mem_of_getElem? (i := 1102) (by decide +kernel)) (by decide +kernel))
theorem lkX1_37 : Cond.methodLink RX1 37 yJ9_min_7cf53 ∈ tb := (tb_mem (List.mem_of_getElem? (i := 1106) (by decide +kernel)) (by decide +kernel))
theorem lkX1_43 : Cond.methodLink RX1 43 yX1_tire ∈ tb := (tb_mem (List.mem_of_getElem? (i := 1107) (by decide +kernel)) (by decide +kernel))
theorem lkX1_47 : Cond.methodLink RX1 47 yX6_counts ∈ tb := (tb_mem (List.mem_of_getElem? (i := 1111) (by decide +kernel)) (by decide +kernel))
theorem lkL_122 : Cond.methodLink RL 122 yX11_led ∈ tb := (tb_mem (List.mem_of_getElem? (i := 1112) (by decide +kernel)) (by decide +kernel))
theorem lkX11_291 : Cond.methodLink RX11 291 yX1_inAll ∈ tb := (tb_mem (List.mem_of_getElem? (i := 1116) (by decide +kernel)) (by decide +kernel))
theorem lkL_126 : Cond.methodLink RL 126 yX11_image ∈ tb := (tb_mem (List.mem_of_getElem? (i := 1120) (by decide +kernel)) (by decide +kernel))
theorem lkX11_294 : Cond.methodLink RX11 294 yX1_keepImage ∈ tb := (tb_mem (List.mem_of_getElem? (i := 1124) (by decide +kernel)) (by decide +kernel))
theorem lkX1_54 : Cond.methodLink RX1 54 arraycopyName ∈ tb := (tb_mem (List.mem_of_getElem? (i := 1128) (by decide +kernel)) (by decide +kernel))
theorem lkL_130 : Cond.methodLink RL 130 yX11_back ∈ tb := (tb_mem (List.mem_of_getElem? (i := 1129) (by decide +kernel)) (by decide +kernel))
theorem lkX11_297 : Cond.methodLink RX11 297 yX1_hasImage ∈ tb := (tb_mem (List.mem_of_getElem? (i := 1133) (by decide +kernel)) (by decide +kernel))
theorem lkX11_300 : Cond.methodLink RX11 300 yX1_layBack ∈ tb := (tb_mem (List.mem_of_getElem? (i := 1137) (by decide +kernel)) (by decide +kernel))
theorem lkL_134 : Cond.methodLink RL 134 yX11_undo ∈ tb := (tb_mem (List.mem_of_getElem? (i := 1141) (by decide +kernel)) (by decide +kernel))
theorem lkX11_303 : Cond.methodLink RX11 303 yX0_takeBack ∈ tb := (tb_mem (List.mem_of_getElem? (i := 1145) (by decide +kernel)) (by decide +kernel))
theorem lkX11_306 : Cond.methodLink RX11 306 yX0_done ∈ tb := (tb_mem (List.mem_of_getElem? (i := 1149) (by decide +kernel)) (by decide +kernel))
theorem lkL_138 : Cond.methodLink RL 138 yX11_redo ∈ tb := (tb_mem (List.mem_of_getElem? (i := 1153) (by decide +kernel)) (by decide +kernel))
theorem lkX11_309 : Cond.methodLink RX11 309 yX0_doAgain ∈ tb := (tb_mem (List.mem_of_getElem? (i := 1157) (by decide +kernel)) (by decide +kernel))
theorem lkX11_312 : Cond.methodLink RX11 312 yX0_undone ∈ tb := (tb_mem (List.mem_of_getElem? (i := 1161) (by decide +kernel)) (by decide +kernel))
theorem lkL_142 : Cond.methodLink RL 142 yX11_body ∈ tb := (tb_mem (List.mem_of_getElem? (i := 1165) (by decide +kernel)) (by decide +kernel))
theorem lkX11_315 : Cond.methodLink RX11 315 yX10_isKind ∈ tb := (tb_mem (List.mem_of_getElem? (i := 1169) (by decide +kernel)) (by decide +kernel))
theorem lkX11_318 : Cond.methodLink RX11 318 yX10_isFull ∈ tb := (tb_mem (List.mem_of_getElem? (i := 1172) (by decide +kernel)) (by decide +kernel))
theorem lkX11_319 : Cond.methodLink RX11 319 yX10_add ∈ tb := (tb_mem (List.mem_of_getElem? (i := 1176) (by decide +kernel)) (by decide +kernel))
theorem lkX10_35 : Cond.methodLink RX10 35 yX10_isFull ∈ tb := (tb_mem (List.mem_of_getElem? (i := 1180) (by decide +kernel)) (by decide +kernel))
theorem lkL_146 : Cond.methodLink RL 146 yX11_act ∈ tb := (tb_mem (List.mem_of_getElem? (i := 1181) (by decide +kernel)) (by decide +kernel))
theorem lkX11_322 : Cond.methodLink RX11 322 yX10_start ∈ tb := (tb_mem (List.mem_of_getElem? (i := 1185) (by decide +kernel)) (by decide +kernel))
theorem lkX10_32 : Cond.methodLink RX10 32 yX10_has ∈ tb := (tb_mem (List.mem_of_getElem? (i := 1189) (by decide +kernel)) (by decide +kernel))
theorem lkX11_325 : Cond.methodLink RX11 325 yX10_counts ∈ tb := (tb_mem (List.mem_of_getElem? (i := 1195) (by decide +kernel)) (by decide +kernel))
theorem lkX10_45 : Cond.methodLink RX10 45 yX10_is ∈ tb := (tb_mem (List.mem_of_getElem? (i := 1199) (by decide +kernel)) (by decide +kernel))
theorem lkX10_48 : Cond.methodLink RX10 48 yX10_begins ∈ tb := (tb_mem (List.mem_of_getElem? (i := 1203) (by decide +kernel)) (by decide +kernel))
theorem lkX10_52 : Cond.methodLink RX10 52 yX10_plainCounts ∈ tb := (tb_mem (List.mem_of_getElem? (i := 1207) (by decide +kernel)) (by decide +kernel))
theorem lkX11_327 : Cond.methodLink RX11 327 yX10_turns ∈ tb := (tb_mem (List.mem_of_getElem? (i := 1211) (by decide +kernel)) (by decide +kernel))
theorem lkX10_56 : Cond.methodLink RX10 56 yX10_plainTurns ∈ tb := (tb_mem (List.mem_of_getElem? (i := 1215) (by decide +kernel)) (by decide +kernel))
theorem lkX10_62 : Cond.methodLink RX10 62 yX10_counts ∈ tb := (tb_mem (List.mem_of_getElem? (i := 1219) (by decide +kernel)) (by decide +kernel))
theorem lkX10_59 : Cond.methodLink RX10 59 yX10_sinks ∈ tb := (tb_mem (List.mem_of_getElem? (i := 1220) (by decide +kernel)) (by decide +kernel))
theorem lkX10_65 : Cond.methodLink RX10 65 yX10_plainSinks ∈ tb := (tb_mem (List.mem_of_getElem? (i := 1224) (by decide +kernel)) (by decide +kernel))
theorem lkX11_330 : Cond.methodLink RX11 330 yX10_sinks ∈ tb := (tb_mem (List.mem_of_getElem? (i := 1228) (by decide +kernel)) (by decide +kernel))
theorem lkX11_333 : Cond.methodLink RX11 333 yX10_tells ∈ tb := (tb_mem (List.mem_of_getElem? (i := 1229) (by decide +kernel)) (by decide +kernel))
theorem lkX10_68 : Cond.methodLink RX10 68 yX10_plainTells ∈ tb := (tb_mem (List.mem_of_getElem? (i := 1233) (by decide +kernel)) (by decide +kernel))
theorem lkX10_71 : Cond.methodLink RX10 71 yX10_turns ∈ tb := (tb_mem (List.mem_of_getElem? (i := 1237) (by decide +kernel)) (by decide +kernel))
theorem lkL_150 : Cond.methodLink RL 150 yX11_trace ∈ tb := (tb_mem (List.mem_of_getElem? (i := 1238) (by decide +kernel)) (by decide +kernel))
theorem lkX11_336 : Cond.methodLink RX11 336 yX10_traced ∈ tb := (tb_mem (List.mem_of_getElem? (i := 1242) (by decide +kernel)) (by decide +kernel))
theorem lkL_154 : Cond.methodLink RL 154 yX11_keep ∈ tb := (tb_mem (List.mem_of_getElem? (i := 1246) (by decide +kernel)) (by decide +kernel))
theorem lkX11_339 : Cond.methodLink RX11 339 yX10_has ∈ tb := (tb_mem (List.mem_of_getElem? (i := 1250) (by decide +kernel)) (by decide +kernel))
theorem lkX11_340 : Cond.methodLink RX11 340 yX7_hold ∈ tb := (tb_mem (List.mem_of_getElem? (i := 1251) (by decide +kernel)) (by decide +kernel))
theorem lkL_158 : Cond.methodLink RL 158 yX11_row ∈ tb := (tb_mem (List.mem_of_getElem? (i := 1255) (by decide +kernel)) (by decide +kernel))
theorem lkX11_343 : Cond.methodLink RX11 343 yX7_isSort ∈ tb := (tb_mem (List.mem_of_getElem? (i := 1259) (by decide +kernel)) (by decide +kernel))
theorem lkX11_346 : Cond.methodLink RX11 346 yX7_lay ∈ tb := (tb_mem (List.mem_of_getElem? (i := 1262) (by decide +kernel)) (by decide +kernel))
theorem lkL_164 : Cond.methodLink RL 164 yX11_put ∈ tb := (tb_mem (List.mem_of_getElem? (i := 1266) (by decide +kernel)) (by decide +kernel))
theorem lkX11_349 : Cond.methodLink RX11 349 yX7_rowRefusal ∈ tb := (tb_mem (List.mem_of_getElem? (i := 1270) (by decide +kernel)) (by decide +kernel))
theorem lkX7_33 : Cond.methodLink RX7 33 yX7_isSort ∈ tb := (tb_mem (List.mem_of_getElem? (i := 1274) (by decide +kernel)) (by decide +kernel))
theorem lkX11_352 : Cond.methodLink RX11 352 yX7_set ∈ tb := (tb_mem (List.mem_of_getElem? (i := 1275) (by decide +kernel)) (by decide +kernel))
theorem lkX7_36 : Cond.methodLink RX7 36 yX7_isPlace ∈ tb := (tb_mem (List.mem_of_getElem? (i := 1279) (by decide +kernel)) (by decide +kernel))
theorem lkX7_40 : Cond.methodLink RX7 40 yX7_cut ∈ tb := (tb_mem (List.mem_of_getElem? (i := 1283) (by decide +kernel)) (by decide +kernel))
theorem lkL_169 : Cond.methodLink RL 169 yX11_element ∈ tb := (tb_mem (List.mem_of_getElem? (i := 1286) (by decide +kernel)) (by decide +kernel))
theorem lkX11_358 : Cond.methodLink RX11 358 yX7_elementAt ∈ tb := (tb_mem (List.mem_of_getElem? (i := 1291) (by decide +kernel)) (by decide +kernel))
theorem lkL_174 : Cond.methodLink RL 174 yX11_shift ∈ tb := (tb_mem (List.mem_of_getElem? (i := 1296) (by decide +kernel)) (by decide +kernel))
theorem lkX11_362 : Cond.methodLink RX11 362 yX7_pairRefusal ∈ tb := (tb_mem (List.mem_of_getElem? (i := 1300) (by decide +kernel)) (by decide +kernel))
theorem lkX11_365 : Cond.methodLink RX11 365 yX7_move ∈ tb := (tb_mem (List.mem_of_getElem? (i := 1304) (by decide +kernel)) (by decide +kernel))
theorem lkX7_46 : Cond.methodLink RX7 46 yX7_isStretch ∈ tb := (tb_mem (List.mem_of_getElem? (i := 1308) (by decide +kernel)) (by decide +kernel))
theorem lkX7_50 : Cond.methodLink RX7 50 arraycopyName ∈ tb := (tb_mem (List.mem_of_getElem? (i := 1312) (by decide +kernel)) (by decide +kernel))
theorem lkL_179 : Cond.methodLink RL 179 yX11_taken ∈ tb := (tb_mem (List.mem_of_getElem? (i := 1313) (by decide +kernel)) (by decide +kernel))
theorem lkX11_369 : Cond.methodLink RX11 369 yX7_held ∈ tb := (tb_mem (List.mem_of_getElem? (i := 1317) (by decide +kernel)) (by decide +kernel))
theorem lkX11_372 : Cond.methodLink RX11 372 yX10_kindOf ∈ tb := (tb_mem (List.mem_of_getElem? (i := 1321) (by decide +kernel)) (by decide +kernel))
theorem lkX11_375 : Cond.methodLink RX11 375 yX10_isUnder ∈ tb := (tb_mem (List.mem_of_getElem? (i := 1325) (by decide +kernel)) (by decide +kernel))
theorem lkX10_18 : Cond.methodLink RX10 18 yX10_isKind ∈ tb := (tb_mem (List.mem_of_getElem? (i := 1328) (by decide +kernel)) (by decide +kernel))
theorem lkL_183 : Cond.methodLink RL 183 yX11_count ∈ tb := (tb_mem (List.mem_of_getElem? (i := 1329) (by decide +kernel)) (by decide +kernel))
theorem lkX11_378 : Cond.methodLink RX11 378 yX8_length ∈ tb := (tb_mem (List.mem_of_getElem? (i := 1333) (by decide +kernel)) (by decide +kernel))
theorem lkX11_381 : Cond.methodLink RX11 381 yX10_many ∈ tb := (tb_mem (List.mem_of_getElem? (i := 1337) (by decide +kernel)) (by decide +kernel))
theorem lkX11_382 : Cond.methodLink RX11 382 yX10_ran ∈ tb := (tb_mem (List.mem_of_getElem? (i := 1341) (by decide +kernel)) (by decide +kernel))
theorem lkL_17 : Cond.methodLink RL 17 yX12_swimmer ∈ tb := (tb_mem (List.mem_of_getElem? (i := 1520) (by decide +kernel)) (by decide +kernel))
theorem lkX12_128 : Cond.methodLink RX12 128 yX12_within ∈ tb := (tb_mem (List.mem_of_getElem? (i := 1524) (by decide +kernel)) (by decide +kernel))
theorem lkX12_136 : Cond.methodLink RX12 136 yX12_newSwimmer ∈ tb := (tb_mem (List.mem_of_getElem? (i := 1527) (by decide +kernel)) (by decide +kernel))
theorem lkL_22 : Cond.methodLink RL 22 yX12_swimmers ∈ tb := (tb_mem (List.mem_of_getElem? (i := 1531) (by decide +kernel)) (by decide +kernel))
theorem lkX12_140 : Cond.methodLink RX12 140 yX12_isShelf ∈ tb := (tb_mem (List.mem_of_getElem? (i := 1535) (by decide +kernel)) (by decide +kernel))
theorem lkL_26 : Cond.methodLink RL 26 yX12_mend ∈ tb := (tb_mem (List.mem_of_getElem? (i := 1539) (by decide +kernel)) (by decide +kernel))
theorem lkX12_145 : Cond.methodLink RX12 145 yX12_isOf ∈ tb := (tb_mem (List.mem_of_getElem? (i := 1543) (by decide +kernel)) (by decide +kernel))
theorem lkX12_132 : Cond.methodLink RX12 132 yX12_isOne ∈ tb := (tb_mem (List.mem_of_getElem? (i := 1547) (by decide +kernel)) (by decide +kernel))
theorem lkX12_149 : Cond.methodLink RX12 149 yX12_isFit ∈ tb := (tb_mem (List.mem_of_getElem? (i := 1551) (by decide +kernel)) (by decide +kernel))
theorem lkX12_153 : Cond.methodLink RX12 153 yX12_get ∈ tb := (tb_mem (List.mem_of_getElem? (i := 1555) (by decide +kernel)) (by decide +kernel))
theorem lkX12_157 : Cond.methodLink RX12 157 yX12_becomes ∈ tb := (tb_mem (List.mem_of_getElem? (i := 1559) (by decide +kernel)) (by decide +kernel))
theorem lkL_30 : Cond.methodLink RL 30 yX12_of ∈ tb := (tb_mem (List.mem_of_getElem? (i := 1563) (by decide +kernel)) (by decide +kernel))
theorem lkL_137 : Cond.methodLink RL 137 yX12_undo ∈ tb := (tb_mem (List.mem_of_getElem? (i := 1567) (by decide +kernel)) (by decide +kernel))
theorem lkL_141 : Cond.methodLink RL 141 yX12_redo ∈ tb := (tb_mem (List.mem_of_getElem? (i := 1571) (by decide +kernel)) (by decide +kernel))
theorem lkL_35 : Cond.methodLink RL 35 yX12_feed ∈ tb := (tb_mem (List.mem_of_getElem? (i := 1575) (by decide +kernel)) (by decide +kernel))
theorem lkL_40 : Cond.methodLink RL 40 yX12_law ∈ tb := (tb_mem (List.mem_of_getElem? (i := 1579) (by decide +kernel)) (by decide +kernel))
theorem lkX12_218 : Cond.methodLink RX12 218 yX12_isLine ∈ tb := (tb_mem (List.mem_of_getElem? (i := 1583) (by decide +kernel)) (by decide +kernel))
theorem lkX12_200 : Cond.methodLink RX12 200 yX12_isE ∈ tb := (tb_mem (List.mem_of_getElem? (i := 1587) (by decide +kernel)) (by decide +kernel))
theorem lkX12_212 : Cond.methodLink RX12 212 yX12_isA ∈ tb := (tb_mem (List.mem_of_getElem? (i := 1591) (by decide +kernel)) (by decide +kernel))
theorem lkX12_209 : Cond.methodLink RX12 209 yX12_isB ∈ tb := (tb_mem (List.mem_of_getElem? (i := 1595) (by decide +kernel)) (by decide +kernel))
theorem lkX12_206 : Cond.methodLink RX12 206 yX12_isS ∈ tb := (tb_mem (List.mem_of_getElem? (i := 1599) (by decide +kernel)) (by decide +kernel))
theorem lkX12_203 : Cond.methodLink RX12 203 yX12_isP ∈ tb := (tb_mem (List.mem_of_getElem? (i := 1603) (by decide +kernel)) (by decide +kernel))
theorem lkX12_197 : Cond.methodLink RX12 197 yX12_isO ∈ tb := (tb_mem (List.mem_of_getElem? (i := 1607) (by decide +kernel)) (by decide +kernel))
theorem lkX12_180 : Cond.methodLink RX12 180 yX12_isDigit ∈ tb := (tb_mem (List.mem_of_getElem? (i := 1611) (by decide +kernel)) (by decide +kernel))
theorem lkX12_173 : Cond.methodLink RX12 173 yX12_sign ∈ tb := (tb_mem (List.mem_of_getElem? (i := 1615) (by decide +kernel)) (by decide +kernel))
theorem lkX12_184 : Cond.methodLink RX12 184 yX12_codes ∈ tb := (tb_mem (List.mem_of_getElem? (i := 1619) (by decide +kernel)) (by decide +kernel))
theorem lkX12_187 : Cond.methodLink RX12 187 yX12_nameOf ∈ tb := (tb_mem (List.mem_of_getElem? (i := 1623) (by decide +kernel)) (by decide +kernel))
theorem lkX12_194 : Cond.methodLink RX12 194 yX12_is ∈ tb := (tb_mem (List.mem_of_getElem? (i := 1626) (by decide +kernel)) (by decide +kernel))
theorem lkL_44 : Cond.methodLink RL 44 yX12_loses ∈ tb := (tb_mem (List.mem_of_getElem? (i := 1630) (by decide +kernel)) (by decide +kernel))
theorem lkX12_246 : Cond.methodLink RX12 246 yX12_areTwo ∈ tb := (tb_mem (List.mem_of_getElem? (i := 1634) (by decide +kernel)) (by decide +kernel))
theorem lkX12_249 : Cond.methodLink RX12 249 yX12_loss ∈ tb := (tb_mem (List.mem_of_getElem? (i := 1638) (by decide +kernel)) (by decide +kernel))
theorem lkX12_232 : Cond.methodLink RX12 232 yJ9_min_7cf53 ∈ tb := (tb_mem (List.mem_of_getElem? (i := 1642) (by decide +kernel)) (by decide +kernel))
theorem lkX12_237 : Cond.methodLink RX12 237 yJ9_abs_0f7a4 ∈ tb := (tb_mem (List.mem_of_getElem? (i := 1643) (by decide +kernel)) (by decide +kernel))
theorem lkX12_240 : Cond.methodLink RX12 240 yX12_worked ∈ tb := (tb_mem (List.mem_of_getElem? (i := 1644) (by decide +kernel)) (by decide +kernel))
theorem lkX12_228 : Cond.methodLink RX12 228 yX12_both ∈ tb := (tb_mem (List.mem_of_getElem? (i := 1648) (by decide +kernel)) (by decide +kernel))
theorem lkX12_243 : Cond.methodLink RX12 243 yJ9_max_7cf53 ∈ tb := (tb_mem (List.mem_of_getElem? (i := 1651) (by decide +kernel)) (by decide +kernel))
theorem lkL_48 : Cond.methodLink RL 48 yX12_routine ∈ tb := (tb_mem (List.mem_of_getElem? (i := 1652) (by decide +kernel)) (by decide +kernel))
theorem lkX12_288 : Cond.methodLink RX12 288 yX12_noRow ∈ tb := (tb_mem (List.mem_of_getElem? (i := 1656) (by decide +kernel)) (by decide +kernel))
theorem lkX12_291 : Cond.methodLink RX12 291 yX12_reads ∈ tb := (tb_mem (List.mem_of_getElem? (i := 1660) (by decide +kernel)) (by decide +kernel))
theorem lkX12_295 : Cond.methodLink RX12 295 yX12_marksNow ∈ tb := (tb_mem (List.mem_of_getElem? (i := 1664) (by decide +kernel)) (by decide +kernel))
theorem lkX12_278 : Cond.methodLink RX12 278 yX12_drifts ∈ tb := (tb_mem (List.mem_of_getElem? (i := 1668) (by decide +kernel)) (by decide +kernel))
theorem lkX12_282 : Cond.methodLink RX12 282 yX12_marks ∈ tb := (tb_mem (List.mem_of_getElem? (i := 1673) (by decide +kernel)) (by decide +kernel))
theorem lkX12_272 : Cond.methodLink RX12 272 yX12_apartOf ∈ tb := (tb_mem (List.mem_of_getElem? (i := 1677) (by decide +kernel)) (by decide +kernel))
theorem lkX12_269 : Cond.methodLink RX12 269 yX12_offOf ∈ tb := (tb_mem (List.mem_of_getElem? (i := 1681) (by decide +kernel)) (by decide +kernel))
theorem lkX12_298 : Cond.methodLink RX12 298 yX12_firstApart ∈ tb := (tb_mem (List.mem_of_getElem? (i := 1685) (by decide +kernel)) (by decide +kernel))
theorem lkX12_285 : Cond.methodLink RX12 285 yX12_greatest ∈ tb := (tb_mem (List.mem_of_getElem? (i := 1689) (by decide +kernel)) (by decide +kernel))
theorem lkX12_275 : Cond.methodLink RX12 275 yX12_farthest ∈ tb := (tb_mem (List.mem_of_getElem? (i := 1693) (by decide +kernel)) (by decide +kernel))
theorem lkX12_301 : Cond.methodLink RX12 301 yX12_losers ∈ tb := (tb_mem (List.mem_of_getElem? (i := 1697) (by decide +kernel)) (by decide +kernel))
theorem lkL_52 : Cond.methodLink RL 52 yX12_off ∈ tb := (tb_mem (List.mem_of_getElem? (i := 1701) (by decide +kernel)) (by decide +kernel))
theorem lkL_56 : Cond.methodLink RL 56 yX12_apart ∈ tb := (tb_mem (List.mem_of_getElem? (i := 1705) (by decide +kernel)) (by decide +kernel))
theorem lkL_60 : Cond.methodLink RL 60 yX12_gone ∈ tb := (tb_mem (List.mem_of_getElem? (i := 1709) (by decide +kernel)) (by decide +kernel))
theorem lkX12_310 : Cond.methodLink RX12 310 yX12_goneBits ∈ tb := (tb_mem (List.mem_of_getElem? (i := 1713) (by decide +kernel)) (by decide +kernel))
theorem lkX12_307 : Cond.methodLink RX12 307 yX12_goneAt ∈ tb := (tb_mem (List.mem_of_getElem? (i := 1717) (by decide +kernel)) (by decide +kernel))
theorem lkX12_304 : Cond.methodLink RX12 304 yX12_isUnder ∈ tb := (tb_mem (List.mem_of_getElem? (i := 1721) (by decide +kernel)) (by decide +kernel))
theorem lkL_64 : Cond.methodLink RL 64 yX12_least ∈ tb := (tb_mem (List.mem_of_getElem? (i := 1724) (by decide +kernel)) (by decide +kernel))
theorem lkL_68 : Cond.methodLink RL 68 yX12_gasps ∈ tb := (tb_mem (List.mem_of_getElem? (i := 1728) (by decide +kernel)) (by decide +kernel))
theorem lkX12_320 : Cond.methodLink RX12 320 yX12_fewest ∈ tb := (tb_mem (List.mem_of_getElem? (i := 1732) (by decide +kernel)) (by decide +kernel))
theorem lkX12_316 : Cond.methodLink RX12 316 yX12_picks ∈ tb := (tb_mem (List.mem_of_getElem? (i := 1736) (by decide +kernel)) (by decide +kernel))
theorem lkX12_313 : Cond.methodLink RX12 313 yX12_isNeverApart ∈ tb := (tb_mem (List.mem_of_getElem? (i := 1740) (by decide +kernel)) (by decide +kernel))
theorem lkL_72 : Cond.methodLink RL 72 yX12_looks ∈ tb := (tb_mem (List.mem_of_getElem? (i := 1744) (by decide +kernel)) (by decide +kernel))
theorem lkL_76 : Cond.methodLink RL 76 yX12_whose ∈ tb := (tb_mem (List.mem_of_getElem? (i := 1748) (by decide +kernel)) (by decide +kernel))
theorem lkL_80 : Cond.methodLink RL 80 yX12_first ∈ tb := (tb_mem (List.mem_of_getElem? (i := 1752) (by decide +kernel)) (by decide +kernel))
theorem lkL_84 : Cond.methodLink RL 84 yX12_slip ∈ tb := (tb_mem (List.mem_of_getElem? (i := 1756) (by decide +kernel)) (by decide +kernel))
theorem lkL_88 : Cond.methodLink RL 88 yX12_line ∈ tb := (tb_mem (List.mem_of_getElem? (i := 1760) (by decide +kernel)) (by decide +kernel))
theorem lkX12_327 : Cond.methodLink RX12 327 yX12_unlike ∈ tb := (tb_mem (List.mem_of_getElem? (i := 1764) (by decide +kernel)) (by decide +kernel))
theorem lkX12_330 : Cond.methodLink RX12 330 yX12_nextOrder ∈ tb := (tb_mem (List.mem_of_getElem? (i := 1768) (by decide +kernel)) (by decide +kernel))
theorem lkX12_323 : Cond.methodLink RX12 323 yX12_exchange ∈ tb := (tb_mem (List.mem_of_getElem? (i := 1772) (by decide +kernel)) (by decide +kernel))
theorem lkL_92 : Cond.methodLink RL 92 yX12_lift ∈ tb := (tb_mem (List.mem_of_getElem? (i := 1776) (by decide +kernel)) (by decide +kernel))
theorem lkX12_333 : Cond.methodLink RX12 333 yJ6_bitCount_0f7a4 ∈ tb := (tb_mem (List.mem_of_getElem? (i := 1780) (by decide +kernel)) (by decide +kernel))
theorem lkL_96 : Cond.methodLink RL 96 yX12_star ∈ tb := (tb_mem (List.mem_of_getElem? (i := 1781) (by decide +kernel)) (by decide +kernel))
theorem lkX12_338 : Cond.methodLink RX12 338 yX12_span ∈ tb := (tb_mem (List.mem_of_getElem? (i := 1785) (by decide +kernel)) (by decide +kernel))
theorem lkX12_342 : Cond.methodLink RX12 342 yX12_isAt ∈ tb := (tb_mem (List.mem_of_getElem? (i := 1788) (by decide +kernel)) (by decide +kernel))
theorem lkL_100 : Cond.methodLink RL 100 yX12_judge ∈ tb := (tb_mem (List.mem_of_getElem? (i := 1792) (by decide +kernel)) (by decide +kernel))
theorem lkX12_345 : Cond.methodLink RX12 345 yX12_areShelves ∈ tb := (tb_mem (List.mem_of_getElem? (i := 1796) (by decide +kernel)) (by decide +kernel))
theorem lkX12_348 : Cond.methodLink RX12 348 yX12_noRipples ∈ tb := (tb_mem (List.mem_of_getElem? (i := 1799) (by decide +kernel)) (by decide +kernel))
theorem lkX12_351 : Cond.methodLink RX12 351 yX12_wrong ∈ tb := (tb_mem (List.mem_of_getElem? (i := 1803) (by decide +kernel)) (by decide +kernel))
theorem lkL_104 : Cond.methodLink RL 104 yX12_whoLed ∈ tb := (tb_mem (List.mem_of_getElem? (i := 1807) (by decide +kernel)) (by decide +kernel))
theorem lkL_108 : Cond.methodLink RL 108 yX12_later ∈ tb := (tb_mem (List.mem_of_getElem? (i := 1811) (by decide +kernel)) (by decide +kernel))
theorem lkL_112 : Cond.methodLink RL 112 yX12_quicker ∈ tb := (tb_mem (List.mem_of_getElem? (i := 1815) (by decide +kernel)) (by decide +kernel))
theorem lkL_117 : Cond.methodLink RL 117 yX12_drawn ∈ tb := (tb_mem (List.mem_of_getElem? (i := 1819) (by decide +kernel)) (by decide +kernel))
theorem lkL_121 : Cond.methodLink RL 121 yX12_swim ∈ tb := (tb_mem (List.mem_of_getElem? (i := 1823) (by decide +kernel)) (by decide +kernel))
theorem lkL_125 : Cond.methodLink RL 125 yX12_led ∈ tb := (tb_mem (List.mem_of_getElem? (i := 1827) (by decide +kernel)) (by decide +kernel))
theorem lkL_129 : Cond.methodLink RL 129 yX12_image ∈ tb := (tb_mem (List.mem_of_getElem? (i := 1831) (by decide +kernel)) (by decide +kernel))
theorem lkL_133 : Cond.methodLink RL 133 yX12_back ∈ tb := (tb_mem (List.mem_of_getElem? (i := 1835) (by decide +kernel)) (by decide +kernel))
theorem lkL_145 : Cond.methodLink RL 145 yX12_body ∈ tb := (tb_mem (List.mem_of_getElem? (i := 1839) (by decide +kernel)) (by decide +kernel))
theorem lkL_149 : Cond.methodLink RL 149 yX12_act ∈ tb := (tb_mem (List.mem_of_getElem? (i := 1843) (by decide +kernel)) (by decide +kernel))
theorem lkX12_366 : Cond.methodLink RX12 366 yX12_countsBy ∈ tb := (tb_mem (List.mem_of_getElem? (i := 1847) (by decide +kernel)) (by decide +kernel))
theorem lkX12_363 : Cond.methodLink RX12 363 yX12_ran ∈ tb := (tb_mem (List.mem_of_getElem? (i := 1851) (by decide +kernel)) (by decide +kernel))
theorem lkX12_369 : Cond.methodLink RX12 369 yX12_above ∈ tb := (tb_mem (List.mem_of_getElem? (i := 1855) (by decide +kernel)) (by decide +kernel))
theorem lkX12_372 : Cond.methodLink RX12 372 yX12_turnsBy ∈ tb := (tb_mem (List.mem_of_getElem? (i := 1858) (by decide +kernel)) (by decide +kernel))
theorem lkX12_375 : Cond.methodLink RX12 375 yX12_sinksBy ∈ tb := (tb_mem (List.mem_of_getElem? (i := 1862) (by decide +kernel)) (by decide +kernel))
theorem lkX12_378 : Cond.methodLink RX12 378 yX12_tells ∈ tb := (tb_mem (List.mem_of_getElem? (i := 1866) (by decide +kernel)) (by decide +kernel))
theorem lkL_153 : Cond.methodLink RL 153 yX12_trace ∈ tb := (tb_mem (List.mem_of_getElem? (i := 1870) (by decide +kernel)) (by decide +kernel))
theorem lkL_157 : Cond.methodLink RL 157 yX12_keep ∈ tb := (tb_mem (List.mem_of_getElem? (i := 1874) (by decide +kernel)) (by decide +kernel))
theorem lkL_161 : Cond.methodLink RL 161 yX12_row ∈ tb := (tb_mem (List.mem_of_getElem? (i := 1878) (by decide +kernel)) (by decide +kernel))
theorem lkL_168 : Cond.methodLink RL 168 yX12_put ∈ tb := (tb_mem (List.mem_of_getElem? (i := 1882) (by decide +kernel)) (by decide +kernel))
theorem lkX12_384 : Cond.methodLink RX12 384 yX12_isRow ∈ tb := (tb_mem (List.mem_of_getElem? (i := 1886) (by decide +kernel)) (by decide +kernel))
theorem lkX12_387 : Cond.methodLink RX12 387 yX12_kept ∈ tb := (tb_mem (List.mem_of_getElem? (i := 1890) (by decide +kernel)) (by decide +kernel))
theorem lkL_173 : Cond.methodLink RL 173 yX12_element ∈ tb := (tb_mem (List.mem_of_getElem? (i := 1893) (by decide +kernel)) (by decide +kernel))
theorem lkL_178 : Cond.methodLink RL 178 yX12_shift ∈ tb := (tb_mem (List.mem_of_getElem? (i := 1898) (by decide +kernel)) (by decide +kernel))
theorem lkL_182 : Cond.methodLink RL 182 yX12_taken ∈ tb := (tb_mem (List.mem_of_getElem? (i := 1902) (by decide +kernel)) (by decide +kernel))
theorem lkL_186 : Cond.methodLink RL 186 yX12_count ∈ tb := (tb_mem (List.mem_of_getElem? (i := 1906) (by decide +kernel)) (by decide +kernel))
theorem ac_nat : Cond.native arraycopyName ∈ tb := (tb_mem (List.mem_of_getElem? (i := 693) (by decide +kernel)) (by decide +kernel))
theorem ac_sta : Cond.static arraycopyName ∈ tb := (tb_mem (List.mem_of_getElem? (i := 692) (by decide +kernel)) (by decide +kernel))
theorem ac_ini : Cond.initialized "java/lang/System" ∈ tb := (tb_mem (List.mem_of_getElem? (i := 114) (by decide +kernel)) (by decide +kernel))
theorem kcX11_129 : Cond.constant RX11 129 (-2000000000) ∈ tb := (tb_mem (List.mem_of_getElem? (i := 504) (by decide +kernel)) (by decide +kernel))
theorem kcX1_30 : Cond.constant RX1 30 (-2000000000) ∈ tb := (tb_mem (List.mem_of_getElem? (i := 531) (by decide +kernel)) (by decide +kernel))
theorem kcJ2_227 : Cond.constant RJ2 227 (65536) ∈ tb := (tb_mem (List.mem_of_getElem? (i := 619) (by decide +kernel)) (by decide +kernel))
theorem kcJ11_110 : Cond.constant RJ11 110 (55232) ∈ tb := (tb_mem (List.mem_of_getElem? (i := 658) (by decide +kernel)) (by decide +kernel))
theorem kcJ11_76 : Cond.constant RJ11 76 (56320) ∈ tb := (tb_mem (List.mem_of_getElem? (i := 662) (by decide +kernel)) (by decide +kernel))
theorem kcJ6_265 : Cond.constant RJ6 265 (1431655765) ∈ tb := (tb_mem (List.mem_of_getElem? (i := 1017) (by decide +kernel)) (by decide +kernel))
theorem kcJ6_266 : Cond.constant RJ6 266 (858993459) ∈ tb := (tb_mem (List.mem_of_getElem? (i := 1018) (by decide +kernel)) (by decide +kernel))
theorem kcJ6_267 : Cond.constant RJ6 267 (252645135) ∈ tb := (tb_mem (List.mem_of_getElem? (i := 1019) (by decide +kernel)) (by decide +kernel))
theorem kcX9_138 : Cond.constant RX9 138 (1103515245) ∈ tb := (tb_mem (List.mem_of_getElem? (i := 1093) (by decide +kernel)) (by decide +kernel))
theorem kcX12_152 : Cond.constant RX12 152 (-2000000000) ∈ tb := (tb_mem (List.mem_of_getElem? (i := 1554) (by decide +kernel)) (by decide +kernel))
theorem kcX12_259 : Cond.constant RX12 259 (1103515245) ∈ tb := (tb_mem (List.mem_of_getElem? (i := 1672) (by decide +kernel)) (by decide +kernel))
theorem klX6_15 : Cond.constantLong RX6 15 (4) ∈ tb := (tb_mem (List.mem_of_getElem? (i := 706) (by decide +kernel)) (by decide +kernel))
theorem klX11_356 : Cond.constantLong RX11 356 (-9223372036854775808) ∈ tb := (tb_mem (List.mem_of_getElem? (i := 1290) (by decide +kernel)) (by decide +kernel))
theorem klX7_44 : Cond.constantLong RX7 44 (-9223372036854775808) ∈ tb := (tb_mem (List.mem_of_getElem? (i := 1295) (by decide +kernel)) (by decide +kernel))
theorem klX12_143 : Cond.constantLong RX12 143 (4) ∈ tb := (tb_mem (List.mem_of_getElem? (i := 1538) (by decide +kernel)) (by decide +kernel))
theorem klX12_391 : Cond.constantLong RX12 391 (-9223372036854775808) ∈ tb := (tb_mem (List.mem_of_getElem? (i := 1897) (by decide +kernel)) (by decide +kernel))
theorem klL_162 : Cond.constantLong RL 162 (4294967295) ∈ tb := (tb_mem (List.mem_of_getElem? (i := 1910) (by decide +kernel)) (by decide +kernel))
set_option maxRecDepth 20000 in
theorem inX0 : ∀ w ∈ u_ws RX0 TX0 7, w ∈ lw_tbl := by decide +kernel
theorem igX0 : ∀ w ∈ u_ws RX0 TX0 7, goodWord w = true := by decide +kernel
theorem kkX0 : Kc 0 RX0 TX0 7 tyX0 := ⟨rfl, fun w h => tb_mem (inX0 w h) (igX0 w h), tyX0_ok, nmX0⟩
set_option maxRecDepth 20000 in
theorem inX1 : ∀ w ∈ u_ws RX1 TX1 7, w ∈ lw_tbl := by decide +kernel
theorem igX1 : ∀ w ∈ u_ws RX1 TX1 7, goodWord w = true := by decide +kernel
theorem kkX1 : Kc 1 RX1 TX1 7 tyX1 := ⟨rfl, fun w h => tb_mem (inX1 w h) (igX1 w h), tyX1_ok, nmX1⟩
set_option maxRecDepth 20000 in
theorem inX2 : ∀ w ∈ u_ws RX2 TX2 8, w ∈ lw_tbl := by decide +kernel
theorem igX2 : ∀ w ∈ u_ws RX2 TX2 8, goodWord w = true := by decide +kernel
theorem kkX2 : Kc 2 RX2 TX2 8 tyX2 := ⟨rfl, fun w h => tb_mem (inX2 w h) (igX2 w h), tyX2_ok, nmX2⟩
set_option maxRecDepth 20000 in
theorem inX3 : ∀ w ∈ u_ws RX3 TX3 3, w ∈ lw_tbl := by decide +kernel
theorem igX3 : ∀ w ∈ u_ws RX3 TX3 3, goodWord w = true := by decide +kernel
theorem kkX3 : Kc 3 RX3 TX3 3 tyX3 := ⟨rfl, fun w h => tb_mem (inX3 w h) (igX3 w h), tyX3_ok, nmX3⟩
set_option maxRecDepth 20000 in
theorem inX4 : ∀ w ∈ u_ws RX4 TX4 5, w ∈ lw_tbl := by decide +kernel
theorem igX4 : ∀ w ∈ u_ws RX4 TX4 5, goodWord w = true := by decide +kernel
theorem kkX4 : Kc 4 RX4 TX4 5 tyX4 := ⟨rfl, fun w h => tb_mem (inX4 w h) (igX4 w h), tyX4_ok, nmX4⟩
set_option maxRecDepth 20000 in
theorem inX5 : ∀ w ∈ u_ws RX5 TX5 2, w ∈ lw_tbl := by decide +kernel
theorem igX5 : ∀ w ∈ u_ws RX5 TX5 2, goodWord w = true := by decide +kernel
theorem kkX5 : Kc 5 RX5 TX5 2 tyX5 := ⟨rfl, fun w h => tb_mem (inX5 w h) (igX5 w h), tyX5_ok, nmX5⟩
set_option maxRecDepth 20000 in
theorem inX6 : ∀ w ∈ u_ws RX6 TX6 2, w ∈ lw_tbl := by decide +kernel
theorem igX6 : ∀ w ∈ u_ws RX6 TX6 2, goodWord w = true := by decide +kernel
theorem kkX6 : Kc 6 RX6 TX6 2 tyX6 := ⟨rfl, fun w h => tb_mem (inX6 w h) (igX6 w h), tyX6_ok, nmX6⟩
set_option maxRecDepth 20000 in
theorem inX7 : ∀ w ∈ u_ws RX7 TX7 4, w ∈ lw_tbl := by decide +kernel
theorem igX7 : ∀ w ∈ u_ws RX7 TX7 4, goodWord w = true := by decide +kernel
theorem kkX7 : Kc 7 RX7 TX7 4 tyX7 := ⟨rfl, fun w h => tb_mem (inX7 w h) (igX7 w h), tyX7_ok, nmX7⟩
set_option maxRecDepth 20000 in
theorem inX8 : ∀ w ∈ u_ws RX8 TX8 5, w ∈ lw_tbl := by decide +kernel
theorem igX8 : ∀ w ∈ u_ws RX8 TX8 5, goodWord w = true := by decide +kernel
theorem kkX8 : Kc 8 RX8 TX8 5 tyX8 := ⟨rfl, fun w h => tb_mem (inX8 w h) (igX8 w h), tyX8_ok, nmX8⟩
set_option maxRecDepth 20000 in
theorem inX9 : ∀ w ∈ u_ws RX9 TX9 14, w ∈ lw_tbl := by decide +kernel
theorem igX9 : ∀ w ∈ u_ws RX9 TX9 14, goodWord w = true := by decide +kernel
theorem kkX9 : Kc 9 RX9 TX9 14 tyX9 := ⟨rfl, fun w h => tb_mem (inX9 w h) (igX9 w h), tyX9_ok, nmX9⟩
set_option maxRecDepth 20000 in
theorem inX10 : ∀ w ∈ u_ws RX10 TX10 6, w ∈ lw_tbl := by decide +kernel
theorem igX10 : ∀ w ∈ u_ws RX10 TX10 6, goodWord w = true := by decide +kernel
theorem kkX10 : Kc 10 RX10 TX10 6 tyX10 := ⟨rfl, fun w h => tb_mem (inX10 w h) (igX10 w h), tyX10_ok, nmX10⟩
set_option maxRecDepth 20000 in
theorem inX11 : ∀ w ∈ u_ws RX11 TX11 11, w ∈ lw_tbl := by decide +kernel
theorem igX11 : ∀ w ∈ u_ws RX11 TX11 11, goodWord w = true := by decide +kernel
theorem kkX11 : Kc 11 RX11 TX11 11 tyX11 := ⟨rfl, fun w h => tb_mem (inX11 w h) (igX11 w h), tyX11_ok, nmX11⟩
set_option maxRecDepth 20000 in
theorem inX12 : ∀ w ∈ u_ws RX12 TX12 56, w ∈ lw_tbl := by decide +kernel
theorem igX12 : ∀ w ∈ u_ws RX12 TX12 56, goodWord w = true := by decide +kernel
theorem kkX12 : Kc 12 RX12 TX12 56 tyX12 := ⟨rfl, fun w h => tb_mem (inX12 w h) (igX12 w h), tyX12_ok, nmX12⟩
theorem kic_m1 : Int32.ofInt (-1) = (-1 : Int32) := by decide +kernel
theorem kic_0 : Int32.ofInt (0) = (0 : Int32) := by decide +kernel
theorem kic_1 : Int32.ofInt (1) = (1 : Int32) := by decide +kernel
theorem kic_2 : Int32.ofInt (2) = (2 : Int32) := by decide +kernel
theorem kic_3 : Int32.ofInt (3) = (3 : Int32) := by decide +kernel
theorem kic_4 : Int32.ofInt (4) = (4 : Int32) := by decide +kernel
theorem kic_5 : Int32.ofInt (5) = (5 : Int32) := by decide +kernel
theorem kic_6 : Int32.ofInt (6) = (6 : Int32) := by decide +kernel
theorem kbi_m126 : (Int8.ofInt (-126)).toInt32 = (-126 : Int32) := by decide +kernel
theorem kbi_m100 : (Int8.ofInt (-100)).toInt32 = (-100 : Int32) := by decide +kernel
theorem kbi_m99 : (Int8.ofInt (-99)).toInt32 = (-99 : Int32) := by decide +kernel
theorem kbi_m63 : (Int8.ofInt (-63)).toInt32 = (-63 : Int32) := by decide +kernel
theorem kbi_m59 : (Int8.ofInt (-59)).toInt32 = (-59 : Int32) := by decide +kernel
theorem kbi_m33 : (Int8.ofInt (-33)).toInt32 = (-33 : Int32) := by decide +kernel
theorem kbi_m14 : (Int8.ofInt (-14)).toInt32 = (-14 : Int32) := by decide +kernel
theorem kbi_m13 : (Int8.ofInt (-13)).toInt32 = (-13 : Int32) := by decide +kernel
theorem kbi_m12 : (Int8.ofInt (-12)).toInt32 = (-12 : Int32) := by decide +kernel
theorem kbi_m11 : (Int8.ofInt (-11)).toInt32 = (-11 : Int32) := by decide +kernel
theorem kbi_m9 : (Int8.ofInt (-9)).toInt32 = (-9 : Int32) := by decide +kernel
theorem kbi_m6 : (Int8.ofInt (-6)).toInt32 = (-6 : Int32) := by decide +kernel
theorem kbi_m5 : (Int8.ofInt (-5)).toInt32 = (-5 : Int32) := by decide +kernel
theorem kbi_m3 : (Int8.ofInt (-3)).toInt32 = (-3 : Int32) := by decide +kernel
theorem kbi_m2 : (Int8.ofInt (-2)).toInt32 = (-2 : Int32) := by decide +kernel
theorem kbi_6 : (Int8.ofInt (6)).toInt32 = (6 : Int32) := by decide +kernel
theorem kbi_7 : (Int8.ofInt (7)).toInt32 = (7 : Int32) := by decide +kernel
theorem kbi_8 : (Int8.ofInt (8)).toInt32 = (8 : Int32) := by decide +kernel
theorem kbi_9 : (Int8.ofInt (9)).toInt32 = (9 : Int32) := by decide +kernel
theorem kbi_10 : (Int8.ofInt (10)).toInt32 = (10 : Int32) := by decide +kernel
theorem kbi_11 : (Int8.ofInt (11)).toInt32 = (11 : Int32) := by decide +kernel
theorem kbi_12 : (Int8.ofInt (12)).toInt32 = (12 : Int32) := by decide +kernel
theorem kbi_13 : (Int8.ofInt (13)).toInt32 = (13 : Int32) := by decide +kernel
theorem kbi_14 : (Int8.ofInt (14)).toInt32 = (14 : Int32) := by decide +kernel
theorem kbi_15 : (Int8.ofInt (15)).toInt32 = (15 : Int32) := by decide +kernel
theorem kbi_16 : (Int8.ofInt (16)).toInt32 = (16 : Int32) := by decide +kernel
theorem kbi_17 : (Int8.ofInt (17)).toInt32 = (17 : Int32) := by decide +kernel
theorem kbi_18 : (Int8.ofInt (18)).toInt32 = (18 : Int32) := by decide +kernel
theorem kbi_20 : (Int8.ofInt (20)).toInt32 = (20 : Int32) := by decide +kernel
theorem kbi_24 : (Int8.ofInt (24)).toInt32 = (24 : Int32) := by decide +kernel
theorem kbi_25 : (Int8.ofInt (25)).toInt32 = (25 : Int32) := by decide +kernel
theorem kbi_30 : (Int8.ofInt (30)).toInt32 = (30 : Int32) := by decide +kernel
theorem kbi_32 : (Int8.ofInt (32)).toInt32 = (32 : Int32) := by decide +kernel
theorem kbi_33 : (Int8.ofInt (33)).toInt32 = (33 : Int32) := by decide +kernel
theorem kbi_37 : (Int8.ofInt (37)).toInt32 = (37 : Int32) := by decide +kernel
theorem kbi_38 : (Int8.ofInt (38)).toInt32 = (38 : Int32) := by decide +kernel
theorem kbi_40 : (Int8.ofInt (40)).toInt32 = (40 : Int32) := by decide +kernel
theorem kbi_41 : (Int8.ofInt (41)).toInt32 = (41 : Int32) := by decide +kernel
theorem kbi_42 : (Int8.ofInt (42)).toInt32 = (42 : Int32) := by decide +kernel
theorem kbi_43 : (Int8.ofInt (43)).toInt32 = (43 : Int32) := by decide +kernel
theorem kbi_45 : (Int8.ofInt (45)).toInt32 = (45 : Int32) := by decide +kernel
theorem kbi_47 : (Int8.ofInt (47)).toInt32 = (47 : Int32) := by decide +kernel
theorem kbi_48 : (Int8.ofInt (48)).toInt32 = (48 : Int32) := by decide +kernel
theorem kbi_50 : (Int8.ofInt (50)).toInt32 = (50 : Int32) := by decide +kernel
theorem kbi_57 : (Int8.ofInt (57)).toInt32 = (57 : Int32) := by decide +kernel
theorem kbi_59 : (Int8.ofInt (59)).toInt32 = (59 : Int32) := by decide +kernel
theorem kbi_60 : (Int8.ofInt (60)).toInt32 = (60 : Int32) := by decide +kernel
theorem kbi_61 : (Int8.ofInt (61)).toInt32 = (61 : Int32) := by decide +kernel
theorem kbi_62 : (Int8.ofInt (62)).toInt32 = (62 : Int32) := by decide +kernel
theorem kbi_63 : (Int8.ofInt (63)).toInt32 = (63 : Int32) := by decide +kernel
theorem kbi_70 : (Int8.ofInt (70)).toInt32 = (70 : Int32) := by decide +kernel
theorem kbi_80 : (Int8.ofInt (80)).toInt32 = (80 : Int32) := by decide +kernel
theorem kbi_81 : (Int8.ofInt (81)).toInt32 = (81 : Int32) := by decide +kernel
theorem kbi_99 : (Int8.ofInt (99)).toInt32 = (99 : Int32) := by decide +kernel
theorem kbi_100 : (Int8.ofInt (100)).toInt32 = (100 : Int32) := by decide +kernel
theorem kbi_120 : (Int8.ofInt (120)).toInt32 = (120 : Int32) := by decide +kernel
theorem kbi_124 : (Int8.ofInt (124)).toInt32 = (124 : Int32) := by decide +kernel
theorem ksi_128 : (Int16.ofInt (128)).toInt32 = (128 : Int32) := by decide +kernel
theorem ksi_156 : (Int16.ofInt (156)).toInt32 = (156 : Int32) := by decide +kernel
theorem ksi_160 : (Int16.ofInt (160)).toInt32 = (160 : Int32) := by decide +kernel
theorem ksi_170 : (Int16.ofInt (170)).toInt32 = (170 : Int32) := by decide +kernel
theorem ksi_200 : (Int16.ofInt (200)).toInt32 = (200 : Int32) := by decide +kernel
theorem ksi_255 : (Int16.ofInt (255)).toInt32 = (255 : Int32) := by decide +kernel
theorem ksi_360 : (Int16.ofInt (360)).toInt32 = (360 : Int32) := by decide +kernel
theorem ksi_488 : (Int16.ofInt (488)).toInt32 = (488 : Int32) := by decide +kernel
theorem ksi_720 : (Int16.ofInt (720)).toInt32 = (720 : Int32) := by decide +kernel
theorem ksi_999 : (Int16.ofInt (999)).toInt32 = (999 : Int32) := by decide +kernel
theorem ksi_1000 : (Int16.ofInt (1000)).toInt32 = (1000 : Int32) := by decide +kernel
theorem ksi_1023 : (Int16.ofInt (1023)).toInt32 = (1023 : Int32) := by decide +kernel
theorem ksi_9999 : (Int16.ofInt (9999)).toInt32 = (9999 : Int32) := by decide +kernel
theorem ksi_12345 : (Int16.ofInt (12345)).toInt32 = (12345 : Int32) := by decide +kernel
theorem k_l0 : Int64.ofNat ((0 : Fin 2) : Nat) = 0 := by decide +kernel
theorem k_l1 : Int64.ofNat ((1 : Fin 2) : Nat) = 1 := by decide +kernel
theorem rmL {d D L : Nat} (h1 : Nat.ble (d + 1) D = true) (h2 : Nat.ble (8 + (L + 11) + 40 * d) (40 * D) = true) : d + 1 ≤ (rm D).frames ∧ 8 + (L + 11) + 40 * d ≤ (rm D).locals ∧ 0 ≤ (rm D).cells ∧ 0 ≤ (rm D).slots := ⟨Nat.le_of_ble_eq_true h1, Nat.le_of_ble_eq_true h2, Nat.le_refl _, Nat.le_refl _⟩
theorem rmS {d L : Nat} (h : Nat.ble L 21 = true) : d + 1 ≤ (rm (d + 1)).frames ∧ 8 + (L + 11) + 40 * d ≤ (rm (d + 1)).locals ∧ 0 ≤ (rm (d + 1)).cells ∧ 0 ≤ (rm (d + 1)).slots := ⟨Nat.le_refl _, by show 8 + (L + 11) + 40 * d ≤ 40 * (d + 1); have := Nat.le_of_ble_eq_true h; omega, Nat.le_refl _, Nat.le_refl _⟩
theorem rmB {d b D L : Nat} (h1 : d + 1 ≤ b) (h2 : 8 + (L + 11) + 40 * d ≤ 40 * b) (h3 : b ≤ D) : d + 1 ≤ (rm D).frames ∧ 8 + (L + 11) + 40 * d ≤ (rm D).locals ∧ 0 ≤ (rm D).cells ∧ 0 ≤ (rm D).slots := ⟨by show d + 1 ≤ D; omega, by show 8 + (L + 11) + 40 * d ≤ 40 * D; omega, Nat.le_refl _, Nat.le_refl _⟩
