/-! the methods, and the words of the tables by their places: printed by links.py -/
theorem ini_L : Cond.initialized RL ∈ x_good := x_in (List.mem_of_getElem? (i := 42) (by decide +kernel)) rfl
theorem ini_X5 : Cond.initialized RX5 ∈ x_good := x_in (List.mem_of_getElem? (i := 43) (by decide +kernel)) rfl
theorem ini_X2 : Cond.initialized RX2 ∈ x_good := x_in (List.mem_of_getElem? (i := 44) (by decide +kernel)) rfl
theorem ini_X0 : Cond.initialized RX0 ∈ x_good := x_in (List.mem_of_getElem? (i := 45) (by decide +kernel)) rfl
theorem ini_X1 : Cond.initialized RX1 ∈ x_good := x_in (List.mem_of_getElem? (i := 46) (by decide +kernel)) rfl
theorem ini_X3 : Cond.initialized RX3 ∈ x_good := x_in (List.mem_of_getElem? (i := 47) (by decide +kernel)) rfl
theorem ini_X4 : Cond.initialized RX4 ∈ x_good := x_in (List.mem_of_getElem? (i := 48) (by decide +kernel)) rfl
theorem ini_X6 : Cond.initialized RX6 ∈ x_good := x_in (List.mem_of_getElem? (i := 49) (by decide +kernel)) rfl
theorem ini_J6 : Cond.initialized RJ6 ∈ x_good := x_in (List.mem_of_getElem? (i := 50) (by decide +kernel)) rfl
theorem ini_J9 : Cond.initialized RJ9 ∈ x_good := x_in (List.mem_of_getElem? (i := 51) (by decide +kernel)) rfl
theorem ini_J10 : Cond.initialized RJ10 ∈ x_good := x_in (List.mem_of_getElem? (i := 52) (by decide +kernel)) rfl
abbrev mX5_init : xM := (RX5, cX5_init, 2, none)
theorem ct_X5_init : xcal yX5_init mX5_init 0 := ⟨x_in (List.mem_of_getElem? (i := 57) (by decide +kernel)) rfl, ini_X5, by decide +kernel, by decide⟩
theorem in_X5_init : Cond.instanceMethod yX5_init ∈ x_good := x_in (List.mem_of_getElem? (i := 56) (by decide +kernel)) rfl
abbrev mX2_init : xM := (RX2, cX2_init, 2, none)
theorem ct_X2_init : xcal yX2_init mX2_init 0 := ⟨x_in (List.mem_of_getElem? (i := 65) (by decide +kernel)) rfl, ini_X2, by decide +kernel, by decide⟩
theorem in_X2_init : Cond.instanceMethod yX2_init ∈ x_good := x_in (List.mem_of_getElem? (i := 64) (by decide +kernel)) rfl
abbrev mX0_init : xM := (RX0, cX0_init, 1, none)
theorem ct_X0_init : xcal yX0_init mX0_init 0 := ⟨x_in (List.mem_of_getElem? (i := 95) (by decide +kernel)) rfl, ini_X0, by decide +kernel, by decide⟩
theorem in_X0_init : Cond.instanceMethod yX0_init ∈ x_good := x_in (List.mem_of_getElem? (i := 94) (by decide +kernel)) rfl
abbrev mX3_init : xM := (RX3, cX3_init, 1, none)
theorem ct_X3_init : xcal yX3_init mX3_init 0 := ⟨x_in (List.mem_of_getElem? (i := 101) (by decide +kernel)) rfl, ini_X3, by decide +kernel, by decide⟩
theorem in_X3_init : Cond.instanceMethod yX3_init ∈ x_good := x_in (List.mem_of_getElem? (i := 100) (by decide +kernel)) rfl
abbrev mX1_init : xM := (RX1, cX1_init, 1, none)
theorem ct_X1_init : xcal yX1_init mX1_init 0 := ⟨x_in (List.mem_of_getElem? (i := 104) (by decide +kernel)) rfl, ini_X1, by decide +kernel, by decide⟩
theorem in_X1_init : Cond.instanceMethod yX1_init ∈ x_good := x_in (List.mem_of_getElem? (i := 103) (by decide +kernel)) rfl
abbrev mX4_init : xM := (RX4, cX4_init, 1, none)
theorem ct_X4_init : xcal yX4_init mX4_init 0 := ⟨x_in (List.mem_of_getElem? (i := 114) (by decide +kernel)) rfl, ini_X4, by decide +kernel, by decide⟩
theorem in_X4_init : Cond.instanceMethod yX4_init ∈ x_good := x_in (List.mem_of_getElem? (i := 113) (by decide +kernel)) rfl
abbrev mX5_many : xM := (RX5, cX5_many, 3, (some .int))
theorem ct_X5_many : xcal yX5_many mX5_many 1 := ⟨x_in (List.mem_of_getElem? (i := 190) (by decide +kernel)) rfl, ini_X5, by decide +kernel, by decide⟩
theorem in_X5_many : Cond.instanceMethod yX5_many ∈ x_good := x_in (List.mem_of_getElem? (i := 188) (by decide +kernel)) rfl
theorem se_X5_many : Cond.selects RX5 yX5_many yX5_many ∈ x_good := x_in (List.mem_of_getElem? (i := 189) (by decide +kernel)) rfl
abbrev mX2_resize : xM := (RX2, cX2_resize, 4, none)
theorem ct_X2_resize : xcal yX2_resize mX2_resize 1 := ⟨x_in (List.mem_of_getElem? (i := 194) (by decide +kernel)) rfl, ini_X2, by decide +kernel, by decide⟩
theorem in_X2_resize : Cond.instanceMethod yX2_resize ∈ x_good := x_in (List.mem_of_getElem? (i := 192) (by decide +kernel)) rfl
theorem se_X2_resize : Cond.selects RX2 yX2_resize yX2_resize ∈ x_good := x_in (List.mem_of_getElem? (i := 193) (by decide +kernel)) rfl
abbrev mX5_forgetBest : xM := (RX5, cX5_forgetBest, 1, none)
theorem ct_X5_forgetBest : xcal yX5_forgetBest mX5_forgetBest 0 := ⟨x_in (List.mem_of_getElem? (i := 198) (by decide +kernel)) rfl, ini_X5, by decide +kernel, by decide⟩
theorem in_X5_forgetBest : Cond.instanceMethod yX5_forgetBest ∈ x_good := x_in (List.mem_of_getElem? (i := 197) (by decide +kernel)) rfl
theorem se_X5_forgetBest : Cond.selects RX5 yX5_forgetBest yX5_forgetBest ∈ x_good := x_in (List.mem_of_getElem? (i := 0) (by decide +kernel)) rfl
abbrev mX5_find : xM := (RX5, cX5_find, 4, (some .int))
theorem ct_X5_find : xcal yX5_find mX5_find 3 := ⟨x_in (List.mem_of_getElem? (i := 202) (by decide +kernel)) rfl, ini_X5, by decide +kernel, by decide⟩
theorem in_X5_find : Cond.instanceMethod yX5_find ∈ x_good := x_in (List.mem_of_getElem? (i := 200) (by decide +kernel)) rfl
theorem se_X5_find : Cond.selects RX5 yX5_find yX5_find ∈ x_good := x_in (List.mem_of_getElem? (i := 201) (by decide +kernel)) rfl
abbrev mX5_isGrave : xM := (RX5, cX5_isGrave, 2, (some .boolean))
theorem ct_X5_isGrave : xcal yX5_isGrave mX5_isGrave 1 := ⟨x_in (List.mem_of_getElem? (i := 206) (by decide +kernel)) rfl, ini_X5, by decide +kernel, by decide⟩
theorem in_X5_isGrave : Cond.instanceMethod yX5_isGrave ∈ x_good := x_in (List.mem_of_getElem? (i := 205) (by decide +kernel)) rfl
theorem se_X5_isGrave : Cond.selects RX5 yX5_isGrave yX5_isGrave ∈ x_good := x_in (List.mem_of_getElem? (i := 1) (by decide +kernel)) rfl
abbrev mX5_isSort : xM := (RX5, cX5_isSort, 1, (some .boolean))
theorem ct_X5_isSort : xcal yX5_isSort mX5_isSort 1 := ⟨x_in (List.mem_of_getElem? (i := 209) (by decide +kernel)) rfl, ini_X5, by decide +kernel, by decide⟩
theorem st_X5_isSort : Cond.static yX5_isSort ∈ x_good := x_in (List.mem_of_getElem? (i := 208) (by decide +kernel)) rfl
abbrev mX5_isOnOrOff : xM := (RX5, cX5_isOnOrOff, 1, (some .boolean))
theorem ct_X5_isOnOrOff : xcal yX5_isOnOrOff mX5_isOnOrOff 1 := ⟨x_in (List.mem_of_getElem? (i := 212) (by decide +kernel)) rfl, ini_X5, by decide +kernel, by decide⟩
theorem st_X5_isOnOrOff : Cond.static yX5_isOnOrOff ∈ x_good := x_in (List.mem_of_getElem? (i := 211) (by decide +kernel)) rfl
abbrev mX5_withMember : xM := (RX5, cX5_withMember, 3, (some .int))
theorem ct_X5_withMember : xcal yX5_withMember mX5_withMember 3 := ⟨x_in (List.mem_of_getElem? (i := 215) (by decide +kernel)) rfl, ini_X5, by decide +kernel, by decide⟩
theorem st_X5_withMember : Cond.static yX5_withMember ∈ x_good := x_in (List.mem_of_getElem? (i := 214) (by decide +kernel)) rfl
abbrev mJ6_bitCount_0f7a4 : xM := (RJ6, cJ6_bitCount_0f7a4, 1, (some .int))
theorem ct_J6_bitCount_0f7a4 : xcal yJ6_bitCount_0f7a4 mJ6_bitCount_0f7a4 1 := ⟨x_in (List.mem_of_getElem? (i := 218) (by decide +kernel)) rfl, ini_J6, by decide +kernel, by decide⟩
theorem st_J6_bitCount_0f7a4 : Cond.static yJ6_bitCount_0f7a4 ∈ x_good := x_in (List.mem_of_getElem? (i := 217) (by decide +kernel)) rfl
abbrev mX5_ahead : xM := (RX5, cX5_ahead, 4, (some .int))
theorem ct_X5_ahead : xcal yX5_ahead mX5_ahead 3 := ⟨x_in (List.mem_of_getElem? (i := 225) (by decide +kernel)) rfl, ini_X5, by decide +kernel, by decide⟩
theorem in_X5_ahead : Cond.instanceMethod yX5_ahead ∈ x_good := x_in (List.mem_of_getElem? (i := 223) (by decide +kernel)) rfl
theorem se_X5_ahead : Cond.selects RX5 yX5_ahead yX5_ahead ∈ x_good := x_in (List.mem_of_getElem? (i := 224) (by decide +kernel)) rfl
abbrev mX5_membersOfAll : xM := (RX5, cX5_membersOfAll, 6, (some .int))
theorem ct_X5_membersOfAll : xcal yX5_membersOfAll mX5_membersOfAll 1 := ⟨x_in (List.mem_of_getElem? (i := 228) (by decide +kernel)) rfl, ini_X5, by decide +kernel, by decide⟩
theorem st_X5_membersOfAll : Cond.static yX5_membersOfAll ∈ x_good := x_in (List.mem_of_getElem? (i := 227) (by decide +kernel)) rfl
abbrev mX5_grave : xM := (RX5, cX5_grave, 3, (some .int))
theorem ct_X5_grave : xcal yX5_grave mX5_grave 2 := ⟨x_in (List.mem_of_getElem? (i := 232) (by decide +kernel)) rfl, ini_X5, by decide +kernel, by decide⟩
theorem in_X5_grave : Cond.instanceMethod yX5_grave ∈ x_good := x_in (List.mem_of_getElem? (i := 230) (by decide +kernel)) rfl
theorem se_X5_grave : Cond.selects RX5 yX5_grave yX5_grave ∈ x_good := x_in (List.mem_of_getElem? (i := 231) (by decide +kernel)) rfl
abbrev mX2_earlierThan : xM := (RX2, cX2_earlierThan, 4, (some .int))
theorem ct_X2_earlierThan : xcal yX2_earlierThan mX2_earlierThan 1 := ⟨x_in (List.mem_of_getElem? (i := 236) (by decide +kernel)) rfl, ini_X2, by decide +kernel, by decide⟩
theorem in_X2_earlierThan : Cond.instanceMethod yX2_earlierThan ∈ x_good := x_in (List.mem_of_getElem? (i := 234) (by decide +kernel)) rfl
theorem se_X2_earlierThan : Cond.selects RX2 yX2_earlierThan yX2_earlierThan ∈ x_good := x_in (List.mem_of_getElem? (i := 235) (by decide +kernel)) rfl
abbrev mX5_isMember : xM := (RX5, cX5_isMember, 2, (some .boolean))
theorem ct_X5_isMember : xcal yX5_isMember mX5_isMember 2 := ⟨x_in (List.mem_of_getElem? (i := 239) (by decide +kernel)) rfl, ini_X5, by decide +kernel, by decide⟩
theorem st_X5_isMember : Cond.static yX5_isMember ∈ x_good := x_in (List.mem_of_getElem? (i := 238) (by decide +kernel)) rfl
abbrev mX2_placeInLine : xM := (RX2, cX2_placeInLine, 4, (some .int))
theorem ct_X2_placeInLine : xcal yX2_placeInLine mX2_placeInLine 1 := ⟨x_in (List.mem_of_getElem? (i := 243) (by decide +kernel)) rfl, ini_X2, by decide +kernel, by decide⟩
theorem in_X2_placeInLine : Cond.instanceMethod yX2_placeInLine ∈ x_good := x_in (List.mem_of_getElem? (i := 241) (by decide +kernel)) rfl
theorem se_X2_placeInLine : Cond.selects RX2 yX2_placeInLine yX2_placeInLine ∈ x_good := x_in (List.mem_of_getElem? (i := 242) (by decide +kernel)) rfl
abbrev mX5_sort : xM := (RX5, cX5_sort, 3, (some .int))
theorem ct_X5_sort : xcal yX5_sort mX5_sort 2 := ⟨x_in (List.mem_of_getElem? (i := 247) (by decide +kernel)) rfl, ini_X5, by decide +kernel, by decide⟩
theorem in_X5_sort : Cond.instanceMethod yX5_sort ∈ x_good := x_in (List.mem_of_getElem? (i := 245) (by decide +kernel)) rfl
theorem se_X5_sort : Cond.selects RX5 yX5_sort yX5_sort ∈ x_good := x_in (List.mem_of_getElem? (i := 246) (by decide +kernel)) rfl
abbrev mX2_gravesWith : xM := (RX2, cX2_gravesWith, 4, (some .int))
theorem ct_X2_gravesWith : xcal yX2_gravesWith mX2_gravesWith 1 := ⟨x_in (List.mem_of_getElem? (i := 251) (by decide +kernel)) rfl, ini_X2, by decide +kernel, by decide⟩
theorem in_X2_gravesWith : Cond.instanceMethod yX2_gravesWith ∈ x_good := x_in (List.mem_of_getElem? (i := 249) (by decide +kernel)) rfl
theorem se_X2_gravesWith : Cond.selects RX2 yX2_gravesWith yX2_gravesWith ∈ x_good := x_in (List.mem_of_getElem? (i := 250) (by decide +kernel)) rfl
abbrev mX2_lineBreaks : xM := (RX2, cX2_lineBreaks, 6, (some .int))
theorem ct_X2_lineBreaks : xcal yX2_lineBreaks mX2_lineBreaks 1 := ⟨x_in (List.mem_of_getElem? (i := 255) (by decide +kernel)) rfl, ini_X2, by decide +kernel, by decide⟩
theorem in_X2_lineBreaks : Cond.instanceMethod yX2_lineBreaks ∈ x_good := x_in (List.mem_of_getElem? (i := 253) (by decide +kernel)) rfl
theorem se_X2_lineBreaks : Cond.selects RX2 yX2_lineBreaks yX2_lineBreaks ∈ x_good := x_in (List.mem_of_getElem? (i := 254) (by decide +kernel)) rfl
abbrev mX2_sortsFound : xM := (RX2, cX2_sortsFound, 3, (some .int))
theorem ct_X2_sortsFound : xcal yX2_sortsFound mX2_sortsFound 0 := ⟨x_in (List.mem_of_getElem? (i := 260) (by decide +kernel)) rfl, ini_X2, by decide +kernel, by decide⟩
theorem in_X2_sortsFound : Cond.instanceMethod yX2_sortsFound ∈ x_good := x_in (List.mem_of_getElem? (i := 258) (by decide +kernel)) rfl
theorem se_X2_sortsFound : Cond.selects RX2 yX2_sortsFound yX2_sortsFound ∈ x_good := x_in (List.mem_of_getElem? (i := 259) (by decide +kernel)) rfl
abbrev mX5_knownBest : xM := (RX5, cX5_knownBest, 1, (some (.object "GraveRows$BestOrders")))
theorem ct_X5_knownBest : xcal yX5_knownBest mX5_knownBest 0 := ⟨x_in (List.mem_of_getElem? (i := 264) (by decide +kernel)) rfl, ini_X5, by decide +kernel, by decide⟩
theorem in_X5_knownBest : Cond.instanceMethod yX5_knownBest ∈ x_good := x_in (List.mem_of_getElem? (i := 263) (by decide +kernel)) rfl
theorem se_X5_knownBest : Cond.selects RX5 yX5_knownBest yX5_knownBest ∈ x_good := x_in (List.mem_of_getElem? (i := 2) (by decide +kernel)) rfl
abbrev mX0_search : xM := (RX0, cX0_search, 2, none)
theorem ct_X0_search : xcal yX0_search mX0_search 1 := ⟨x_in (List.mem_of_getElem? (i := 268) (by decide +kernel)) rfl, ini_X0, by decide +kernel, by decide⟩
theorem in_X0_search : Cond.instanceMethod yX0_search ∈ x_good := x_in (List.mem_of_getElem? (i := 266) (by decide +kernel)) rfl
theorem se_X0_search : Cond.selects RX0 yX0_search yX0_search ∈ x_good := x_in (List.mem_of_getElem? (i := 267) (by decide +kernel)) rfl
abbrev mX0_openAllowed : xM := (RX0, cX0_openAllowed, 5, none)
theorem ct_X0_openAllowed : xcal yX0_openAllowed mX0_openAllowed 1 := ⟨x_in (List.mem_of_getElem? (i := 272) (by decide +kernel)) rfl, ini_X0, by decide +kernel, by decide⟩
theorem in_X0_openAllowed : Cond.instanceMethod yX0_openAllowed ∈ x_good := x_in (List.mem_of_getElem? (i := 271) (by decide +kernel)) rfl
theorem se_X0_openAllowed : Cond.selects RX0 yX0_openAllowed yX0_openAllowed ∈ x_good := x_in (List.mem_of_getElem? (i := 3) (by decide +kernel)) rfl
abbrev mX0_stateOf : xM := (RX0, cX0_stateOf, 2, (some .int))
theorem ct_X0_stateOf : xcal yX0_stateOf mX0_stateOf 2 := ⟨x_in (List.mem_of_getElem? (i := 276) (by decide +kernel)) rfl, ini_X0, by decide +kernel, by decide⟩
theorem st_X0_stateOf : Cond.static yX0_stateOf ∈ x_good := x_in (List.mem_of_getElem? (i := 275) (by decide +kernel)) rfl
abbrev mX3_lookAt : xM := (RX3, cX3_lookAt, 4, none)
theorem ct_X3_lookAt : xcal yX3_lookAt mX3_lookAt 2 := ⟨x_in (List.mem_of_getElem? (i := 280) (by decide +kernel)) rfl, ini_X3, by decide +kernel, by decide⟩
theorem in_X3_lookAt : Cond.instanceMethod yX3_lookAt ∈ x_good := x_in (List.mem_of_getElem? (i := 278) (by decide +kernel)) rfl
theorem se_X3_lookAt : Cond.selects RX3 yX3_lookAt yX3_lookAt ∈ x_good := x_in (List.mem_of_getElem? (i := 279) (by decide +kernel)) rfl
abbrev mX0_costRest : xM := (RX0, cX0_costRest, 4, none)
theorem ct_X0_costRest : xcal yX0_costRest mX0_costRest 1 := ⟨x_in (List.mem_of_getElem? (i := 284) (by decide +kernel)) rfl, ini_X0, by decide +kernel, by decide⟩
theorem in_X0_costRest : Cond.instanceMethod yX0_costRest ∈ x_good := x_in (List.mem_of_getElem? (i := 283) (by decide +kernel)) rfl
theorem se_X0_costRest : Cond.selects RX0 yX0_costRest yX0_costRest ∈ x_good := x_in (List.mem_of_getElem? (i := 4) (by decide +kernel)) rfl
abbrev mX0_isState : xM := (RX0, cX0_isState, 2, (some .boolean))
theorem ct_X0_isState : xcal yX0_isState mX0_isState 2 := ⟨x_in (List.mem_of_getElem? (i := 287) (by decide +kernel)) rfl, ini_X0, by decide +kernel, by decide⟩
theorem st_X0_isState : Cond.static yX0_isState ∈ x_good := x_in (List.mem_of_getElem? (i := 286) (by decide +kernel)) rfl
abbrev mX0_cheapestOn : xM := (RX0, cX0_cheapestOn, 8, (some .int))
theorem ct_X0_cheapestOn : xcal yX0_cheapestOn mX0_cheapestOn 3 := ⟨x_in (List.mem_of_getElem? (i := 291) (by decide +kernel)) rfl, ini_X0, by decide +kernel, by decide⟩
theorem in_X0_cheapestOn : Cond.instanceMethod yX0_cheapestOn ∈ x_good := x_in (List.mem_of_getElem? (i := 290) (by decide +kernel)) rfl
theorem se_X0_cheapestOn : Cond.selects RX0 yX0_cheapestOn yX0_cheapestOn ∈ x_good := x_in (List.mem_of_getElem? (i := 5) (by decide +kernel)) rfl
abbrev mX0_stateAfter : xM := (RX0, cX0_stateAfter, 2, (some .int))
theorem ct_X0_stateAfter : xcal yX0_stateAfter mX0_stateAfter 2 := ⟨x_in (List.mem_of_getElem? (i := 295) (by decide +kernel)) rfl, ini_X0, by decide +kernel, by decide⟩
theorem st_X0_stateAfter : Cond.static yX0_stateAfter ∈ x_good := x_in (List.mem_of_getElem? (i := 294) (by decide +kernel)) rfl
abbrev mX3_ofNext : xM := (RX3, cX3_ofNext, 5, (some .int))
theorem ct_X3_ofNext : xcal yX3_ofNext mX3_ofNext 3 := ⟨x_in (List.mem_of_getElem? (i := 301) (by decide +kernel)) rfl, ini_X3, by decide +kernel, by decide⟩
theorem in_X3_ofNext : Cond.instanceMethod yX3_ofNext ∈ x_good := x_in (List.mem_of_getElem? (i := 300) (by decide +kernel)) rfl
abbrev mX4_ofNext : xM := (RX4, cX4_ofNext, 4, (some .int))
theorem ct_X4_ofNext : xcal yX4_ofNext mX4_ofNext 3 := ⟨x_in (List.mem_of_getElem? (i := 305) (by decide +kernel)) rfl, ini_X4, by decide +kernel, by decide⟩
theorem in_X4_ofNext : Cond.instanceMethod yX4_ofNext ∈ x_good := x_in (List.mem_of_getElem? (i := 304) (by decide +kernel)) rfl
abbrev mJ9_min_7cf53 : xM := (RJ9, cJ9_min_7cf53, 2, (some .int))
theorem ct_J9_min_7cf53 : xcal yJ9_min_7cf53 mJ9_min_7cf53 2 := ⟨x_in (List.mem_of_getElem? (i := 309) (by decide +kernel)) rfl, ini_J9, by decide +kernel, by decide⟩
theorem st_J9_min_7cf53 : Cond.static yJ9_min_7cf53 ∈ x_good := x_in (List.mem_of_getElem? (i := 308) (by decide +kernel)) rfl
abbrev mX0_keepCheapest : xM := (RX0, cX0_keepCheapest, 4, none)
theorem ct_X0_keepCheapest : xcal yX0_keepCheapest mX0_keepCheapest 1 := ⟨x_in (List.mem_of_getElem? (i := 315) (by decide +kernel)) rfl, ini_X0, by decide +kernel, by decide⟩
theorem in_X0_keepCheapest : Cond.instanceMethod yX0_keepCheapest ∈ x_good := x_in (List.mem_of_getElem? (i := 314) (by decide +kernel)) rfl
theorem se_X0_keepCheapest : Cond.selects RX0 yX0_keepCheapest yX0_keepCheapest ∈ x_good := x_in (List.mem_of_getElem? (i := 6) (by decide +kernel)) rfl
abbrev mX0_cheapestNext : xM := (RX0, cX0_cheapestNext, 7, (some .int))
theorem ct_X0_cheapestNext : xcal yX0_cheapestNext mX0_cheapestNext 3 := ⟨x_in (List.mem_of_getElem? (i := 319) (by decide +kernel)) rfl, ini_X0, by decide +kernel, by decide⟩
theorem in_X0_cheapestNext : Cond.instanceMethod yX0_cheapestNext ∈ x_good := x_in (List.mem_of_getElem? (i := 318) (by decide +kernel)) rfl
theorem se_X0_cheapestNext : Cond.selects RX0 yX0_cheapestNext yX0_cheapestNext ∈ x_good := x_in (List.mem_of_getElem? (i := 7) (by decide +kernel)) rfl
abbrev mX0_countWaysOn : xM := (RX0, cX0_countWaysOn, 4, none)
theorem ct_X0_countWaysOn : xcal yX0_countWaysOn mX0_countWaysOn 0 := ⟨x_in (List.mem_of_getElem? (i := 323) (by decide +kernel)) rfl, ini_X0, by decide +kernel, by decide⟩
theorem in_X0_countWaysOn : Cond.instanceMethod yX0_countWaysOn ∈ x_good := x_in (List.mem_of_getElem? (i := 322) (by decide +kernel)) rfl
theorem se_X0_countWaysOn : Cond.selects RX0 yX0_countWaysOn yX0_countWaysOn ∈ x_good := x_in (List.mem_of_getElem? (i := 8) (by decide +kernel)) rfl
abbrev mX0_sumOver : xM := (RX0, cX0_sumOver, 6, (some .int))
theorem ct_X0_sumOver : xcal yX0_sumOver mX0_sumOver 3 := ⟨x_in (List.mem_of_getElem? (i := 327) (by decide +kernel)) rfl, ini_X0, by decide +kernel, by decide⟩
theorem in_X0_sumOver : Cond.instanceMethod yX0_sumOver ∈ x_good := x_in (List.mem_of_getElem? (i := 326) (by decide +kernel)) rfl
theorem se_X0_sumOver : Cond.selects RX0 yX0_sumOver yX0_sumOver ∈ x_good := x_in (List.mem_of_getElem? (i := 9) (by decide +kernel)) rfl
abbrev mX0_countWaysTo : xM := (RX0, cX0_countWaysTo, 3, none)
theorem ct_X0_countWaysTo : xcal yX0_countWaysTo mX0_countWaysTo 0 := ⟨x_in (List.mem_of_getElem? (i := 331) (by decide +kernel)) rfl, ini_X0, by decide +kernel, by decide⟩
theorem in_X0_countWaysTo : Cond.instanceMethod yX0_countWaysTo ∈ x_good := x_in (List.mem_of_getElem? (i := 330) (by decide +kernel)) rfl
theorem se_X0_countWaysTo : Cond.selects RX0 yX0_countWaysTo yX0_countWaysTo ∈ x_good := x_in (List.mem_of_getElem? (i := 10) (by decide +kernel)) rfl
abbrev mX0_total : xM := (RX0, cX0_total, 1, (some .int))
theorem ct_X0_total : xcal yX0_total mX0_total 0 := ⟨x_in (List.mem_of_getElem? (i := 335) (by decide +kernel)) rfl, ini_X0, by decide +kernel, by decide⟩
theorem in_X0_total : Cond.instanceMethod yX0_total ∈ x_good := x_in (List.mem_of_getElem? (i := 333) (by decide +kernel)) rfl
theorem se_X0_total : Cond.selects RX0 yX0_total yX0_total ∈ x_good := x_in (List.mem_of_getElem? (i := 334) (by decide +kernel)) rfl
abbrev mX0_passOn : xM := (RX0, cX0_passOn, 5, none)
theorem ct_X0_passOn : xcal yX0_passOn mX0_passOn 2 := ⟨x_in (List.mem_of_getElem? (i := 339) (by decide +kernel)) rfl, ini_X0, by decide +kernel, by decide⟩
theorem in_X0_passOn : Cond.instanceMethod yX0_passOn ∈ x_good := x_in (List.mem_of_getElem? (i := 338) (by decide +kernel)) rfl
theorem se_X0_passOn : Cond.selects RX0 yX0_passOn yX0_passOn ∈ x_good := x_in (List.mem_of_getElem? (i := 11) (by decide +kernel)) rfl
abbrev mX0_fewestBreaksOf : xM := (RX0, cX0_fewestBreaksOf, 3, (some .int))
theorem ct_X0_fewestBreaksOf : xcal yX0_fewestBreaksOf mX0_fewestBreaksOf 2 := ⟨x_in (List.mem_of_getElem? (i := 343) (by decide +kernel)) rfl, ini_X0, by decide +kernel, by decide⟩
theorem in_X0_fewestBreaksOf : Cond.instanceMethod yX0_fewestBreaksOf ∈ x_good := x_in (List.mem_of_getElem? (i := 341) (by decide +kernel)) rfl
theorem se_X0_fewestBreaksOf : Cond.selects RX0 yX0_fewestBreaksOf yX0_fewestBreaksOf ∈ x_good := x_in (List.mem_of_getElem? (i := 342) (by decide +kernel)) rfl
abbrev mX5_alike : xM := (RX5, cX5_alike, 3, (some .int))
theorem ct_X5_alike : xcal yX5_alike mX5_alike 2 := ⟨x_in (List.mem_of_getElem? (i := 348) (by decide +kernel)) rfl, ini_X5, by decide +kernel, by decide⟩
theorem in_X5_alike : Cond.instanceMethod yX5_alike ∈ x_good := x_in (List.mem_of_getElem? (i := 346) (by decide +kernel)) rfl
theorem se_X5_alike : Cond.selects RX5 yX5_alike yX5_alike ∈ x_good := x_in (List.mem_of_getElem? (i := 347) (by decide +kernel)) rfl
abbrev mX5_least : xM := (RX5, cX5_least, 2, (some .int))
theorem ct_X5_least : xcal yX5_least mX5_least 0 := ⟨x_in (List.mem_of_getElem? (i := 352) (by decide +kernel)) rfl, ini_X5, by decide +kernel, by decide⟩
theorem in_X5_least : Cond.instanceMethod yX5_least ∈ x_good := x_in (List.mem_of_getElem? (i := 350) (by decide +kernel)) rfl
theorem se_X5_least : Cond.selects RX5 yX5_least yX5_least ∈ x_good := x_in (List.mem_of_getElem? (i := 351) (by decide +kernel)) rfl
abbrev mX5_best : xM := (RX5, cX5_best, 1, (some .int))
theorem ct_X5_best : xcal yX5_best mX5_best 0 := ⟨x_in (List.mem_of_getElem? (i := 357) (by decide +kernel)) rfl, ini_X5, by decide +kernel, by decide⟩
theorem in_X5_best : Cond.instanceMethod yX5_best ∈ x_good := x_in (List.mem_of_getElem? (i := 355) (by decide +kernel)) rfl
theorem se_X5_best : Cond.selects RX5 yX5_best yX5_best ∈ x_good := x_in (List.mem_of_getElem? (i := 356) (by decide +kernel)) rfl
abbrev mX5_order : xM := (RX5, cX5_order, 4, (some .int))
theorem ct_X5_order : xcal yX5_order mX5_order 2 := ⟨x_in (List.mem_of_getElem? (i := 361) (by decide +kernel)) rfl, ini_X5, by decide +kernel, by decide⟩
theorem in_X5_order : Cond.instanceMethod yX5_order ∈ x_good := x_in (List.mem_of_getElem? (i := 359) (by decide +kernel)) rfl
theorem se_X5_order : Cond.selects RX5 yX5_order yX5_order ∈ x_good := x_in (List.mem_of_getElem? (i := 360) (by decide +kernel)) rfl
abbrev mX5_isPlace : xM := (RX5, cX5_isPlace, 2, (some .boolean))
theorem ct_X5_isPlace : xcal yX5_isPlace mX5_isPlace 1 := ⟨x_in (List.mem_of_getElem? (i := 365) (by decide +kernel)) rfl, ini_X5, by decide +kernel, by decide⟩
theorem in_X5_isPlace : Cond.instanceMethod yX5_isPlace ∈ x_good := x_in (List.mem_of_getElem? (i := 364) (by decide +kernel)) rfl
theorem se_X5_isPlace : Cond.selects RX5 yX5_isPlace yX5_isPlace ∈ x_good := x_in (List.mem_of_getElem? (i := 12) (by decide +kernel)) rfl
abbrev mX0_graveAt : xM := (RX0, cX0_graveAt, 11, (some .int))
theorem ct_X0_graveAt : xcal yX0_graveAt mX0_graveAt 2 := ⟨x_in (List.mem_of_getElem? (i := 369) (by decide +kernel)) rfl, ini_X0, by decide +kernel, by decide⟩
theorem in_X0_graveAt : Cond.instanceMethod yX0_graveAt ∈ x_good := x_in (List.mem_of_getElem? (i := 367) (by decide +kernel)) rfl
theorem se_X0_graveAt : Cond.selects RX0 yX0_graveAt yX0_graveAt ∈ x_good := x_in (List.mem_of_getElem? (i := 368) (by decide +kernel)) rfl
abbrev mX5_beside : xM := (RX5, cX5_beside, 4, (some .int))
theorem ct_X5_beside : xcal yX5_beside mX5_beside 2 := ⟨x_in (List.mem_of_getElem? (i := 373) (by decide +kernel)) rfl, ini_X5, by decide +kernel, by decide⟩
theorem in_X5_beside : Cond.instanceMethod yX5_beside ∈ x_good := x_in (List.mem_of_getElem? (i := 371) (by decide +kernel)) rfl
theorem se_X5_beside : Cond.selects RX5 yX5_beside yX5_beside ∈ x_good := x_in (List.mem_of_getElem? (i := 372) (by decide +kernel)) rfl
abbrev mX0_neighboursOf : xM := (RX0, cX0_neighboursOf, 5, (some .int))
theorem ct_X0_neighboursOf : xcal yX0_neighboursOf mX0_neighboursOf 2 := ⟨x_in (List.mem_of_getElem? (i := 377) (by decide +kernel)) rfl, ini_X0, by decide +kernel, by decide⟩
theorem in_X0_neighboursOf : Cond.instanceMethod yX0_neighboursOf ∈ x_good := x_in (List.mem_of_getElem? (i := 375) (by decide +kernel)) rfl
theorem se_X0_neighboursOf : Cond.selects RX0 yX0_neighboursOf yX0_neighboursOf ∈ x_good := x_in (List.mem_of_getElem? (i := 376) (by decide +kernel)) rfl
abbrev mX0_ordersWithNext : xM := (RX0, cX0_ordersWithNext, 6, (some .int))
theorem ct_X0_ordersWithNext : xcal yX0_ordersWithNext mX0_ordersWithNext 2 := ⟨x_in (List.mem_of_getElem? (i := 381) (by decide +kernel)) rfl, ini_X0, by decide +kernel, by decide⟩
theorem in_X0_ordersWithNext : Cond.instanceMethod yX0_ordersWithNext ∈ x_good := x_in (List.mem_of_getElem? (i := 380) (by decide +kernel)) rfl
theorem se_X0_ordersWithNext : Cond.selects RX0 yX0_ordersWithNext yX0_ordersWithNext ∈ x_good := x_in (List.mem_of_getElem? (i := 13) (by decide +kernel)) rfl
abbrev mX5_place : xM := (RX5, cX5_place, 3, (some .int))
theorem ct_X5_place : xcal yX5_place mX5_place 2 := ⟨x_in (List.mem_of_getElem? (i := 385) (by decide +kernel)) rfl, ini_X5, by decide +kernel, by decide⟩
theorem in_X5_place : Cond.instanceMethod yX5_place ∈ x_good := x_in (List.mem_of_getElem? (i := 383) (by decide +kernel)) rfl
theorem se_X5_place : Cond.selects RX5 yX5_place yX5_place ∈ x_good := x_in (List.mem_of_getElem? (i := 384) (by decide +kernel)) rfl
abbrev mX0_leastPlaceOf : xM := (RX0, cX0_leastPlaceOf, 3, (some .int))
theorem ct_X0_leastPlaceOf : xcal yX0_leastPlaceOf mX0_leastPlaceOf 1 := ⟨x_in (List.mem_of_getElem? (i := 389) (by decide +kernel)) rfl, ini_X0, by decide +kernel, by decide⟩
theorem in_X0_leastPlaceOf : Cond.instanceMethod yX0_leastPlaceOf ∈ x_good := x_in (List.mem_of_getElem? (i := 387) (by decide +kernel)) rfl
theorem se_X0_leastPlaceOf : Cond.selects RX0 yX0_leastPlaceOf yX0_leastPlaceOf ∈ x_good := x_in (List.mem_of_getElem? (i := 388) (by decide +kernel)) rfl
abbrev mX0_ordersWithAt : xM := (RX0, cX0_ordersWithAt, 5, (some .int))
theorem ct_X0_ordersWithAt : xcal yX0_ordersWithAt mX0_ordersWithAt 2 := ⟨x_in (List.mem_of_getElem? (i := 393) (by decide +kernel)) rfl, ini_X0, by decide +kernel, by decide⟩
theorem in_X0_ordersWithAt : Cond.instanceMethod yX0_ordersWithAt ∈ x_good := x_in (List.mem_of_getElem? (i := 391) (by decide +kernel)) rfl
theorem se_X0_ordersWithAt : Cond.selects RX0 yX0_ordersWithAt yX0_ordersWithAt ∈ x_good := x_in (List.mem_of_getElem? (i := 392) (by decide +kernel)) rfl
abbrev mX0_ordersBy : xM := (RX0, cX0_ordersBy, 4, (some .int))
theorem ct_X0_ordersBy : xcal yX0_ordersBy mX0_ordersBy 2 := ⟨x_in (List.mem_of_getElem? (i := 397) (by decide +kernel)) rfl, ini_X0, by decide +kernel, by decide⟩
theorem in_X0_ordersBy : Cond.instanceMethod yX0_ordersBy ∈ x_good := x_in (List.mem_of_getElem? (i := 396) (by decide +kernel)) rfl
theorem se_X0_ordersBy : Cond.selects RX0 yX0_ordersBy yX0_ordersBy ∈ x_good := x_in (List.mem_of_getElem? (i := 14) (by decide +kernel)) rfl
abbrev mX0_greatestPlaceOf : xM := (RX0, cX0_greatestPlaceOf, 3, (some .int))
theorem ct_X0_greatestPlaceOf : xcal yX0_greatestPlaceOf mX0_greatestPlaceOf 1 := ⟨x_in (List.mem_of_getElem? (i := 401) (by decide +kernel)) rfl, ini_X0, by decide +kernel, by decide⟩
theorem in_X0_greatestPlaceOf : Cond.instanceMethod yX0_greatestPlaceOf ∈ x_good := x_in (List.mem_of_getElem? (i := 399) (by decide +kernel)) rfl
theorem se_X0_greatestPlaceOf : Cond.selects RX0 yX0_greatestPlaceOf yX0_greatestPlaceOf ∈ x_good := x_in (List.mem_of_getElem? (i := 400) (by decide +kernel)) rfl
abbrev mX5_before : xM := (RX5, cX5_before, 3, (some .int))
theorem ct_X5_before : xcal yX5_before mX5_before 2 := ⟨x_in (List.mem_of_getElem? (i := 406) (by decide +kernel)) rfl, ini_X5, by decide +kernel, by decide⟩
theorem in_X5_before : Cond.instanceMethod yX5_before ∈ x_good := x_in (List.mem_of_getElem? (i := 404) (by decide +kernel)) rfl
theorem se_X5_before : Cond.selects RX5 yX5_before yX5_before ∈ x_good := x_in (List.mem_of_getElem? (i := 405) (by decide +kernel)) rfl
abbrev mX0_ordersWithFirst : xM := (RX0, cX0_ordersWithFirst, 5, (some .int))
theorem ct_X0_ordersWithFirst : xcal yX0_ordersWithFirst mX0_ordersWithFirst 2 := ⟨x_in (List.mem_of_getElem? (i := 410) (by decide +kernel)) rfl, ini_X0, by decide +kernel, by decide⟩
theorem in_X0_ordersWithFirst : Cond.instanceMethod yX0_ordersWithFirst ∈ x_good := x_in (List.mem_of_getElem? (i := 408) (by decide +kernel)) rfl
theorem se_X0_ordersWithFirst : Cond.selects RX0 yX0_ordersWithFirst yX0_ordersWithFirst ∈ x_good := x_in (List.mem_of_getElem? (i := 409) (by decide +kernel)) rfl
abbrev mX5_together : xM := (RX5, cX5_together, 2, (some .int))
theorem ct_X5_together : xcal yX5_together mX5_together 1 := ⟨x_in (List.mem_of_getElem? (i := 414) (by decide +kernel)) rfl, ini_X5, by decide +kernel, by decide⟩
theorem in_X5_together : Cond.instanceMethod yX5_together ∈ x_good := x_in (List.mem_of_getElem? (i := 412) (by decide +kernel)) rfl
theorem se_X5_together : Cond.selects RX5 yX5_together yX5_together ∈ x_good := x_in (List.mem_of_getElem? (i := 413) (by decide +kernel)) rfl
abbrev mX0_ordersWithTogether : xM := (RX0, cX0_ordersWithTogether, 6, (some .int))
theorem ct_X0_ordersWithTogether : xcal yX0_ordersWithTogether mX0_ordersWithTogether 1 := ⟨x_in (List.mem_of_getElem? (i := 418) (by decide +kernel)) rfl, ini_X0, by decide +kernel, by decide⟩
theorem in_X0_ordersWithTogether : Cond.instanceMethod yX0_ordersWithTogether ∈ x_good := x_in (List.mem_of_getElem? (i := 416) (by decide +kernel)) rfl
theorem se_X0_ordersWithTogether : Cond.selects RX0 yX0_ordersWithTogether yX0_ordersWithTogether ∈ x_good := x_in (List.mem_of_getElem? (i := 417) (by decide +kernel)) rfl
abbrev mX0_nextThatPart : xM := (RX0, cX0_nextThatPart, 3, (some .int))
theorem ct_X0_nextThatPart : xcal yX0_nextThatPart mX0_nextThatPart 2 := ⟨x_in (List.mem_of_getElem? (i := 421) (by decide +kernel)) rfl, ini_X0, by decide +kernel, by decide⟩
theorem st_X0_nextThatPart : Cond.static yX0_nextThatPart ∈ x_good := x_in (List.mem_of_getElem? (i := 420) (by decide +kernel)) rfl
abbrev mX5_clump : xM := (RX5, cX5_clump, 3, (some .int))
theorem ct_X5_clump : xcal yX5_clump mX5_clump 1 := ⟨x_in (List.mem_of_getElem? (i := 425) (by decide +kernel)) rfl, ini_X5, by decide +kernel, by decide⟩
theorem in_X5_clump : Cond.instanceMethod yX5_clump ∈ x_good := x_in (List.mem_of_getElem? (i := 423) (by decide +kernel)) rfl
theorem se_X5_clump : Cond.selects RX5 yX5_clump yX5_clump ∈ x_good := x_in (List.mem_of_getElem? (i := 424) (by decide +kernel)) rfl
abbrev mX0_gatherClumps : xM := (RX0, cX0_gatherClumps, 2, none)
theorem ct_X0_gatherClumps : xcal yX0_gatherClumps mX0_gatherClumps 0 := ⟨x_in (List.mem_of_getElem? (i := 429) (by decide +kernel)) rfl, ini_X0, by decide +kernel, by decide⟩
theorem in_X0_gatherClumps : Cond.instanceMethod yX0_gatherClumps ∈ x_good := x_in (List.mem_of_getElem? (i := 427) (by decide +kernel)) rfl
theorem se_X0_gatherClumps : Cond.selects RX0 yX0_gatherClumps yX0_gatherClumps ∈ x_good := x_in (List.mem_of_getElem? (i := 428) (by decide +kernel)) rfl
abbrev mX0_liesTogetherInAll : xM := (RX0, cX0_liesTogetherInAll, 3, (some .boolean))
theorem ct_X0_liesTogetherInAll : xcal yX0_liesTogetherInAll mX0_liesTogetherInAll 1 := ⟨x_in (List.mem_of_getElem? (i := 433) (by decide +kernel)) rfl, ini_X0, by decide +kernel, by decide⟩
theorem in_X0_liesTogetherInAll : Cond.instanceMethod yX0_liesTogetherInAll ∈ x_good := x_in (List.mem_of_getElem? (i := 432) (by decide +kernel)) rfl
theorem se_X0_liesTogetherInAll : Cond.selects RX0 yX0_liesTogetherInAll yX0_liesTogetherInAll ∈ x_good := x_in (List.mem_of_getElem? (i := 15) (by decide +kernel)) rfl
abbrev mX5_row : xM := (RX5, cX5_row, 2, (some .int))
theorem ct_X5_row : xcal yX5_row mX5_row 1 := ⟨x_in (List.mem_of_getElem? (i := 437) (by decide +kernel)) rfl, ini_X5, by decide +kernel, by decide⟩
theorem in_X5_row : Cond.instanceMethod yX5_row ∈ x_good := x_in (List.mem_of_getElem? (i := 435) (by decide +kernel)) rfl
theorem se_X5_row : Cond.selects RX5 yX5_row yX5_row ∈ x_good := x_in (List.mem_of_getElem? (i := 436) (by decide +kernel)) rfl
abbrev mX5_breaks : xM := (RX5, cX5_breaks, 2, (some .int))
theorem ct_X5_breaks : xcal yX5_breaks mX5_breaks 1 := ⟨x_in (List.mem_of_getElem? (i := 441) (by decide +kernel)) rfl, ini_X5, by decide +kernel, by decide⟩
theorem in_X5_breaks : Cond.instanceMethod yX5_breaks ∈ x_good := x_in (List.mem_of_getElem? (i := 439) (by decide +kernel)) rfl
theorem se_X5_breaks : Cond.selects RX5 yX5_breaks yX5_breaks ∈ x_good := x_in (List.mem_of_getElem? (i := 440) (by decide +kernel)) rfl
abbrev mX2_lineIsAllowed : xM := (RX2, cX2_lineIsAllowed, 3, (some .boolean))
theorem ct_X2_lineIsAllowed : xcal yX2_lineIsAllowed mX2_lineIsAllowed 0 := ⟨x_in (List.mem_of_getElem? (i := 445) (by decide +kernel)) rfl, ini_X2, by decide +kernel, by decide⟩
theorem in_X2_lineIsAllowed : Cond.instanceMethod yX2_lineIsAllowed ∈ x_good := x_in (List.mem_of_getElem? (i := 443) (by decide +kernel)) rfl
theorem se_X2_lineIsAllowed : Cond.selects RX2 yX2_lineIsAllowed yX2_lineIsAllowed ∈ x_good := x_in (List.mem_of_getElem? (i := 444) (by decide +kernel)) rfl
abbrev mX5_lineIsBest : xM := (RX5, cX5_lineIsBest, 2, (some .boolean))
theorem ct_X5_lineIsBest : xcal yX5_lineIsBest mX5_lineIsBest 0 := ⟨x_in (List.mem_of_getElem? (i := 449) (by decide +kernel)) rfl, ini_X5, by decide +kernel, by decide⟩
theorem in_X5_lineIsBest : Cond.instanceMethod yX5_lineIsBest ∈ x_good := x_in (List.mem_of_getElem? (i := 448) (by decide +kernel)) rfl
theorem se_X5_lineIsBest : Cond.selects RX5 yX5_lineIsBest yX5_lineIsBest ∈ x_good := x_in (List.mem_of_getElem? (i := 16) (by decide +kernel)) rfl
abbrev mX5_swap : xM := (RX5, cX5_swap, 2, (some .int))
theorem ct_X5_swap : xcal yX5_swap mX5_swap 1 := ⟨x_in (List.mem_of_getElem? (i := 453) (by decide +kernel)) rfl, ini_X5, by decide +kernel, by decide⟩
theorem in_X5_swap : Cond.instanceMethod yX5_swap ∈ x_good := x_in (List.mem_of_getElem? (i := 451) (by decide +kernel)) rfl
theorem se_X5_swap : Cond.selects RX5 yX5_swap yX5_swap ∈ x_good := x_in (List.mem_of_getElem? (i := 452) (by decide +kernel)) rfl
abbrev mX2_exchange : xM := (RX2, cX2_exchange, 3, none)
theorem ct_X2_exchange : xcal yX2_exchange mX2_exchange 1 := ⟨x_in (List.mem_of_getElem? (i := 457) (by decide +kernel)) rfl, ini_X2, by decide +kernel, by decide⟩
theorem in_X2_exchange : Cond.instanceMethod yX2_exchange ∈ x_good := x_in (List.mem_of_getElem? (i := 455) (by decide +kernel)) rfl
theorem se_X2_exchange : Cond.selects RX2 yX2_exchange yX2_exchange ∈ x_good := x_in (List.mem_of_getElem? (i := 456) (by decide +kernel)) rfl
abbrev mX5_better : xM := (RX5, cX5_better, 1, (some .int))
theorem ct_X5_better : xcal yX5_better mX5_better 0 := ⟨x_in (List.mem_of_getElem? (i := 461) (by decide +kernel)) rfl, ini_X5, by decide +kernel, by decide⟩
theorem in_X5_better : Cond.instanceMethod yX5_better ∈ x_good := x_in (List.mem_of_getElem? (i := 459) (by decide +kernel)) rfl
theorem se_X5_better : Cond.selects RX5 yX5_better yX5_better ∈ x_good := x_in (List.mem_of_getElem? (i := 460) (by decide +kernel)) rfl
abbrev mX5_makeBestSwap : xM := (RX5, cX5_makeBestSwap, 2, (some .int))
theorem ct_X5_makeBestSwap : xcal yX5_makeBestSwap mX5_makeBestSwap 0 := ⟨x_in (List.mem_of_getElem? (i := 465) (by decide +kernel)) rfl, ini_X5, by decide +kernel, by decide⟩
theorem in_X5_makeBestSwap : Cond.instanceMethod yX5_makeBestSwap ∈ x_good := x_in (List.mem_of_getElem? (i := 464) (by decide +kernel)) rfl
theorem se_X5_makeBestSwap : Cond.selects RX5 yX5_makeBestSwap yX5_makeBestSwap ∈ x_good := x_in (List.mem_of_getElem? (i := 17) (by decide +kernel)) rfl
abbrev mX2_bestExchange : xM := (RX2, cX2_bestExchange, 5, (some .int))
theorem ct_X2_bestExchange : xcal yX2_bestExchange mX2_bestExchange 0 := ⟨x_in (List.mem_of_getElem? (i := 469) (by decide +kernel)) rfl, ini_X2, by decide +kernel, by decide⟩
theorem in_X2_bestExchange : Cond.instanceMethod yX2_bestExchange ∈ x_good := x_in (List.mem_of_getElem? (i := 467) (by decide +kernel)) rfl
theorem se_X2_bestExchange : Cond.selects RX2 yX2_bestExchange yX2_bestExchange ∈ x_good := x_in (List.mem_of_getElem? (i := 468) (by decide +kernel)) rfl
abbrev mX5_climb : xM := (RX5, cX5_climb, 2, (some .int))
theorem ct_X5_climb : xcal yX5_climb mX5_climb 0 := ⟨x_in (List.mem_of_getElem? (i := 475) (by decide +kernel)) rfl, ini_X5, by decide +kernel, by decide⟩
theorem in_X5_climb : Cond.instanceMethod yX5_climb ∈ x_good := x_in (List.mem_of_getElem? (i := 473) (by decide +kernel)) rfl
theorem se_X5_climb : Cond.selects RX5 yX5_climb yX5_climb ∈ x_good := x_in (List.mem_of_getElem? (i := 474) (by decide +kernel)) rfl
abbrev mX5_nearest : xM := (RX5, cX5_nearest, 3, (some .int))
theorem ct_X5_nearest : xcal yX5_nearest mX5_nearest 1 := ⟨x_in (List.mem_of_getElem? (i := 479) (by decide +kernel)) rfl, ini_X5, by decide +kernel, by decide⟩
theorem in_X5_nearest : Cond.instanceMethod yX5_nearest ∈ x_good := x_in (List.mem_of_getElem? (i := 477) (by decide +kernel)) rfl
theorem se_X5_nearest : Cond.selects RX5 yX5_nearest yX5_nearest ∈ x_good := x_in (List.mem_of_getElem? (i := 478) (by decide +kernel)) rfl
abbrev mX5_knowWay : xM := (RX5, cX5_knowWay, 2, none)
theorem ct_X5_knowWay : xcal yX5_knowWay mX5_knowWay 1 := ⟨x_in (List.mem_of_getElem? (i := 483) (by decide +kernel)) rfl, ini_X5, by decide +kernel, by decide⟩
theorem in_X5_knowWay : Cond.instanceMethod yX5_knowWay ∈ x_good := x_in (List.mem_of_getElem? (i := 482) (by decide +kernel)) rfl
theorem se_X5_knowWay : Cond.selects RX5 yX5_knowWay yX5_knowWay ∈ x_good := x_in (List.mem_of_getElem? (i := 18) (by decide +kernel)) rfl
abbrev mX0_seekGoal : xM := (RX0, cX0_seekGoal, 5, none)
theorem ct_X0_seekGoal : xcal yX0_seekGoal mX0_seekGoal 1 := ⟨x_in (List.mem_of_getElem? (i := 487) (by decide +kernel)) rfl, ini_X0, by decide +kernel, by decide⟩
theorem in_X0_seekGoal : Cond.instanceMethod yX0_seekGoal ∈ x_good := x_in (List.mem_of_getElem? (i := 485) (by decide +kernel)) rfl
theorem se_X0_seekGoal : Cond.selects RX0 yX0_seekGoal yX0_seekGoal ∈ x_good := x_in (List.mem_of_getElem? (i := 486) (by decide +kernel)) rfl
abbrev mX4_lookAt : xM := (RX4, cX4_lookAt, 4, none)
theorem ct_X4_lookAt : xcal yX4_lookAt mX4_lookAt 1 := ⟨x_in (List.mem_of_getElem? (i := 491) (by decide +kernel)) rfl, ini_X4, by decide +kernel, by decide⟩
theorem in_X4_lookAt : Cond.instanceMethod yX4_lookAt ∈ x_good := x_in (List.mem_of_getElem? (i := 489) (by decide +kernel)) rfl
theorem se_X4_lookAt : Cond.selects RX4 yX4_lookAt yX4_lookAt ∈ x_good := x_in (List.mem_of_getElem? (i := 490) (by decide +kernel)) rfl
abbrev mX0_leastMember : xM := (RX0, cX0_leastMember, 2, (some .int))
theorem ct_X0_leastMember : xcal yX0_leastMember mX0_leastMember 1 := ⟨x_in (List.mem_of_getElem? (i := 494) (by decide +kernel)) rfl, ini_X0, by decide +kernel, by decide⟩
theorem st_X0_leastMember : Cond.static yX0_leastMember ∈ x_good := x_in (List.mem_of_getElem? (i := 493) (by decide +kernel)) rfl
abbrev mX5_settle : xM := (RX5, cX5_settle, 3, (some .int))
theorem ct_X5_settle : xcal yX5_settle mX5_settle 0 := ⟨x_in (List.mem_of_getElem? (i := 498) (by decide +kernel)) rfl, ini_X5, by decide +kernel, by decide⟩
theorem in_X5_settle : Cond.instanceMethod yX5_settle ∈ x_good := x_in (List.mem_of_getElem? (i := 496) (by decide +kernel)) rfl
theorem se_X5_settle : Cond.selects RX5 yX5_settle yX5_settle ∈ x_good := x_in (List.mem_of_getElem? (i := 497) (by decide +kernel)) rfl
abbrev mX5_count : xM := (RX5, cX5_count, 2, (some .int))
theorem ct_X5_count : xcal yX5_count mX5_count 1 := ⟨x_in (List.mem_of_getElem? (i := 505) (by decide +kernel)) rfl, ini_X5, by decide +kernel, by decide⟩
theorem in_X5_count : Cond.instanceMethod yX5_count ∈ x_good := x_in (List.mem_of_getElem? (i := 503) (by decide +kernel)) rfl
theorem se_X5_count : Cond.selects RX5 yX5_count yX5_count ∈ x_good := x_in (List.mem_of_getElem? (i := 504) (by decide +kernel)) rfl
abbrev mX5_image : xM := (RX5, cX5_image, 2, (some .int))
theorem ct_X5_image : xcal yX5_image mX5_image 1 := ⟨x_in (List.mem_of_getElem? (i := 509) (by decide +kernel)) rfl, ini_X5, by decide +kernel, by decide⟩
theorem in_X5_image : Cond.instanceMethod yX5_image ∈ x_good := x_in (List.mem_of_getElem? (i := 507) (by decide +kernel)) rfl
theorem se_X5_image : Cond.selects RX5 yX5_image yX5_image ∈ x_good := x_in (List.mem_of_getElem? (i := 508) (by decide +kernel)) rfl
abbrev mX5_isImage : xM := (RX5, cX5_isImage, 1, (some .boolean))
theorem ct_X5_isImage : xcal yX5_isImage mX5_isImage 1 := ⟨x_in (List.mem_of_getElem? (i := 512) (by decide +kernel)) rfl, ini_X5, by decide +kernel, by decide⟩
theorem st_X5_isImage : Cond.static yX5_isImage ∈ x_good := x_in (List.mem_of_getElem? (i := 511) (by decide +kernel)) rfl
abbrev mX2_become : xM := (RX2, cX2_become, 2, none)
theorem ct_X2_become : xcal yX2_become mX2_become 1 := ⟨x_in (List.mem_of_getElem? (i := 516) (by decide +kernel)) rfl, ini_X2, by decide +kernel, by decide⟩
theorem in_X2_become : Cond.instanceMethod yX2_become ∈ x_good := x_in (List.mem_of_getElem? (i := 514) (by decide +kernel)) rfl
theorem se_X2_become : Cond.selects RX2 yX2_become yX2_become ∈ x_good := x_in (List.mem_of_getElem? (i := 515) (by decide +kernel)) rfl
abbrev mX5_restore : xM := (RX5, cX5_restore, 2, (some .int))
theorem ct_X5_restore : xcal yX5_restore mX5_restore 1 := ⟨x_in (List.mem_of_getElem? (i := 521) (by decide +kernel)) rfl, ini_X5, by decide +kernel, by decide⟩
theorem in_X5_restore : Cond.instanceMethod yX5_restore ∈ x_good := x_in (List.mem_of_getElem? (i := 519) (by decide +kernel)) rfl
theorem se_X5_restore : Cond.selects RX5 yX5_restore yX5_restore ∈ x_good := x_in (List.mem_of_getElem? (i := 520) (by decide +kernel)) rfl
abbrev mX6_init : xM := (RX6, cX6_init, 1, none)
theorem ct_X6_init : xcal yX6_init mX6_init 0 := ⟨x_in (List.mem_of_getElem? (i := 527) (by decide +kernel)) rfl, ini_X6, by decide +kernel, by decide⟩
theorem in_X6_init : Cond.instanceMethod yX6_init ∈ x_good := x_in (List.mem_of_getElem? (i := 526) (by decide +kernel)) rfl
abbrev mX6_resetRow : xM := (RX6, cX6_resetRow, 2, none)
theorem ct_X6_resetRow : xcal yX6_resetRow mX6_resetRow 0 := ⟨x_in (List.mem_of_getElem? (i := 532) (by decide +kernel)) rfl, ini_X6, by decide +kernel, by decide⟩
theorem in_X6_resetRow : Cond.instanceMethod yX6_resetRow ∈ x_good := x_in (List.mem_of_getElem? (i := 531) (by decide +kernel)) rfl
theorem se_X6_resetRow : Cond.selects RX6 yX6_resetRow yX6_resetRow ∈ x_good := x_in (List.mem_of_getElem? (i := 19) (by decide +kernel)) rfl
abbrev mX6_many : xM := (RX6, cX6_many, 4, (some .int))
theorem ct_X6_many : xcal yX6_many mX6_many 1 := ⟨x_in (List.mem_of_getElem? (i := 589) (by decide +kernel)) rfl, ini_X6, by decide +kernel, by decide⟩
theorem in_X6_many : Cond.instanceMethod yX6_many ∈ x_good := x_in (List.mem_of_getElem? (i := 587) (by decide +kernel)) rfl
theorem se_X6_many : Cond.selects RX6 yX6_many yX6_many ∈ x_good := x_in (List.mem_of_getElem? (i := 588) (by decide +kernel)) rfl
abbrev mX6_in : xM := (RX6, cX6_in, 3, (some .boolean))
theorem ct_X6_in : xcal yX6_in mX6_in 3 := ⟨x_in (List.mem_of_getElem? (i := 592) (by decide +kernel)) rfl, ini_X6, by decide +kernel, by decide⟩
theorem st_X6_in : Cond.static yX6_in ∈ x_good := x_in (List.mem_of_getElem? (i := 591) (by decide +kernel)) rfl
abbrev mX6_find : xM := (RX6, cX6_find, 4, (some .int))
theorem ct_X6_find : xcal yX6_find mX6_find 3 := ⟨x_in (List.mem_of_getElem? (i := 596) (by decide +kernel)) rfl, ini_X6, by decide +kernel, by decide⟩
theorem in_X6_find : Cond.instanceMethod yX6_find ∈ x_good := x_in (List.mem_of_getElem? (i := 594) (by decide +kernel)) rfl
theorem se_X6_find : Cond.selects RX6 yX6_find yX6_find ∈ x_good := x_in (List.mem_of_getElem? (i := 595) (by decide +kernel)) rfl
abbrev mX6_isGrave : xM := (RX6, cX6_isGrave, 2, (some .boolean))
theorem ct_X6_isGrave : xcal yX6_isGrave mX6_isGrave 1 := ⟨x_in (List.mem_of_getElem? (i := 600) (by decide +kernel)) rfl, ini_X6, by decide +kernel, by decide⟩
theorem in_X6_isGrave : Cond.instanceMethod yX6_isGrave ∈ x_good := x_in (List.mem_of_getElem? (i := 599) (by decide +kernel)) rfl
theorem se_X6_isGrave : Cond.selects RX6 yX6_isGrave yX6_isGrave ∈ x_good := x_in (List.mem_of_getElem? (i := 20) (by decide +kernel)) rfl
abbrev mX6_isSort : xM := (RX6, cX6_isSort, 1, (some .boolean))
theorem ct_X6_isSort : xcal yX6_isSort mX6_isSort 1 := ⟨x_in (List.mem_of_getElem? (i := 603) (by decide +kernel)) rfl, ini_X6, by decide +kernel, by decide⟩
theorem st_X6_isSort : Cond.static yX6_isSort ∈ x_good := x_in (List.mem_of_getElem? (i := 602) (by decide +kernel)) rfl
abbrev mX6_bits : xM := (RX6, cX6_bits, 3, (some .int))
theorem ct_X6_bits : xcal yX6_bits mX6_bits 1 := ⟨x_in (List.mem_of_getElem? (i := 606) (by decide +kernel)) rfl, ini_X6, by decide +kernel, by decide⟩
theorem st_X6_bits : Cond.static yX6_bits ∈ x_good := x_in (List.mem_of_getElem? (i := 605) (by decide +kernel)) rfl
abbrev mX6_ahead : xM := (RX6, cX6_ahead, 4, (some .int))
theorem ct_X6_ahead : xcal yX6_ahead mX6_ahead 3 := ⟨x_in (List.mem_of_getElem? (i := 610) (by decide +kernel)) rfl, ini_X6, by decide +kernel, by decide⟩
theorem in_X6_ahead : Cond.instanceMethod yX6_ahead ∈ x_good := x_in (List.mem_of_getElem? (i := 608) (by decide +kernel)) rfl
theorem se_X6_ahead : Cond.selects RX6 yX6_ahead yX6_ahead ∈ x_good := x_in (List.mem_of_getElem? (i := 609) (by decide +kernel)) rfl
abbrev mX6_knownPairs : xM := (RX6, cX6_knownPairs, 3, (some .int))
theorem ct_X6_knownPairs : xcal yX6_knownPairs mX6_knownPairs 0 := ⟨x_in (List.mem_of_getElem? (i := 614) (by decide +kernel)) rfl, ini_X6, by decide +kernel, by decide⟩
theorem in_X6_knownPairs : Cond.instanceMethod yX6_knownPairs ∈ x_good := x_in (List.mem_of_getElem? (i := 613) (by decide +kernel)) rfl
theorem se_X6_knownPairs : Cond.selects RX6 yX6_knownPairs yX6_knownPairs ∈ x_good := x_in (List.mem_of_getElem? (i := 21) (by decide +kernel)) rfl
abbrev mX6_grave : xM := (RX6, cX6_grave, 5, (some .int))
theorem ct_X6_grave : xcal yX6_grave mX6_grave 2 := ⟨x_in (List.mem_of_getElem? (i := 618) (by decide +kernel)) rfl, ini_X6, by decide +kernel, by decide⟩
theorem in_X6_grave : Cond.instanceMethod yX6_grave ∈ x_good := x_in (List.mem_of_getElem? (i := 616) (by decide +kernel)) rfl
theorem se_X6_grave : Cond.selects RX6 yX6_grave yX6_grave ∈ x_good := x_in (List.mem_of_getElem? (i := 617) (by decide +kernel)) rfl
abbrev mX6_has : xM := (RX6, cX6_has, 2, (some .boolean))
theorem ct_X6_has : xcal yX6_has mX6_has 2 := ⟨x_in (List.mem_of_getElem? (i := 621) (by decide +kernel)) rfl, ini_X6, by decide +kernel, by decide⟩
theorem st_X6_has : Cond.static yX6_has ∈ x_good := x_in (List.mem_of_getElem? (i := 620) (by decide +kernel)) rfl
abbrev mX6_placeInRow : xM := (RX6, cX6_placeInRow, 4, (some .int))
theorem ct_X6_placeInRow : xcal yX6_placeInRow mX6_placeInRow 1 := ⟨x_in (List.mem_of_getElem? (i := 625) (by decide +kernel)) rfl, ini_X6, by decide +kernel, by decide⟩
theorem in_X6_placeInRow : Cond.instanceMethod yX6_placeInRow ∈ x_good := x_in (List.mem_of_getElem? (i := 624) (by decide +kernel)) rfl
theorem se_X6_placeInRow : Cond.selects RX6 yX6_placeInRow yX6_placeInRow ∈ x_good := x_in (List.mem_of_getElem? (i := 22) (by decide +kernel)) rfl
abbrev mX6_alike : xM := (RX6, cX6_alike, 3, (some .int))
theorem ct_X6_alike : xcal yX6_alike mX6_alike 2 := ⟨x_in (List.mem_of_getElem? (i := 629) (by decide +kernel)) rfl, ini_X6, by decide +kernel, by decide⟩
theorem in_X6_alike : Cond.instanceMethod yX6_alike ∈ x_good := x_in (List.mem_of_getElem? (i := 627) (by decide +kernel)) rfl
theorem se_X6_alike : Cond.selects RX6 yX6_alike yX6_alike ∈ x_good := x_in (List.mem_of_getElem? (i := 628) (by decide +kernel)) rfl
abbrev mX6_least : xM := (RX6, cX6_least, 1, (some .int))
theorem ct_X6_least : xcal yX6_least mX6_least 0 := ⟨x_in (List.mem_of_getElem? (i := 633) (by decide +kernel)) rfl, ini_X6, by decide +kernel, by decide⟩
theorem in_X6_least : Cond.instanceMethod yX6_least ∈ x_good := x_in (List.mem_of_getElem? (i := 631) (by decide +kernel)) rfl
theorem se_X6_least : Cond.selects RX6 yX6_least yX6_least ∈ x_good := x_in (List.mem_of_getElem? (i := 632) (by decide +kernel)) rfl
abbrev mX6_layFewest : xM := (RX6, cX6_layFewest, 3, none)
theorem ct_X6_layFewest : xcal yX6_layFewest mX6_layFewest 0 := ⟨x_in (List.mem_of_getElem? (i := 637) (by decide +kernel)) rfl, ini_X6, by decide +kernel, by decide⟩
theorem in_X6_layFewest : Cond.instanceMethod yX6_layFewest ∈ x_good := x_in (List.mem_of_getElem? (i := 636) (by decide +kernel)) rfl
theorem se_X6_layFewest : Cond.selects RX6 yX6_layFewest yX6_layFewest ∈ x_good := x_in (List.mem_of_getElem? (i := 23) (by decide +kernel)) rfl
abbrev mX6_begin : xM := (RX6, cX6_begin, 2, none)
theorem ct_X6_begin : xcal yX6_begin mX6_begin 0 := ⟨x_in (List.mem_of_getElem? (i := 641) (by decide +kernel)) rfl, ini_X6, by decide +kernel, by decide⟩
theorem in_X6_begin : Cond.instanceMethod yX6_begin ∈ x_good := x_in (List.mem_of_getElem? (i := 640) (by decide +kernel)) rfl
theorem se_X6_begin : Cond.selects RX6 yX6_begin yX6_begin ∈ x_good := x_in (List.mem_of_getElem? (i := 24) (by decide +kernel)) rfl
abbrev mX6_isAllowed : xM := (RX6, cX6_isAllowed, 3, (some .boolean))
theorem ct_X6_isAllowed : xcal yX6_isAllowed mX6_isAllowed 0 := ⟨x_in (List.mem_of_getElem? (i := 645) (by decide +kernel)) rfl, ini_X6, by decide +kernel, by decide⟩
theorem in_X6_isAllowed : Cond.instanceMethod yX6_isAllowed ∈ x_good := x_in (List.mem_of_getElem? (i := 644) (by decide +kernel)) rfl
theorem se_X6_isAllowed : Cond.selects RX6 yX6_isAllowed yX6_isAllowed ∈ x_good := x_in (List.mem_of_getElem? (i := 25) (by decide +kernel)) rfl
abbrev mX6_breaksNow : xM := (RX6, cX6_breaksNow, 3, (some .int))
theorem ct_X6_breaksNow : xcal yX6_breaksNow mX6_breaksNow 0 := ⟨x_in (List.mem_of_getElem? (i := 649) (by decide +kernel)) rfl, ini_X6, by decide +kernel, by decide⟩
theorem in_X6_breaksNow : Cond.instanceMethod yX6_breaksNow ∈ x_good := x_in (List.mem_of_getElem? (i := 648) (by decide +kernel)) rfl
theorem se_X6_breaksNow : Cond.selects RX6 yX6_breaksNow yX6_breaksNow ∈ x_good := x_in (List.mem_of_getElem? (i := 26) (by decide +kernel)) rfl
abbrev mX6_breaksOf : xM := (RX6, cX6_breaksOf, 6, (some .int))
theorem ct_X6_breaksOf : xcal yX6_breaksOf mX6_breaksOf 1 := ⟨x_in (List.mem_of_getElem? (i := 653) (by decide +kernel)) rfl, ini_X6, by decide +kernel, by decide⟩
theorem in_X6_breaksOf : Cond.instanceMethod yX6_breaksOf ∈ x_good := x_in (List.mem_of_getElem? (i := 652) (by decide +kernel)) rfl
theorem se_X6_breaksOf : Cond.selects RX6 yX6_breaksOf yX6_breaksOf ∈ x_good := x_in (List.mem_of_getElem? (i := 27) (by decide +kernel)) rfl
abbrev mX6_goOn : xM := (RX6, cX6_goOn, 6, (some .boolean))
theorem ct_X6_goOn : xcal yX6_goOn mX6_goOn 0 := ⟨x_in (List.mem_of_getElem? (i := 657) (by decide +kernel)) rfl, ini_X6, by decide +kernel, by decide⟩
theorem in_X6_goOn : Cond.instanceMethod yX6_goOn ∈ x_good := x_in (List.mem_of_getElem? (i := 656) (by decide +kernel)) rfl
theorem se_X6_goOn : Cond.selects RX6 yX6_goOn yX6_goOn ∈ x_good := x_in (List.mem_of_getElem? (i := 28) (by decide +kernel)) rfl
abbrev mX6_change : xM := (RX6, cX6_change, 4, none)
theorem ct_X6_change : xcal yX6_change mX6_change 2 := ⟨x_in (List.mem_of_getElem? (i := 661) (by decide +kernel)) rfl, ini_X6, by decide +kernel, by decide⟩
theorem in_X6_change : Cond.instanceMethod yX6_change ∈ x_good := x_in (List.mem_of_getElem? (i := 660) (by decide +kernel)) rfl
theorem se_X6_change : Cond.selects RX6 yX6_change yX6_change ∈ x_good := x_in (List.mem_of_getElem? (i := 29) (by decide +kernel)) rfl
abbrev mX6_best : xM := (RX6, cX6_best, 1, (some .int))
theorem ct_X6_best : xcal yX6_best mX6_best 0 := ⟨x_in (List.mem_of_getElem? (i := 665) (by decide +kernel)) rfl, ini_X6, by decide +kernel, by decide⟩
theorem in_X6_best : Cond.instanceMethod yX6_best ∈ x_good := x_in (List.mem_of_getElem? (i := 663) (by decide +kernel)) rfl
theorem se_X6_best : Cond.selects RX6 yX6_best yX6_best ∈ x_good := x_in (List.mem_of_getElem? (i := 664) (by decide +kernel)) rfl
abbrev mX6_lookAtAll : xM := (RX6, cX6_lookAtAll, 3, none)
theorem ct_X6_lookAtAll : xcal yX6_lookAtAll mX6_lookAtAll 1 := ⟨x_in (List.mem_of_getElem? (i := 669) (by decide +kernel)) rfl, ini_X6, by decide +kernel, by decide⟩
theorem in_X6_lookAtAll : Cond.instanceMethod yX6_lookAtAll ∈ x_good := x_in (List.mem_of_getElem? (i := 668) (by decide +kernel)) rfl
theorem se_X6_lookAtAll : Cond.selects RX6 yX6_lookAtAll yX6_lookAtAll ∈ x_good := x_in (List.mem_of_getElem? (i := 30) (by decide +kernel)) rfl
abbrev mX6_isBest : xM := (RX6, cX6_isBest, 1, (some .boolean))
theorem ct_X6_isBest : xcal yX6_isBest mX6_isBest 0 := ⟨x_in (List.mem_of_getElem? (i := 673) (by decide +kernel)) rfl, ini_X6, by decide +kernel, by decide⟩
theorem in_X6_isBest : Cond.instanceMethod yX6_isBest ∈ x_good := x_in (List.mem_of_getElem? (i := 672) (by decide +kernel)) rfl
theorem se_X6_isBest : Cond.selects RX6 yX6_isBest yX6_isBest ∈ x_good := x_in (List.mem_of_getElem? (i := 31) (by decide +kernel)) rfl
abbrev mX6_look : xM := (RX6, cX6_look, 6, none)
theorem ct_X6_look : xcal yX6_look mX6_look 0 := ⟨x_in (List.mem_of_getElem? (i := 677) (by decide +kernel)) rfl, ini_X6, by decide +kernel, by decide⟩
theorem in_X6_look : Cond.instanceMethod yX6_look ∈ x_good := x_in (List.mem_of_getElem? (i := 676) (by decide +kernel)) rfl
theorem se_X6_look : Cond.selects RX6 yX6_look yX6_look ∈ x_good := x_in (List.mem_of_getElem? (i := 32) (by decide +kernel)) rfl
abbrev mX6_lookAtSteps : xM := (RX6, cX6_lookAtSteps, 4, none)
theorem ct_X6_lookAtSteps : xcal yX6_lookAtSteps mX6_lookAtSteps 0 := ⟨x_in (List.mem_of_getElem? (i := 681) (by decide +kernel)) rfl, ini_X6, by decide +kernel, by decide⟩
theorem in_X6_lookAtSteps : Cond.instanceMethod yX6_lookAtSteps ∈ x_good := x_in (List.mem_of_getElem? (i := 680) (by decide +kernel)) rfl
theorem se_X6_lookAtSteps : Cond.selects RX6 yX6_lookAtSteps yX6_lookAtSteps ∈ x_good := x_in (List.mem_of_getElem? (i := 33) (by decide +kernel)) rfl
abbrev mX6_placeOf : xM := (RX6, cX6_placeOf, 3, (some .int))
theorem ct_X6_placeOf : xcal yX6_placeOf mX6_placeOf 1 := ⟨x_in (List.mem_of_getElem? (i := 685) (by decide +kernel)) rfl, ini_X6, by decide +kernel, by decide⟩
theorem in_X6_placeOf : Cond.instanceMethod yX6_placeOf ∈ x_good := x_in (List.mem_of_getElem? (i := 684) (by decide +kernel)) rfl
theorem se_X6_placeOf : Cond.selects RX6 yX6_placeOf yX6_placeOf ∈ x_good := x_in (List.mem_of_getElem? (i := 34) (by decide +kernel)) rfl
abbrev mX6_keep : xM := (RX6, cX6_keep, 3, none)
theorem ct_X6_keep : xcal yX6_keep mX6_keep 1 := ⟨x_in (List.mem_of_getElem? (i := 689) (by decide +kernel)) rfl, ini_X6, by decide +kernel, by decide⟩
theorem in_X6_keep : Cond.instanceMethod yX6_keep ∈ x_good := x_in (List.mem_of_getElem? (i := 688) (by decide +kernel)) rfl
theorem se_X6_keep : Cond.selects RX6 yX6_keep yX6_keep ∈ x_good := x_in (List.mem_of_getElem? (i := 35) (by decide +kernel)) rfl
abbrev mX6_order : xM := (RX6, cX6_order, 3, (some .int))
theorem ct_X6_order : xcal yX6_order mX6_order 2 := ⟨x_in (List.mem_of_getElem? (i := 693) (by decide +kernel)) rfl, ini_X6, by decide +kernel, by decide⟩
theorem in_X6_order : Cond.instanceMethod yX6_order ∈ x_good := x_in (List.mem_of_getElem? (i := 691) (by decide +kernel)) rfl
theorem se_X6_order : Cond.selects RX6 yX6_order yX6_order ∈ x_good := x_in (List.mem_of_getElem? (i := 692) (by decide +kernel)) rfl
abbrev mX6_beside : xM := (RX6, cX6_beside, 3, (some .int))
theorem ct_X6_beside : xcal yX6_beside mX6_beside 2 := ⟨x_in (List.mem_of_getElem? (i := 697) (by decide +kernel)) rfl, ini_X6, by decide +kernel, by decide⟩
theorem in_X6_beside : Cond.instanceMethod yX6_beside ∈ x_good := x_in (List.mem_of_getElem? (i := 695) (by decide +kernel)) rfl
theorem se_X6_beside : Cond.selects RX6 yX6_beside yX6_beside ∈ x_good := x_in (List.mem_of_getElem? (i := 696) (by decide +kernel)) rfl
abbrev mX6_place : xM := (RX6, cX6_place, 6, (some .int))
theorem ct_X6_place : xcal yX6_place mX6_place 2 := ⟨x_in (List.mem_of_getElem? (i := 701) (by decide +kernel)) rfl, ini_X6, by decide +kernel, by decide⟩
theorem in_X6_place : Cond.instanceMethod yX6_place ∈ x_good := x_in (List.mem_of_getElem? (i := 699) (by decide +kernel)) rfl
theorem se_X6_place : Cond.selects RX6 yX6_place yX6_place ∈ x_good := x_in (List.mem_of_getElem? (i := 700) (by decide +kernel)) rfl
abbrev mX6_before : xM := (RX6, cX6_before, 3, (some .int))
theorem ct_X6_before : xcal yX6_before mX6_before 2 := ⟨x_in (List.mem_of_getElem? (i := 705) (by decide +kernel)) rfl, ini_X6, by decide +kernel, by decide⟩
theorem in_X6_before : Cond.instanceMethod yX6_before ∈ x_good := x_in (List.mem_of_getElem? (i := 703) (by decide +kernel)) rfl
theorem se_X6_before : Cond.selects RX6 yX6_before yX6_before ∈ x_good := x_in (List.mem_of_getElem? (i := 704) (by decide +kernel)) rfl
abbrev mX6_together : xM := (RX6, cX6_together, 4, (some .int))
theorem ct_X6_together : xcal yX6_together mX6_together 1 := ⟨x_in (List.mem_of_getElem? (i := 709) (by decide +kernel)) rfl, ini_X6, by decide +kernel, by decide⟩
theorem in_X6_together : Cond.instanceMethod yX6_together ∈ x_good := x_in (List.mem_of_getElem? (i := 707) (by decide +kernel)) rfl
theorem se_X6_together : Cond.selects RX6 yX6_together yX6_together ∈ x_good := x_in (List.mem_of_getElem? (i := 708) (by decide +kernel)) rfl
abbrev mX6_isTogether : xM := (RX6, cX6_isTogether, 5, (some .boolean))
theorem ct_X6_isTogether : xcal yX6_isTogether mX6_isTogether 1 := ⟨x_in (List.mem_of_getElem? (i := 713) (by decide +kernel)) rfl, ini_X6, by decide +kernel, by decide⟩
theorem in_X6_isTogether : Cond.instanceMethod yX6_isTogether ∈ x_good := x_in (List.mem_of_getElem? (i := 712) (by decide +kernel)) rfl
theorem se_X6_isTogether : Cond.selects RX6 yX6_isTogether yX6_isTogether ∈ x_good := x_in (List.mem_of_getElem? (i := 36) (by decide +kernel)) rfl
abbrev mX6_clump : xM := (RX6, cX6_clump, 4, (some .int))
theorem ct_X6_clump : xcal yX6_clump mX6_clump 1 := ⟨x_in (List.mem_of_getElem? (i := 717) (by decide +kernel)) rfl, ini_X6, by decide +kernel, by decide⟩
theorem in_X6_clump : Cond.instanceMethod yX6_clump ∈ x_good := x_in (List.mem_of_getElem? (i := 715) (by decide +kernel)) rfl
theorem se_X6_clump : Cond.selects RX6 yX6_clump yX6_clump ∈ x_good := x_in (List.mem_of_getElem? (i := 716) (by decide +kernel)) rfl
abbrev mX6_layClumps : xM := (RX6, cX6_layClumps, 3, none)
theorem ct_X6_layClumps : xcal yX6_layClumps mX6_layClumps 0 := ⟨x_in (List.mem_of_getElem? (i := 721) (by decide +kernel)) rfl, ini_X6, by decide +kernel, by decide⟩
theorem in_X6_layClumps : Cond.instanceMethod yX6_layClumps ∈ x_good := x_in (List.mem_of_getElem? (i := 720) (by decide +kernel)) rfl
theorem se_X6_layClumps : Cond.selects RX6 yX6_layClumps yX6_layClumps ∈ x_good := x_in (List.mem_of_getElem? (i := 37) (by decide +kernel)) rfl
abbrev mX6_sort : xM := (RX6, cX6_sort, 5, (some .int))
theorem ct_X6_sort : xcal yX6_sort mX6_sort 2 := ⟨x_in (List.mem_of_getElem? (i := 725) (by decide +kernel)) rfl, ini_X6, by decide +kernel, by decide⟩
theorem in_X6_sort : Cond.instanceMethod yX6_sort ∈ x_good := x_in (List.mem_of_getElem? (i := 723) (by decide +kernel)) rfl
theorem se_X6_sort : Cond.selects RX6 yX6_sort yX6_sort ∈ x_good := x_in (List.mem_of_getElem? (i := 724) (by decide +kernel)) rfl
abbrev mX6_takeRow : xM := (RX6, cX6_takeRow, 2, none)
theorem ct_X6_takeRow : xcal yX6_takeRow mX6_takeRow 0 := ⟨x_in (List.mem_of_getElem? (i := 729) (by decide +kernel)) rfl, ini_X6, by decide +kernel, by decide⟩
theorem in_X6_takeRow : Cond.instanceMethod yX6_takeRow ∈ x_good := x_in (List.mem_of_getElem? (i := 728) (by decide +kernel)) rfl
theorem se_X6_takeRow : Cond.selects RX6 yX6_takeRow yX6_takeRow ∈ x_good := x_in (List.mem_of_getElem? (i := 38) (by decide +kernel)) rfl
abbrev mX6_row : xM := (RX6, cX6_row, 2, (some .int))
theorem ct_X6_row : xcal yX6_row mX6_row 1 := ⟨x_in (List.mem_of_getElem? (i := 733) (by decide +kernel)) rfl, ini_X6, by decide +kernel, by decide⟩
theorem in_X6_row : Cond.instanceMethod yX6_row ∈ x_good := x_in (List.mem_of_getElem? (i := 731) (by decide +kernel)) rfl
theorem se_X6_row : Cond.selects RX6 yX6_row yX6_row ∈ x_good := x_in (List.mem_of_getElem? (i := 732) (by decide +kernel)) rfl
abbrev mX6_breaks : xM := (RX6, cX6_breaks, 2, (some .int))
theorem ct_X6_breaks : xcal yX6_breaks mX6_breaks 1 := ⟨x_in (List.mem_of_getElem? (i := 737) (by decide +kernel)) rfl, ini_X6, by decide +kernel, by decide⟩
theorem in_X6_breaks : Cond.instanceMethod yX6_breaks ∈ x_good := x_in (List.mem_of_getElem? (i := 735) (by decide +kernel)) rfl
theorem se_X6_breaks : Cond.selects RX6 yX6_breaks yX6_breaks ∈ x_good := x_in (List.mem_of_getElem? (i := 736) (by decide +kernel)) rfl
abbrev mX6_swap : xM := (RX6, cX6_swap, 2, (some .int))
theorem ct_X6_swap : xcal yX6_swap mX6_swap 1 := ⟨x_in (List.mem_of_getElem? (i := 741) (by decide +kernel)) rfl, ini_X6, by decide +kernel, by decide⟩
theorem in_X6_swap : Cond.instanceMethod yX6_swap ∈ x_good := x_in (List.mem_of_getElem? (i := 739) (by decide +kernel)) rfl
theorem se_X6_swap : Cond.selects RX6 yX6_swap yX6_swap ∈ x_good := x_in (List.mem_of_getElem? (i := 740) (by decide +kernel)) rfl
abbrev mX6_swapRow : xM := (RX6, cX6_swapRow, 3, none)
theorem ct_X6_swapRow : xcal yX6_swapRow mX6_swapRow 1 := ⟨x_in (List.mem_of_getElem? (i := 745) (by decide +kernel)) rfl, ini_X6, by decide +kernel, by decide⟩
theorem in_X6_swapRow : Cond.instanceMethod yX6_swapRow ∈ x_good := x_in (List.mem_of_getElem? (i := 744) (by decide +kernel)) rfl
theorem se_X6_swapRow : Cond.selects RX6 yX6_swapRow yX6_swapRow ∈ x_good := x_in (List.mem_of_getElem? (i := 39) (by decide +kernel)) rfl
abbrev mX6_rowBreaks : xM := (RX6, cX6_rowBreaks, 1, (some .int))
theorem ct_X6_rowBreaks : xcal yX6_rowBreaks mX6_rowBreaks 0 := ⟨x_in (List.mem_of_getElem? (i := 749) (by decide +kernel)) rfl, ini_X6, by decide +kernel, by decide⟩
theorem in_X6_rowBreaks : Cond.instanceMethod yX6_rowBreaks ∈ x_good := x_in (List.mem_of_getElem? (i := 748) (by decide +kernel)) rfl
theorem se_X6_rowBreaks : Cond.selects RX6 yX6_rowBreaks yX6_rowBreaks ∈ x_good := x_in (List.mem_of_getElem? (i := 40) (by decide +kernel)) rfl
abbrev mX6_better : xM := (RX6, cX6_better, 1, (some .int))
theorem ct_X6_better : xcal yX6_better mX6_better 0 := ⟨x_in (List.mem_of_getElem? (i := 753) (by decide +kernel)) rfl, ini_X6, by decide +kernel, by decide⟩
theorem in_X6_better : Cond.instanceMethod yX6_better ∈ x_good := x_in (List.mem_of_getElem? (i := 751) (by decide +kernel)) rfl
theorem se_X6_better : Cond.selects RX6 yX6_better yX6_better ∈ x_good := x_in (List.mem_of_getElem? (i := 752) (by decide +kernel)) rfl
abbrev mX6_makeBest : xM := (RX6, cX6_makeBest, 5, (some .int))
theorem ct_X6_makeBest : xcal yX6_makeBest mX6_makeBest 0 := ⟨x_in (List.mem_of_getElem? (i := 757) (by decide +kernel)) rfl, ini_X6, by decide +kernel, by decide⟩
theorem in_X6_makeBest : Cond.instanceMethod yX6_makeBest ∈ x_good := x_in (List.mem_of_getElem? (i := 756) (by decide +kernel)) rfl
theorem se_X6_makeBest : Cond.selects RX6 yX6_makeBest yX6_makeBest ∈ x_good := x_in (List.mem_of_getElem? (i := 41) (by decide +kernel)) rfl
abbrev mX6_climb : xM := (RX6, cX6_climb, 2, (some .int))
theorem ct_X6_climb : xcal yX6_climb mX6_climb 0 := ⟨x_in (List.mem_of_getElem? (i := 761) (by decide +kernel)) rfl, ini_X6, by decide +kernel, by decide⟩
theorem in_X6_climb : Cond.instanceMethod yX6_climb ∈ x_good := x_in (List.mem_of_getElem? (i := 759) (by decide +kernel)) rfl
theorem se_X6_climb : Cond.selects RX6 yX6_climb yX6_climb ∈ x_good := x_in (List.mem_of_getElem? (i := 760) (by decide +kernel)) rfl
abbrev mX6_nearest : xM := (RX6, cX6_nearest, 2, (some .int))
theorem ct_X6_nearest : xcal yX6_nearest mX6_nearest 1 := ⟨x_in (List.mem_of_getElem? (i := 765) (by decide +kernel)) rfl, ini_X6, by decide +kernel, by decide⟩
theorem in_X6_nearest : Cond.instanceMethod yX6_nearest ∈ x_good := x_in (List.mem_of_getElem? (i := 763) (by decide +kernel)) rfl
theorem se_X6_nearest : Cond.selects RX6 yX6_nearest yX6_nearest ∈ x_good := x_in (List.mem_of_getElem? (i := 764) (by decide +kernel)) rfl
abbrev mX6_settle : xM := (RX6, cX6_settle, 2, (some .int))
theorem ct_X6_settle : xcal yX6_settle mX6_settle 0 := ⟨x_in (List.mem_of_getElem? (i := 769) (by decide +kernel)) rfl, ini_X6, by decide +kernel, by decide⟩
theorem in_X6_settle : Cond.instanceMethod yX6_settle ∈ x_good := x_in (List.mem_of_getElem? (i := 767) (by decide +kernel)) rfl
theorem se_X6_settle : Cond.selects RX6 yX6_settle yX6_settle ∈ x_good := x_in (List.mem_of_getElem? (i := 768) (by decide +kernel)) rfl
abbrev mX6_count : xM := (RX6, cX6_count, 4, (some .int))
theorem ct_X6_count : xcal yX6_count mX6_count 1 := ⟨x_in (List.mem_of_getElem? (i := 773) (by decide +kernel)) rfl, ini_X6, by decide +kernel, by decide⟩
theorem in_X6_count : Cond.instanceMethod yX6_count ∈ x_good := x_in (List.mem_of_getElem? (i := 771) (by decide +kernel)) rfl
theorem se_X6_count : Cond.selects RX6 yX6_count yX6_count ∈ x_good := x_in (List.mem_of_getElem? (i := 772) (by decide +kernel)) rfl
abbrev mX6_image : xM := (RX6, cX6_image, 3, (some .int))
theorem ct_X6_image : xcal yX6_image mX6_image 1 := ⟨x_in (List.mem_of_getElem? (i := 777) (by decide +kernel)) rfl, ini_X6, by decide +kernel, by decide⟩
theorem in_X6_image : Cond.instanceMethod yX6_image ∈ x_good := x_in (List.mem_of_getElem? (i := 775) (by decide +kernel)) rfl
theorem se_X6_image : Cond.selects RX6 yX6_image yX6_image ∈ x_good := x_in (List.mem_of_getElem? (i := 776) (by decide +kernel)) rfl
abbrev mX6_restore : xM := (RX6, cX6_restore, 3, (some .int))
theorem ct_X6_restore : xcal yX6_restore mX6_restore 1 := ⟨x_in (List.mem_of_getElem? (i := 781) (by decide +kernel)) rfl, ini_X6, by decide +kernel, by decide⟩
theorem in_X6_restore : Cond.instanceMethod yX6_restore ∈ x_good := x_in (List.mem_of_getElem? (i := 779) (by decide +kernel)) rfl
theorem se_X6_restore : Cond.selects RX6 yX6_restore yX6_restore ∈ x_good := x_in (List.mem_of_getElem? (i := 780) (by decide +kernel)) rfl
theorem ml_L_9 : Cond.methodLink RL 9 yX5_init ∈ x_good := x_in (List.mem_of_getElem? (i := 55) (by decide +kernel)) rfl
theorem ml_X5_3 : Cond.methodLink RX5 3 objectInit ∈ x_good := x_in (List.mem_of_getElem? (i := 58) (by decide +kernel)) rfl
theorem ml_X5_11 : Cond.methodLink RX5 11 yX2_init ∈ x_good := x_in (List.mem_of_getElem? (i := 63) (by decide +kernel)) rfl
theorem ml_X2_3 : Cond.methodLink RX2 3 objectInit ∈ x_good := x_in (List.mem_of_getElem? (i := 66) (by decide +kernel)) rfl
theorem ml_X0_3 : Cond.methodLink RX0 3 objectInit ∈ x_good := x_in (List.mem_of_getElem? (i := 96) (by decide +kernel)) rfl
theorem ml_X1_1 : Cond.methodLink RX1 1 objectInit ∈ x_good := x_in (List.mem_of_getElem? (i := 105) (by decide +kernel)) rfl
theorem ml_L_13 : Cond.methodLink RL 13 yX5_many ∈ x_good := x_in (List.mem_of_getElem? (i := 187) (by decide +kernel)) rfl
theorem ml_X5_41 : Cond.methodLink RX5 41 yX2_resize ∈ x_good := x_in (List.mem_of_getElem? (i := 191) (by decide +kernel)) rfl
theorem ml_X5_45 : Cond.methodLink RX5 45 yX5_forgetBest ∈ x_good := x_in (List.mem_of_getElem? (i := 195) (by decide +kernel)) rfl
theorem ml_L_18 : Cond.methodLink RL 18 yX5_find ∈ x_good := x_in (List.mem_of_getElem? (i := 199) (by decide +kernel)) rfl
theorem ml_X5_48 : Cond.methodLink RX5 48 yX5_isGrave ∈ x_good := x_in (List.mem_of_getElem? (i := 203) (by decide +kernel)) rfl
theorem ml_X5_52 : Cond.methodLink RX5 52 yX5_isSort ∈ x_good := x_in (List.mem_of_getElem? (i := 207) (by decide +kernel)) rfl
theorem ml_X5_55 : Cond.methodLink RX5 55 yX5_isOnOrOff ∈ x_good := x_in (List.mem_of_getElem? (i := 210) (by decide +kernel)) rfl
theorem ml_X5_62 : Cond.methodLink RX5 62 yX5_withMember ∈ x_good := x_in (List.mem_of_getElem? (i := 213) (by decide +kernel)) rfl
theorem ml_X5_66 : Cond.methodLink RX5 66 yJ6_bitCount_0f7a4 ∈ x_good := x_in (List.mem_of_getElem? (i := 216) (by decide +kernel)) rfl
theorem ml_L_23 : Cond.methodLink RL 23 yX5_ahead ∈ x_good := x_in (List.mem_of_getElem? (i := 222) (by decide +kernel)) rfl
theorem ml_X5_75 : Cond.methodLink RX5 75 yX5_membersOfAll ∈ x_good := x_in (List.mem_of_getElem? (i := 226) (by decide +kernel)) rfl
theorem ml_L_27 : Cond.methodLink RL 27 yX5_grave ∈ x_good := x_in (List.mem_of_getElem? (i := 229) (by decide +kernel)) rfl
theorem ml_X5_79 : Cond.methodLink RX5 79 yX2_earlierThan ∈ x_good := x_in (List.mem_of_getElem? (i := 233) (by decide +kernel)) rfl
theorem ml_X5_82 : Cond.methodLink RX5 82 yX2_placeInLine ∈ x_good := x_in (List.mem_of_getElem? (i := 240) (by decide +kernel)) rfl
theorem ml_L_32 : Cond.methodLink RL 32 yX5_sort ∈ x_good := x_in (List.mem_of_getElem? (i := 244) (by decide +kernel)) rfl
theorem ml_X5_85 : Cond.methodLink RX5 85 yX2_gravesWith ∈ x_good := x_in (List.mem_of_getElem? (i := 248) (by decide +kernel)) rfl
theorem ml_X5_88 : Cond.methodLink RX5 88 yX2_lineBreaks ∈ x_good := x_in (List.mem_of_getElem? (i := 252) (by decide +kernel)) rfl
theorem ml_X2_35 : Cond.methodLink RX2 35 yJ6_bitCount_0f7a4 ∈ x_good := x_in (List.mem_of_getElem? (i := 256) (by decide +kernel)) rfl
theorem ml_X2_41 : Cond.methodLink RX2 41 yX2_sortsFound ∈ x_good := x_in (List.mem_of_getElem? (i := 257) (by decide +kernel)) rfl
theorem ml_X5_91 : Cond.methodLink RX5 91 yX5_knownBest ∈ x_good := x_in (List.mem_of_getElem? (i := 261) (by decide +kernel)) rfl
theorem ml_X5_183 : Cond.methodLink RX5 183 yX0_search ∈ x_good := x_in (List.mem_of_getElem? (i := 265) (by decide +kernel)) rfl
theorem ml_X0_64 : Cond.methodLink RX0 64 yX0_openAllowed ∈ x_good := x_in (List.mem_of_getElem? (i := 269) (by decide +kernel)) rfl
theorem ml_X0_101 : Cond.methodLink RX0 101 yX0_stateOf ∈ x_good := x_in (List.mem_of_getElem? (i := 274) (by decide +kernel)) rfl
theorem ml_X0_68 : Cond.methodLink RX0 68 yX3_lookAt ∈ x_good := x_in (List.mem_of_getElem? (i := 277) (by decide +kernel)) rfl
theorem ml_X0_72 : Cond.methodLink RX0 72 yX0_costRest ∈ x_good := x_in (List.mem_of_getElem? (i := 281) (by decide +kernel)) rfl
theorem ml_X0_105 : Cond.methodLink RX0 105 yX0_isState ∈ x_good := x_in (List.mem_of_getElem? (i := 285) (by decide +kernel)) rfl
theorem ml_X0_108 : Cond.methodLink RX0 108 yX0_cheapestOn ∈ x_good := x_in (List.mem_of_getElem? (i := 288) (by decide +kernel)) rfl
theorem ml_X0_113 : Cond.methodLink RX0 113 yX0_stateAfter ∈ x_good := x_in (List.mem_of_getElem? (i := 293) (by decide +kernel)) rfl
theorem ml_X0_116 : Cond.methodLink RX0 116 y_CostNext ∈ x_good := x_in (List.mem_of_getElem? (i := 296) (by decide +kernel)) rfl
theorem ml_X3_18 : Cond.methodLink RX3 18 yJ6_bitCount_0f7a4 ∈ x_good := x_in (List.mem_of_getElem? (i := 302) (by decide +kernel)) rfl
theorem ml_X4_24 : Cond.methodLink RX4 24 yJ6_bitCount_0f7a4 ∈ x_good := x_in (List.mem_of_getElem? (i := 306) (by decide +kernel)) rfl
theorem ml_X0_122 : Cond.methodLink RX0 122 Lib.Math.min.name ∈ x_good := x_in (List.mem_of_getElem? (i := 307) (by decide +kernel)) rfl
theorem ml_X0_76 : Cond.methodLink RX0 76 yX2_sortsFound ∈ x_good := x_in (List.mem_of_getElem? (i := 310) (by decide +kernel)) rfl
theorem ml_X0_80 : Cond.methodLink RX0 80 yJ6_bitCount_0f7a4 ∈ x_good := x_in (List.mem_of_getElem? (i := 311) (by decide +kernel)) rfl
theorem ml_X0_89 : Cond.methodLink RX0 89 yX0_keepCheapest ∈ x_good := x_in (List.mem_of_getElem? (i := 312) (by decide +kernel)) rfl
theorem ml_X0_127 : Cond.methodLink RX0 127 yX0_cheapestNext ∈ x_good := x_in (List.mem_of_getElem? (i := 316) (by decide +kernel)) rfl
theorem ml_X0_92 : Cond.methodLink RX0 92 yX0_countWaysOn ∈ x_good := x_in (List.mem_of_getElem? (i := 320) (by decide +kernel)) rfl
theorem ml_X0_130 : Cond.methodLink RX0 130 yX0_sumOver ∈ x_good := x_in (List.mem_of_getElem? (i := 324) (by decide +kernel)) rfl
theorem ml_X0_95 : Cond.methodLink RX0 95 yX0_countWaysTo ∈ x_good := x_in (List.mem_of_getElem? (i := 328) (by decide +kernel)) rfl
theorem ml_X0_134 : Cond.methodLink RX0 134 yX0_total ∈ x_good := x_in (List.mem_of_getElem? (i := 332) (by decide +kernel)) rfl
theorem ml_X0_137 : Cond.methodLink RX0 137 yX0_passOn ∈ x_good := x_in (List.mem_of_getElem? (i := 336) (by decide +kernel)) rfl
theorem ml_X5_95 : Cond.methodLink RX5 95 yX0_fewestBreaksOf ∈ x_good := x_in (List.mem_of_getElem? (i := 340) (by decide +kernel)) rfl
theorem ml_X0_157 : Cond.methodLink RX0 157 yX2_gravesWith ∈ x_good := x_in (List.mem_of_getElem? (i := 344) (by decide +kernel)) rfl
theorem ml_L_36 : Cond.methodLink RL 36 yX5_alike ∈ x_good := x_in (List.mem_of_getElem? (i := 345) (by decide +kernel)) rfl
theorem ml_L_40 : Cond.methodLink RL 40 yX5_least ∈ x_good := x_in (List.mem_of_getElem? (i := 349) (by decide +kernel)) rfl
theorem ml_X5_99 : Cond.methodLink RX5 99 yX0_total ∈ x_good := x_in (List.mem_of_getElem? (i := 353) (by decide +kernel)) rfl
theorem ml_L_45 : Cond.methodLink RL 45 yX5_best ∈ x_good := x_in (List.mem_of_getElem? (i := 354) (by decide +kernel)) rfl
theorem ml_L_49 : Cond.methodLink RL 49 yX5_order ∈ x_good := x_in (List.mem_of_getElem? (i := 358) (by decide +kernel)) rfl
theorem ml_X5_106 : Cond.methodLink RX5 106 yX5_isPlace ∈ x_good := x_in (List.mem_of_getElem? (i := 362) (by decide +kernel)) rfl
theorem ml_X5_109 : Cond.methodLink RX5 109 yX0_graveAt ∈ x_good := x_in (List.mem_of_getElem? (i := 366) (by decide +kernel)) rfl
theorem ml_L_53 : Cond.methodLink RL 53 yX5_beside ∈ x_good := x_in (List.mem_of_getElem? (i := 370) (by decide +kernel)) rfl
theorem ml_X5_113 : Cond.methodLink RX5 113 yX0_neighboursOf ∈ x_good := x_in (List.mem_of_getElem? (i := 374) (by decide +kernel)) rfl
theorem ml_X0_141 : Cond.methodLink RX0 141 yX0_ordersWithNext ∈ x_good := x_in (List.mem_of_getElem? (i := 378) (by decide +kernel)) rfl
theorem ml_L_57 : Cond.methodLink RL 57 yX5_place ∈ x_good := x_in (List.mem_of_getElem? (i := 382) (by decide +kernel)) rfl
theorem ml_X5_116 : Cond.methodLink RX5 116 yX0_leastPlaceOf ∈ x_good := x_in (List.mem_of_getElem? (i := 386) (by decide +kernel)) rfl
theorem ml_X0_144 : Cond.methodLink RX0 144 yX0_ordersWithAt ∈ x_good := x_in (List.mem_of_getElem? (i := 390) (by decide +kernel)) rfl
theorem ml_X0_147 : Cond.methodLink RX0 147 yX0_ordersBy ∈ x_good := x_in (List.mem_of_getElem? (i := 394) (by decide +kernel)) rfl
theorem ml_X5_119 : Cond.methodLink RX5 119 yX0_greatestPlaceOf ∈ x_good := x_in (List.mem_of_getElem? (i := 398) (by decide +kernel)) rfl
theorem ml_X5_122 : Cond.methodLink RX5 122 yX0_ordersWithAt ∈ x_good := x_in (List.mem_of_getElem? (i := 402) (by decide +kernel)) rfl
theorem ml_L_61 : Cond.methodLink RL 61 yX5_before ∈ x_good := x_in (List.mem_of_getElem? (i := 403) (by decide +kernel)) rfl
theorem ml_X5_125 : Cond.methodLink RX5 125 yX0_ordersWithFirst ∈ x_good := x_in (List.mem_of_getElem? (i := 407) (by decide +kernel)) rfl
theorem ml_L_65 : Cond.methodLink RL 65 yX5_together ∈ x_good := x_in (List.mem_of_getElem? (i := 411) (by decide +kernel)) rfl
theorem ml_X5_128 : Cond.methodLink RX5 128 yX0_ordersWithTogether ∈ x_good := x_in (List.mem_of_getElem? (i := 415) (by decide +kernel)) rfl
theorem ml_X0_150 : Cond.methodLink RX0 150 yX0_nextThatPart ∈ x_good := x_in (List.mem_of_getElem? (i := 419) (by decide +kernel)) rfl
theorem ml_L_69 : Cond.methodLink RL 69 yX5_clump ∈ x_good := x_in (List.mem_of_getElem? (i := 422) (by decide +kernel)) rfl
theorem ml_X5_131 : Cond.methodLink RX5 131 yX0_gatherClumps ∈ x_good := x_in (List.mem_of_getElem? (i := 426) (by decide +kernel)) rfl
theorem ml_X0_153 : Cond.methodLink RX0 153 yX0_liesTogetherInAll ∈ x_good := x_in (List.mem_of_getElem? (i := 430) (by decide +kernel)) rfl
theorem ml_L_73 : Cond.methodLink RL 73 yX5_row ∈ x_good := x_in (List.mem_of_getElem? (i := 434) (by decide +kernel)) rfl
theorem ml_L_77 : Cond.methodLink RL 77 yX5_breaks ∈ x_good := x_in (List.mem_of_getElem? (i := 438) (by decide +kernel)) rfl
theorem ml_X5_143 : Cond.methodLink RX5 143 yX2_lineIsAllowed ∈ x_good := x_in (List.mem_of_getElem? (i := 442) (by decide +kernel)) rfl
theorem ml_X5_147 : Cond.methodLink RX5 147 yX5_lineIsBest ∈ x_good := x_in (List.mem_of_getElem? (i := 446) (by decide +kernel)) rfl
theorem ml_L_81 : Cond.methodLink RL 81 yX5_swap ∈ x_good := x_in (List.mem_of_getElem? (i := 450) (by decide +kernel)) rfl
theorem ml_X5_150 : Cond.methodLink RX5 150 yX2_exchange ∈ x_good := x_in (List.mem_of_getElem? (i := 454) (by decide +kernel)) rfl
theorem ml_L_85 : Cond.methodLink RL 85 yX5_better ∈ x_good := x_in (List.mem_of_getElem? (i := 458) (by decide +kernel)) rfl
theorem ml_X5_153 : Cond.methodLink RX5 153 yX5_makeBestSwap ∈ x_good := x_in (List.mem_of_getElem? (i := 462) (by decide +kernel)) rfl
theorem ml_X5_189 : Cond.methodLink RX5 189 yX2_bestExchange ∈ x_good := x_in (List.mem_of_getElem? (i := 466) (by decide +kernel)) rfl
theorem ml_X2_45 : Cond.methodLink RX2 45 yX2_lineBreaks ∈ x_good := x_in (List.mem_of_getElem? (i := 470) (by decide +kernel)) rfl
theorem ml_X2_48 : Cond.methodLink RX2 48 yX2_exchange ∈ x_good := x_in (List.mem_of_getElem? (i := 471) (by decide +kernel)) rfl
theorem ml_L_89 : Cond.methodLink RL 89 yX5_climb ∈ x_good := x_in (List.mem_of_getElem? (i := 472) (by decide +kernel)) rfl
theorem ml_L_93 : Cond.methodLink RL 93 yX5_nearest ∈ x_good := x_in (List.mem_of_getElem? (i := 476) (by decide +kernel)) rfl
theorem ml_X5_156 : Cond.methodLink RX5 156 yX5_knowWay ∈ x_good := x_in (List.mem_of_getElem? (i := 480) (by decide +kernel)) rfl
theorem ml_X5_186 : Cond.methodLink RX5 186 yX0_seekGoal ∈ x_good := x_in (List.mem_of_getElem? (i := 484) (by decide +kernel)) rfl
theorem ml_X0_160 : Cond.methodLink RX0 160 yX4_lookAt ∈ x_good := x_in (List.mem_of_getElem? (i := 488) (by decide +kernel)) rfl
theorem ml_X0_165 : Cond.methodLink RX0 165 yX0_leastMember ∈ x_good := x_in (List.mem_of_getElem? (i := 492) (by decide +kernel)) rfl
theorem ml_L_97 : Cond.methodLink RL 97 yX5_settle ∈ x_good := x_in (List.mem_of_getElem? (i := 495) (by decide +kernel)) rfl
theorem ml_X5_166 : Cond.methodLink RX5 166 arraycopyName ∈ x_good := x_in (List.mem_of_getElem? (i := 499) (by decide +kernel)) rfl
theorem ml_L_101 : Cond.methodLink RL 101 yX5_count ∈ x_good := x_in (List.mem_of_getElem? (i := 502) (by decide +kernel)) rfl
theorem ml_L_105 : Cond.methodLink RL 105 yX5_image ∈ x_good := x_in (List.mem_of_getElem? (i := 506) (by decide +kernel)) rfl
theorem ml_X5_172 : Cond.methodLink RX5 172 yX5_isImage ∈ x_good := x_in (List.mem_of_getElem? (i := 510) (by decide +kernel)) rfl
theorem ml_X5_175 : Cond.methodLink RX5 175 yX2_become ∈ x_good := x_in (List.mem_of_getElem? (i := 513) (by decide +kernel)) rfl
theorem ml_X2_25 : Cond.methodLink RX2 25 arraycopyName ∈ x_good := x_in (List.mem_of_getElem? (i := 517) (by decide +kernel)) rfl
theorem ml_L_109 : Cond.methodLink RL 109 yX5_restore ∈ x_good := x_in (List.mem_of_getElem? (i := 518) (by decide +kernel)) rfl
theorem ml_X5_179 : Cond.methodLink RX5 179 yX5_isMember ∈ x_good := x_in (List.mem_of_getElem? (i := 522) (by decide +kernel)) rfl
theorem ml_L_12 : Cond.methodLink RL 12 yX6_init ∈ x_good := x_in (List.mem_of_getElem? (i := 525) (by decide +kernel)) rfl
theorem ml_X6_1 : Cond.methodLink RX6 1 objectInit ∈ x_good := x_in (List.mem_of_getElem? (i := 528) (by decide +kernel)) rfl
theorem ml_X6_47 : Cond.methodLink RX6 47 yX6_resetRow ∈ x_good := x_in (List.mem_of_getElem? (i := 529) (by decide +kernel)) rfl
theorem ml_L_17 : Cond.methodLink RL 17 yX6_many ∈ x_good := x_in (List.mem_of_getElem? (i := 586) (by decide +kernel)) rfl
theorem ml_X6_50 : Cond.methodLink RX6 50 yX6_in ∈ x_good := x_in (List.mem_of_getElem? (i := 590) (by decide +kernel)) rfl
theorem ml_L_22 : Cond.methodLink RL 22 yX6_find ∈ x_good := x_in (List.mem_of_getElem? (i := 593) (by decide +kernel)) rfl
theorem ml_X6_58 : Cond.methodLink RX6 58 yX6_isGrave ∈ x_good := x_in (List.mem_of_getElem? (i := 597) (by decide +kernel)) rfl
theorem ml_X6_62 : Cond.methodLink RX6 62 yX6_isSort ∈ x_good := x_in (List.mem_of_getElem? (i := 601) (by decide +kernel)) rfl
theorem ml_X6_65 : Cond.methodLink RX6 65 yX6_bits ∈ x_good := x_in (List.mem_of_getElem? (i := 604) (by decide +kernel)) rfl
theorem ml_L_26 : Cond.methodLink RL 26 yX6_ahead ∈ x_good := x_in (List.mem_of_getElem? (i := 607) (by decide +kernel)) rfl
theorem ml_X6_69 : Cond.methodLink RX6 69 yX6_knownPairs ∈ x_good := x_in (List.mem_of_getElem? (i := 611) (by decide +kernel)) rfl
theorem ml_L_31 : Cond.methodLink RL 31 yX6_grave ∈ x_good := x_in (List.mem_of_getElem? (i := 615) (by decide +kernel)) rfl
theorem ml_X6_73 : Cond.methodLink RX6 73 yX6_has ∈ x_good := x_in (List.mem_of_getElem? (i := 619) (by decide +kernel)) rfl
theorem ml_X6_77 : Cond.methodLink RX6 77 yX6_placeInRow ∈ x_good := x_in (List.mem_of_getElem? (i := 622) (by decide +kernel)) rfl
theorem ml_L_39 : Cond.methodLink RL 39 yX6_alike ∈ x_good := x_in (List.mem_of_getElem? (i := 626) (by decide +kernel)) rfl
theorem ml_L_44 : Cond.methodLink RL 44 yX6_least ∈ x_good := x_in (List.mem_of_getElem? (i := 630) (by decide +kernel)) rfl
theorem ml_X6_104 : Cond.methodLink RX6 104 yX6_layFewest ∈ x_good := x_in (List.mem_of_getElem? (i := 634) (by decide +kernel)) rfl
theorem ml_X6_91 : Cond.methodLink RX6 91 yX6_begin ∈ x_good := x_in (List.mem_of_getElem? (i := 638) (by decide +kernel)) rfl
theorem ml_X6_94 : Cond.methodLink RX6 94 yX6_isAllowed ∈ x_good := x_in (List.mem_of_getElem? (i := 642) (by decide +kernel)) rfl
theorem ml_X6_98 : Cond.methodLink RX6 98 yX6_breaksNow ∈ x_good := x_in (List.mem_of_getElem? (i := 646) (by decide +kernel)) rfl
theorem ml_X6_80 : Cond.methodLink RX6 80 yX6_breaksOf ∈ x_good := x_in (List.mem_of_getElem? (i := 650) (by decide +kernel)) rfl
theorem ml_X6_101 : Cond.methodLink RX6 101 yX6_goOn ∈ x_good := x_in (List.mem_of_getElem? (i := 654) (by decide +kernel)) rfl
theorem ml_X6_83 : Cond.methodLink RX6 83 yX6_change ∈ x_good := x_in (List.mem_of_getElem? (i := 658) (by decide +kernel)) rfl
theorem ml_L_48 : Cond.methodLink RL 48 yX6_best ∈ x_good := x_in (List.mem_of_getElem? (i := 662) (by decide +kernel)) rfl
theorem ml_X6_132 : Cond.methodLink RX6 132 yX6_lookAtAll ∈ x_good := x_in (List.mem_of_getElem? (i := 666) (by decide +kernel)) rfl
theorem ml_X6_126 : Cond.methodLink RX6 126 yX6_isBest ∈ x_good := x_in (List.mem_of_getElem? (i := 670) (by decide +kernel)) rfl
theorem ml_X6_129 : Cond.methodLink RX6 129 yX6_look ∈ x_good := x_in (List.mem_of_getElem? (i := 674) (by decide +kernel)) rfl
theorem ml_X6_110 : Cond.methodLink RX6 110 yX6_lookAtSteps ∈ x_good := x_in (List.mem_of_getElem? (i := 678) (by decide +kernel)) rfl
theorem ml_X6_120 : Cond.methodLink RX6 120 yX6_placeOf ∈ x_good := x_in (List.mem_of_getElem? (i := 682) (by decide +kernel)) rfl
theorem ml_X6_116 : Cond.methodLink RX6 116 yX6_keep ∈ x_good := x_in (List.mem_of_getElem? (i := 686) (by decide +kernel)) rfl
theorem ml_L_52 : Cond.methodLink RL 52 yX6_order ∈ x_good := x_in (List.mem_of_getElem? (i := 690) (by decide +kernel)) rfl
theorem ml_L_56 : Cond.methodLink RL 56 yX6_beside ∈ x_good := x_in (List.mem_of_getElem? (i := 694) (by decide +kernel)) rfl
theorem ml_L_60 : Cond.methodLink RL 60 yX6_place ∈ x_good := x_in (List.mem_of_getElem? (i := 698) (by decide +kernel)) rfl
theorem ml_L_64 : Cond.methodLink RL 64 yX6_before ∈ x_good := x_in (List.mem_of_getElem? (i := 702) (by decide +kernel)) rfl
theorem ml_L_68 : Cond.methodLink RL 68 yX6_together ∈ x_good := x_in (List.mem_of_getElem? (i := 706) (by decide +kernel)) rfl
theorem ml_X6_136 : Cond.methodLink RX6 136 yX6_isTogether ∈ x_good := x_in (List.mem_of_getElem? (i := 710) (by decide +kernel)) rfl
theorem ml_L_72 : Cond.methodLink RL 72 yX6_clump ∈ x_good := x_in (List.mem_of_getElem? (i := 714) (by decide +kernel)) rfl
theorem ml_X6_139 : Cond.methodLink RX6 139 yX6_layClumps ∈ x_good := x_in (List.mem_of_getElem? (i := 718) (by decide +kernel)) rfl
theorem ml_L_35 : Cond.methodLink RL 35 yX6_sort ∈ x_good := x_in (List.mem_of_getElem? (i := 722) (by decide +kernel)) rfl
theorem ml_X6_142 : Cond.methodLink RX6 142 yX6_takeRow ∈ x_good := x_in (List.mem_of_getElem? (i := 726) (by decide +kernel)) rfl
theorem ml_L_76 : Cond.methodLink RL 76 yX6_row ∈ x_good := x_in (List.mem_of_getElem? (i := 730) (by decide +kernel)) rfl
theorem ml_L_80 : Cond.methodLink RL 80 yX6_breaks ∈ x_good := x_in (List.mem_of_getElem? (i := 734) (by decide +kernel)) rfl
theorem ml_L_84 : Cond.methodLink RL 84 yX6_swap ∈ x_good := x_in (List.mem_of_getElem? (i := 738) (by decide +kernel)) rfl
theorem ml_X6_145 : Cond.methodLink RX6 145 yX6_swapRow ∈ x_good := x_in (List.mem_of_getElem? (i := 742) (by decide +kernel)) rfl
theorem ml_X6_148 : Cond.methodLink RX6 148 yX6_rowBreaks ∈ x_good := x_in (List.mem_of_getElem? (i := 746) (by decide +kernel)) rfl
theorem ml_L_88 : Cond.methodLink RL 88 yX6_better ∈ x_good := x_in (List.mem_of_getElem? (i := 750) (by decide +kernel)) rfl
theorem ml_X6_151 : Cond.methodLink RX6 151 yX6_makeBest ∈ x_good := x_in (List.mem_of_getElem? (i := 754) (by decide +kernel)) rfl
theorem ml_L_92 : Cond.methodLink RL 92 yX6_climb ∈ x_good := x_in (List.mem_of_getElem? (i := 758) (by decide +kernel)) rfl
theorem ml_L_96 : Cond.methodLink RL 96 yX6_nearest ∈ x_good := x_in (List.mem_of_getElem? (i := 762) (by decide +kernel)) rfl
theorem ml_L_100 : Cond.methodLink RL 100 yX6_settle ∈ x_good := x_in (List.mem_of_getElem? (i := 766) (by decide +kernel)) rfl
theorem ml_L_104 : Cond.methodLink RL 104 yX6_count ∈ x_good := x_in (List.mem_of_getElem? (i := 770) (by decide +kernel)) rfl
theorem ml_L_108 : Cond.methodLink RL 108 yX6_image ∈ x_good := x_in (List.mem_of_getElem? (i := 774) (by decide +kernel)) rfl
theorem ml_L_112 : Cond.methodLink RL 112 yX6_restore ∈ x_good := x_in (List.mem_of_getElem? (i := 778) (by decide +kernel)) rfl
theorem fl_X2_9 : Cond.fieldLink RX2 9 (TX2 0).1 (TX2 0).2.1 (TX2 0).2.2.1 ∈ x_good := x_in (List.mem_of_getElem? (i := 67) (by decide +kernel)) rfl
theorem fl_X4_15 : Cond.fieldLink RX4 15 (TX2 0).1 (TX2 0).2.1 (TX2 0).2.2.1 ∈ x_good := x_in (List.mem_of_getElem? (i := 68) (by decide +kernel)) rfl
theorem fl_X5_38 : Cond.fieldLink RX5 38 (TX2 0).1 (TX2 0).2.1 (TX2 0).2.2.1 ∈ x_good := x_in (List.mem_of_getElem? (i := 69) (by decide +kernel)) rfl
theorem fl_X0_51 : Cond.fieldLink RX0 51 (TX2 0).1 (TX2 0).2.1 (TX2 0).2.2.1 ∈ x_good := x_in (List.mem_of_getElem? (i := 70) (by decide +kernel)) rfl
theorem fl_X2_15 : Cond.fieldLink RX2 15 (TX2 1).1 (TX2 1).2.1 (TX2 1).2.2.1 ∈ x_good := x_in (List.mem_of_getElem? (i := 71) (by decide +kernel)) rfl
theorem fl_X3_15 : Cond.fieldLink RX3 15 (TX2 1).1 (TX2 1).2.1 (TX2 1).2.2.1 ∈ x_good := x_in (List.mem_of_getElem? (i := 72) (by decide +kernel)) rfl
theorem fl_X5_58 : Cond.fieldLink RX5 58 (TX2 1).1 (TX2 1).2.1 (TX2 1).2.2.1 ∈ x_good := x_in (List.mem_of_getElem? (i := 73) (by decide +kernel)) rfl
theorem fl_X2_19 : Cond.fieldLink RX2 19 (TX2 2).1 (TX2 2).2.1 (TX2 2).2.2.1 ∈ x_good := x_in (List.mem_of_getElem? (i := 74) (by decide +kernel)) rfl
theorem fl_X5_72 : Cond.fieldLink RX5 72 (TX2 2).1 (TX2 2).2.1 (TX2 2).2.2.1 ∈ x_good := x_in (List.mem_of_getElem? (i := 75) (by decide +kernel)) rfl
theorem fl_X0_98 : Cond.fieldLink RX0 98 (TX2 2).1 (TX2 2).2.1 (TX2 2).2.2.1 ∈ x_good := x_in (List.mem_of_getElem? (i := 76) (by decide +kernel)) rfl
theorem fl_X2_22 : Cond.fieldLink RX2 22 (TX2 3).1 (TX2 3).2.1 (TX2 3).2.2.1 ∈ x_good := x_in (List.mem_of_getElem? (i := 77) (by decide +kernel)) rfl
theorem fl_X4_21 : Cond.fieldLink RX4 21 (TX2 3).1 (TX2 3).2.1 (TX2 3).2.2.1 ∈ x_good := x_in (List.mem_of_getElem? (i := 78) (by decide +kernel)) rfl
theorem fl_X5_140 : Cond.fieldLink RX5 140 (TX2 3).1 (TX2 3).2.1 (TX2 3).2.2.1 ∈ x_good := x_in (List.mem_of_getElem? (i := 79) (by decide +kernel)) rfl
theorem fl_X3_9 : Cond.fieldLink RX3 9 (TX3 0).1 (TX3 0).2.1 (TX3 0).2.2.1 ∈ x_good := x_in (List.mem_of_getElem? (i := 106) (by decide +kernel)) rfl
theorem fl_X4_9 : Cond.fieldLink RX4 9 (TX4 0).1 (TX4 0).2.1 (TX4 0).2.2.1 ∈ x_good := x_in (List.mem_of_getElem? (i := 116) (by decide +kernel)) rfl
theorem fl_X0_57 : Cond.fieldLink RX0 57 (TX0 0).1 (TX0 0).2.1 (TX0 0).2.2.1 ∈ x_good := x_in (List.mem_of_getElem? (i := 120) (by decide +kernel)) rfl
theorem fl_X0_58 : Cond.fieldLink RX0 58 (TX0 1).1 (TX0 1).2.1 (TX0 1).2.2.1 ∈ x_good := x_in (List.mem_of_getElem? (i := 121) (by decide +kernel)) rfl
theorem fl_X0_86 : Cond.fieldLink RX0 86 (TX0 2).1 (TX0 2).2.1 (TX0 2).2.2.1 ∈ x_good := x_in (List.mem_of_getElem? (i := 122) (by decide +kernel)) rfl
theorem fl_X5_103 : Cond.fieldLink RX5 103 (TX0 2).1 (TX0 2).2.1 (TX0 2).2.2.1 ∈ x_good := x_in (List.mem_of_getElem? (i := 123) (by decide +kernel)) rfl
theorem fl_X0_61 : Cond.fieldLink RX0 61 (TX0 3).1 (TX0 3).2.1 (TX0 3).2.2.1 ∈ x_good := x_in (List.mem_of_getElem? (i := 124) (by decide +kernel)) rfl
theorem fl_X5_134 : Cond.fieldLink RX5 134 (TX0 3).1 (TX0 3).2.1 (TX0 3).2.2.1 ∈ x_good := x_in (List.mem_of_getElem? (i := 125) (by decide +kernel)) rfl
theorem fl_X5_160 : Cond.fieldLink RX5 160 (TX0 4).1 (TX0 4).2.1 (TX0 4).2.2.1 ∈ x_good := x_in (List.mem_of_getElem? (i := 126) (by decide +kernel)) rfl
theorem fl_X0_162 : Cond.fieldLink RX0 162 (TX0 4).1 (TX0 4).2.1 (TX0 4).2.2.1 ∈ x_good := x_in (List.mem_of_getElem? (i := 127) (by decide +kernel)) rfl
theorem fl_X0_9 : Cond.fieldLink RX0 9 (TX0 5).1 (TX0 5).2.1 (TX0 5).2.2.1 ∈ x_good := x_in (List.mem_of_getElem? (i := 128) (by decide +kernel)) rfl
theorem fl_X0_15 : Cond.fieldLink RX0 15 (TX0 6).1 (TX0 6).2.1 (TX0 6).2.2.1 ∈ x_good := x_in (List.mem_of_getElem? (i := 129) (by decide +kernel)) rfl
theorem fl_X0_18 : Cond.fieldLink RX0 18 (TX0 7).1 (TX0 7).2.1 (TX0 7).2.2.1 ∈ x_good := x_in (List.mem_of_getElem? (i := 130) (by decide +kernel)) rfl
theorem fl_X0_21 : Cond.fieldLink RX0 21 (TX0 8).1 (TX0 8).2.1 (TX0 8).2.2.1 ∈ x_good := x_in (List.mem_of_getElem? (i := 131) (by decide +kernel)) rfl
theorem fl_X0_24 : Cond.fieldLink RX0 24 (TX0 9).1 (TX0 9).2.1 (TX0 9).2.2.1 ∈ x_good := x_in (List.mem_of_getElem? (i := 132) (by decide +kernel)) rfl
theorem fl_X0_27 : Cond.fieldLink RX0 27 (TX0 10).1 (TX0 10).2.1 (TX0 10).2.2.1 ∈ x_good := x_in (List.mem_of_getElem? (i := 133) (by decide +kernel)) rfl
theorem fl_X5_137 : Cond.fieldLink RX5 137 (TX0 10).1 (TX0 10).2.1 (TX0 10).2.2.1 ∈ x_good := x_in (List.mem_of_getElem? (i := 134) (by decide +kernel)) rfl
theorem fl_X0_30 : Cond.fieldLink RX0 30 (TX0 11).1 (TX0 11).2.1 (TX0 11).2.2.1 ∈ x_good := x_in (List.mem_of_getElem? (i := 135) (by decide +kernel)) rfl
theorem fl_X5_163 : Cond.fieldLink RX5 163 (TX0 11).1 (TX0 11).2.1 (TX0 11).2.2.1 ∈ x_good := x_in (List.mem_of_getElem? (i := 136) (by decide +kernel)) rfl
theorem fl_X0_36 : Cond.fieldLink RX0 36 (TX0 12).1 (TX0 12).2.1 (TX0 12).2.2.1 ∈ x_good := x_in (List.mem_of_getElem? (i := 137) (by decide +kernel)) rfl
theorem fl_X0_43 : Cond.fieldLink RX0 43 (TX0 13).1 (TX0 13).2.1 (TX0 13).2.2.1 ∈ x_good := x_in (List.mem_of_getElem? (i := 138) (by decide +kernel)) rfl
theorem fl_X5_12 : Cond.fieldLink RX5 12 (TX5 0).1 (TX5 0).2.1 (TX5 0).2.2.1 ∈ x_good := x_in (List.mem_of_getElem? (i := 168) (by decide +kernel)) rfl
theorem fl_X5_16 : Cond.fieldLink RX5 16 (TX5 1).1 (TX5 1).2.1 (TX5 1).2.2.1 ∈ x_good := x_in (List.mem_of_getElem? (i := 169) (by decide +kernel)) rfl
theorem fl_X5_20 : Cond.fieldLink RX5 20 (TX5 2).1 (TX5 2).2.1 (TX5 2).2.2.1 ∈ x_good := x_in (List.mem_of_getElem? (i := 170) (by decide +kernel)) rfl
theorem fl_X5_27 : Cond.fieldLink RX5 27 (TX5 3).1 (TX5 3).2.1 (TX5 3).2.2.1 ∈ x_good := x_in (List.mem_of_getElem? (i := 171) (by decide +kernel)) rfl
theorem fl_X5_31 : Cond.fieldLink RX5 31 (TX5 4).1 (TX5 4).2.1 (TX5 4).2.2.1 ∈ x_good := x_in (List.mem_of_getElem? (i := 172) (by decide +kernel)) rfl
theorem fl_X5_35 : Cond.fieldLink RX5 35 (TX5 5).1 (TX5 5).2.1 (TX5 5).2.2.1 ∈ x_good := x_in (List.mem_of_getElem? (i := 173) (by decide +kernel)) rfl
theorem fl_X6_7 : Cond.fieldLink RX6 7 (TX6 0).1 (TX6 0).2.1 (TX6 0).2.2.1 ∈ x_good := x_in (List.mem_of_getElem? (i := 533) (by decide +kernel)) rfl
theorem fl_X6_13 : Cond.fieldLink RX6 13 (TX6 1).1 (TX6 1).2.1 (TX6 1).2.2.1 ∈ x_good := x_in (List.mem_of_getElem? (i := 534) (by decide +kernel)) rfl
theorem fl_X6_16 : Cond.fieldLink RX6 16 (TX6 2).1 (TX6 2).2.1 (TX6 2).2.2.1 ∈ x_good := x_in (List.mem_of_getElem? (i := 535) (by decide +kernel)) rfl
theorem fl_X6_20 : Cond.fieldLink RX6 20 (TX6 3).1 (TX6 3).2.1 (TX6 3).2.2.1 ∈ x_good := x_in (List.mem_of_getElem? (i := 536) (by decide +kernel)) rfl
theorem fl_X6_54 : Cond.fieldLink RX6 54 (TX6 4).1 (TX6 4).2.1 (TX6 4).2.2.1 ∈ x_good := x_in (List.mem_of_getElem? (i := 537) (by decide +kernel)) rfl
theorem fl_X6_87 : Cond.fieldLink RX6 87 (TX6 5).1 (TX6 5).2.1 (TX6 5).2.2.1 ∈ x_good := x_in (List.mem_of_getElem? (i := 538) (by decide +kernel)) rfl
theorem fl_X6_107 : Cond.fieldLink RX6 107 (TX6 6).1 (TX6 6).2.1 (TX6 6).2.2.1 ∈ x_good := x_in (List.mem_of_getElem? (i := 539) (by decide +kernel)) rfl
theorem fl_X6_113 : Cond.fieldLink RX6 113 (TX6 7).1 (TX6 7).2.1 (TX6 7).2.2.1 ∈ x_good := x_in (List.mem_of_getElem? (i := 540) (by decide +kernel)) rfl
theorem fl_X6_23 : Cond.fieldLink RX6 23 (TX6 8).1 (TX6 8).2.1 (TX6 8).2.2.1 ∈ x_good := x_in (List.mem_of_getElem? (i := 541) (by decide +kernel)) rfl
theorem fl_X6_26 : Cond.fieldLink RX6 26 (TX6 9).1 (TX6 9).2.1 (TX6 9).2.2.1 ∈ x_good := x_in (List.mem_of_getElem? (i := 542) (by decide +kernel)) rfl
theorem fl_X6_29 : Cond.fieldLink RX6 29 (TX6 10).1 (TX6 10).2.1 (TX6 10).2.2.1 ∈ x_good := x_in (List.mem_of_getElem? (i := 543) (by decide +kernel)) rfl
theorem fl_X6_32 : Cond.fieldLink RX6 32 (TX6 11).1 (TX6 11).2.1 (TX6 11).2.2.1 ∈ x_good := x_in (List.mem_of_getElem? (i := 544) (by decide +kernel)) rfl
theorem fl_X6_35 : Cond.fieldLink RX6 35 (TX6 12).1 (TX6 12).2.1 (TX6 12).2.2.1 ∈ x_good := x_in (List.mem_of_getElem? (i := 545) (by decide +kernel)) rfl
theorem fl_X6_38 : Cond.fieldLink RX6 38 (TX6 13).1 (TX6 13).2.1 (TX6 13).2.2.1 ∈ x_good := x_in (List.mem_of_getElem? (i := 546) (by decide +kernel)) rfl
theorem fl_X6_41 : Cond.fieldLink RX6 41 (TX6 14).1 (TX6 14).2.1 (TX6 14).2.2.1 ∈ x_good := x_in (List.mem_of_getElem? (i := 547) (by decide +kernel)) rfl
theorem fl_X6_123 : Cond.fieldLink RX6 123 (TX6 15).1 (TX6 15).2.1 (TX6 15).2.2.1 ∈ x_good := x_in (List.mem_of_getElem? (i := 548) (by decide +kernel)) rfl
theorem fl_X6_44 : Cond.fieldLink RX6 44 (TX6 16).1 (TX6 16).2.1 (TX6 16).2.2.1 ∈ x_good := x_in (List.mem_of_getElem? (i := 549) (by decide +kernel)) rfl
theorem cn_J6_265 : Cond.constant RJ6 265 (1431655765) ∈ x_good := x_in (List.mem_of_getElem? (i := 219) (by decide +kernel)) rfl
theorem cn_J6_266 : Cond.constant RJ6 266 (858993459) ∈ x_good := x_in (List.mem_of_getElem? (i := 220) (by decide +kernel)) rfl
theorem cn_J6_267 : Cond.constant RJ6 267 (252645135) ∈ x_good := x_in (List.mem_of_getElem? (i := 221) (by decide +kernel)) rfl
theorem cn_X0_112 : Cond.constant RX0 112 (1000000) ∈ x_good := x_in (List.mem_of_getElem? (i := 292) (by decide +kernel)) rfl
theorem same_Next : Cond.sameMethod y_CostNext.cls "GraveRows$Cost" y_CostNext.name y_CostNext.desc ∈ x_good := x_in (List.mem_of_getElem? (i := 298) (by decide +kernel)) rfl
theorem nat_copy : Cond.native arraycopyName ∈ x_good := x_in (List.mem_of_getElem? (i := 501) (by decide +kernel)) rfl
theorem stat_copy : Cond.static arraycopyName ∈ x_good := x_in (List.mem_of_getElem? (i := 500) (by decide +kernel)) rfl
theorem stat_min : Cond.static Lib.Math.min.name ∈ x_good := x_in (List.mem_of_getElem? (i := 308) (by decide +kernel)) rfl
theorem code_min : Cond.code Lib.Math.min.name Lib.Math.min.code 2 (some .int) ∈ x_good := x_in (List.mem_of_getElem? (i := 309) (by decide +kernel)) rfl
theorem so_X3 : Cond.selects RX3 y_CostNext yX3_ofNext ∈ x_good := x_in (List.mem_of_getElem? (i := 299) (by decide +kernel)) rfl
theorem so_X4 : Cond.selects RX4 y_CostNext yX4_ofNext ∈ x_good := x_in (List.mem_of_getElem? (i := 303) (by decide +kernel)) rfl
