abbrev MX11_init : zM := (yX11_init, cX11_init, 2, none, 3, 85)
abbrev MX11_refuse : zM := (yX11_refuse, cX11_refuse, 2, (some .int), 0, 0)
set_option maxRecDepth 20000 in
theorem mkX11_refuse : zMv MX11_refuse 1 := ⟨⟨zin_1 (List.mem_of_getElem? (i := 1) (by decide +kernel)), zin_3 (List.mem_of_getElem? (i := 93) rfl), by decide, by decide, by decide +kernel⟩, zin_3 (List.mem_of_getElem? (i := 92) (by decide +kernel)), zin_0 (List.mem_of_getElem? (i := 0) (by decide +kernel))⟩
abbrev MX11_within : zM := (yX11_within, cX11_within, 3, (some .boolean), 0, 0)
set_option maxRecDepth 20000 in
theorem mkX11_within : zMs MX11_within 3 := ⟨⟨zin_1 (List.mem_of_getElem? (i := 1) (by decide +kernel)), zin_3 (List.mem_of_getElem? (i := 88) rfl), by decide, by decide, by decide +kernel⟩, zin_3 (List.mem_of_getElem? (i := 87) (by decide +kernel))⟩
abbrev MX11_isShelf : zM := (yX11_isShelf, cX11_isShelf, 1, (some .boolean), 1, 22)
set_option maxRecDepth 20000 in
theorem mkX11_isShelf : zMs MX11_isShelf 1 := ⟨⟨zin_1 (List.mem_of_getElem? (i := 1) (by decide +kernel)), zin_4 (List.mem_of_getElem? (i := 36) rfl), by decide, by decide, by decide +kernel⟩, zin_4 (List.mem_of_getElem? (i := 35) (by decide +kernel))⟩
abbrev MX11_isStatute : zM := (yX11_isStatute, cX11_isStatute, 1, (some .boolean), 1, 22)
set_option maxRecDepth 20000 in
theorem mkX11_isStatute : zMs MX11_isStatute 1 := ⟨⟨zin_1 (List.mem_of_getElem? (i := 1) (by decide +kernel)), zin_4 (List.mem_of_getElem? (i := 100) rfl), by decide, by decide, by decide +kernel⟩, zin_4 (List.mem_of_getElem? (i := 99) (by decide +kernel))⟩
abbrev MX11_rowTrouble : zM := (yX11_rowTrouble, cX11_rowTrouble, 2, (some .int), 2, 42)
set_option maxRecDepth 20000 in
theorem mkX11_rowTrouble : zMv MX11_rowTrouble 1 := ⟨⟨zin_1 (List.mem_of_getElem? (i := 1) (by decide +kernel)), zin_4 (List.mem_of_getElem? (i := 51) rfl), by decide, by decide, by decide +kernel⟩, zin_4 (List.mem_of_getElem? (i := 50) (by decide +kernel)), zin_0 (List.mem_of_getElem? (i := 1) (by decide +kernel))⟩
abbrev MX11_firstTrouble : zM := (yX11_firstTrouble, cX11_firstTrouble, 2, (some .int), 1, 21)
set_option maxRecDepth 20000 in
theorem mkX11_firstTrouble : zMs MX11_firstTrouble 2 := ⟨⟨zin_1 (List.mem_of_getElem? (i := 1) (by decide +kernel)), zin_4 (List.mem_of_getElem? (i := 66) rfl), by decide, by decide, by decide +kernel⟩, zin_4 (List.mem_of_getElem? (i := 65) (by decide +kernel))⟩
abbrev MX11_thisYear : zM := (yX11_thisYear, cX11_thisYear, 1, (some .int), 0, 0)
set_option maxRecDepth 20000 in
theorem mkX11_thisYear : zMv MX11_thisYear 0 := ⟨⟨zin_1 (List.mem_of_getElem? (i := 1) (by decide +kernel)), zin_5 (List.mem_of_getElem? (i := 150) rfl), by decide, by decide, by decide +kernel⟩, zin_5 (List.mem_of_getElem? (i := 149) (by decide +kernel)), zin_0 (List.mem_of_getElem? (i := 3) (by decide +kernel))⟩
abbrev MX11_days : zM := (yX11_days, cX11_days, 2, (some .int), 6, 181)
set_option maxRecDepth 20000 in
theorem mkX11_days : zMv MX11_days 1 := ⟨⟨zin_1 (List.mem_of_getElem? (i := 1) (by decide +kernel)), zin_3 (List.mem_of_getElem? (i := 85) rfl), by decide, by decide, by decide +kernel⟩, zin_3 (List.mem_of_getElem? (i := 83) (by decide +kernel)), zin_3 (List.mem_of_getElem? (i := 84) (by decide +kernel))⟩
abbrev MX11_person : zM := (yX11_person, cX11_person, 2, (some .int), 1, 22)
set_option maxRecDepth 20000 in
theorem mkX11_person : zMv MX11_person 1 := ⟨⟨zin_1 (List.mem_of_getElem? (i := 1) (by decide +kernel)), zin_3 (List.mem_of_getElem? (i := 217) rfl), by decide, by decide, by decide +kernel⟩, zin_3 (List.mem_of_getElem? (i := 215) (by decide +kernel)), zin_3 (List.mem_of_getElem? (i := 216) (by decide +kernel))⟩
abbrev MX11_founder : zM := (yX11_founder, cX11_founder, 3, (some .int), 1, 21)
set_option maxRecDepth 20000 in
theorem mkX11_founder : zMv MX11_founder 1 := ⟨⟨zin_1 (List.mem_of_getElem? (i := 1) (by decide +kernel)), zin_3 (List.mem_of_getElem? (i := 226) rfl), by decide, by decide, by decide +kernel⟩, zin_3 (List.mem_of_getElem? (i := 224) (by decide +kernel)), zin_3 (List.mem_of_getElem? (i := 225) (by decide +kernel))⟩
abbrev MX11_link : zM := (yX11_link, cX11_link, 4, (some .int), 3, 73)
set_option maxRecDepth 20000 in
theorem mkX11_link : zMv MX11_link 3 := ⟨⟨zin_1 (List.mem_of_getElem? (i := 1) (by decide +kernel)), zin_3 (List.mem_of_getElem? (i := 234) rfl), by decide, by decide, by decide +kernel⟩, zin_3 (List.mem_of_getElem? (i := 232) (by decide +kernel)), zin_3 (List.mem_of_getElem? (i := 233) (by decide +kernel))⟩
abbrev MX11_fact : zM := (yX11_fact, cX11_fact, 5, (some .int), 1, 24)
set_option maxRecDepth 20000 in
theorem mkX11_fact : zMv MX11_fact 4 := ⟨⟨zin_1 (List.mem_of_getElem? (i := 1) (by decide +kernel)), zin_4 (List.mem_of_getElem? (i := 2) rfl), by decide, by decide, by decide +kernel⟩, zin_4 (List.mem_of_getElem? (i := 0) (by decide +kernel)), zin_4 (List.mem_of_getElem? (i := 1) (by decide +kernel))⟩
abbrev MX11_death : zM := (yX11_death, cX11_death, 3, (some .int), 1, 21)
set_option maxRecDepth 20000 in
theorem mkX11_death : zMv MX11_death 2 := ⟨⟨zin_1 (List.mem_of_getElem? (i := 1) (by decide +kernel)), zin_4 (List.mem_of_getElem? (i := 10) rfl), by decide, by decide, by decide +kernel⟩, zin_4 (List.mem_of_getElem? (i := 8) (by decide +kernel)), zin_4 (List.mem_of_getElem? (i := 9) (by decide +kernel))⟩
abbrev MX11_is : zM := (yX11_is, cX11_is, 5, (some .int), 1, 25)
set_option maxRecDepth 20000 in
theorem mkX11_is : zMv MX11_is 4 := ⟨⟨zin_1 (List.mem_of_getElem? (i := 1) (by decide +kernel)), zin_4 (List.mem_of_getElem? (i := 14) rfl), by decide, by decide, by decide +kernel⟩, zin_4 (List.mem_of_getElem? (i := 12) (by decide +kernel)), zin_4 (List.mem_of_getElem? (i := 13) (by decide +kernel))⟩
abbrev MX11_kin : zM := (yX11_kin, cX11_kin, 4, (some .int), 3, 73)
set_option maxRecDepth 20000 in
theorem mkX11_kin : zMv MX11_kin 3 := ⟨⟨zin_1 (List.mem_of_getElem? (i := 1) (by decide +kernel)), zin_4 (List.mem_of_getElem? (i := 19) rfl), by decide, by decide, by decide +kernel⟩, zin_4 (List.mem_of_getElem? (i := 17) (by decide +kernel)), zin_4 (List.mem_of_getElem? (i := 18) (by decide +kernel))⟩
abbrev MX11_settles : zM := (yX11_settles, cX11_settles, 2, (some .int), 4, 96)
set_option maxRecDepth 20000 in
theorem mkX11_settles : zMv MX11_settles 1 := ⟨⟨zin_1 (List.mem_of_getElem? (i := 1) (by decide +kernel)), zin_4 (List.mem_of_getElem? (i := 24) rfl), by decide, by decide, by decide +kernel⟩, zin_4 (List.mem_of_getElem? (i := 22) (by decide +kernel)), zin_4 (List.mem_of_getElem? (i := 23) (by decide +kernel))⟩
abbrev MX11_row : zM := (yX11_row, cX11_row, 4, (some .int), 2, 46)
set_option maxRecDepth 20000 in
theorem mkX11_row : zMv MX11_row 3 := ⟨⟨zin_1 (List.mem_of_getElem? (i := 1) (by decide +kernel)), zin_4 (List.mem_of_getElem? (i := 33) rfl), by decide, by decide, by decide +kernel⟩, zin_4 (List.mem_of_getElem? (i := 31) (by decide +kernel)), zin_4 (List.mem_of_getElem? (i := 32) (by decide +kernel))⟩
abbrev MX11_set : zM := (yX11_set, cX11_set, 6, (some .int), 3, 63)
set_option maxRecDepth 20000 in
theorem mkX11_set : zMv MX11_set 3 := ⟨⟨zin_1 (List.mem_of_getElem? (i := 1) (by decide +kernel)), zin_4 (List.mem_of_getElem? (i := 47) rfl), by decide, by decide, by decide +kernel⟩, zin_4 (List.mem_of_getElem? (i := 45) (by decide +kernel)), zin_4 (List.mem_of_getElem? (i := 46) (by decide +kernel))⟩
abbrev MX11_copy : zM := (yX11_copy, cX11_copy, 9, (some .int), 3, 63)
set_option maxRecDepth 20000 in
theorem mkX11_copy : zMv MX11_copy 5 := ⟨⟨zin_1 (List.mem_of_getElem? (i := 1) (by decide +kernel)), zin_4 (List.mem_of_getElem? (i := 63) rfl), by decide, by decide, by decide +kernel⟩, zin_4 (List.mem_of_getElem? (i := 61) (by decide +kernel)), zin_4 (List.mem_of_getElem? (i := 62) (by decide +kernel))⟩
abbrev MX11_element : zM := (yX11_element, cX11_element, 3, (some .long), 3, 63)
set_option maxRecDepth 20000 in
theorem mkX11_element : zMv MX11_element 2 := ⟨⟨zin_1 (List.mem_of_getElem? (i := 1) (by decide +kernel)), zin_4 (List.mem_of_getElem? (i := 76) rfl), by decide, by decide, by decide +kernel⟩, zin_4 (List.mem_of_getElem? (i := 74) (by decide +kernel)), zin_4 (List.mem_of_getElem? (i := 75) (by decide +kernel))⟩
abbrev MX11_show : zM := (yX11_show, cX11_show, 3, (some .int), 2, 42)
set_option maxRecDepth 20000 in
theorem mkX11_show : zMv MX11_show 2 := ⟨⟨zin_1 (List.mem_of_getElem? (i := 1) (by decide +kernel)), zin_4 (List.mem_of_getElem? (i := 80) rfl), by decide, by decide, by decide +kernel⟩, zin_4 (List.mem_of_getElem? (i := 78) (by decide +kernel)), zin_4 (List.mem_of_getElem? (i := 79) (by decide +kernel))⟩
abbrev MX11_holds : zM := (yX11_holds, cX11_holds, 2, (some .int), 2, 42)
set_option maxRecDepth 20000 in
theorem mkX11_holds : zMv MX11_holds 1 := ⟨⟨zin_1 (List.mem_of_getElem? (i := 1) (by decide +kernel)), zin_4 (List.mem_of_getElem? (i := 88) rfl), by decide, by decide, by decide +kernel⟩, zin_4 (List.mem_of_getElem? (i := 86) (by decide +kernel)), zin_4 (List.mem_of_getElem? (i := 87) (by decide +kernel))⟩
abbrev MX11_bornIn : zM := (yX11_bornIn, cX11_bornIn, 3, (some .int), 2, 42)
set_option maxRecDepth 20000 in
theorem mkX11_bornIn : zMv MX11_bornIn 1 := ⟨⟨zin_1 (List.mem_of_getElem? (i := 1) (by decide +kernel)), zin_4 (List.mem_of_getElem? (i := 92) rfl), by decide, by decide, by decide +kernel⟩, zin_4 (List.mem_of_getElem? (i := 90) (by decide +kernel)), zin_4 (List.mem_of_getElem? (i := 91) (by decide +kernel))⟩
abbrev MX11_statute : zM := (yX11_statute, cX11_statute, 4, (some .int), 3, 66)
set_option maxRecDepth 20000 in
theorem mkX11_statute : zMv MX11_statute 2 := ⟨⟨zin_1 (List.mem_of_getElem? (i := 1) (by decide +kernel)), zin_4 (List.mem_of_getElem? (i := 97) rfl), by decide, by decide, by decide +kernel⟩, zin_4 (List.mem_of_getElem? (i := 95) (by decide +kernel)), zin_4 (List.mem_of_getElem? (i := 96) (by decide +kernel))⟩
abbrev MX11_amend : zM := (yX11_amend, cX11_amend, 6, (some .int), 3, 66)
set_option maxRecDepth 20000 in
theorem mkX11_amend : zMv MX11_amend 4 := ⟨⟨zin_1 (List.mem_of_getElem? (i := 1) (by decide +kernel)), zin_4 (List.mem_of_getElem? (i := 116) rfl), by decide, by decide, by decide +kernel⟩, zin_4 (List.mem_of_getElem? (i := 114) (by decide +kernel)), zin_4 (List.mem_of_getElem? (i := 115) (by decide +kernel))⟩
abbrev MX11_words : zM := (yX11_words, cX11_words, 5, (some .int), 3, 109)
set_option maxRecDepth 20000 in
theorem mkX11_words : zMv MX11_words 4 := ⟨⟨zin_1 (List.mem_of_getElem? (i := 1) (by decide +kernel)), zin_4 (List.mem_of_getElem? (i := 128) rfl), by decide, by decide, by decide +kernel⟩, zin_4 (List.mem_of_getElem? (i := 126) (by decide +kernel)), zin_4 (List.mem_of_getElem? (i := 127) (by decide +kernel))⟩
abbrev MX11_gone : zM := (yX11_gone, cX11_gone, 4, (some .int), 3, 109)
set_option maxRecDepth 20000 in
theorem mkX11_gone : zMv MX11_gone 3 := ⟨⟨zin_1 (List.mem_of_getElem? (i := 1) (by decide +kernel)), zin_4 (List.mem_of_getElem? (i := 133) rfl), by decide, by decide, by decide +kernel⟩, zin_4 (List.mem_of_getElem? (i := 131) (by decide +kernel)), zin_4 (List.mem_of_getElem? (i := 132) (by decide +kernel))⟩
abbrev MX11_fault : zM := (yX11_fault, cX11_fault, 4, (some .int), 4, 136)
set_option maxRecDepth 20000 in
theorem mkX11_fault : zMv MX11_fault 3 := ⟨⟨zin_1 (List.mem_of_getElem? (i := 1) (by decide +kernel)), zin_4 (List.mem_of_getElem? (i := 138) rfl), by decide, by decide, by decide +kernel⟩, zin_4 (List.mem_of_getElem? (i := 136) (by decide +kernel)), zin_4 (List.mem_of_getElem? (i := 137) (by decide +kernel))⟩
abbrev MX11_may : zM := (yX11_may, cX11_may, 5, (some .int), 4, 136)
set_option maxRecDepth 20000 in
theorem mkX11_may : zMv MX11_may 4 := ⟨⟨zin_1 (List.mem_of_getElem? (i := 1) (by decide +kernel)), zin_4 (List.mem_of_getElem? (i := 143) rfl), by decide, by decide, by decide +kernel⟩, zin_4 (List.mem_of_getElem? (i := 141) (by decide +kernel)), zin_4 (List.mem_of_getElem? (i := 142) (by decide +kernel))⟩
abbrev MX11_test : zM := (yX11_test, cX11_test, 6, (some .int), 4, 136)
set_option maxRecDepth 20000 in
theorem mkX11_test : zMv MX11_test 5 := ⟨⟨zin_1 (List.mem_of_getElem? (i := 1) (by decide +kernel)), zin_4 (List.mem_of_getElem? (i := 147) rfl), by decide, by decide, by decide +kernel⟩, zin_4 (List.mem_of_getElem? (i := 145) (by decide +kernel)), zin_4 (List.mem_of_getElem? (i := 146) (by decide +kernel))⟩
abbrev MX11_place : zM := (yX11_place, cX11_place, 2, (some .int), 2, 42)
set_option maxRecDepth 20000 in
theorem mkX11_place : zMv MX11_place 1 := ⟨⟨zin_1 (List.mem_of_getElem? (i := 1) (by decide +kernel)), zin_4 (List.mem_of_getElem? (i := 151) rfl), by decide, by decide, by decide +kernel⟩, zin_4 (List.mem_of_getElem? (i := 149) (by decide +kernel)), zin_4 (List.mem_of_getElem? (i := 150) (by decide +kernel))⟩
abbrev MX11_grace : zM := (yX11_grace, cX11_grace, 3, (some .int), 1, 22)
set_option maxRecDepth 20000 in
theorem mkX11_grace : zMv MX11_grace 1 := ⟨⟨zin_1 (List.mem_of_getElem? (i := 1) (by decide +kernel)), zin_4 (List.mem_of_getElem? (i := 159) rfl), by decide, by decide, by decide +kernel⟩, zin_4 (List.mem_of_getElem? (i := 157) (by decide +kernel)), zin_4 (List.mem_of_getElem? (i := 158) (by decide +kernel))⟩
abbrev MX11_hold : zM := (yX11_hold, cX11_hold, 3, (some .int), 5, 159)
set_option maxRecDepth 20000 in
theorem mkX11_hold : zMv MX11_hold 2 := ⟨⟨zin_1 (List.mem_of_getElem? (i := 1) (by decide +kernel)), zin_4 (List.mem_of_getElem? (i := 163) rfl), by decide, by decide, by decide +kernel⟩, zin_4 (List.mem_of_getElem? (i := 161) (by decide +kernel)), zin_4 (List.mem_of_getElem? (i := 162) (by decide +kernel))⟩
abbrev MX11_leave : zM := (yX11_leave, cX11_leave, 3, (some .int), 1, 21)
set_option maxRecDepth 20000 in
theorem mkX11_leave : zMv MX11_leave 1 := ⟨⟨zin_1 (List.mem_of_getElem? (i := 1) (by decide +kernel)), zin_4 (List.mem_of_getElem? (i := 183) rfl), by decide, by decide, by decide +kernel⟩, zin_4 (List.mem_of_getElem? (i := 181) (by decide +kernel)), zin_4 (List.mem_of_getElem? (i := 182) (by decide +kernel))⟩
abbrev MX11_about : zM := (yX11_about, cX11_about, 3, (some .int), 1, 21)
set_option maxRecDepth 20000 in
theorem mkX11_about : zMv MX11_about 2 := ⟨⟨zin_1 (List.mem_of_getElem? (i := 1) (by decide +kernel)), zin_4 (List.mem_of_getElem? (i := 188) rfl), by decide, by decide, by decide +kernel⟩, zin_4 (List.mem_of_getElem? (i := 186) (by decide +kernel)), zin_4 (List.mem_of_getElem? (i := 187) (by decide +kernel))⟩
abbrev MX11_ballot : zM := (yX11_ballot, cX11_ballot, 3, (some .int), 4, 87)
set_option maxRecDepth 20000 in
theorem mkX11_ballot : zMv MX11_ballot 2 := ⟨⟨zin_1 (List.mem_of_getElem? (i := 1) (by decide +kernel)), zin_4 (List.mem_of_getElem? (i := 192) rfl), by decide, by decide, by decide +kernel⟩, zin_4 (List.mem_of_getElem? (i := 190) (by decide +kernel)), zin_4 (List.mem_of_getElem? (i := 191) (by decide +kernel))⟩
abbrev MX11_choiceOf : zM := (yX11_choiceOf, cX11_choiceOf, 5, (some .int), 3, 63)
set_option maxRecDepth 20000 in
theorem mkX11_choiceOf : zMv MX11_choiceOf 3 := ⟨⟨zin_1 (List.mem_of_getElem? (i := 1) (by decide +kernel)), zin_4 (List.mem_of_getElem? (i := 196) rfl), by decide, by decide, by decide +kernel⟩, zin_4 (List.mem_of_getElem? (i := 195) (by decide +kernel)), zin_0 (List.mem_of_getElem? (i := 2) (by decide +kernel))⟩
abbrev MX11_elect : zM := (yX11_elect, cX11_elect, 4, (some .int), 6, 183)
set_option maxRecDepth 20000 in
theorem mkX11_elect : zMv MX11_elect 2 := ⟨⟨zin_1 (List.mem_of_getElem? (i := 1) (by decide +kernel)), zin_4 (List.mem_of_getElem? (i := 205) rfl), by decide, by decide, by decide +kernel⟩, zin_4 (List.mem_of_getElem? (i := 203) (by decide +kernel)), zin_4 (List.mem_of_getElem? (i := 204) (by decide +kernel))⟩
abbrev MX11_votes : zM := (yX11_votes, cX11_votes, 3, (some .int), 1, 22)
set_option maxRecDepth 20000 in
theorem mkX11_votes : zMv MX11_votes 2 := ⟨⟨zin_1 (List.mem_of_getElem? (i := 1) (by decide +kernel)), zin_5 (List.mem_of_getElem? (i := 40) rfl), by decide, by decide, by decide +kernel⟩, zin_5 (List.mem_of_getElem? (i := 38) (by decide +kernel)), zin_5 (List.mem_of_getElem? (i := 39) (by decide +kernel))⟩
abbrev MX11_without : zM := (yX11_without, cX11_without, 2, (some .int), 5, 120)
set_option maxRecDepth 20000 in
theorem mkX11_without : zMv MX11_without 1 := ⟨⟨zin_1 (List.mem_of_getElem? (i := 1) (by decide +kernel)), zin_5 (List.mem_of_getElem? (i := 48) rfl), by decide, by decide, by decide +kernel⟩, zin_5 (List.mem_of_getElem? (i := 46) (by decide +kernel)), zin_5 (List.mem_of_getElem? (i := 47) (by decide +kernel))⟩
abbrev MX11_asked : zM := (yX11_asked, cX11_asked, 2, (some .int), 6, 184)
set_option maxRecDepth 20000 in
theorem mkX11_asked : zMv MX11_asked 1 := ⟨⟨zin_1 (List.mem_of_getElem? (i := 1) (by decide +kernel)), zin_5 (List.mem_of_getElem? (i := 56) rfl), by decide, by decide, by decide +kernel⟩, zin_5 (List.mem_of_getElem? (i := 54) (by decide +kernel)), zin_5 (List.mem_of_getElem? (i := 55) (by decide +kernel))⟩
abbrev MX11_answer : zM := (yX11_answer, cX11_answer, 4, (some .int), 6, 184)
set_option maxRecDepth 20000 in
theorem mkX11_answer : zMv MX11_answer 2 := ⟨⟨zin_1 (List.mem_of_getElem? (i := 1) (by decide +kernel)), zin_5 (List.mem_of_getElem? (i := 73) rfl), by decide, by decide, by decide +kernel⟩, zin_5 (List.mem_of_getElem? (i := 71) (by decide +kernel)), zin_5 (List.mem_of_getElem? (i := 72) (by decide +kernel))⟩
abbrev MX11_areTerms : zM := (yX11_areTerms, cX11_areTerms, 4, (some .boolean), 1, 22)
set_option maxRecDepth 20000 in
theorem mkX11_areTerms : zMs MX11_areTerms 4 := ⟨⟨zin_1 (List.mem_of_getElem? (i := 1) (by decide +kernel)), zin_5 (List.mem_of_getElem? (i := 80) rfl), by decide, by decide, by decide +kernel⟩, zin_5 (List.mem_of_getElem? (i := 79) (by decide +kernel))⟩
abbrev MX11_lease : zM := (yX11_lease, cX11_lease, 7, (some .int), 2, 45)
set_option maxRecDepth 20000 in
theorem mkX11_lease : zMv MX11_lease 6 := ⟨⟨zin_1 (List.mem_of_getElem? (i := 1) (by decide +kernel)), zin_5 (List.mem_of_getElem? (i := 77) rfl), by decide, by decide, by decide +kernel⟩, zin_5 (List.mem_of_getElem? (i := 75) (by decide +kernel)), zin_5 (List.mem_of_getElem? (i := 76) (by decide +kernel))⟩
abbrev MX11_lives : zM := (yX11_lives, cX11_lives, 6, (some .int), 2, 45)
set_option maxRecDepth 20000 in
theorem mkX11_lives : zMv MX11_lives 5 := ⟨⟨zin_1 (List.mem_of_getElem? (i := 1) (by decide +kernel)), zin_5 (List.mem_of_getElem? (i := 88) rfl), by decide, by decide, by decide +kernel⟩, zin_5 (List.mem_of_getElem? (i := 86) (by decide +kernel)), zin_5 (List.mem_of_getElem? (i := 87) (by decide +kernel))⟩
abbrev MX11_price : zM := (yX11_price, cX11_price, 4, (some .int), 1, 22)
set_option maxRecDepth 20000 in
theorem mkX11_price : zMv MX11_price 3 := ⟨⟨zin_1 (List.mem_of_getElem? (i := 1) (by decide +kernel)), zin_5 (List.mem_of_getElem? (i := 93) rfl), by decide, by decide, by decide +kernel⟩, zin_5 (List.mem_of_getElem? (i := 91) (by decide +kernel)), zin_5 (List.mem_of_getElem? (i := 92) (by decide +kernel))⟩
abbrev MX11_ends : zM := (yX11_ends, cX11_ends, 2, (some .int), 2, 44)
set_option maxRecDepth 20000 in
theorem mkX11_ends : zMv MX11_ends 1 := ⟨⟨zin_1 (List.mem_of_getElem? (i := 1) (by decide +kernel)), zin_5 (List.mem_of_getElem? (i := 105) rfl), by decide, by decide, by decide +kernel⟩, zin_5 (List.mem_of_getElem? (i := 103) (by decide +kernel)), zin_5 (List.mem_of_getElem? (i := 104) (by decide +kernel))⟩
abbrev MX11_rent : zM := (yX11_rent, cX11_rent, 3, (some .int), 3, 67)
set_option maxRecDepth 20000 in
theorem mkX11_rent : zMv MX11_rent 2 := ⟨⟨zin_1 (List.mem_of_getElem? (i := 1) (by decide +kernel)), zin_5 (List.mem_of_getElem? (i := 123) rfl), by decide, by decide, by decide +kernel⟩, zin_5 (List.mem_of_getElem? (i := 121) (by decide +kernel)), zin_5 (List.mem_of_getElem? (i := 122) (by decide +kernel))⟩
abbrev MX11_table : zM := (yX11_table, cX11_table, 5, (some .int), 3, 63)
set_option maxRecDepth 20000 in
theorem mkX11_table : zMv MX11_table 1 := ⟨⟨zin_1 (List.mem_of_getElem? (i := 1) (by decide +kernel)), zin_5 (List.mem_of_getElem? (i := 140) rfl), by decide, by decide, by decide +kernel⟩, zin_5 (List.mem_of_getElem? (i := 138) (by decide +kernel)), zin_5 (List.mem_of_getElem? (i := 139) (by decide +kernel))⟩
abbrev MX11_renew : zM := (yX11_renew, cX11_renew, 4, (some .int), 3, 64)
set_option maxRecDepth 20000 in
theorem mkX11_renew : zMv MX11_renew 1 := ⟨⟨zin_1 (List.mem_of_getElem? (i := 1) (by decide +kernel)), zin_5 (List.mem_of_getElem? (i := 146) rfl), by decide, by decide, by decide +kernel⟩, zin_5 (List.mem_of_getElem? (i := 144) (by decide +kernel)), zin_5 (List.mem_of_getElem? (i := 145) (by decide +kernel))⟩
abbrev MX11_rents : zM := (yX11_rents, cX11_rents, 3, (some .int), 3, 67)
set_option maxRecDepth 20000 in
theorem mkX11_rents : zMv MX11_rents 0 := ⟨⟨zin_1 (List.mem_of_getElem? (i := 1) (by decide +kernel)), zin_5 (List.mem_of_getElem? (i := 172) rfl), by decide, by decide, by decide +kernel⟩, zin_5 (List.mem_of_getElem? (i := 170) (by decide +kernel)), zin_5 (List.mem_of_getElem? (i := 171) (by decide +kernel))⟩
abbrev MX11_kept : zM := (yX11_kept, cX11_kept, 3, (some .int), 3, 68)
set_option maxRecDepth 20000 in
theorem mkX11_kept : zMv MX11_kept 2 := ⟨⟨zin_1 (List.mem_of_getElem? (i := 1) (by decide +kernel)), zin_5 (List.mem_of_getElem? (i := 176) rfl), by decide, by decide, by decide +kernel⟩, zin_5 (List.mem_of_getElem? (i := 174) (by decide +kernel)), zin_5 (List.mem_of_getElem? (i := 175) (by decide +kernel))⟩
abbrev MX11_dividend : zM := (yX11_dividend, cX11_dividend, 2, (some .int), 3, 71)
set_option maxRecDepth 20000 in
theorem mkX11_dividend : zMv MX11_dividend 1 := ⟨⟨zin_1 (List.mem_of_getElem? (i := 1) (by decide +kernel)), zin_5 (List.mem_of_getElem? (i := 189) rfl), by decide, by decide, by decide +kernel⟩, zin_5 (List.mem_of_getElem? (i := 187) (by decide +kernel)), zin_5 (List.mem_of_getElem? (i := 188) (by decide +kernel))⟩
abbrev MX11_got : zM := (yX11_got, cX11_got, 2, (some .int), 1, 21)
set_option maxRecDepth 20000 in
theorem mkX11_got : zMv MX11_got 1 := ⟨⟨zin_1 (List.mem_of_getElem? (i := 1) (by decide +kernel)), zin_5 (List.mem_of_getElem? (i := 199) rfl), by decide, by decide, by decide +kernel⟩, zin_5 (List.mem_of_getElem? (i := 197) (by decide +kernel)), zin_5 (List.mem_of_getElem? (i := 198) (by decide +kernel))⟩
abbrev MX11_other : zM := (yX11_other, cX11_other, 2, (some .int), 1, 23)
set_option maxRecDepth 20000 in
theorem mkX11_other : zMv MX11_other 1 := ⟨⟨zin_1 (List.mem_of_getElem? (i := 1) (by decide +kernel)), zin_5 (List.mem_of_getElem? (i := 203) rfl), by decide, by decide, by decide +kernel⟩, zin_5 (List.mem_of_getElem? (i := 201) (by decide +kernel)), zin_5 (List.mem_of_getElem? (i := 202) (by decide +kernel))⟩
abbrev MX11_head : zM := (yX11_head, cX11_head, 3, (some .int), 1, 22)
set_option maxRecDepth 20000 in
theorem mkX11_head : zMv MX11_head 2 := ⟨⟨zin_1 (List.mem_of_getElem? (i := 1) (by decide +kernel)), zin_5 (List.mem_of_getElem? (i := 209) rfl), by decide, by decide, by decide +kernel⟩, zin_5 (List.mem_of_getElem? (i := 207) (by decide +kernel)), zin_5 (List.mem_of_getElem? (i := 208) (by decide +kernel))⟩
abbrev MX11_audit : zM := (yX11_audit, cX11_audit, 2, (some .int), 0, 0)
set_option maxRecDepth 20000 in
theorem mkX11_audit : zMv MX11_audit 1 := ⟨⟨zin_1 (List.mem_of_getElem? (i := 1) (by decide +kernel)), zin_5 (List.mem_of_getElem? (i := 214) rfl), by decide, by decide, by decide +kernel⟩, zin_5 (List.mem_of_getElem? (i := 212) (by decide +kernel)), zin_5 (List.mem_of_getElem? (i := 213) (by decide +kernel))⟩
abbrev MX11_roof : zM := (yX11_roof, cX11_roof, 3, (some .int), 1, 22)
set_option maxRecDepth 20000 in
theorem mkX11_roof : zMv MX11_roof 2 := ⟨⟨zin_1 (List.mem_of_getElem? (i := 1) (by decide +kernel)), zin_5 (List.mem_of_getElem? (i := 218) rfl), by decide, by decide, by decide +kernel⟩, zin_5 (List.mem_of_getElem? (i := 216) (by decide +kernel)), zin_5 (List.mem_of_getElem? (i := 217) (by decide +kernel))⟩
abbrev MX11_canPlan : zM := (yX11_canPlan, cX11_canPlan, 3, (some .boolean), 1, 22)
set_option maxRecDepth 20000 in
theorem mkX11_canPlan : zMs MX11_canPlan 3 := ⟨⟨zin_1 (List.mem_of_getElem? (i := 1) (by decide +kernel)), zin_5 (List.mem_of_getElem? (i := 229) rfl), by decide, by decide, by decide +kernel⟩, zin_5 (List.mem_of_getElem? (i := 228) (by decide +kernel))⟩
abbrev MX11_plan : zM := (yX11_plan, cX11_plan, 5, (some .int), 5, 116)
set_option maxRecDepth 20000 in
theorem mkX11_plan : zMv MX11_plan 3 := ⟨⟨zin_1 (List.mem_of_getElem? (i := 1) (by decide +kernel)), zin_5 (List.mem_of_getElem? (i := 226) rfl), by decide, by decide, by decide +kernel⟩, zin_5 (List.mem_of_getElem? (i := 224) (by decide +kernel)), zin_5 (List.mem_of_getElem? (i := 225) (by decide +kernel))⟩
abbrev MX11_planned : zM := (yX11_planned, cX11_planned, 2, (some .int), 1, 22)
set_option maxRecDepth 20000 in
theorem mkX11_planned : zMv MX11_planned 1 := ⟨⟨zin_1 (List.mem_of_getElem? (i := 1) (by decide +kernel)), zin_6 (List.mem_of_getElem? (i := 30) rfl), by decide, by decide, by decide +kernel⟩, zin_6 (List.mem_of_getElem? (i := 28) (by decide +kernel)), zin_6 (List.mem_of_getElem? (i := 29) (by decide +kernel))⟩
abbrev MX11_judge : zM := (yX11_judge, cX11_judge, 6, (some .int), 5, 116)
set_option maxRecDepth 20000 in
theorem mkX11_judge : zMv MX11_judge 4 := ⟨⟨zin_1 (List.mem_of_getElem? (i := 1) (by decide +kernel)), zin_6 (List.mem_of_getElem? (i := 38) rfl), by decide, by decide, by decide +kernel⟩, zin_6 (List.mem_of_getElem? (i := 36) (by decide +kernel)), zin_6 (List.mem_of_getElem? (i := 37) (by decide +kernel))⟩
abbrev MX11_room : zM := (yX11_room, cX11_room, 1, (some .int), 1, 21)
set_option maxRecDepth 20000 in
theorem mkX11_room : zMv MX11_room 0 := ⟨⟨zin_1 (List.mem_of_getElem? (i := 1) (by decide +kernel)), zin_6 (List.mem_of_getElem? (i := 55) rfl), by decide, by decide, by decide +kernel⟩, zin_6 (List.mem_of_getElem? (i := 53) (by decide +kernel)), zin_6 (List.mem_of_getElem? (i := 54) (by decide +kernel))⟩
abbrev MX11_wish : zM := (yX11_wish, cX11_wish, 3, (some .int), 4, 87)
set_option maxRecDepth 20000 in
theorem mkX11_wish : zMv MX11_wish 2 := ⟨⟨zin_1 (List.mem_of_getElem? (i := 1) (by decide +kernel)), zin_6 (List.mem_of_getElem? (i := 59) rfl), by decide, by decide, by decide +kernel⟩, zin_6 (List.mem_of_getElem? (i := 57) (by decide +kernel)), zin_6 (List.mem_of_getElem? (i := 58) (by decide +kernel))⟩
abbrev MX11_choose : zM := (yX11_choose, cX11_choose, 1, (some .int), 3, 71)
set_option maxRecDepth 20000 in
theorem mkX11_choose : zMv MX11_choose 0 := ⟨⟨zin_1 (List.mem_of_getElem? (i := 1) (by decide +kernel)), zin_6 (List.mem_of_getElem? (i := 63) rfl), by decide, by decide, by decide +kernel⟩, zin_6 (List.mem_of_getElem? (i := 61) (by decide +kernel)), zin_6 (List.mem_of_getElem? (i := 62) (by decide +kernel))⟩
abbrev MX11_exchange : zM := (yX11_exchange, cX11_exchange, 1, (some .int), 4, 96)
set_option maxRecDepth 20000 in
theorem mkX11_exchange : zMv MX11_exchange 0 := ⟨⟨zin_1 (List.mem_of_getElem? (i := 1) (by decide +kernel)), zin_6 (List.mem_of_getElem? (i := 73) rfl), by decide, by decide, by decide +kernel⟩, zin_6 (List.mem_of_getElem? (i := 71) (by decide +kernel)), zin_6 (List.mem_of_getElem? (i := 72) (by decide +kernel))⟩
abbrev MX11_roomOf : zM := (yX11_roomOf, cX11_roomOf, 2, (some .int), 1, 21)
set_option maxRecDepth 20000 in
theorem mkX11_roomOf : zMv MX11_roomOf 1 := ⟨⟨zin_1 (List.mem_of_getElem? (i := 1) (by decide +kernel)), zin_6 (List.mem_of_getElem? (i := 89) rfl), by decide, by decide, by decide +kernel⟩, zin_6 (List.mem_of_getElem? (i := 87) (by decide +kernel)), zin_6 (List.mem_of_getElem? (i := 88) (by decide +kernel))⟩
abbrev MX11_status : zM := (yX11_status, cX11_status, 2, (some .int), 1, 22)
set_option maxRecDepth 20000 in
theorem mkX11_status : zMv MX11_status 1 := ⟨⟨zin_1 (List.mem_of_getElem? (i := 1) (by decide +kernel)), zin_6 (List.mem_of_getElem? (i := 93) rfl), by decide, by decide, by decide +kernel⟩, zin_6 (List.mem_of_getElem? (i := 91) (by decide +kernel)), zin_6 (List.mem_of_getElem? (i := 92) (by decide +kernel))⟩
abbrev MX12_init : zM := (yX12_init, cX12_init, 2, none, 1, 40)
abbrev MX12_no : zM := (yX12_no, cX12_no, 2, (some .int), 0, 0)
set_option maxRecDepth 20000 in
theorem mkX12_no : zMv MX12_no 1 := ⟨⟨zin_1 (List.mem_of_getElem? (i := 14) (by decide +kernel)), zin_7 (List.mem_of_getElem? (i := 202) rfl), by decide, by decide, by decide +kernel⟩, zin_7 (List.mem_of_getElem? (i := 201) (by decide +kernel)), zin_0 (List.mem_of_getElem? (i := 4) (by decide +kernel))⟩
abbrev MX12_isOne : zM := (yX12_isOne, cX12_isOne, 2, (some .boolean), 0, 0)
set_option maxRecDepth 20000 in
theorem mkX12_isOne : zMv MX12_isOne 1 := ⟨⟨zin_1 (List.mem_of_getElem? (i := 14) (by decide +kernel)), zin_7 (List.mem_of_getElem? (i := 210) rfl), by decide, by decide, by decide +kernel⟩, zin_7 (List.mem_of_getElem? (i := 209) (by decide +kernel)), zin_0 (List.mem_of_getElem? (i := 5) (by decide +kernel))⟩
abbrev MX12_isStatute : zM := (yX12_isStatute, cX12_isStatute, 1, (some .boolean), 0, 0)
set_option maxRecDepth 20000 in
theorem mkX12_isStatute : zMs MX12_isStatute 1 := ⟨⟨zin_1 (List.mem_of_getElem? (i := 14) (by decide +kernel)), zin_8 (List.mem_of_getElem? (i := 49) rfl), by decide, by decide, by decide +kernel⟩, zin_8 (List.mem_of_getElem? (i := 48) (by decide +kernel))⟩
abbrev MX12_isShelf : zM := (yX12_isShelf, cX12_isShelf, 1, (some .boolean), 0, 0)
set_option maxRecDepth 20000 in
theorem mkX12_isShelf : zMs MX12_isShelf 1 := ⟨⟨zin_1 (List.mem_of_getElem? (i := 14) (by decide +kernel)), zin_8 (List.mem_of_getElem? (i := 17) rfl), by decide, by decide, by decide +kernel⟩, zin_8 (List.mem_of_getElem? (i := 16) (by decide +kernel))⟩
abbrev MX12_isPlace : zM := (yX12_isPlace, cX12_isPlace, 2, (some .boolean), 0, 0)
set_option maxRecDepth 20000 in
theorem mkX12_isPlace : zMv MX12_isPlace 1 := ⟨⟨zin_1 (List.mem_of_getElem? (i := 14) (by decide +kernel)), zin_8 (List.mem_of_getElem? (i := 140) rfl), by decide, by decide, by decide +kernel⟩, zin_8 (List.mem_of_getElem? (i := 139) (by decide +kernel)), zin_0 (List.mem_of_getElem? (i := 21) (by decide +kernel))⟩
abbrev MX12_year : zM := (yX12_year, cX12_year, 1, (some .int), 0, 0)
set_option maxRecDepth 20000 in
theorem mkX12_year : zMv MX12_year 0 := ⟨⟨zin_1 (List.mem_of_getElem? (i := 14) (by decide +kernel)), zin_9 (List.mem_of_getElem? (i := 27) rfl), by decide, by decide, by decide +kernel⟩, zin_9 (List.mem_of_getElem? (i := 26) (by decide +kernel)), zin_0 (List.mem_of_getElem? (i := 35) (by decide +kernel))⟩
abbrev MX12_person : zM := (yX12_person, cX12_person, 2, (some .int), 1, 21)
set_option maxRecDepth 20000 in
theorem mkX12_person : zMv MX12_person 1 := ⟨⟨zin_1 (List.mem_of_getElem? (i := 14) (by decide +kernel)), zin_7 (List.mem_of_getElem? (i := 196) rfl), by decide, by decide, by decide +kernel⟩, zin_7 (List.mem_of_getElem? (i := 194) (by decide +kernel)), zin_7 (List.mem_of_getElem? (i := 195) (by decide +kernel))⟩
abbrev MX12_founder : zM := (yX12_founder, cX12_founder, 2, (some .int), 1, 21)
set_option maxRecDepth 20000 in
theorem mkX12_founder : zMv MX12_founder 1 := ⟨⟨zin_1 (List.mem_of_getElem? (i := 14) (by decide +kernel)), zin_7 (List.mem_of_getElem? (i := 206) rfl), by decide, by decide, by decide +kernel⟩, zin_7 (List.mem_of_getElem? (i := 204) (by decide +kernel)), zin_7 (List.mem_of_getElem? (i := 205) (by decide +kernel))⟩
abbrev MX12_climbs : zM := (yX12_climbs, cX12_climbs, 9, none, 0, 0)
set_option maxRecDepth 20000 in
theorem mkX12_climbs : zMv MX12_climbs 3 := ⟨⟨zin_1 (List.mem_of_getElem? (i := 14) (by decide +kernel)), zin_7 (List.mem_of_getElem? (i := 218) rfl), by decide, by decide, by decide +kernel⟩, zin_7 (List.mem_of_getElem? (i := 217) (by decide +kernel)), zin_0 (List.mem_of_getElem? (i := 6) (by decide +kernel))⟩
abbrev MX12_link : zM := (yX12_link, cX12_link, 4, (some .int), 1, 28)
set_option maxRecDepth 20000 in
theorem mkX12_link : zMv MX12_link 3 := ⟨⟨zin_1 (List.mem_of_getElem? (i := 14) (by decide +kernel)), zin_7 (List.mem_of_getElem? (i := 214) rfl), by decide, by decide, by decide +kernel⟩, zin_7 (List.mem_of_getElem? (i := 212) (by decide +kernel)), zin_7 (List.mem_of_getElem? (i := 213) (by decide +kernel))⟩
abbrev MX12_fact : zM := (yX12_fact, cX12_fact, 5, (some .int), 1, 21)
set_option maxRecDepth 20000 in
theorem mkX12_fact : zMv MX12_fact 4 := ⟨⟨zin_1 (List.mem_of_getElem? (i := 14) (by decide +kernel)), zin_7 (List.mem_of_getElem? (i := 222) rfl), by decide, by decide, by decide +kernel⟩, zin_7 (List.mem_of_getElem? (i := 220) (by decide +kernel)), zin_7 (List.mem_of_getElem? (i := 221) (by decide +kernel))⟩
abbrev MX12_death : zM := (yX12_death, cX12_death, 3, (some .int), 1, 21)
set_option maxRecDepth 20000 in
theorem mkX12_death : zMv MX12_death 2 := ⟨⟨zin_1 (List.mem_of_getElem? (i := 14) (by decide +kernel)), zin_7 (List.mem_of_getElem? (i := 226) rfl), by decide, by decide, by decide +kernel⟩, zin_7 (List.mem_of_getElem? (i := 224) (by decide +kernel)), zin_7 (List.mem_of_getElem? (i := 225) (by decide +kernel))⟩
abbrev MX12_valueOf : zM := (yX12_valueOf, cX12_valueOf, 7, (some .int), 0, 0)
set_option maxRecDepth 20000 in
theorem mkX12_valueOf : zMv MX12_valueOf 4 := ⟨⟨zin_1 (List.mem_of_getElem? (i := 14) (by decide +kernel)), zin_7 (List.mem_of_getElem? (i := 234) rfl), by decide, by decide, by decide +kernel⟩, zin_7 (List.mem_of_getElem? (i := 233) (by decide +kernel)), zin_0 (List.mem_of_getElem? (i := 7) (by decide +kernel))⟩
abbrev MX12_is : zM := (yX12_is, cX12_is, 5, (some .int), 1, 26)
set_option maxRecDepth 20000 in
theorem mkX12_is : zMv MX12_is 4 := ⟨⟨zin_1 (List.mem_of_getElem? (i := 14) (by decide +kernel)), zin_7 (List.mem_of_getElem? (i := 230) rfl), by decide, by decide, by decide +kernel⟩, zin_7 (List.mem_of_getElem? (i := 228) (by decide +kernel)), zin_7 (List.mem_of_getElem? (i := 229) (by decide +kernel))⟩
abbrev MX12_kinOf : zM := (yX12_kinOf, cX12_kinOf, 6, (some .int), 1, 28)
set_option maxRecDepth 20000 in
theorem mkX12_kinOf : zMv MX12_kinOf 2 := ⟨⟨zin_1 (List.mem_of_getElem? (i := 14) (by decide +kernel)), zin_8 (List.mem_of_getElem? (i := 6) rfl), by decide, by decide, by decide +kernel⟩, zin_8 (List.mem_of_getElem? (i := 5) (by decide +kernel)), zin_0 (List.mem_of_getElem? (i := 9) (by decide +kernel))⟩
abbrev MX12_nearOf : zM := (yX12_nearOf, cX12_nearOf, 7, (some .int), 2, 53)
set_option maxRecDepth 20000 in
theorem mkX12_nearOf : zMv MX12_nearOf 2 := ⟨⟨zin_1 (List.mem_of_getElem? (i := 14) (by decide +kernel)), zin_8 (List.mem_of_getElem? (i := 2) rfl), by decide, by decide, by decide +kernel⟩, zin_8 (List.mem_of_getElem? (i := 1) (by decide +kernel)), zin_0 (List.mem_of_getElem? (i := 8) (by decide +kernel))⟩
abbrev MX12_kin : zM := (yX12_kin, cX12_kin, 4, (some .int), 3, 79)
set_option maxRecDepth 20000 in
theorem mkX12_kin : zMv MX12_kin 3 := ⟨⟨zin_1 (List.mem_of_getElem? (i := 14) (by decide +kernel)), zin_7 (List.mem_of_getElem? (i := 238) rfl), by decide, by decide, by decide +kernel⟩, zin_7 (List.mem_of_getElem? (i := 236) (by decide +kernel)), zin_7 (List.mem_of_getElem? (i := 237) (by decide +kernel))⟩
abbrev MX12_settles : zM := (yX12_settles, cX12_settles, 5, (some .int), 3, 79)
set_option maxRecDepth 20000 in
theorem mkX12_settles : zMv MX12_settles 1 := ⟨⟨zin_1 (List.mem_of_getElem? (i := 14) (by decide +kernel)), zin_8 (List.mem_of_getElem? (i := 10) rfl), by decide, by decide, by decide +kernel⟩, zin_8 (List.mem_of_getElem? (i := 8) (by decide +kernel)), zin_8 (List.mem_of_getElem? (i := 9) (by decide +kernel))⟩
abbrev MX12_row : zM := (yX12_row, cX12_row, 5, (some .int), 1, 21)
set_option maxRecDepth 20000 in
theorem mkX12_row : zMv MX12_row 3 := ⟨⟨zin_1 (List.mem_of_getElem? (i := 14) (by decide +kernel)), zin_8 (List.mem_of_getElem? (i := 14) rfl), by decide, by decide, by decide +kernel⟩, zin_8 (List.mem_of_getElem? (i := 12) (by decide +kernel)), zin_8 (List.mem_of_getElem? (i := 13) (by decide +kernel))⟩
abbrev MX12_set : zM := (yX12_set, cX12_set, 5, (some .int), 1, 21)
set_option maxRecDepth 20000 in
theorem mkX12_set : zMv MX12_set 3 := ⟨⟨zin_1 (List.mem_of_getElem? (i := 14) (by decide +kernel)), zin_8 (List.mem_of_getElem? (i := 21) rfl), by decide, by decide, by decide +kernel⟩, zin_8 (List.mem_of_getElem? (i := 19) (by decide +kernel)), zin_8 (List.mem_of_getElem? (i := 20) (by decide +kernel))⟩
abbrev MX12_copy : zM := (yX12_copy, cX12_copy, 7, (some .int), 1, 21)
set_option maxRecDepth 20000 in
theorem mkX12_copy : zMv MX12_copy 5 := ⟨⟨zin_1 (List.mem_of_getElem? (i := 14) (by decide +kernel)), zin_8 (List.mem_of_getElem? (i := 25) rfl), by decide, by decide, by decide +kernel⟩, zin_8 (List.mem_of_getElem? (i := 23) (by decide +kernel)), zin_8 (List.mem_of_getElem? (i := 24) (by decide +kernel))⟩
abbrev MX12_element : zM := (yX12_element, cX12_element, 3, (some .long), 1, 20)
set_option maxRecDepth 20000 in
theorem mkX12_element : zMv MX12_element 2 := ⟨⟨zin_1 (List.mem_of_getElem? (i := 14) (by decide +kernel)), zin_8 (List.mem_of_getElem? (i := 29) rfl), by decide, by decide, by decide +kernel⟩, zin_8 (List.mem_of_getElem? (i := 27) (by decide +kernel)), zin_8 (List.mem_of_getElem? (i := 28) (by decide +kernel))⟩
abbrev MX12_show : zM := (yX12_show, cX12_show, 3, (some .int), 1, 21)
set_option maxRecDepth 20000 in
theorem mkX12_show : zMv MX12_show 2 := ⟨⟨zin_1 (List.mem_of_getElem? (i := 14) (by decide +kernel)), zin_8 (List.mem_of_getElem? (i := 33) rfl), by decide, by decide, by decide +kernel⟩, zin_8 (List.mem_of_getElem? (i := 31) (by decide +kernel)), zin_8 (List.mem_of_getElem? (i := 32) (by decide +kernel))⟩
abbrev MX12_holds : zM := (yX12_holds, cX12_holds, 2, (some .int), 1, 20)
set_option maxRecDepth 20000 in
theorem mkX12_holds : zMv MX12_holds 1 := ⟨⟨zin_1 (List.mem_of_getElem? (i := 14) (by decide +kernel)), zin_8 (List.mem_of_getElem? (i := 37) rfl), by decide, by decide, by decide +kernel⟩, zin_8 (List.mem_of_getElem? (i := 35) (by decide +kernel)), zin_8 (List.mem_of_getElem? (i := 36) (by decide +kernel))⟩
abbrev MX12_bornIn : zM := (yX12_bornIn, cX12_bornIn, 3, (some .int), 1, 21)
set_option maxRecDepth 20000 in
theorem mkX12_bornIn : zMv MX12_bornIn 1 := ⟨⟨zin_1 (List.mem_of_getElem? (i := 14) (by decide +kernel)), zin_8 (List.mem_of_getElem? (i := 41) rfl), by decide, by decide, by decide +kernel⟩, zin_8 (List.mem_of_getElem? (i := 39) (by decide +kernel)), zin_8 (List.mem_of_getElem? (i := 40) (by decide +kernel))⟩
abbrev MX12_wants : zM := (yX12_wants, cX12_wants, 2, (some .int), 1, 20)
set_option maxRecDepth 20000 in
theorem mkX12_wants : zMv MX12_wants 1 := ⟨⟨zin_1 (List.mem_of_getElem? (i := 14) (by decide +kernel)), zin_8 (List.mem_of_getElem? (i := 53) rfl), by decide, by decide, by decide +kernel⟩, zin_8 (List.mem_of_getElem? (i := 52) (by decide +kernel)), zin_0 (List.mem_of_getElem? (i := 10) (by decide +kernel))⟩
abbrev MX12_statute : zM := (yX12_statute, cX12_statute, 5, (some .int), 2, 41)
set_option maxRecDepth 20000 in
theorem mkX12_statute : zMv MX12_statute 2 := ⟨⟨zin_1 (List.mem_of_getElem? (i := 14) (by decide +kernel)), zin_8 (List.mem_of_getElem? (i := 46) rfl), by decide, by decide, by decide +kernel⟩, zin_8 (List.mem_of_getElem? (i := 44) (by decide +kernel)), zin_8 (List.mem_of_getElem? (i := 45) (by decide +kernel))⟩
abbrev MX12_amend : zM := (yX12_amend, cX12_amend, 7, (some .int), 1, 21)
set_option maxRecDepth 20000 in
theorem mkX12_amend : zMv MX12_amend 4 := ⟨⟨zin_1 (List.mem_of_getElem? (i := 14) (by decide +kernel)), zin_8 (List.mem_of_getElem? (i := 57) rfl), by decide, by decide, by decide +kernel⟩, zin_8 (List.mem_of_getElem? (i := 55) (by decide +kernel)), zin_8 (List.mem_of_getElem? (i := 56) (by decide +kernel))⟩
abbrev MX12_isInForce : zM := (yX12_isInForce, cX12_isInForce, 5, (some .boolean), 0, 0)
set_option maxRecDepth 20000 in
theorem mkX12_isInForce : zMv MX12_isInForce 4 := ⟨⟨zin_1 (List.mem_of_getElem? (i := 14) (by decide +kernel)), zin_8 (List.mem_of_getElem? (i := 69) rfl), by decide, by decide, by decide +kernel⟩, zin_8 (List.mem_of_getElem? (i := 68) (by decide +kernel)), zin_0 (List.mem_of_getElem? (i := 12) (by decide +kernel))⟩
abbrev MX12_placeOf : zM := (yX12_placeOf, cX12_placeOf, 4, (some .int), 0, 0)
set_option maxRecDepth 20000 in
theorem mkX12_placeOf : zMv MX12_placeOf 1 := ⟨⟨zin_1 (List.mem_of_getElem? (i := 14) (by decide +kernel)), zin_8 (List.mem_of_getElem? (i := 73) rfl), by decide, by decide, by decide +kernel⟩, zin_8 (List.mem_of_getElem? (i := 72) (by decide +kernel)), zin_0 (List.mem_of_getElem? (i := 13) (by decide +kernel))⟩
abbrev MX12_words : zM := (yX12_words, cX12_words, 11, none, 1, 24)
set_option maxRecDepth 20000 in
theorem mkX12_words : zMv MX12_words 3 := ⟨⟨zin_1 (List.mem_of_getElem? (i := 14) (by decide +kernel)), zin_8 (List.mem_of_getElem? (i := 65) rfl), by decide, by decide, by decide +kernel⟩, zin_8 (List.mem_of_getElem? (i := 64) (by decide +kernel)), zin_0 (List.mem_of_getElem? (i := 11) (by decide +kernel))⟩
abbrev MX12_words_ : zM := (yX12_words_, cX12_words_, 5, (some .int), 2, 54)
set_option maxRecDepth 20000 in
theorem mkX12_words_ : zMv MX12_words_ 4 := ⟨⟨zin_1 (List.mem_of_getElem? (i := 14) (by decide +kernel)), zin_8 (List.mem_of_getElem? (i := 61) rfl), by decide, by decide, by decide +kernel⟩, zin_8 (List.mem_of_getElem? (i := 59) (by decide +kernel)), zin_8 (List.mem_of_getElem? (i := 60) (by decide +kernel))⟩
abbrev MX12_gone : zM := (yX12_gone, cX12_gone, 4, (some .int), 2, 54)
set_option maxRecDepth 20000 in
theorem mkX12_gone : zMv MX12_gone 3 := ⟨⟨zin_1 (List.mem_of_getElem? (i := 14) (by decide +kernel)), zin_8 (List.mem_of_getElem? (i := 77) rfl), by decide, by decide, by decide +kernel⟩, zin_8 (List.mem_of_getElem? (i := 75) (by decide +kernel)), zin_8 (List.mem_of_getElem? (i := 76) (by decide +kernel))⟩
abbrev MX12_letter : zM := (yX12_letter, cX12_letter, 1, (some .int), 0, 0)
set_option maxRecDepth 20000 in
theorem mkX12_letter : zMv MX12_letter 0 := ⟨⟨zin_1 (List.mem_of_getElem? (i := 14) (by decide +kernel)), zin_8 (List.mem_of_getElem? (i := 89) rfl), by decide, by decide, by decide +kernel⟩, zin_8 (List.mem_of_getElem? (i := 88) (by decide +kernel)), zin_0 (List.mem_of_getElem? (i := 15) (by decide +kernel))⟩
abbrev MX12_reads : zM := (yX12_reads, cX12_reads, 5, (some .boolean), 1, 20)
set_option maxRecDepth 20000 in
theorem mkX12_reads : zMv MX12_reads 0 := ⟨⟨zin_1 (List.mem_of_getElem? (i := 14) (by decide +kernel)), zin_8 (List.mem_of_getElem? (i := 93) rfl), by decide, by decide, by decide +kernel⟩, zin_8 (List.mem_of_getElem? (i := 92) (by decide +kernel)), zin_0 (List.mem_of_getElem? (i := 16) (by decide +kernel))⟩
abbrev MX12_closes : zM := (yX12_closes, cX12_closes, 1, none, 0, 0)
set_option maxRecDepth 20000 in
theorem mkX12_closes : zMv MX12_closes 0 := ⟨⟨zin_1 (List.mem_of_getElem? (i := 14) (by decide +kernel)), zin_8 (List.mem_of_getElem? (i := 97) rfl), by decide, by decide, by decide +kernel⟩, zin_8 (List.mem_of_getElem? (i := 96) (by decide +kernel)), zin_0 (List.mem_of_getElem? (i := 17) (by decide +kernel))⟩
abbrev MX12_pops : zM := (yX12_pops, cX12_pops, 2, none, 0, 0)
set_option maxRecDepth 20000 in
theorem mkX12_pops : zMv MX12_pops 1 := ⟨⟨zin_1 (List.mem_of_getElem? (i := 14) (by decide +kernel)), zin_8 (List.mem_of_getElem? (i := 101) rfl), by decide, by decide, by decide +kernel⟩, zin_8 (List.mem_of_getElem? (i := 100) (by decide +kernel)), zin_0 (List.mem_of_getElem? (i := 18) (by decide +kernel))⟩
abbrev MX12_compiles : zM := (yX12_compiles, cX12_compiles, 4, (some .int), 2, 44)
set_option maxRecDepth 20000 in
theorem mkX12_compiles : zMv MX12_compiles 0 := ⟨⟨zin_1 (List.mem_of_getElem? (i := 14) (by decide +kernel)), zin_8 (List.mem_of_getElem? (i := 85) rfl), by decide, by decide, by decide +kernel⟩, zin_8 (List.mem_of_getElem? (i := 84) (by decide +kernel)), zin_0 (List.mem_of_getElem? (i := 14) (by decide +kernel))⟩
abbrev MX12_fault : zM := (yX12_fault, cX12_fault, 4, (some .int), 3, 67)
set_option maxRecDepth 20000 in
theorem mkX12_fault : zMv MX12_fault 3 := ⟨⟨zin_1 (List.mem_of_getElem? (i := 14) (by decide +kernel)), zin_8 (List.mem_of_getElem? (i := 81) rfl), by decide, by decide, by decide +kernel⟩, zin_8 (List.mem_of_getElem? (i := 79) (by decide +kernel)), zin_8 (List.mem_of_getElem? (i := 80) (by decide +kernel))⟩
abbrev MX12_compared : zM := (yX12_compared, cX12_compared, 3, (some .int), 0, 0)
set_option maxRecDepth 20000 in
theorem mkX12_compared : zMs MX12_compared 3 := ⟨⟨zin_1 (List.mem_of_getElem? (i := 14) (by decide +kernel)), zin_8 (List.mem_of_getElem? (i := 117) rfl), by decide, by decide, by decide +kernel⟩, zin_8 (List.mem_of_getElem? (i := 116) (by decide +kernel))⟩
abbrev MX12_tested : zM := (yX12_tested, cX12_tested, 9, (some .int), 3, 79)
set_option maxRecDepth 20000 in
theorem mkX12_tested : zMv MX12_tested 4 := ⟨⟨zin_1 (List.mem_of_getElem? (i := 14) (by decide +kernel)), zin_8 (List.mem_of_getElem? (i := 113) rfl), by decide, by decide, by decide +kernel⟩, zin_8 (List.mem_of_getElem? (i := 112) (by decide +kernel)), zin_0 (List.mem_of_getElem? (i := 20) (by decide +kernel))⟩
abbrev MX12_joined : zM := (yX12_joined, cX12_joined, 3, (some .int), 0, 0)
set_option maxRecDepth 20000 in
theorem mkX12_joined : zMs MX12_joined 3 := ⟨⟨zin_1 (List.mem_of_getElem? (i := 14) (by decide +kernel)), zin_8 (List.mem_of_getElem? (i := 120) rfl), by decide, by decide, by decide +kernel⟩, zin_8 (List.mem_of_getElem? (i := 119) (by decide +kernel))⟩
abbrev MX12_mays : zM := (yX12_mays, cX12_mays, 8, (some .int), 4, 107)
set_option maxRecDepth 20000 in
theorem mkX12_mays : zMv MX12_mays 4 := ⟨⟨zin_1 (List.mem_of_getElem? (i := 14) (by decide +kernel)), zin_8 (List.mem_of_getElem? (i := 109) rfl), by decide, by decide, by decide +kernel⟩, zin_8 (List.mem_of_getElem? (i := 108) (by decide +kernel)), zin_0 (List.mem_of_getElem? (i := 19) (by decide +kernel))⟩
abbrev MX12_may : zM := (yX12_may, cX12_may, 5, (some .int), 5, 134)
set_option maxRecDepth 20000 in
theorem mkX12_may : zMv MX12_may 4 := ⟨⟨zin_1 (List.mem_of_getElem? (i := 14) (by decide +kernel)), zin_8 (List.mem_of_getElem? (i := 105) rfl), by decide, by decide, by decide +kernel⟩, zin_8 (List.mem_of_getElem? (i := 103) (by decide +kernel)), zin_8 (List.mem_of_getElem? (i := 104) (by decide +kernel))⟩
abbrev MX12_test : zM := (yX12_test, cX12_test, 6, (some .int), 4, 107)
set_option maxRecDepth 20000 in
theorem mkX12_test : zMv MX12_test 5 := ⟨⟨zin_1 (List.mem_of_getElem? (i := 14) (by decide +kernel)), zin_8 (List.mem_of_getElem? (i := 124) rfl), by decide, by decide, by decide +kernel⟩, zin_8 (List.mem_of_getElem? (i := 122) (by decide +kernel)), zin_8 (List.mem_of_getElem? (i := 123) (by decide +kernel))⟩
abbrev MX12_place : zM := (yX12_place, cX12_place, 2, (some .int), 1, 21)
set_option maxRecDepth 20000 in
theorem mkX12_place : zMv MX12_place 1 := ⟨⟨zin_1 (List.mem_of_getElem? (i := 14) (by decide +kernel)), zin_8 (List.mem_of_getElem? (i := 128) rfl), by decide, by decide, by decide +kernel⟩, zin_8 (List.mem_of_getElem? (i := 126) (by decide +kernel)), zin_8 (List.mem_of_getElem? (i := 127) (by decide +kernel))⟩
abbrev MX12_grace : zM := (yX12_grace, cX12_grace, 3, (some .int), 1, 21)
set_option maxRecDepth 20000 in
theorem mkX12_grace : zMv MX12_grace 1 := ⟨⟨zin_1 (List.mem_of_getElem? (i := 14) (by decide +kernel)), zin_8 (List.mem_of_getElem? (i := 132) rfl), by decide, by decide, by decide +kernel⟩, zin_8 (List.mem_of_getElem? (i := 130) (by decide +kernel)), zin_8 (List.mem_of_getElem? (i := 131) (by decide +kernel))⟩
abbrev MX12_placeHeld : zM := (yX12_placeHeld, cX12_placeHeld, 4, (some .int), 0, 0)
set_option maxRecDepth 20000 in
theorem mkX12_placeHeld : zMv MX12_placeHeld 2 := ⟨⟨zin_1 (List.mem_of_getElem? (i := 14) (by decide +kernel)), zin_8 (List.mem_of_getElem? (i := 148) rfl), by decide, by decide, by decide +kernel⟩, zin_8 (List.mem_of_getElem? (i := 147) (by decide +kernel)), zin_0 (List.mem_of_getElem? (i := 23) (by decide +kernel))⟩
abbrev MX12_mayHold : zM := (yX12_mayHold, cX12_mayHold, 3, (some .boolean), 5, 134)
set_option maxRecDepth 20000 in
theorem mkX12_mayHold : zMv MX12_mayHold 2 := ⟨⟨zin_1 (List.mem_of_getElem? (i := 14) (by decide +kernel)), zin_8 (List.mem_of_getElem? (i := 144) rfl), by decide, by decide, by decide +kernel⟩, zin_8 (List.mem_of_getElem? (i := 143) (by decide +kernel)), zin_0 (List.mem_of_getElem? (i := 22) (by decide +kernel))⟩
abbrev MX12_comes : zM := (yX12_comes, cX12_comes, 3, none, 0, 0)
set_option maxRecDepth 20000 in
theorem mkX12_comes : zMv MX12_comes 2 := ⟨⟨zin_1 (List.mem_of_getElem? (i := 14) (by decide +kernel)), zin_8 (List.mem_of_getElem? (i := 152) rfl), by decide, by decide, by decide +kernel⟩, zin_8 (List.mem_of_getElem? (i := 151) (by decide +kernel)), zin_0 (List.mem_of_getElem? (i := 24) (by decide +kernel))⟩
abbrev MX12_ends : zM := (yX12_ends, cX12_ends, 3, none, 0, 0)
set_option maxRecDepth 20000 in
theorem mkX12_ends : zMv MX12_ends 2 := ⟨⟨zin_1 (List.mem_of_getElem? (i := 14) (by decide +kernel)), zin_8 (List.mem_of_getElem? (i := 160) rfl), by decide, by decide, by decide +kernel⟩, zin_8 (List.mem_of_getElem? (i := 159) (by decide +kernel)), zin_0 (List.mem_of_getElem? (i := 25) (by decide +kernel))⟩
abbrev MX12_hold : zM := (yX12_hold, cX12_hold, 3, (some .int), 6, 156)
set_option maxRecDepth 20000 in
theorem mkX12_hold : zMv MX12_hold 2 := ⟨⟨zin_1 (List.mem_of_getElem? (i := 14) (by decide +kernel)), zin_8 (List.mem_of_getElem? (i := 136) rfl), by decide, by decide, by decide +kernel⟩, zin_8 (List.mem_of_getElem? (i := 134) (by decide +kernel)), zin_8 (List.mem_of_getElem? (i := 135) (by decide +kernel))⟩
abbrev MX12_leave : zM := (yX12_leave, cX12_leave, 3, (some .int), 1, 22)
set_option maxRecDepth 20000 in
theorem mkX12_leave : zMv MX12_leave 1 := ⟨⟨zin_1 (List.mem_of_getElem? (i := 14) (by decide +kernel)), zin_8 (List.mem_of_getElem? (i := 156) rfl), by decide, by decide, by decide +kernel⟩, zin_8 (List.mem_of_getElem? (i := 154) (by decide +kernel)), zin_8 (List.mem_of_getElem? (i := 155) (by decide +kernel))⟩
abbrev MX12_about : zM := (yX12_about, cX12_about, 3, (some .int), 1, 21)
set_option maxRecDepth 20000 in
theorem mkX12_about : zMv MX12_about 2 := ⟨⟨zin_1 (List.mem_of_getElem? (i := 14) (by decide +kernel)), zin_8 (List.mem_of_getElem? (i := 164) rfl), by decide, by decide, by decide +kernel⟩, zin_8 (List.mem_of_getElem? (i := 162) (by decide +kernel)), zin_8 (List.mem_of_getElem? (i := 163) (by decide +kernel))⟩
abbrev MX12_days : zM := (yX12_days, cX12_days, 5, (some .int), 6, 156)
set_option maxRecDepth 20000 in
theorem mkX12_days : zMv MX12_days 1 := ⟨⟨zin_1 (List.mem_of_getElem? (i := 14) (by decide +kernel)), zin_8 (List.mem_of_getElem? (i := 168) rfl), by decide, by decide, by decide +kernel⟩, zin_8 (List.mem_of_getElem? (i := 166) (by decide +kernel)), zin_8 (List.mem_of_getElem? (i := 167) (by decide +kernel))⟩
abbrev MX12_ballot : zM := (yX12_ballot, cX12_ballot, 5, (some .int), 2, 41)
set_option maxRecDepth 20000 in
theorem mkX12_ballot : zMv MX12_ballot 2 := ⟨⟨zin_1 (List.mem_of_getElem? (i := 14) (by decide +kernel)), zin_8 (List.mem_of_getElem? (i := 172) rfl), by decide, by decide, by decide +kernel⟩, zin_8 (List.mem_of_getElem? (i := 170) (by decide +kernel)), zin_8 (List.mem_of_getElem? (i := 171) (by decide +kernel))⟩
abbrev MX12_keeps : zM := (yX12_keeps, cX12_keeps, 4, none, 0, 0)
set_option maxRecDepth 20000 in
theorem mkX12_keeps : zMv MX12_keeps 2 := ⟨⟨zin_1 (List.mem_of_getElem? (i := 14) (by decide +kernel)), zin_8 (List.mem_of_getElem? (i := 180) rfl), by decide, by decide, by decide +kernel⟩, zin_8 (List.mem_of_getElem? (i := 179) (by decide +kernel)), zin_0 (List.mem_of_getElem? (i := 26) (by decide +kernel))⟩
abbrev MX12_choice : zM := (yX12_choice, cX12_choice, 5, (some .int), 1, 21)
set_option maxRecDepth 20000 in
theorem mkX12_choice : zMv MX12_choice 2 := ⟨⟨zin_1 (List.mem_of_getElem? (i := 14) (by decide +kernel)), zin_8 (List.mem_of_getElem? (i := 188) rfl), by decide, by decide, by decide +kernel⟩, zin_8 (List.mem_of_getElem? (i := 187) (by decide +kernel)), zin_0 (List.mem_of_getElem? (i := 28) (by decide +kernel))⟩
abbrev MX12_elects : zM := (yX12_elects, cX12_elects, 10, (some .int), 2, 45)
set_option maxRecDepth 20000 in
theorem mkX12_elects : zMv MX12_elects 2 := ⟨⟨zin_1 (List.mem_of_getElem? (i := 14) (by decide +kernel)), zin_8 (List.mem_of_getElem? (i := 184) rfl), by decide, by decide, by decide +kernel⟩, zin_8 (List.mem_of_getElem? (i := 183) (by decide +kernel)), zin_0 (List.mem_of_getElem? (i := 27) (by decide +kernel))⟩
abbrev MX12_elect : zM := (yX12_elect, cX12_elect, 7, (some .int), 6, 156)
set_option maxRecDepth 20000 in
theorem mkX12_elect : zMv MX12_elect 2 := ⟨⟨zin_1 (List.mem_of_getElem? (i := 14) (by decide +kernel)), zin_8 (List.mem_of_getElem? (i := 176) rfl), by decide, by decide, by decide +kernel⟩, zin_8 (List.mem_of_getElem? (i := 174) (by decide +kernel)), zin_8 (List.mem_of_getElem? (i := 175) (by decide +kernel))⟩
abbrev MX12_votes : zM := (yX12_votes, cX12_votes, 3, (some .int), 1, 21)
set_option maxRecDepth 20000 in
theorem mkX12_votes : zMv MX12_votes 2 := ⟨⟨zin_1 (List.mem_of_getElem? (i := 14) (by decide +kernel)), zin_8 (List.mem_of_getElem? (i := 192) rfl), by decide, by decide, by decide +kernel⟩, zin_8 (List.mem_of_getElem? (i := 190) (by decide +kernel)), zin_8 (List.mem_of_getElem? (i := 191) (by decide +kernel))⟩
abbrev MX12_without : zM := (yX12_without, cX12_without, 2, (some .int), 3, 74)
set_option maxRecDepth 20000 in
theorem mkX12_without : zMv MX12_without 1 := ⟨⟨zin_1 (List.mem_of_getElem? (i := 14) (by decide +kernel)), zin_8 (List.mem_of_getElem? (i := 196) rfl), by decide, by decide, by decide +kernel⟩, zin_8 (List.mem_of_getElem? (i := 194) (by decide +kernel)), zin_8 (List.mem_of_getElem? (i := 195) (by decide +kernel))⟩
abbrev MX12_seniors : zM := (yX12_seniors, cX12_seniors, 4, (some .int), 0, 0)
set_option maxRecDepth 20000 in
theorem mkX12_seniors : zMv MX12_seniors 0 := ⟨⟨zin_1 (List.mem_of_getElem? (i := 14) (by decide +kernel)), zin_8 (List.mem_of_getElem? (i := 208) rfl), by decide, by decide, by decide +kernel⟩, zin_8 (List.mem_of_getElem? (i := 207) (by decide +kernel)), zin_0 (List.mem_of_getElem? (i := 30) (by decide +kernel))⟩
abbrev MX12_isAsked : zM := (yX12_isAsked, cX12_isAsked, 5, (some .int), 6, 156)
set_option maxRecDepth 20000 in
theorem mkX12_isAsked : zMv MX12_isAsked 1 := ⟨⟨zin_1 (List.mem_of_getElem? (i := 14) (by decide +kernel)), zin_8 (List.mem_of_getElem? (i := 204) rfl), by decide, by decide, by decide +kernel⟩, zin_8 (List.mem_of_getElem? (i := 203) (by decide +kernel)), zin_0 (List.mem_of_getElem? (i := 29) (by decide +kernel))⟩
abbrev MX12_asked : zM := (yX12_asked, cX12_asked, 2, (some .int), 7, 180)
set_option maxRecDepth 20000 in
theorem mkX12_asked : zMv MX12_asked 1 := ⟨⟨zin_1 (List.mem_of_getElem? (i := 14) (by decide +kernel)), zin_8 (List.mem_of_getElem? (i := 200) rfl), by decide, by decide, by decide +kernel⟩, zin_8 (List.mem_of_getElem? (i := 198) (by decide +kernel)), zin_8 (List.mem_of_getElem? (i := 199) (by decide +kernel))⟩
abbrev MX12_answer : zM := (yX12_answer, cX12_answer, 4, (some .int), 7, 180)
set_option maxRecDepth 20000 in
theorem mkX12_answer : zMv MX12_answer 2 := ⟨⟨zin_1 (List.mem_of_getElem? (i := 14) (by decide +kernel)), zin_8 (List.mem_of_getElem? (i := 212) rfl), by decide, by decide, by decide +kernel⟩, zin_8 (List.mem_of_getElem? (i := 210) (by decide +kernel)), zin_8 (List.mem_of_getElem? (i := 211) (by decide +kernel))⟩
abbrev MX12_isLease : zM := (yX12_isLease, cX12_isLease, 4, (some .boolean), 0, 0)
set_option maxRecDepth 20000 in
theorem mkX12_isLease : zMs MX12_isLease 4 := ⟨⟨zin_1 (List.mem_of_getElem? (i := 14) (by decide +kernel)), zin_8 (List.mem_of_getElem? (i := 219) rfl), by decide, by decide, by decide +kernel⟩, zin_8 (List.mem_of_getElem? (i := 218) (by decide +kernel))⟩
abbrev MX12_lets : zM := (yX12_lets, cX12_lets, 8, (some .int), 0, 0)
set_option maxRecDepth 20000 in
theorem mkX12_lets : zMv MX12_lets 7 := ⟨⟨zin_1 (List.mem_of_getElem? (i := 14) (by decide +kernel)), zin_8 (List.mem_of_getElem? (i := 223) rfl), by decide, by decide, by decide +kernel⟩, zin_8 (List.mem_of_getElem? (i := 222) (by decide +kernel)), zin_0 (List.mem_of_getElem? (i := 31) (by decide +kernel))⟩
abbrev MX12_lease : zM := (yX12_lease, cX12_lease, 7, (some .int), 1, 27)
set_option maxRecDepth 20000 in
theorem mkX12_lease : zMv MX12_lease 6 := ⟨⟨zin_1 (List.mem_of_getElem? (i := 14) (by decide +kernel)), zin_8 (List.mem_of_getElem? (i := 216) rfl), by decide, by decide, by decide +kernel⟩, zin_8 (List.mem_of_getElem? (i := 214) (by decide +kernel)), zin_8 (List.mem_of_getElem? (i := 215) (by decide +kernel))⟩
abbrev MX12_bits : zM := (yX12_bits, cX12_bits, 3, (some .int), 0, 0)
set_option maxRecDepth 20000 in
theorem mkX12_bits : zMs MX12_bits 1 := ⟨⟨zin_1 (List.mem_of_getElem? (i := 14) (by decide +kernel)), zin_8 (List.mem_of_getElem? (i := 230) rfl), by decide, by decide, by decide +kernel⟩, zin_8 (List.mem_of_getElem? (i := 229) (by decide +kernel))⟩
abbrev MX12_lives : zM := (yX12_lives, cX12_lives, 6, (some .int), 1, 27)
set_option maxRecDepth 20000 in
theorem mkX12_lives : zMv MX12_lives 5 := ⟨⟨zin_1 (List.mem_of_getElem? (i := 14) (by decide +kernel)), zin_8 (List.mem_of_getElem? (i := 227) rfl), by decide, by decide, by decide +kernel⟩, zin_8 (List.mem_of_getElem? (i := 225) (by decide +kernel)), zin_8 (List.mem_of_getElem? (i := 226) (by decide +kernel))⟩
abbrev MX12_price : zM := (yX12_price, cX12_price, 4, (some .int), 1, 21)
set_option maxRecDepth 20000 in
theorem mkX12_price : zMv MX12_price 3 := ⟨⟨zin_1 (List.mem_of_getElem? (i := 14) (by decide +kernel)), zin_8 (List.mem_of_getElem? (i := 234) rfl), by decide, by decide, by decide +kernel⟩, zin_8 (List.mem_of_getElem? (i := 232) (by decide +kernel)), zin_8 (List.mem_of_getElem? (i := 233) (by decide +kernel))⟩
abbrev MX12_endOf : zM := (yX12_endOf, cX12_endOf, 4, (some .int), 0, 0)
set_option maxRecDepth 20000 in
theorem mkX12_endOf : zMv MX12_endOf 1 := ⟨⟨zin_1 (List.mem_of_getElem? (i := 14) (by decide +kernel)), zin_9 (List.mem_of_getElem? (i := 2) rfl), by decide, by decide, by decide +kernel⟩, zin_9 (List.mem_of_getElem? (i := 1) (by decide +kernel)), zin_0 (List.mem_of_getElem? (i := 32) (by decide +kernel))⟩
abbrev MX12_ends_ : zM := (yX12_ends_, cX12_ends_, 2, (some .int), 1, 23)
set_option maxRecDepth 20000 in
theorem mkX12_ends_ : zMv MX12_ends_ 1 := ⟨⟨zin_1 (List.mem_of_getElem? (i := 14) (by decide +kernel)), zin_8 (List.mem_of_getElem? (i := 238) rfl), by decide, by decide, by decide +kernel⟩, zin_8 (List.mem_of_getElem? (i := 236) (by decide +kernel)), zin_8 (List.mem_of_getElem? (i := 237) (by decide +kernel))⟩
abbrev MX12_asBefore : zM := (yX12_asBefore, cX12_asBefore, 4, (some .int), 0, 0)
set_option maxRecDepth 20000 in
theorem mkX12_asBefore : zMv MX12_asBefore 2 := ⟨⟨zin_1 (List.mem_of_getElem? (i := 14) (by decide +kernel)), zin_9 (List.mem_of_getElem? (i := 15) rfl), by decide, by decide, by decide +kernel⟩, zin_9 (List.mem_of_getElem? (i := 14) (by decide +kernel)), zin_0 (List.mem_of_getElem? (i := 34) (by decide +kernel))⟩
abbrev MX12_rentOf : zM := (yX12_rentOf, cX12_rentOf, 3, (some .int), 1, 23)
set_option maxRecDepth 20000 in
theorem mkX12_rentOf : zMv MX12_rentOf 2 := ⟨⟨zin_1 (List.mem_of_getElem? (i := 14) (by decide +kernel)), zin_9 (List.mem_of_getElem? (i := 11) rfl), by decide, by decide, by decide +kernel⟩, zin_9 (List.mem_of_getElem? (i := 10) (by decide +kernel)), zin_0 (List.mem_of_getElem? (i := 33) (by decide +kernel))⟩
abbrev MX12_rent : zM := (yX12_rent, cX12_rent, 3, (some .int), 2, 45)
set_option maxRecDepth 20000 in
theorem mkX12_rent : zMv MX12_rent 2 := ⟨⟨zin_1 (List.mem_of_getElem? (i := 14) (by decide +kernel)), zin_9 (List.mem_of_getElem? (i := 7) rfl), by decide, by decide, by decide +kernel⟩, zin_9 (List.mem_of_getElem? (i := 5) (by decide +kernel)), zin_9 (List.mem_of_getElem? (i := 6) (by decide +kernel))⟩
abbrev MX12_table : zM := (yX12_table, cX12_table, 5, (some .int), 2, 41)
set_option maxRecDepth 20000 in
theorem mkX12_table : zMv MX12_table 1 := ⟨⟨zin_1 (List.mem_of_getElem? (i := 14) (by decide +kernel)), zin_9 (List.mem_of_getElem? (i := 19) rfl), by decide, by decide, by decide +kernel⟩, zin_9 (List.mem_of_getElem? (i := 17) (by decide +kernel)), zin_9 (List.mem_of_getElem? (i := 18) (by decide +kernel))⟩
abbrev MX12_tableAt : zM := (yX12_tableAt, cX12_tableAt, 2, (some .int), 0, 0)
set_option maxRecDepth 20000 in
theorem mkX12_tableAt : zMv MX12_tableAt 1 := ⟨⟨zin_1 (List.mem_of_getElem? (i := 14) (by decide +kernel)), zin_9 (List.mem_of_getElem? (i := 35) rfl), by decide, by decide, by decide +kernel⟩, zin_9 (List.mem_of_getElem? (i := 34) (by decide +kernel)), zin_0 (List.mem_of_getElem? (i := 37) (by decide +kernel))⟩
abbrev MX12_fine : zM := (yX12_fine, cX12_fine, 4, (some .int), 1, 21)
set_option maxRecDepth 20000 in
theorem mkX12_fine : zMv MX12_fine 2 := ⟨⟨zin_1 (List.mem_of_getElem? (i := 14) (by decide +kernel)), zin_9 (List.mem_of_getElem? (i := 31) rfl), by decide, by decide, by decide +kernel⟩, zin_9 (List.mem_of_getElem? (i := 30) (by decide +kernel)), zin_0 (List.mem_of_getElem? (i := 36) (by decide +kernel))⟩
abbrev MX12_enters : zM := (yX12_enters, cX12_enters, 3, none, 1, 20)
set_option maxRecDepth 20000 in
theorem mkX12_enters : zMv MX12_enters 2 := ⟨⟨zin_1 (List.mem_of_getElem? (i := 14) (by decide +kernel)), zin_9 (List.mem_of_getElem? (i := 39) rfl), by decide, by decide, by decide +kernel⟩, zin_9 (List.mem_of_getElem? (i := 38) (by decide +kernel)), zin_0 (List.mem_of_getElem? (i := 38) (by decide +kernel))⟩
abbrev MX12_renew : zM := (yX12_renew, cX12_renew, 3, (some .int), 2, 44)
set_option maxRecDepth 20000 in
theorem mkX12_renew : zMv MX12_renew 1 := ⟨⟨zin_1 (List.mem_of_getElem? (i := 14) (by decide +kernel)), zin_9 (List.mem_of_getElem? (i := 23) rfl), by decide, by decide, by decide +kernel⟩, zin_9 (List.mem_of_getElem? (i := 21) (by decide +kernel)), zin_9 (List.mem_of_getElem? (i := 22) (by decide +kernel))⟩
abbrev MX12_rents : zM := (yX12_rents, cX12_rents, 3, (some .int), 2, 45)
set_option maxRecDepth 20000 in
theorem mkX12_rents : zMv MX12_rents 0 := ⟨⟨zin_1 (List.mem_of_getElem? (i := 14) (by decide +kernel)), zin_9 (List.mem_of_getElem? (i := 43) rfl), by decide, by decide, by decide +kernel⟩, zin_9 (List.mem_of_getElem? (i := 41) (by decide +kernel)), zin_9 (List.mem_of_getElem? (i := 42) (by decide +kernel))⟩
abbrev MX12_newYear : zM := (yX12_newYear, cX12_newYear, 2, none, 1, 20)
set_option maxRecDepth 20000 in
theorem mkX12_newYear : zMv MX12_newYear 0 := ⟨⟨zin_1 (List.mem_of_getElem? (i := 14) (by decide +kernel)), zin_9 (List.mem_of_getElem? (i := 51) rfl), by decide, by decide, by decide +kernel⟩, zin_9 (List.mem_of_getElem? (i := 50) (by decide +kernel)), zin_0 (List.mem_of_getElem? (i := 39) (by decide +kernel))⟩
abbrev MX12_kept : zM := (yX12_kept, cX12_kept, 4, (some .int), 2, 41)
set_option maxRecDepth 20000 in
theorem mkX12_kept : zMv MX12_kept 2 := ⟨⟨zin_1 (List.mem_of_getElem? (i := 14) (by decide +kernel)), zin_9 (List.mem_of_getElem? (i := 47) rfl), by decide, by decide, by decide +kernel⟩, zin_9 (List.mem_of_getElem? (i := 45) (by decide +kernel)), zin_9 (List.mem_of_getElem? (i := 46) (by decide +kernel))⟩
abbrev MX12_dividend : zM := (yX12_dividend, cX12_dividend, 6, (some .int), 2, 42)
set_option maxRecDepth 20000 in
theorem mkX12_dividend : zMv MX12_dividend 1 := ⟨⟨zin_1 (List.mem_of_getElem? (i := 14) (by decide +kernel)), zin_9 (List.mem_of_getElem? (i := 55) rfl), by decide, by decide, by decide +kernel⟩, zin_9 (List.mem_of_getElem? (i := 53) (by decide +kernel)), zin_9 (List.mem_of_getElem? (i := 54) (by decide +kernel))⟩
abbrev MX12_got : zM := (yX12_got, cX12_got, 2, (some .int), 1, 21)
set_option maxRecDepth 20000 in
theorem mkX12_got : zMv MX12_got 1 := ⟨⟨zin_1 (List.mem_of_getElem? (i := 14) (by decide +kernel)), zin_9 (List.mem_of_getElem? (i := 59) rfl), by decide, by decide, by decide +kernel⟩, zin_9 (List.mem_of_getElem? (i := 57) (by decide +kernel)), zin_9 (List.mem_of_getElem? (i := 58) (by decide +kernel))⟩
abbrev MX12_other : zM := (yX12_other, cX12_other, 2, (some .int), 2, 42)
set_option maxRecDepth 20000 in
theorem mkX12_other : zMv MX12_other 1 := ⟨⟨zin_1 (List.mem_of_getElem? (i := 14) (by decide +kernel)), zin_9 (List.mem_of_getElem? (i := 63) rfl), by decide, by decide, by decide +kernel⟩, zin_9 (List.mem_of_getElem? (i := 61) (by decide +kernel)), zin_9 (List.mem_of_getElem? (i := 62) (by decide +kernel))⟩
abbrev MX12_head : zM := (yX12_head, cX12_head, 5, (some .int), 0, 0)
set_option maxRecDepth 20000 in
theorem mkX12_head : zMv MX12_head 2 := ⟨⟨zin_1 (List.mem_of_getElem? (i := 14) (by decide +kernel)), zin_9 (List.mem_of_getElem? (i := 69) rfl), by decide, by decide, by decide +kernel⟩, zin_9 (List.mem_of_getElem? (i := 67) (by decide +kernel)), zin_9 (List.mem_of_getElem? (i := 68) (by decide +kernel))⟩
abbrev MX12_audit : zM := (yX12_audit, cX12_audit, 2, (some .int), 0, 0)
set_option maxRecDepth 20000 in
theorem mkX12_audit : zMv MX12_audit 1 := ⟨⟨zin_1 (List.mem_of_getElem? (i := 14) (by decide +kernel)), zin_9 (List.mem_of_getElem? (i := 74) rfl), by decide, by decide, by decide +kernel⟩, zin_9 (List.mem_of_getElem? (i := 72) (by decide +kernel)), zin_9 (List.mem_of_getElem? (i := 73) (by decide +kernel))⟩
abbrev MX12_roof : zM := (yX12_roof, cX12_roof, 3, (some .int), 1, 21)
set_option maxRecDepth 20000 in
theorem mkX12_roof : zMv MX12_roof 2 := ⟨⟨zin_1 (List.mem_of_getElem? (i := 14) (by decide +kernel)), zin_9 (List.mem_of_getElem? (i := 78) rfl), by decide, by decide, by decide +kernel⟩, zin_9 (List.mem_of_getElem? (i := 76) (by decide +kernel)), zin_9 (List.mem_of_getElem? (i := 77) (by decide +kernel))⟩
abbrev MX12_endsIn : zM := (yX12_endsIn, cX12_endsIn, 3, (some .boolean), 1, 20)
set_option maxRecDepth 20000 in
theorem mkX12_endsIn : zMv MX12_endsIn 2 := ⟨⟨zin_1 (List.mem_of_getElem? (i := 14) (by decide +kernel)), zin_9 (List.mem_of_getElem? (i := 89) rfl), by decide, by decide, by decide +kernel⟩, zin_9 (List.mem_of_getElem? (i := 88) (by decide +kernel)), zin_0 (List.mem_of_getElem? (i := 40) (by decide +kernel))⟩
abbrev MX12_holds_ : zM := (yX12_holds_, cX12_holds_, 11, (some .boolean), 2, 45)
set_option maxRecDepth 20000 in
theorem mkX12_holds_ : zMv MX12_holds_ 4 := ⟨⟨zin_1 (List.mem_of_getElem? (i := 14) (by decide +kernel)), zin_9 (List.mem_of_getElem? (i := 93) rfl), by decide, by decide, by decide +kernel⟩, zin_9 (List.mem_of_getElem? (i := 92) (by decide +kernel)), zin_0 (List.mem_of_getElem? (i := 41) (by decide +kernel))⟩
abbrev MX12_isPlan : zM := (yX12_isPlan, cX12_isPlan, 3, (some .boolean), 0, 0)
set_option maxRecDepth 20000 in
theorem mkX12_isPlan : zMs MX12_isPlan 3 := ⟨⟨zin_1 (List.mem_of_getElem? (i := 14) (by decide +kernel)), zin_9 (List.mem_of_getElem? (i := 85) rfl), by decide, by decide, by decide +kernel⟩, zin_9 (List.mem_of_getElem? (i := 84) (by decide +kernel))⟩
abbrev MX12_plan : zM := (yX12_plan, cX12_plan, 14, (some .int), 3, 75)
set_option maxRecDepth 20000 in
theorem mkX12_plan : zMv MX12_plan 3 := ⟨⟨zin_1 (List.mem_of_getElem? (i := 14) (by decide +kernel)), zin_9 (List.mem_of_getElem? (i := 82) rfl), by decide, by decide, by decide +kernel⟩, zin_9 (List.mem_of_getElem? (i := 80) (by decide +kernel)), zin_9 (List.mem_of_getElem? (i := 81) (by decide +kernel))⟩
abbrev MX12_planned : zM := (yX12_planned, cX12_planned, 2, (some .int), 0, 0)
set_option maxRecDepth 20000 in
theorem mkX12_planned : zMv MX12_planned 1 := ⟨⟨zin_1 (List.mem_of_getElem? (i := 14) (by decide +kernel)), zin_9 (List.mem_of_getElem? (i := 97) rfl), by decide, by decide, by decide +kernel⟩, zin_9 (List.mem_of_getElem? (i := 95) (by decide +kernel)), zin_9 (List.mem_of_getElem? (i := 96) (by decide +kernel))⟩
abbrev MX12_judge : zM := (yX12_judge, cX12_judge, 8, (some .int), 3, 75)
set_option maxRecDepth 20000 in
theorem mkX12_judge : zMv MX12_judge 4 := ⟨⟨zin_1 (List.mem_of_getElem? (i := 14) (by decide +kernel)), zin_9 (List.mem_of_getElem? (i := 101) rfl), by decide, by decide, by decide +kernel⟩, zin_9 (List.mem_of_getElem? (i := 99) (by decide +kernel)), zin_9 (List.mem_of_getElem? (i := 100) (by decide +kernel))⟩
abbrev MX12_room : zM := (yX12_room, cX12_room, 1, (some .int), 1, 21)
set_option maxRecDepth 20000 in
theorem mkX12_room : zMv MX12_room 0 := ⟨⟨zin_1 (List.mem_of_getElem? (i := 14) (by decide +kernel)), zin_9 (List.mem_of_getElem? (i := 105) rfl), by decide, by decide, by decide +kernel⟩, zin_9 (List.mem_of_getElem? (i := 103) (by decide +kernel)), zin_9 (List.mem_of_getElem? (i := 104) (by decide +kernel))⟩
abbrev MX12_wish : zM := (yX12_wish, cX12_wish, 5, (some .int), 2, 41)
set_option maxRecDepth 20000 in
theorem mkX12_wish : zMv MX12_wish 2 := ⟨⟨zin_1 (List.mem_of_getElem? (i := 14) (by decide +kernel)), zin_9 (List.mem_of_getElem? (i := 109) rfl), by decide, by decide, by decide +kernel⟩, zin_9 (List.mem_of_getElem? (i := 107) (by decide +kernel)), zin_9 (List.mem_of_getElem? (i := 108) (by decide +kernel))⟩
abbrev MX12_whoHas : zM := (yX12_whoHas, cX12_whoHas, 3, (some .int), 0, 0)
set_option maxRecDepth 20000 in
theorem mkX12_whoHas : zMv MX12_whoHas 1 := ⟨⟨zin_1 (List.mem_of_getElem? (i := 14) (by decide +kernel)), zin_9 (List.mem_of_getElem? (i := 117) rfl), by decide, by decide, by decide +kernel⟩, zin_9 (List.mem_of_getElem? (i := 116) (by decide +kernel)), zin_0 (List.mem_of_getElem? (i := 42) (by decide +kernel))⟩
abbrev MX12_choose : zM := (yX12_choose, cX12_choose, 7, (some .int), 1, 23)
set_option maxRecDepth 20000 in
theorem mkX12_choose : zMv MX12_choose 0 := ⟨⟨zin_1 (List.mem_of_getElem? (i := 14) (by decide +kernel)), zin_9 (List.mem_of_getElem? (i := 113) rfl), by decide, by decide, by decide +kernel⟩, zin_9 (List.mem_of_getElem? (i := 111) (by decide +kernel)), zin_9 (List.mem_of_getElem? (i := 112) (by decide +kernel))⟩
abbrev MX12_pointed : zM := (yX12_pointed, cX12_pointed, 5, (some .int), 0, 0)
set_option maxRecDepth 20000 in
theorem mkX12_pointed : zMv MX12_pointed 1 := ⟨⟨zin_1 (List.mem_of_getElem? (i := 14) (by decide +kernel)), zin_9 (List.mem_of_getElem? (i := 125) rfl), by decide, by decide, by decide +kernel⟩, zin_9 (List.mem_of_getElem? (i := 124) (by decide +kernel)), zin_0 (List.mem_of_getElem? (i := 43) (by decide +kernel))⟩
abbrev MX12_exchange : zM := (yX12_exchange, cX12_exchange, 5, (some .int), 1, 24)
set_option maxRecDepth 20000 in
theorem mkX12_exchange : zMv MX12_exchange 0 := ⟨⟨zin_1 (List.mem_of_getElem? (i := 14) (by decide +kernel)), zin_9 (List.mem_of_getElem? (i := 121) rfl), by decide, by decide, by decide +kernel⟩, zin_9 (List.mem_of_getElem? (i := 119) (by decide +kernel)), zin_9 (List.mem_of_getElem? (i := 120) (by decide +kernel))⟩
abbrev MX12_roomOf : zM := (yX12_roomOf, cX12_roomOf, 2, (some .int), 1, 21)
set_option maxRecDepth 20000 in
theorem mkX12_roomOf : zMv MX12_roomOf 1 := ⟨⟨zin_1 (List.mem_of_getElem? (i := 14) (by decide +kernel)), zin_9 (List.mem_of_getElem? (i := 129) rfl), by decide, by decide, by decide +kernel⟩, zin_9 (List.mem_of_getElem? (i := 127) (by decide +kernel)), zin_9 (List.mem_of_getElem? (i := 128) (by decide +kernel))⟩
abbrev MX12_status : zM := (yX12_status, cX12_status, 4, (some .int), 0, 0)
set_option maxRecDepth 20000 in
theorem mkX12_status : zMv MX12_status 1 := ⟨⟨zin_1 (List.mem_of_getElem? (i := 14) (by decide +kernel)), zin_9 (List.mem_of_getElem? (i := 133) rfl), by decide, by decide, by decide +kernel⟩, zin_9 (List.mem_of_getElem? (i := 131) (by decide +kernel)), zin_9 (List.mem_of_getElem? (i := 132) (by decide +kernel))⟩
abbrev MX0_init : zM := (yX0_init, cX0_init, 1, none, 1, 40)
abbrev MX0_isFull : zM := (yX0_isFull, cX0_isFull, 1, (some .boolean), 0, 0)
set_option maxRecDepth 20000 in
theorem mkX0_isFull : zMv MX0_isFull 0 := ⟨⟨zin_1 (List.mem_of_getElem? (i := 10) (by decide +kernel)), zin_5 (List.mem_of_getElem? (i := 155) rfl), by decide, by decide, by decide +kernel⟩, zin_5 (List.mem_of_getElem? (i := 153) (by decide +kernel)), zin_5 (List.mem_of_getElem? (i := 154) (by decide +kernel))⟩
abbrev MX0_enter : zM := (yX0_enter, cX0_enter, 4, none, 0, 0)
set_option maxRecDepth 20000 in
theorem mkX0_enter : zMv MX0_enter 3 := ⟨⟨zin_1 (List.mem_of_getElem? (i := 10) (by decide +kernel)), zin_5 (List.mem_of_getElem? (i := 168) rfl), by decide, by decide, by decide +kernel⟩, zin_5 (List.mem_of_getElem? (i := 166) (by decide +kernel)), zin_5 (List.mem_of_getElem? (i := 167) (by decide +kernel))⟩
abbrev MX0_beginYear : zM := (yX0_beginYear, cX0_beginYear, 2, none, 1, 23)
set_option maxRecDepth 20000 in
theorem mkX0_beginYear : zMv MX0_beginYear 1 := ⟨⟨zin_1 (List.mem_of_getElem? (i := 10) (by decide +kernel)), zin_5 (List.mem_of_getElem? (i := 184) rfl), by decide, by decide, by decide +kernel⟩, zin_5 (List.mem_of_getElem? (i := 182) (by decide +kernel)), zin_5 (List.mem_of_getElem? (i := 183) (by decide +kernel))⟩
abbrev MX0_keep : zM := (yX0_keep, cX0_keep, 5, (some .int), 2, 44)
set_option maxRecDepth 20000 in
theorem mkX0_keep : zMv MX0_keep 3 := ⟨⟨zin_1 (List.mem_of_getElem? (i := 10) (by decide +kernel)), zin_5 (List.mem_of_getElem? (i := 180) rfl), by decide, by decide, by decide +kernel⟩, zin_5 (List.mem_of_getElem? (i := 178) (by decide +kernel)), zin_5 (List.mem_of_getElem? (i := 179) (by decide +kernel))⟩
abbrev MX0_part : zM := (yX0_part, cX0_part, 8, (some .int), 2, 44)
set_option maxRecDepth 20000 in
theorem mkX0_part : zMv MX0_part 3 := ⟨⟨zin_1 (List.mem_of_getElem? (i := 10) (by decide +kernel)), zin_5 (List.mem_of_getElem? (i := 194) rfl), by decide, by decide, by decide +kernel⟩, zin_5 (List.mem_of_getElem? (i := 192) (by decide +kernel)), zin_5 (List.mem_of_getElem? (i := 193) (by decide +kernel))⟩
abbrev MX1_init : zM := (yX1_init, cX1_init, 2, none, 1, 40)
abbrev MX1_tell : zM := (yX1_tell, cX1_tell, 6, none, 1, 21)
set_option maxRecDepth 20000 in
theorem mkX1_tell : zMv MX1_tell 2 := ⟨⟨zin_1 (List.mem_of_getElem? (i := 7) (by decide +kernel)), zin_4 (List.mem_of_getElem? (i := 200) rfl), by decide, by decide, by decide +kernel⟩, zin_4 (List.mem_of_getElem? (i := 198) (by decide +kernel)), zin_4 (List.mem_of_getElem? (i := 199) (by decide +kernel))⟩
abbrev MX1_has : zM := (yX1_has, cX1_has, 2, (some .boolean), 0, 0)
set_option maxRecDepth 20000 in
theorem mkX1_has : zMv MX1_has 1 := ⟨⟨zin_1 (List.mem_of_getElem? (i := 7) (by decide +kernel)), zin_4 (List.mem_of_getElem? (i := 223) rfl), by decide, by decide, by decide +kernel⟩, zin_4 (List.mem_of_getElem? (i := 221) (by decide +kernel)), zin_4 (List.mem_of_getElem? (i := 222) (by decide +kernel))⟩
abbrev MX1_firstOf : zM := (yX1_firstOf, cX1_firstOf, 5, (some .int), 0, 0)
set_option maxRecDepth 20000 in
theorem mkX1_firstOf : zMv MX1_firstOf 2 := ⟨⟨zin_1 (List.mem_of_getElem? (i := 7) (by decide +kernel)), zin_5 (List.mem_of_getElem? (i := 15) rfl), by decide, by decide, by decide +kernel⟩, zin_5 (List.mem_of_getElem? (i := 13) (by decide +kernel)), zin_5 (List.mem_of_getElem? (i := 14) (by decide +kernel))⟩
abbrev MX1_takeOver : zM := (yX1_takeOver, cX1_takeOver, 2, none, 1, 60)
set_option maxRecDepth 20000 in
theorem mkX1_takeOver : zMv MX1_takeOver 1 := ⟨⟨zin_1 (List.mem_of_getElem? (i := 7) (by decide +kernel)), zin_5 (List.mem_of_getElem? (i := 1) rfl), by decide, by decide, by decide +kernel⟩, zin_4 (List.mem_of_getElem? (i := 239) (by decide +kernel)), zin_5 (List.mem_of_getElem? (i := 0) (by decide +kernel))⟩
abbrev MX2_init : zM := (yX2_init, cX2_init, 5, none, 2, 61)
abbrev MX2_canBe : zM := (yX2_canBe, cX2_canBe, 5, (some .boolean), 5, 159)
set_option maxRecDepth 20000 in
theorem mkX2_canBe : zMv MX2_canBe 3 := ⟨⟨zin_1 (List.mem_of_getElem? (i := 8) (by decide +kernel)), zin_4 (List.mem_of_getElem? (i := 213) rfl), by decide, by decide, by decide +kernel⟩, zin_4 (List.mem_of_getElem? (i := 211) (by decide +kernel)), zin_4 (List.mem_of_getElem? (i := 212) (by decide +kernel))⟩
abbrev MX2_withBallots : zM := (yX2_withBallots, cX2_withBallots, 3, (some .int), 1, 23)
set_option maxRecDepth 20000 in
theorem mkX2_withBallots : zMv MX2_withBallots 0 := ⟨⟨zin_1 (List.mem_of_getElem? (i := 8) (by decide +kernel)), zin_4 (List.mem_of_getElem? (i := 218) rfl), by decide, by decide, by decide +kernel⟩, zin_4 (List.mem_of_getElem? (i := 216) (by decide +kernel)), zin_4 (List.mem_of_getElem? (i := 217) (by decide +kernel))⟩
abbrev MX2_firstOfficer : zM := (yX2_firstOfficer, cX2_firstOfficer, 2, (some .int), 0, 0)
set_option maxRecDepth 20000 in
theorem mkX2_firstOfficer : zMv MX2_firstOfficer 0 := ⟨⟨zin_1 (List.mem_of_getElem? (i := 8) (by decide +kernel)), zin_4 (List.mem_of_getElem? (i := 237) rfl), by decide, by decide, by decide +kernel⟩, zin_4 (List.mem_of_getElem? (i := 235) (by decide +kernel)), zin_4 (List.mem_of_getElem? (i := 236) (by decide +kernel))⟩
abbrev MX2_begin : zM := (yX2_begin, cX2_begin, 2, (some .int), 4, 98)
set_option maxRecDepth 20000 in
theorem mkX2_begin : zMv MX2_begin 1 := ⟨⟨zin_1 (List.mem_of_getElem? (i := 8) (by decide +kernel)), zin_4 (List.mem_of_getElem? (i := 233) rfl), by decide, by decide, by decide +kernel⟩, zin_4 (List.mem_of_getElem? (i := 231) (by decide +kernel)), zin_4 (List.mem_of_getElem? (i := 232) (by decide +kernel))⟩
abbrev MX2_electedWithout : zM := (yX2_electedWithout, cX2_electedWithout, 3, (some .int), 4, 98)
set_option maxRecDepth 20000 in
theorem mkX2_electedWithout : zMv MX2_electedWithout 1 := ⟨⟨zin_1 (List.mem_of_getElem? (i := 8) (by decide +kernel)), zin_5 (List.mem_of_getElem? (i := 52) rfl), by decide, by decide, by decide +kernel⟩, zin_5 (List.mem_of_getElem? (i := 50) (by decide +kernel)), zin_5 (List.mem_of_getElem? (i := 51) (by decide +kernel))⟩
abbrev MX2_votesIn : zM := (yX2_votesIn, cX2_votesIn, 3, (some .int), 0, 0)
set_option maxRecDepth 20000 in
theorem mkX2_votesIn : zMv MX2_votesIn 2 := ⟨⟨zin_1 (List.mem_of_getElem? (i := 8) (by decide +kernel)), zin_5 (List.mem_of_getElem? (i := 44) rfl), by decide, by decide, by decide +kernel⟩, zin_5 (List.mem_of_getElem? (i := 42) (by decide +kernel)), zin_5 (List.mem_of_getElem? (i := 43) (by decide +kernel))⟩
abbrev MX2_runRounds : zM := (yX2_runRounds, cX2_runRounds, 7, (some .int), 3, 72)
set_option maxRecDepth 20000 in
theorem mkX2_runRounds : zMv MX2_runRounds 2 := ⟨⟨zin_1 (List.mem_of_getElem? (i := 8) (by decide +kernel)), zin_5 (List.mem_of_getElem? (i := 6) rfl), by decide, by decide, by decide +kernel⟩, zin_5 (List.mem_of_getElem? (i := 4) (by decide +kernel)), zin_5 (List.mem_of_getElem? (i := 5) (by decide +kernel))⟩
abbrev MX2_countVotes : zM := (yX2_countVotes, cX2_countVotes, 5, (some .int), 1, 24)
set_option maxRecDepth 20000 in
theorem mkX2_countVotes : zMv MX2_countVotes 1 := ⟨⟨zin_1 (List.mem_of_getElem? (i := 8) (by decide +kernel)), zin_5 (List.mem_of_getElem? (i := 10) rfl), by decide, by decide, by decide +kernel⟩, zin_5 (List.mem_of_getElem? (i := 8) (by decide +kernel)), zin_5 (List.mem_of_getElem? (i := 9) (by decide +kernel))⟩
abbrev MX2_writeRound : zM := (yX2_writeRound, cX2_writeRound, 4, none, 0, 0)
set_option maxRecDepth 20000 in
theorem mkX2_writeRound : zMv MX2_writeRound 2 := ⟨⟨zin_1 (List.mem_of_getElem? (i := 8) (by decide +kernel)), zin_5 (List.mem_of_getElem? (i := 19) rfl), by decide, by decide, by decide +kernel⟩, zin_5 (List.mem_of_getElem? (i := 17) (by decide +kernel)), zin_5 (List.mem_of_getElem? (i := 18) (by decide +kernel))⟩
abbrev MX2_winnerOf : zM := (yX2_winnerOf, cX2_winnerOf, 5, (some .int), 2, 48)
set_option maxRecDepth 20000 in
theorem mkX2_winnerOf : zMv MX2_winnerOf 2 := ⟨⟨zin_1 (List.mem_of_getElem? (i := 8) (by decide +kernel)), zin_5 (List.mem_of_getElem? (i := 23) rfl), by decide, by decide, by decide +kernel⟩, zin_5 (List.mem_of_getElem? (i := 21) (by decide +kernel)), zin_5 (List.mem_of_getElem? (i := 22) (by decide +kernel))⟩
abbrev MX2_decide : zM := (yX2_decide, cX2_decide, 5, (some .int), 1, 24)
set_option maxRecDepth 20000 in
theorem mkX2_decide : zMv MX2_decide 1 := ⟨⟨zin_1 (List.mem_of_getElem? (i := 8) (by decide +kernel)), zin_5 (List.mem_of_getElem? (i := 27) rfl), by decide, by decide, by decide +kernel⟩, zin_5 (List.mem_of_getElem? (i := 25) (by decide +kernel)), zin_5 (List.mem_of_getElem? (i := 26) (by decide +kernel))⟩
abbrev MX2_leastOf : zM := (yX2_leastOf, cX2_leastOf, 4, (some .int), 1, 22)
set_option maxRecDepth 20000 in
theorem mkX2_leastOf : zMv MX2_leastOf 1 := ⟨⟨zin_1 (List.mem_of_getElem? (i := 8) (by decide +kernel)), zin_5 (List.mem_of_getElem? (i := 31) rfl), by decide, by decide, by decide +kernel⟩, zin_5 (List.mem_of_getElem? (i := 29) (by decide +kernel)), zin_5 (List.mem_of_getElem? (i := 30) (by decide +kernel))⟩
abbrev MX2_goesAhead : zM := (yX2_goesAhead, cX2_goesAhead, 3, (some .boolean), 0, 0)
set_option maxRecDepth 20000 in
theorem mkX2_goesAhead : zMv MX2_goesAhead 2 := ⟨⟨zin_1 (List.mem_of_getElem? (i := 8) (by decide +kernel)), zin_5 (List.mem_of_getElem? (i := 35) rfl), by decide, by decide, by decide +kernel⟩, zin_5 (List.mem_of_getElem? (i := 33) (by decide +kernel)), zin_5 (List.mem_of_getElem? (i := 34) (by decide +kernel))⟩
abbrev MX3_init : zM := (yX3_init, cX3_init, 3, none, 1, 40)
abbrev MX3_weigh : zM := (yX3_weigh, cX3_weigh, 8, (some .int), 3, 109)
set_option maxRecDepth 20000 in
theorem mkX3_weigh : zMv MX3_weigh 5 := ⟨⟨zin_1 (List.mem_of_getElem? (i := 5) (by decide +kernel)), zin_3 (List.mem_of_getElem? (i := 105) rfl), by decide, by decide, by decide +kernel⟩, zin_3 (List.mem_of_getElem? (i := 103) (by decide +kernel)), zin_3 (List.mem_of_getElem? (i := 104) (by decide +kernel))⟩
abbrev MX3_learn : zM := (yX3_learn, cX3_learn, 5, none, 1, 25)
set_option maxRecDepth 20000 in
theorem mkX3_learn : zMv MX3_learn 3 := ⟨⟨zin_1 (List.mem_of_getElem? (i := 5) (by decide +kernel)), zin_3 (List.mem_of_getElem? (i := 128) rfl), by decide, by decide, by decide +kernel⟩, zin_3 (List.mem_of_getElem? (i := 126) (by decide +kernel)), zin_3 (List.mem_of_getElem? (i := 127) (by decide +kernel))⟩
abbrev MX3_begin : zM := (yX3_begin, cX3_begin, 2, none, 1, 20)
set_option maxRecDepth 20000 in
theorem mkX3_begin : zMv MX3_begin 1 := ⟨⟨zin_1 (List.mem_of_getElem? (i := 5) (by decide +kernel)), zin_3 (List.mem_of_getElem? (i := 155) rfl), by decide, by decide, by decide +kernel⟩, zin_3 (List.mem_of_getElem? (i := 153) (by decide +kernel)), zin_3 (List.mem_of_getElem? (i := 154) (by decide +kernel))⟩
abbrev MX3_openLevel : zM := (yX3_openLevel, cX3_openLevel, 1, none, 0, 0)
set_option maxRecDepth 20000 in
theorem mkX3_openLevel : zMv MX3_openLevel 0 := ⟨⟨zin_1 (List.mem_of_getElem? (i := 5) (by decide +kernel)), zin_3 (List.mem_of_getElem? (i := 159) rfl), by decide, by decide, by decide +kernel⟩, zin_3 (List.mem_of_getElem? (i := 157) (by decide +kernel)), zin_3 (List.mem_of_getElem? (i := 158) (by decide +kernel))⟩
abbrev MX3_readOpening : zM := (yX3_readOpening, cX3_readOpening, 2, (some .int), 1, 20)
set_option maxRecDepth 20000 in
theorem mkX3_readOpening : zMv MX3_readOpening 1 := ⟨⟨zin_1 (List.mem_of_getElem? (i := 5) (by decide +kernel)), zin_3 (List.mem_of_getElem? (i := 177) rfl), by decide, by decide, by decide +kernel⟩, zin_3 (List.mem_of_getElem? (i := 175) (by decide +kernel)), zin_3 (List.mem_of_getElem? (i := 176) (by decide +kernel))⟩
abbrev MX3_readTest : zM := (yX3_readTest, cX3_readTest, 4, (some .int), 2, 50)
set_option maxRecDepth 20000 in
theorem mkX3_readTest : zMv MX3_readTest 1 := ⟨⟨zin_1 (List.mem_of_getElem? (i := 5) (by decide +kernel)), zin_3 (List.mem_of_getElem? (i := 181) rfl), by decide, by decide, by decide +kernel⟩, zin_3 (List.mem_of_getElem? (i := 179) (by decide +kernel)), zin_3 (List.mem_of_getElem? (i := 180) (by decide +kernel))⟩
abbrev MX3_endOfTest : zM := (yX3_endOfTest, cX3_endOfTest, 6, (some .int), 1, 21)
set_option maxRecDepth 20000 in
theorem mkX3_endOfTest : zMv MX3_endOfTest 1 := ⟨⟨zin_1 (List.mem_of_getElem? (i := 5) (by decide +kernel)), zin_3 (List.mem_of_getElem? (i := 185) rfl), by decide, by decide, by decide +kernel⟩, zin_3 (List.mem_of_getElem? (i := 183) (by decide +kernel)), zin_3 (List.mem_of_getElem? (i := 184) (by decide +kernel))⟩
abbrev MX3_letterAt : zM := (yX3_letterAt, cX3_letterAt, 2, (some .int), 0, 0)
set_option maxRecDepth 20000 in
theorem mkX3_letterAt : zMv MX3_letterAt 1 := ⟨⟨zin_1 (List.mem_of_getElem? (i := 5) (by decide +kernel)), zin_3 (List.mem_of_getElem? (i := 189) rfl), by decide, by decide, by decide +kernel⟩, zin_3 (List.mem_of_getElem? (i := 187) (by decide +kernel)), zin_3 (List.mem_of_getElem? (i := 188) (by decide +kernel))⟩
abbrev MX3_valueOfTest : zM := (yX3_valueOfTest, cX3_valueOfTest, 6, (some .int), 1, 25)
set_option maxRecDepth 20000 in
theorem mkX3_valueOfTest : zMv MX3_valueOfTest 2 := ⟨⟨zin_1 (List.mem_of_getElem? (i := 5) (by decide +kernel)), zin_3 (List.mem_of_getElem? (i := 193) rfl), by decide, by decide, by decide +kernel⟩, zin_3 (List.mem_of_getElem? (i := 191) (by decide +kernel)), zin_3 (List.mem_of_getElem? (i := 192) (by decide +kernel))⟩
abbrev MX3_plainTest : zM := (yX3_plainTest, cX3_plainTest, 6, (some .int), 0, 0)
set_option maxRecDepth 20000 in
theorem mkX3_plainTest : zMv MX3_plainTest 3 := ⟨⟨zin_1 (List.mem_of_getElem? (i := 5) (by decide +kernel)), zin_3 (List.mem_of_getElem? (i := 201) rfl), by decide, by decide, by decide +kernel⟩, zin_3 (List.mem_of_getElem? (i := 199) (by decide +kernel)), zin_3 (List.mem_of_getElem? (i := 200) (by decide +kernel))⟩
abbrev MX3_kinTest : zM := (yX3_kinTest, cX3_kinTest, 5, (some .int), 0, 0)
set_option maxRecDepth 20000 in
theorem mkX3_kinTest : zMv MX3_kinTest 2 := ⟨⟨zin_1 (List.mem_of_getElem? (i := 5) (by decide +kernel)), zin_3 (List.mem_of_getElem? (i := 197) rfl), by decide, by decide, by decide +kernel⟩, zin_3 (List.mem_of_getElem? (i := 195) (by decide +kernel)), zin_3 (List.mem_of_getElem? (i := 196) (by decide +kernel))⟩
abbrev MX3_endPart : zM := (yX3_endPart, cX3_endPart, 3, none, 1, 21)
set_option maxRecDepth 20000 in
theorem mkX3_endPart : zMv MX3_endPart 1 := ⟨⟨zin_1 (List.mem_of_getElem? (i := 5) (by decide +kernel)), zin_3 (List.mem_of_getElem? (i := 170) rfl), by decide, by decide, by decide +kernel⟩, zin_3 (List.mem_of_getElem? (i := 168) (by decide +kernel)), zin_3 (List.mem_of_getElem? (i := 169) (by decide +kernel))⟩
abbrev MX3_readJoint : zM := (yX3_readJoint, cX3_readJoint, 4, (some .int), 2, 43)
set_option maxRecDepth 20000 in
theorem mkX3_readJoint : zMv MX3_readJoint 1 := ⟨⟨zin_1 (List.mem_of_getElem? (i := 5) (by decide +kernel)), zin_3 (List.mem_of_getElem? (i := 163) rfl), by decide, by decide, by decide +kernel⟩, zin_3 (List.mem_of_getElem? (i := 161) (by decide +kernel)), zin_3 (List.mem_of_getElem? (i := 162) (by decide +kernel))⟩
abbrev MX3_both : zM := (yX3_both, cX3_both, 2, (some .int), 0, 0)
set_option maxRecDepth 20000 in
theorem mkX3_both : zMs MX3_both 2 := ⟨⟨zin_1 (List.mem_of_getElem? (i := 5) (by decide +kernel)), zin_3 (List.mem_of_getElem? (i := 173) rfl), by decide, by decide, by decide +kernel⟩, zin_3 (List.mem_of_getElem? (i := 172) (by decide +kernel))⟩
abbrev MX3_either : zM := (yX3_either, cX3_either, 2, (some .int), 0, 0)
set_option maxRecDepth 20000 in
theorem mkX3_either : zMs MX3_either 2 := ⟨⟨zin_1 (List.mem_of_getElem? (i := 5) (by decide +kernel)), zin_3 (List.mem_of_getElem? (i := 166) rfl), by decide, by decide, by decide +kernel⟩, zin_3 (List.mem_of_getElem? (i := 165) (by decide +kernel))⟩
abbrev MX4_init : zM := (yX4_init, cX4_init, 2, none, 1, 40)
abbrev MX4_has : zM := (yX4_has, cX4_has, 2, (some .boolean), 0, 0)
set_option maxRecDepth 20000 in
theorem mkX4_has : zMv MX4_has 1 := ⟨⟨zin_1 (List.mem_of_getElem? (i := 9) (by decide +kernel)), zin_5 (List.mem_of_getElem? (i := 109) rfl), by decide, by decide, by decide +kernel⟩, zin_5 (List.mem_of_getElem? (i := 107) (by decide +kernel)), zin_5 (List.mem_of_getElem? (i := 108) (by decide +kernel))⟩
abbrev MX4_isForLives : zM := (yX4_isForLives, cX4_isForLives, 2, (some .boolean), 0, 0)
set_option maxRecDepth 20000 in
theorem mkX4_isForLives : zMv MX4_isForLives 1 := ⟨⟨zin_1 (List.mem_of_getElem? (i := 9) (by decide +kernel)), zin_5 (List.mem_of_getElem? (i := 117) rfl), by decide, by decide, by decide +kernel⟩, zin_5 (List.mem_of_getElem? (i := 115) (by decide +kernel)), zin_5 (List.mem_of_getElem? (i := 116) (by decide +kernel))⟩
abbrev MX4_add : zM := (yX4_add, cX4_add, 5, (some .int), 0, 0)
set_option maxRecDepth 20000 in
theorem mkX4_add : zMv MX4_add 4 := ⟨⟨zin_1 (List.mem_of_getElem? (i := 9) (by decide +kernel)), zin_5 (List.mem_of_getElem? (i := 84) rfl), by decide, by decide, by decide +kernel⟩, zin_5 (List.mem_of_getElem? (i := 82) (by decide +kernel)), zin_5 (List.mem_of_getElem? (i := 83) (by decide +kernel))⟩
abbrev MX4_isPriced : zM := (yX4_isPriced, cX4_isPriced, 3, (some .boolean), 0, 0)
set_option maxRecDepth 20000 in
theorem mkX4_isPriced : zMv MX4_isPriced 1 := ⟨⟨zin_1 (List.mem_of_getElem? (i := 9) (by decide +kernel)), zin_5 (List.mem_of_getElem? (i := 97) rfl), by decide, by decide, by decide +kernel⟩, zin_5 (List.mem_of_getElem? (i := 95) (by decide +kernel)), zin_5 (List.mem_of_getElem? (i := 96) (by decide +kernel))⟩
abbrev MX4_tellPrice : zM := (yX4_tellPrice, cX4_tellPrice, 3, (some .int), 0, 0)
set_option maxRecDepth 20000 in
theorem mkX4_tellPrice : zMv MX4_tellPrice 2 := ⟨⟨zin_1 (List.mem_of_getElem? (i := 9) (by decide +kernel)), zin_5 (List.mem_of_getElem? (i := 101) rfl), by decide, by decide, by decide +kernel⟩, zin_5 (List.mem_of_getElem? (i := 99) (by decide +kernel)), zin_5 (List.mem_of_getElem? (i := 100) (by decide +kernel))⟩
abbrev MX4_priceIn : zM := (yX4_priceIn, cX4_priceIn, 4, (some .int), 0, 0)
set_option maxRecDepth 20000 in
theorem mkX4_priceIn : zMv MX4_priceIn 1 := ⟨⟨zin_1 (List.mem_of_getElem? (i := 9) (by decide +kernel)), zin_5 (List.mem_of_getElem? (i := 136) rfl), by decide, by decide, by decide +kernel⟩, zin_5 (List.mem_of_getElem? (i := 134) (by decide +kernel)), zin_5 (List.mem_of_getElem? (i := 135) (by decide +kernel))⟩
abbrev MX4_endOf : zM := (yX4_endOf, cX4_endOf, 4, (some .int), 1, 21)
set_option maxRecDepth 20000 in
theorem mkX4_endOf : zMv MX4_endOf 1 := ⟨⟨zin_1 (List.mem_of_getElem? (i := 9) (by decide +kernel)), zin_5 (List.mem_of_getElem? (i := 113) rfl), by decide, by decide, by decide +kernel⟩, zin_5 (List.mem_of_getElem? (i := 111) (by decide +kernel)), zin_5 (List.mem_of_getElem? (i := 112) (by decide +kernel))⟩
abbrev MX4_reservedIn : zM := (yX4_reservedIn, cX4_reservedIn, 3, (some .int), 1, 23)
set_option maxRecDepth 20000 in
theorem mkX4_reservedIn : zMv MX4_reservedIn 2 := ⟨⟨zin_1 (List.mem_of_getElem? (i := 9) (by decide +kernel)), zin_5 (List.mem_of_getElem? (i := 132) rfl), by decide, by decide, by decide +kernel⟩, zin_5 (List.mem_of_getElem? (i := 130) (by decide +kernel)), zin_5 (List.mem_of_getElem? (i := 131) (by decide +kernel))⟩
abbrev MX4_dueIn : zM := (yX4_dueIn, cX4_dueIn, 3, (some .int), 2, 45)
set_option maxRecDepth 20000 in
theorem mkX4_dueIn : zMv MX4_dueIn 2 := ⟨⟨zin_1 (List.mem_of_getElem? (i := 9) (by decide +kernel)), zin_5 (List.mem_of_getElem? (i := 127) rfl), by decide, by decide, by decide +kernel⟩, zin_5 (List.mem_of_getElem? (i := 125) (by decide +kernel)), zin_5 (List.mem_of_getElem? (i := 126) (by decide +kernel))⟩
abbrev MX4_rate : zM := (yX4_rate, cX4_rate, 2, (some .int), 1, 21)
set_option maxRecDepth 20000 in
theorem mkX4_rate : zMv MX4_rate 1 := ⟨⟨zin_1 (List.mem_of_getElem? (i := 9) (by decide +kernel)), zin_5 (List.mem_of_getElem? (i := 163) rfl), by decide, by decide, by decide +kernel⟩, zin_5 (List.mem_of_getElem? (i := 161) (by decide +kernel)), zin_5 (List.mem_of_getElem? (i := 162) (by decide +kernel))⟩
abbrev MX4_fineFor : zM := (yX4_fineFor, cX4_fineFor, 3, (some .int), 2, 42)
set_option maxRecDepth 20000 in
theorem mkX4_fineFor : zMv MX4_fineFor 2 := ⟨⟨zin_1 (List.mem_of_getElem? (i := 9) (by decide +kernel)), zin_5 (List.mem_of_getElem? (i := 159) rfl), by decide, by decide, by decide +kernel⟩, zin_5 (List.mem_of_getElem? (i := 157) (by decide +kernel)), zin_5 (List.mem_of_getElem? (i := 158) (by decide +kernel))⟩
abbrev MX5_init : zM := (yX5_init, cX5_init, 1, none, 1, 40)
abbrev MX5_has : zM := (yX5_has, cX5_has, 2, (some .boolean), 0, 0)
set_option maxRecDepth 20000 in
theorem mkX5_has : zMv MX5_has 1 := ⟨⟨zin_1 (List.mem_of_getElem? (i := 2) (by decide +kernel)), zin_3 (List.mem_of_getElem? (i := 230) rfl), by decide, by decide, by decide +kernel⟩, zin_3 (List.mem_of_getElem? (i := 228) (by decide +kernel)), zin_3 (List.mem_of_getElem? (i := 229) (by decide +kernel))⟩
abbrev MX5_hasAll : zM := (yX5_hasAll, cX5_hasAll, 2, (some .boolean), 0, 0)
set_option maxRecDepth 20000 in
theorem mkX5_hasAll : zMv MX5_hasAll 1 := ⟨⟨zin_1 (List.mem_of_getElem? (i := 2) (by decide +kernel)), zin_4 (List.mem_of_getElem? (i := 209) rfl), by decide, by decide, by decide +kernel⟩, zin_4 (List.mem_of_getElem? (i := 207) (by decide +kernel)), zin_4 (List.mem_of_getElem? (i := 208) (by decide +kernel))⟩
abbrev MX5_add : zM := (yX5_add, cX5_add, 2, (some .int), 0, 0)
set_option maxRecDepth 20000 in
theorem mkX5_add : zMv MX5_add 1 := ⟨⟨zin_1 (List.mem_of_getElem? (i := 2) (by decide +kernel)), zin_3 (List.mem_of_getElem? (i := 222) rfl), by decide, by decide, by decide +kernel⟩, zin_3 (List.mem_of_getElem? (i := 220) (by decide +kernel)), zin_3 (List.mem_of_getElem? (i := 221) (by decide +kernel))⟩
abbrev MX5_canLead : zM := (yX5_canLead, cX5_canLead, 5, (some .boolean), 2, 49)
set_option maxRecDepth 20000 in
theorem mkX5_canLead : zMv MX5_canLead 4 := ⟨⟨zin_1 (List.mem_of_getElem? (i := 2) (by decide +kernel)), zin_3 (List.mem_of_getElem? (i := 238) rfl), by decide, by decide, by decide +kernel⟩, zin_3 (List.mem_of_getElem? (i := 236) (by decide +kernel)), zin_3 (List.mem_of_getElem? (i := 237) (by decide +kernel))⟩
abbrev MX5_tellFact : zM := (yX5_tellFact, cX5_tellFact, 5, (some .int), 0, 0)
set_option maxRecDepth 20000 in
theorem mkX5_tellFact : zMv MX5_tellFact 4 := ⟨⟨zin_1 (List.mem_of_getElem? (i := 2) (by decide +kernel)), zin_4 (List.mem_of_getElem? (i := 6) rfl), by decide, by decide, by decide +kernel⟩, zin_4 (List.mem_of_getElem? (i := 4) (by decide +kernel)), zin_4 (List.mem_of_getElem? (i := 5) (by decide +kernel))⟩
abbrev MX5_valueOf : zM := (yX5_valueOf, cX5_valueOf, 6, (some .int), 0, 0)
set_option maxRecDepth 20000 in
theorem mkX5_valueOf : zMv MX5_valueOf 3 := ⟨⟨zin_1 (List.mem_of_getElem? (i := 2) (by decide +kernel)), zin_3 (List.mem_of_getElem? (i := 132) rfl), by decide, by decide, by decide +kernel⟩, zin_3 (List.mem_of_getElem? (i := 130) (by decide +kernel)), zin_3 (List.mem_of_getElem? (i := 131) (by decide +kernel))⟩
abbrev MX5_isAlive : zM := (yX5_isAlive, cX5_isAlive, 5, (some .boolean), 0, 0)
set_option maxRecDepth 20000 in
theorem mkX5_isAlive : zMv MX5_isAlive 3 := ⟨⟨zin_1 (List.mem_of_getElem? (i := 2) (by decide +kernel)), zin_3 (List.mem_of_getElem? (i := 205) rfl), by decide, by decide, by decide +kernel⟩, zin_3 (List.mem_of_getElem? (i := 203) (by decide +kernel)), zin_3 (List.mem_of_getElem? (i := 204) (by decide +kernel))⟩
abbrev MX5_isKnown : zM := (yX5_isKnown, cX5_isKnown, 3, (some .boolean), 0, 0)
set_option maxRecDepth 20000 in
theorem mkX5_isKnown : zMv MX5_isKnown 2 := ⟨⟨zin_1 (List.mem_of_getElem? (i := 2) (by decide +kernel)), zin_3 (List.mem_of_getElem? (i := 148) rfl), by decide, by decide, by decide +kernel⟩, zin_3 (List.mem_of_getElem? (i := 146) (by decide +kernel)), zin_3 (List.mem_of_getElem? (i := 147) (by decide +kernel))⟩
abbrev MX5_climb : zM := (yX5_climb, cX5_climb, 8, none, 1, 22)
set_option maxRecDepth 20000 in
theorem mkX5_climb : zMv MX5_climb 3 := ⟨⟨zin_1 (List.mem_of_getElem? (i := 2) (by decide +kernel)), zin_3 (List.mem_of_getElem? (i := 144) rfl), by decide, by decide, by decide +kernel⟩, zin_3 (List.mem_of_getElem? (i := 142) (by decide +kernel)), zin_3 (List.mem_of_getElem? (i := 143) (by decide +kernel))⟩
abbrev MX5_measure : zM := (yX5_measure, cX5_measure, 5, none, 2, 49)
set_option maxRecDepth 20000 in
theorem mkX5_measure : zMv MX5_measure 2 := ⟨⟨zin_1 (List.mem_of_getElem? (i := 2) (by decide +kernel)), zin_3 (List.mem_of_getElem? (i := 140) rfl), by decide, by decide, by decide +kernel⟩, zin_3 (List.mem_of_getElem? (i := 138) (by decide +kernel)), zin_3 (List.mem_of_getElem? (i := 139) (by decide +kernel))⟩
abbrev MX5_settlingLink : zM := (yX5_settlingLink, cX5_settlingLink, 4, (some .int), 3, 73)
set_option maxRecDepth 20000 in
theorem mkX5_settlingLink : zMv MX5_settlingLink 2 := ⟨⟨zin_1 (List.mem_of_getElem? (i := 2) (by decide +kernel)), zin_4 (List.mem_of_getElem? (i := 28) rfl), by decide, by decide, by decide +kernel⟩, zin_4 (List.mem_of_getElem? (i := 26) (by decide +kernel)), zin_4 (List.mem_of_getElem? (i := 27) (by decide +kernel))⟩
abbrev MX6_init : zM := (yX6_init, cX6_init, 2, none, 1, 40)
abbrev MX6_has : zM := (yX6_has, cX6_has, 2, (some .boolean), 0, 0)
set_option maxRecDepth 20000 in
theorem mkX6_has : zMv MX6_has 1 := ⟨⟨zin_1 (List.mem_of_getElem? (i := 6) (by decide +kernel)), zin_4 (List.mem_of_getElem? (i := 167) rfl), by decide, by decide, by decide +kernel⟩, zin_4 (List.mem_of_getElem? (i := 165) (by decide +kernel)), zin_4 (List.mem_of_getElem? (i := 166) (by decide +kernel))⟩
abbrev MX6_add : zM := (yX6_add, cX6_add, 2, (some .int), 1, 21)
set_option maxRecDepth 20000 in
theorem mkX6_add : zMv MX6_add 1 := ⟨⟨zin_1 (List.mem_of_getElem? (i := 6) (by decide +kernel)), zin_4 (List.mem_of_getElem? (i := 155) rfl), by decide, by decide, by decide +kernel⟩, zin_4 (List.mem_of_getElem? (i := 153) (by decide +kernel)), zin_4 (List.mem_of_getElem? (i := 154) (by decide +kernel))⟩
abbrev MX6_empty : zM := (yX6_empty, cX6_empty, 2, none, 0, 0)
set_option maxRecDepth 20000 in
theorem mkX6_empty : zMv MX6_empty 1 := ⟨⟨zin_1 (List.mem_of_getElem? (i := 6) (by decide +kernel)), zin_3 (List.mem_of_getElem? (i := 209) rfl), by decide, by decide, by decide +kernel⟩, zin_3 (List.mem_of_getElem? (i := 207) (by decide +kernel)), zin_3 (List.mem_of_getElem? (i := 208) (by decide +kernel))⟩
abbrev MX6_come : zM := (yX6_come, cX6_come, 4, none, 0, 0)
set_option maxRecDepth 20000 in
theorem mkX6_come : zMv MX6_come 3 := ⟨⟨zin_1 (List.mem_of_getElem? (i := 6) (by decide +kernel)), zin_4 (List.mem_of_getElem? (i := 179) rfl), by decide, by decide, by decide +kernel⟩, zin_4 (List.mem_of_getElem? (i := 177) (by decide +kernel)), zin_4 (List.mem_of_getElem? (i := 178) (by decide +kernel))⟩
abbrev MX6_howManyHeld : zM := (yX6_howManyHeld, cX6_howManyHeld, 3, (some .int), 0, 0)
set_option maxRecDepth 20000 in
theorem mkX6_howManyHeld : zMv MX6_howManyHeld 0 := ⟨⟨zin_1 (List.mem_of_getElem? (i := 6) (by decide +kernel)), zin_6 (List.mem_of_getElem? (i := 97) rfl), by decide, by decide, by decide +kernel⟩, zin_6 (List.mem_of_getElem? (i := 95) (by decide +kernel)), zin_6 (List.mem_of_getElem? (i := 96) (by decide +kernel))⟩
abbrev MX6_holdersOf : zM := (yX6_holdersOf, cX6_holdersOf, 4, (some .int), 0, 0)
set_option maxRecDepth 20000 in
theorem mkX6_holdersOf : zMv MX6_holdersOf 1 := ⟨⟨zin_1 (List.mem_of_getElem? (i := 6) (by decide +kernel)), zin_4 (List.mem_of_getElem? (i := 175) rfl), by decide, by decide, by decide +kernel⟩, zin_4 (List.mem_of_getElem? (i := 173) (by decide +kernel)), zin_4 (List.mem_of_getElem? (i := 174) (by decide +kernel))⟩
abbrev MX6_canTake : zM := (yX6_canTake, cX6_canTake, 4, (some .boolean), 4, 136)
set_option maxRecDepth 20000 in
theorem mkX6_canTake : zMv MX6_canTake 3 := ⟨⟨zin_1 (List.mem_of_getElem? (i := 6) (by decide +kernel)), zin_4 (List.mem_of_getElem? (i := 171) rfl), by decide, by decide, by decide +kernel⟩, zin_4 (List.mem_of_getElem? (i := 169) (by decide +kernel)), zin_4 (List.mem_of_getElem? (i := 170) (by decide +kernel))⟩
abbrev MX6_endThose : zM := (yX6_endThose, cX6_endThose, 4, (some .int), 5, 158)
set_option maxRecDepth 20000 in
theorem mkX6_endThose : zMv MX6_endThose 1 := ⟨⟨zin_1 (List.mem_of_getElem? (i := 6) (by decide +kernel)), zin_3 (List.mem_of_getElem? (i := 97) rfl), by decide, by decide, by decide +kernel⟩, zin_3 (List.mem_of_getElem? (i := 95) (by decide +kernel)), zin_3 (List.mem_of_getElem? (i := 96) (by decide +kernel))⟩
abbrev MX6_isOutOfGrace : zM := (yX6_isOutOfGrace, cX6_isOutOfGrace, 3, (some .boolean), 4, 136)
set_option maxRecDepth 20000 in
theorem mkX6_isOutOfGrace : zMv MX6_isOutOfGrace 2 := ⟨⟨zin_1 (List.mem_of_getElem? (i := 6) (by decide +kernel)), zin_3 (List.mem_of_getElem? (i := 101) rfl), by decide, by decide, by decide +kernel⟩, zin_3 (List.mem_of_getElem? (i := 99) (by decide +kernel)), zin_3 (List.mem_of_getElem? (i := 100) (by decide +kernel))⟩
abbrev MX6_hasSettledLiving : zM := (yX6_hasSettledLiving, cX6_hasSettledLiving, 4, (some .boolean), 0, 0)
set_option maxRecDepth 20000 in
theorem mkX6_hasSettledLiving : zMv MX6_hasSettledLiving 2 := ⟨⟨zin_1 (List.mem_of_getElem? (i := 6) (by decide +kernel)), zin_3 (List.mem_of_getElem? (i := 213) rfl), by decide, by decide, by decide +kernel⟩, zin_3 (List.mem_of_getElem? (i := 211) (by decide +kernel)), zin_3 (List.mem_of_getElem? (i := 212) (by decide +kernel))⟩
abbrev MX6_lineUpFellows : zM := (yX6_lineUpFellows, cX6_lineUpFellows, 4, (some .int), 1, 22)
set_option maxRecDepth 20000 in
theorem mkX6_lineUpFellows : zMv MX6_lineUpFellows 0 := ⟨⟨zin_1 (List.mem_of_getElem? (i := 6) (by decide +kernel)), zin_5 (List.mem_of_getElem? (i := 64) rfl), by decide, by decide, by decide +kernel⟩, zin_5 (List.mem_of_getElem? (i := 62) (by decide +kernel)), zin_5 (List.mem_of_getElem? (i := 63) (by decide +kernel))⟩
abbrev MX6_isSenior : zM := (yX6_isSenior, cX6_isSenior, 3, (some .boolean), 0, 0)
set_option maxRecDepth 20000 in
theorem mkX6_isSenior : zMv MX6_isSenior 2 := ⟨⟨zin_1 (List.mem_of_getElem? (i := 6) (by decide +kernel)), zin_5 (List.mem_of_getElem? (i := 68) rfl), by decide, by decide, by decide +kernel⟩, zin_5 (List.mem_of_getElem? (i := 66) (by decide +kernel)), zin_5 (List.mem_of_getElem? (i := 67) (by decide +kernel))⟩
abbrev MX6_nextFor : zM := (yX6_nextFor, cX6_nextFor, 6, (some .int), 5, 159)
set_option maxRecDepth 20000 in
theorem mkX6_nextFor : zMv MX6_nextFor 2 := ⟨⟨zin_1 (List.mem_of_getElem? (i := 6) (by decide +kernel)), zin_5 (List.mem_of_getElem? (i := 60) rfl), by decide, by decide, by decide +kernel⟩, zin_5 (List.mem_of_getElem? (i := 58) (by decide +kernel)), zin_5 (List.mem_of_getElem? (i := 59) (by decide +kernel))⟩
abbrev MX7_init : zM := (yX7_init, cX7_init, 3, none, 1, 40)
abbrev MX7_addRoof : zM := (yX7_addRoof, cX7_addRoof, 3, (some .int), 0, 0)
set_option maxRecDepth 20000 in
theorem mkX7_addRoof : zMv MX7_addRoof 2 := ⟨⟨zin_1 (List.mem_of_getElem? (i := 11) (by decide +kernel)), zin_5 (List.mem_of_getElem? (i := 222) rfl), by decide, by decide, by decide +kernel⟩, zin_5 (List.mem_of_getElem? (i := 220) (by decide +kernel)), zin_5 (List.mem_of_getElem? (i := 221) (by decide +kernel))⟩
abbrev MX7_told : zM := (yX7_told, cX7_told, 2, (some .int), 0, 0)
set_option maxRecDepth 20000 in
theorem mkX7_told : zMv MX7_told 1 := ⟨⟨zin_1 (List.mem_of_getElem? (i := 11) (by decide +kernel)), zin_6 (List.mem_of_getElem? (i := 34) rfl), by decide, by decide, by decide +kernel⟩, zin_6 (List.mem_of_getElem? (i := 32) (by decide +kernel)), zin_6 (List.mem_of_getElem? (i := 33) (by decide +kernel))⟩
abbrev MX7_prepare : zM := (yX7_prepare, cX7_prepare, 8, none, 4, 89)
set_option maxRecDepth 20000 in
theorem mkX7_prepare : zMv MX7_prepare 3 := ⟨⟨zin_1 (List.mem_of_getElem? (i := 11) (by decide +kernel)), zin_5 (List.mem_of_getElem? (i := 233) rfl), by decide, by decide, by decide +kernel⟩, zin_5 (List.mem_of_getElem? (i := 231) (by decide +kernel)), zin_5 (List.mem_of_getElem? (i := 232) (by decide +kernel))⟩
abbrev MX7_gainByRenewing : zM := (yX7_gainByRenewing, cX7_gainByRenewing, 6, none, 3, 64)
set_option maxRecDepth 20000 in
theorem mkX7_gainByRenewing : zMv MX7_gainByRenewing 3 := ⟨⟨zin_1 (List.mem_of_getElem? (i := 11) (by decide +kernel)), zin_6 (List.mem_of_getElem? (i := 1) rfl), by decide, by decide, by decide +kernel⟩, zin_5 (List.mem_of_getElem? (i := 239) (by decide +kernel)), zin_6 (List.mem_of_getElem? (i := 0) (by decide +kernel))⟩
abbrev MX7_settle : zM := (yX7_settle, cX7_settle, 5, none, 1, 21)
set_option maxRecDepth 20000 in
theorem mkX7_settle : zMv MX7_settle 1 := ⟨⟨zin_1 (List.mem_of_getElem? (i := 11) (by decide +kernel)), zin_6 (List.mem_of_getElem? (i := 11) rfl), by decide, by decide, by decide +kernel⟩, zin_6 (List.mem_of_getElem? (i := 9) (by decide +kernel)), zin_6 (List.mem_of_getElem? (i := 10) (by decide +kernel))⟩
abbrev MX7_findBest : zM := (yX7_findBest, cX7_findBest, 3, (some .int), 3, 69)
set_option maxRecDepth 20000 in
theorem mkX7_findBest : zMv MX7_findBest 1 := ⟨⟨zin_1 (List.mem_of_getElem? (i := 11) (by decide +kernel)), zin_6 (List.mem_of_getElem? (i := 7) rfl), by decide, by decide, by decide +kernel⟩, zin_6 (List.mem_of_getElem? (i := 5) (by decide +kernel)), zin_6 (List.mem_of_getElem? (i := 6) (by decide +kernel))⟩
abbrev MX7_mendBest : zM := (yX7_mendBest, cX7_mendBest, 6, none, 2, 44)
set_option maxRecDepth 20000 in
theorem mkX7_mendBest : zMv MX7_mendBest 2 := ⟨⟨zin_1 (List.mem_of_getElem? (i := 11) (by decide +kernel)), zin_6 (List.mem_of_getElem? (i := 17) rfl), by decide, by decide, by decide +kernel⟩, zin_6 (List.mem_of_getElem? (i := 15) (by decide +kernel)), zin_6 (List.mem_of_getElem? (i := 16) (by decide +kernel))⟩
abbrev MX7_worthOf : zM := (yX7_worthOf, cX7_worthOf, 3, (some .int), 1, 22)
set_option maxRecDepth 20000 in
theorem mkX7_worthOf : zMv MX7_worthOf 2 := ⟨⟨zin_1 (List.mem_of_getElem? (i := 11) (by decide +kernel)), zin_6 (List.mem_of_getElem? (i := 22) rfl), by decide, by decide, by decide +kernel⟩, zin_6 (List.mem_of_getElem? (i := 20) (by decide +kernel)), zin_6 (List.mem_of_getElem? (i := 21) (by decide +kernel))⟩
abbrev MX7_gainOfRoof : zM := (yX7_gainOfRoof, cX7_gainOfRoof, 3, (some .int), 0, 0)
set_option maxRecDepth 20000 in
theorem mkX7_gainOfRoof : zMv MX7_gainOfRoof 2 := ⟨⟨zin_1 (List.mem_of_getElem? (i := 11) (by decide +kernel)), zin_6 (List.mem_of_getElem? (i := 26) rfl), by decide, by decide, by decide +kernel⟩, zin_6 (List.mem_of_getElem? (i := 24) (by decide +kernel)), zin_6 (List.mem_of_getElem? (i := 25) (by decide +kernel))⟩
abbrev MX7_canFollow : zM := (yX7_canFollow, cX7_canFollow, 4, (some .boolean), 1, 21)
set_option maxRecDepth 20000 in
theorem mkX7_canFollow : zMv MX7_canFollow 1 := ⟨⟨zin_1 (List.mem_of_getElem? (i := 11) (by decide +kernel)), zin_6 (List.mem_of_getElem? (i := 42) rfl), by decide, by decide, by decide +kernel⟩, zin_6 (List.mem_of_getElem? (i := 40) (by decide +kernel)), zin_6 (List.mem_of_getElem? (i := 41) (by decide +kernel))⟩
abbrev MX7_yearOf : zM := (yX7_yearOf, cX7_yearOf, 4, (some .int), 1, 21)
set_option maxRecDepth 20000 in
theorem mkX7_yearOf : zMv MX7_yearOf 2 := ⟨⟨zin_1 (List.mem_of_getElem? (i := 11) (by decide +kernel)), zin_6 (List.mem_of_getElem? (i := 51) rfl), by decide, by decide, by decide +kernel⟩, zin_6 (List.mem_of_getElem? (i := 49) (by decide +kernel)), zin_6 (List.mem_of_getElem? (i := 50) (by decide +kernel))⟩
abbrev MX7_outcomeOf : zM := (yX7_outcomeOf, cX7_outcomeOf, 7, (some .int), 2, 45)
set_option maxRecDepth 20000 in
theorem mkX7_outcomeOf : zMv MX7_outcomeOf 2 := ⟨⟨zin_1 (List.mem_of_getElem? (i := 11) (by decide +kernel)), zin_6 (List.mem_of_getElem? (i := 47) rfl), by decide, by decide, by decide +kernel⟩, zin_6 (List.mem_of_getElem? (i := 45) (by decide +kernel)), zin_6 (List.mem_of_getElem? (i := 46) (by decide +kernel))⟩
abbrev MX8_init : zM := (yX8_init, cX8_init, 3, none, 1, 40)
abbrev MX8_chooseAll : zM := (yX8_chooseAll, cX8_chooseAll, 7, (some .int), 2, 45)
set_option maxRecDepth 20000 in
theorem mkX8_chooseAll : zMv MX8_chooseAll 0 := ⟨⟨zin_1 (List.mem_of_getElem? (i := 12) (by decide +kernel)), zin_6 (List.mem_of_getElem? (i := 67) rfl), by decide, by decide, by decide +kernel⟩, zin_6 (List.mem_of_getElem? (i := 65) (by decide +kernel)), zin_6 (List.mem_of_getElem? (i := 66) (by decide +kernel))⟩
abbrev MX8_exchangeAll : zM := (yX8_exchangeAll, cX8_exchangeAll, 5, (some .int), 3, 72)
set_option maxRecDepth 20000 in
theorem mkX8_exchangeAll : zMv MX8_exchangeAll 0 := ⟨⟨zin_1 (List.mem_of_getElem? (i := 12) (by decide +kernel)), zin_6 (List.mem_of_getElem? (i := 77) rfl), by decide, by decide, by decide +kernel⟩, zin_6 (List.mem_of_getElem? (i := 75) (by decide +kernel)), zin_6 (List.mem_of_getElem? (i := 76) (by decide +kernel))⟩
abbrev MX8_closeRing : zM := (yX8_closeRing, cX8_closeRing, 6, (some .int), 2, 47)
set_option maxRecDepth 20000 in
theorem mkX8_closeRing : zMv MX8_closeRing 1 := ⟨⟨zin_1 (List.mem_of_getElem? (i := 12) (by decide +kernel)), zin_6 (List.mem_of_getElem? (i := 81) rfl), by decide, by decide, by decide +kernel⟩, zin_6 (List.mem_of_getElem? (i := 79) (by decide +kernel)), zin_6 (List.mem_of_getElem? (i := 80) (by decide +kernel))⟩
abbrev MX8_wantedFor : zM := (yX8_wantedFor, cX8_wantedFor, 4, (some .int), 1, 24)
set_option maxRecDepth 20000 in
theorem mkX8_wantedFor : zMv MX8_wantedFor 2 := ⟨⟨zin_1 (List.mem_of_getElem? (i := 12) (by decide +kernel)), zin_6 (List.mem_of_getElem? (i := 85) rfl), by decide, by decide, by decide +kernel⟩, zin_6 (List.mem_of_getElem? (i := 83) (by decide +kernel)), zin_6 (List.mem_of_getElem? (i := 84) (by decide +kernel))⟩
abbrev MX9_init : zM := (yX9_init, cX9_init, 1, none, 1, 40)
abbrev MX9_takeRow : zM := (yX9_takeRow, cX9_takeRow, 3, none, 1, 24)
set_option maxRecDepth 20000 in
theorem mkX9_takeRow : zMv MX9_takeRow 2 := ⟨⟨zin_1 (List.mem_of_getElem? (i := 13) (by decide +kernel)), zin_4 (List.mem_of_getElem? (i := 40) rfl), by decide, by decide, by decide +kernel⟩, zin_4 (List.mem_of_getElem? (i := 38) (by decide +kernel)), zin_4 (List.mem_of_getElem? (i := 39) (by decide +kernel))⟩
abbrev MX9_takePerson : zM := (yX9_takePerson, cX9_takePerson, 2, none, 0, 0)
set_option maxRecDepth 20000 in
theorem mkX9_takePerson : zMv MX9_takePerson 1 := ⟨⟨zin_1 (List.mem_of_getElem? (i := 13) (by decide +kernel)), zin_4 (List.mem_of_getElem? (i := 84) rfl), by decide, by decide, by decide +kernel⟩, zin_4 (List.mem_of_getElem? (i := 82) (by decide +kernel)), zin_4 (List.mem_of_getElem? (i := 83) (by decide +kernel))⟩
abbrev MX9_hasElement : zM := (yX9_hasElement, cX9_hasElement, 2, (some .boolean), 0, 0)
set_option maxRecDepth 20000 in
theorem mkX9_hasElement : zMv MX9_hasElement 1 := ⟨⟨zin_1 (List.mem_of_getElem? (i := 13) (by decide +kernel)), zin_4 (List.mem_of_getElem? (i := 55) rfl), by decide, by decide, by decide +kernel⟩, zin_4 (List.mem_of_getElem? (i := 53) (by decide +kernel)), zin_4 (List.mem_of_getElem? (i := 54) (by decide +kernel))⟩
abbrev MX9_hasStretch : zM := (yX9_hasStretch, cX9_hasStretch, 3, (some .boolean), 0, 0)
set_option maxRecDepth 20000 in
theorem mkX9_hasStretch : zMv MX9_hasStretch 2 := ⟨⟨zin_1 (List.mem_of_getElem? (i := 13) (by decide +kernel)), zin_4 (List.mem_of_getElem? (i := 71) rfl), by decide, by decide, by decide +kernel⟩, zin_4 (List.mem_of_getElem? (i := 69) (by decide +kernel)), zin_4 (List.mem_of_getElem? (i := 70) (by decide +kernel))⟩
abbrev MX9_put : zM := (yX9_put, cX9_put, 4, none, 0, 0)
set_option maxRecDepth 20000 in
theorem mkX9_put : zMv MX9_put 2 := ⟨⟨zin_1 (List.mem_of_getElem? (i := 13) (by decide +kernel)), zin_4 (List.mem_of_getElem? (i := 59) rfl), by decide, by decide, by decide +kernel⟩, zin_4 (List.mem_of_getElem? (i := 57) (by decide +kernel)), zin_4 (List.mem_of_getElem? (i := 58) (by decide +kernel))⟩
abbrev MX9_letter : zM := (yX9_letter, cX9_letter, 2, (some .int), 0, 0)
set_option maxRecDepth 20000 in
theorem mkX9_letter : zMv MX9_letter 1 := ⟨⟨zin_1 (List.mem_of_getElem? (i := 13) (by decide +kernel)), zin_4 (List.mem_of_getElem? (i := 112) rfl), by decide, by decide, by decide +kernel⟩, zin_4 (List.mem_of_getElem? (i := 110) (by decide +kernel)), zin_4 (List.mem_of_getElem? (i := 111) (by decide +kernel))⟩
abbrev MX9_copyLetters : zM := (yX9_copyLetters, cX9_copyLetters, 4, (some .int), 1, 21)
set_option maxRecDepth 20000 in
theorem mkX9_copyLetters : zMv MX9_copyLetters 2 := ⟨⟨zin_1 (List.mem_of_getElem? (i := 13) (by decide +kernel)), zin_4 (List.mem_of_getElem? (i := 108) rfl), by decide, by decide, by decide +kernel⟩, zin_4 (List.mem_of_getElem? (i := 106) (by decide +kernel)), zin_4 (List.mem_of_getElem? (i := 107) (by decide +kernel))⟩
abbrev MX10_init : zM := (yX10_init, cX10_init, 1, none, 1, 40)
abbrev MX10_tellFirst : zM := (yX10_tellFirst, cX10_tellFirst, 3, (some .int), 2, 44)
set_option maxRecDepth 20000 in
theorem mkX10_tellFirst : zMv MX10_tellFirst 2 := ⟨⟨zin_1 (List.mem_of_getElem? (i := 4) (by decide +kernel)), zin_4 (List.mem_of_getElem? (i := 104) rfl), by decide, by decide, by decide +kernel⟩, zin_4 (List.mem_of_getElem? (i := 102) (by decide +kernel)), zin_4 (List.mem_of_getElem? (i := 103) (by decide +kernel))⟩
abbrev MX10_tellWords : zM := (yX10_tellWords, cX10_tellWords, 3, none, 2, 44)
set_option maxRecDepth 20000 in
theorem mkX10_tellWords : zMv MX10_tellWords 2 := ⟨⟨zin_1 (List.mem_of_getElem? (i := 4) (by decide +kernel)), zin_4 (List.mem_of_getElem? (i := 120) rfl), by decide, by decide, by decide +kernel⟩, zin_4 (List.mem_of_getElem? (i := 118) (by decide +kernel)), zin_4 (List.mem_of_getElem? (i := 119) (by decide +kernel))⟩
abbrev MX10_tellTerms : zM := (yX10_tellTerms, cX10_tellTerms, 5, (some .int), 0, 0)
set_option maxRecDepth 20000 in
theorem mkX10_tellTerms : zMv MX10_tellTerms 3 := ⟨⟨zin_1 (List.mem_of_getElem? (i := 4) (by decide +kernel)), zin_4 (List.mem_of_getElem? (i := 124) rfl), by decide, by decide, by decide +kernel⟩, zin_4 (List.mem_of_getElem? (i := 122) (by decide +kernel)), zin_4 (List.mem_of_getElem? (i := 123) (by decide +kernel))⟩
abbrev MX10_inForce : zM := (yX10_inForce, cX10_inForce, 4, (some .boolean), 0, 0)
set_option maxRecDepth 20000 in
theorem mkX10_inForce : zMv MX10_inForce 3 := ⟨⟨zin_1 (List.mem_of_getElem? (i := 4) (by decide +kernel)), zin_3 (List.mem_of_getElem? (i := 116) rfl), by decide, by decide, by decide +kernel⟩, zin_3 (List.mem_of_getElem? (i := 114) (by decide +kernel)), zin_3 (List.mem_of_getElem? (i := 115) (by decide +kernel))⟩
abbrev MX10_compose : zM := (yX10_compose, cX10_compose, 6, none, 2, 84)
set_option maxRecDepth 20000 in
theorem mkX10_compose : zMv MX10_compose 3 := ⟨⟨zin_1 (List.mem_of_getElem? (i := 4) (by decide +kernel)), zin_3 (List.mem_of_getElem? (i := 109) rfl), by decide, by decide, by decide +kernel⟩, zin_3 (List.mem_of_getElem? (i := 107) (by decide +kernel)), zin_3 (List.mem_of_getElem? (i := 108) (by decide +kernel))⟩
abbrev MX10_replace : zM := (yX10_replace, cX10_replace, 5, (some .boolean), 1, 60)
set_option maxRecDepth 20000 in
theorem mkX10_replace : zMv MX10_replace 1 := ⟨⟨zin_1 (List.mem_of_getElem? (i := 4) (by decide +kernel)), zin_3 (List.mem_of_getElem? (i := 120) rfl), by decide, by decide, by decide +kernel⟩, zin_3 (List.mem_of_getElem? (i := 118) (by decide +kernel)), zin_3 (List.mem_of_getElem? (i := 119) (by decide +kernel))⟩
abbrev MX10_firstPlaceOf : zM := (yX10_firstPlaceOf, cX10_firstPlaceOf, 4, (some .int), 0, 0)
set_option maxRecDepth 20000 in
theorem mkX10_firstPlaceOf : zMv MX10_firstPlaceOf 1 := ⟨⟨zin_1 (List.mem_of_getElem? (i := 4) (by decide +kernel)), zin_3 (List.mem_of_getElem? (i := 124) rfl), by decide, by decide, by decide +kernel⟩, zin_3 (List.mem_of_getElem? (i := 122) (by decide +kernel)), zin_3 (List.mem_of_getElem? (i := 123) (by decide +kernel))⟩
abbrev MJ6_bitCount_0f7a4 : zM := (yJ6_bitCount_0f7a4, cJ6_bitCount_0f7a4, 1, (some .int), 0, 0)
set_option maxRecDepth 20000 in
theorem mkJ6_bitCount_0f7a4 : zMs MJ6_bitCount_0f7a4 1 := ⟨⟨zin_1 (List.mem_of_getElem? (i := 17) (by decide +kernel)), zin_4 (List.mem_of_getElem? (i := 226) rfl), by decide, by decide, by decide +kernel⟩, zin_4 (List.mem_of_getElem? (i := 225) (by decide +kernel))⟩
abbrev MJ9_max_7cf53 : zM := (yJ9_max_7cf53, cJ9_max_7cf53, 2, (some .int), 0, 0)
set_option maxRecDepth 20000 in
theorem mkJ9_max_7cf53 : zMs MJ9_max_7cf53 2 := ⟨⟨zin_1 (List.mem_of_getElem? (i := 16) (by decide +kernel)), zin_3 (List.mem_of_getElem? (i := 136) rfl), by decide, by decide, by decide +kernel⟩, zin_3 (List.mem_of_getElem? (i := 135) (by decide +kernel))⟩
abbrev MJ9_min_7cf53 : zM := (yJ9_min_7cf53, cJ9_min_7cf53, 2, (some .int), 0, 0)
set_option maxRecDepth 20000 in
theorem mkJ9_min_7cf53 : zMs MJ9_min_7cf53 2 := ⟨⟨zin_1 (List.mem_of_getElem? (i := 16) (by decide +kernel)), zin_3 (List.mem_of_getElem? (i := 151) rfl), by decide, by decide, by decide +kernel⟩, zin_3 (List.mem_of_getElem? (i := 150) (by decide +kernel))⟩
abbrev MJ7_fill_53178 : zM := (yJ7_fill_53178, cJ7_fill_53178, 4, none, 0, 0)
set_option maxRecDepth 20000 in
theorem mkJ7_fill_53178 : zMs MJ7_fill_53178 2 := ⟨⟨zin_1 (List.mem_of_getElem? (i := 3) (by decide +kernel)), zin_1 (List.mem_of_getElem? (i := 36) rfl), by decide, by decide, by decide +kernel⟩, zin_1 (List.mem_of_getElem? (i := 35) (by decide +kernel))⟩
abbrev MJ7_fill_d0a16 : zM := (yJ7_fill_d0a16, cJ7_fill_d0a16, 5, none, 0, 0)
set_option maxRecDepth 20000 in
theorem mkJ7_fill_d0a16 : zMs MJ7_fill_d0a16 2 := ⟨⟨zin_1 (List.mem_of_getElem? (i := 3) (by decide +kernel)), zin_4 (List.mem_of_getElem? (i := 43) rfl), by decide, by decide, by decide +kernel⟩, zin_4 (List.mem_of_getElem? (i := 42) (by decide +kernel))⟩
theorem lkRX11_111 : zLk RX11 111 MX11_within := zin_3 (List.mem_of_getElem? (i := 86) (by decide +kernel))
theorem lkRX11_115 : zLk RX11 115 MX11_isShelf := zin_4 (List.mem_of_getElem? (i := 34) (by decide +kernel))
theorem lkRX11_125 : zLk RX11 125 MJ9_max_7cf53 := zin_4 (List.mem_of_getElem? (i := 67) (by decide +kernel))
theorem lkRX11_132 : zLk RX11 132 MX11_refuse := zin_3 (List.mem_of_getElem? (i := 90) (by decide +kernel))
theorem lkRX11_136 : zLk RX11 136 MX6_endThose := zin_3 (List.mem_of_getElem? (i := 94) (by decide +kernel))
theorem lkRX11_143 : zLk RX11 143 MX5_add := zin_3 (List.mem_of_getElem? (i := 219) (by decide +kernel))
theorem lkRX11_146 : zLk RX11 146 MX5_has := zin_3 (List.mem_of_getElem? (i := 227) (by decide +kernel))
theorem lkRX11_152 : zLk RX11 152 MX5_canLead := zin_3 (List.mem_of_getElem? (i := 235) (by decide +kernel))
theorem lkRX11_165 : zLk RX11 165 MX5_tellFact := zin_4 (List.mem_of_getElem? (i := 3) (by decide +kernel))
theorem lkRX11_178 : zLk RX11 178 MX5_valueOf := zin_4 (List.mem_of_getElem? (i := 15) (by decide +kernel))
theorem lkRX11_182 : zLk RX11 182 MX5_measure := zin_4 (List.mem_of_getElem? (i := 20) (by decide +kernel))
theorem lkRX11_192 : zLk RX11 192 MX5_settlingLink := zin_4 (List.mem_of_getElem? (i := 25) (by decide +kernel))
theorem lkRX11_195 : zLk RX11 195 MX9_takeRow := zin_4 (List.mem_of_getElem? (i := 37) (by decide +kernel))
theorem lkRX11_198 : zLk RX11 198 MX11_rowTrouble := zin_4 (List.mem_of_getElem? (i := 48) (by decide +kernel))
theorem lkRX11_201 : zLk RX11 201 MX9_hasElement := zin_4 (List.mem_of_getElem? (i := 52) (by decide +kernel))
theorem lkRX11_204 : zLk RX11 204 MX9_put := zin_4 (List.mem_of_getElem? (i := 56) (by decide +kernel))
theorem lkRX11_208 : zLk RX11 208 MX11_firstTrouble := zin_4 (List.mem_of_getElem? (i := 64) (by decide +kernel))
theorem lkRX11_211 : zLk RX11 211 MX9_hasStretch := zin_4 (List.mem_of_getElem? (i := 68) (by decide +kernel))
theorem lkRX11_225 : zLk RX11 225 MX9_takePerson := zin_4 (List.mem_of_getElem? (i := 81) (by decide +kernel))
theorem lkRX11_229 : zLk RX11 229 MX11_isStatute := zin_4 (List.mem_of_getElem? (i := 98) (by decide +kernel))
theorem lkRX11_238 : zLk RX11 238 MX10_tellFirst := zin_4 (List.mem_of_getElem? (i := 101) (by decide +kernel))
theorem lkRX11_245 : zLk RX11 245 MX10_tellWords := zin_4 (List.mem_of_getElem? (i := 117) (by decide +kernel))
theorem lkRX11_249 : zLk RX11 249 MX10_tellTerms := zin_4 (List.mem_of_getElem? (i := 121) (by decide +kernel))
theorem lkRX11_252 : zLk RX11 252 MX10_compose := zin_4 (List.mem_of_getElem? (i := 129) (by decide +kernel))
theorem lkRX11_260 : zLk RX11 260 MX10_inForce := zin_4 (List.mem_of_getElem? (i := 134) (by decide +kernel))
theorem lkRX11_269 : zLk RX11 269 MX3_weigh := zin_4 (List.mem_of_getElem? (i := 139) (by decide +kernel))
theorem lkRX11_280 : zLk RX11 280 MX6_add := zin_4 (List.mem_of_getElem? (i := 152) (by decide +kernel))
theorem lkRX11_284 : zLk RX11 284 MX6_has := zin_4 (List.mem_of_getElem? (i := 164) (by decide +kernel))
theorem lkRX11_291 : zLk RX11 291 MX6_canTake := zin_4 (List.mem_of_getElem? (i := 168) (by decide +kernel))
theorem lkRX11_294 : zLk RX11 294 MX6_come := zin_4 (List.mem_of_getElem? (i := 176) (by decide +kernel))
theorem lkRX11_297 : zLk RX11 297 MX6_empty := zin_4 (List.mem_of_getElem? (i := 184) (by decide +kernel))
theorem lkRX11_306 : zLk RX11 306 MX11_choiceOf := zin_4 (List.mem_of_getElem? (i := 193) (by decide +kernel))
theorem lkRX11_310 : zLk RX11 310 MX1_tell := zin_4 (List.mem_of_getElem? (i := 197) (by decide +kernel))
theorem lkRX11_314 : zLk RX11 314 MX5_hasAll := zin_4 (List.mem_of_getElem? (i := 206) (by decide +kernel))
theorem lkRX11_317 : zLk RX11 317 MX2_canBe := zin_4 (List.mem_of_getElem? (i := 210) (by decide +kernel))
theorem lkRX11_320 : zLk RX11 320 MX2_begin := zin_4 (List.mem_of_getElem? (i := 230) (by decide +kernel))
theorem lkRX11_323 : zLk RX11 323 MX2_votesIn := zin_5 (List.mem_of_getElem? (i := 41) (by decide +kernel))
theorem lkRX11_326 : zLk RX11 326 MX2_electedWithout := zin_5 (List.mem_of_getElem? (i := 49) (by decide +kernel))
theorem lkRX11_329 : zLk RX11 329 MX6_nextFor := zin_5 (List.mem_of_getElem? (i := 57) (by decide +kernel))
theorem lkRX11_335 : zLk RX11 335 MX11_areTerms := zin_5 (List.mem_of_getElem? (i := 78) (by decide +kernel))
theorem lkRX11_345 : zLk RX11 345 MX4_add := zin_5 (List.mem_of_getElem? (i := 81) (by decide +kernel))
theorem lkRX11_347 : zLk RX11 347 MJ6_bitCount_0f7a4 := zin_5 (List.mem_of_getElem? (i := 89) (by decide +kernel))
theorem lkRX11_355 : zLk RX11 355 MX4_isPriced := zin_5 (List.mem_of_getElem? (i := 94) (by decide +kernel))
theorem lkRX11_361 : zLk RX11 361 MX4_tellPrice := zin_5 (List.mem_of_getElem? (i := 98) (by decide +kernel))
theorem lkRX11_364 : zLk RX11 364 MX4_has := zin_5 (List.mem_of_getElem? (i := 106) (by decide +kernel))
theorem lkRX11_365 : zLk RX11 365 MX4_endOf := zin_5 (List.mem_of_getElem? (i := 110) (by decide +kernel))
theorem lkRX11_368 : zLk RX11 368 MX4_dueIn := zin_5 (List.mem_of_getElem? (i := 124) (by decide +kernel))
theorem lkRX11_371 : zLk RX11 371 MX9_letter := zin_5 (List.mem_of_getElem? (i := 141) (by decide +kernel))
theorem lkRX11_377 : zLk RX11 377 MX9_copyLetters := zin_5 (List.mem_of_getElem? (i := 142) (by decide +kernel))
theorem lkRX11_384 : zLk RX11 384 MX11_thisYear := zin_5 (List.mem_of_getElem? (i := 147) (by decide +kernel))
theorem lkRX11_388 : zLk RX11 388 MX4_isForLives := zin_5 (List.mem_of_getElem? (i := 151) (by decide +kernel))
theorem lkRX11_391 : zLk RX11 391 MX0_isFull := zin_5 (List.mem_of_getElem? (i := 152) (by decide +kernel))
theorem lkRX11_395 : zLk RX11 395 MX4_fineFor := zin_5 (List.mem_of_getElem? (i := 156) (by decide +kernel))
theorem lkRX11_398 : zLk RX11 398 MX0_enter := zin_5 (List.mem_of_getElem? (i := 165) (by decide +kernel))
theorem lkRX11_404 : zLk RX11 404 MX0_keep := zin_5 (List.mem_of_getElem? (i := 177) (by decide +kernel))
theorem lkRX11_413 : zLk RX11 413 MX6_holdersOf := zin_5 (List.mem_of_getElem? (i := 190) (by decide +kernel))
theorem lkRX11_416 : zLk RX11 416 MX0_part := zin_5 (List.mem_of_getElem? (i := 191) (by decide +kernel))
theorem lkRX11_431 : zLk RX11 431 MX7_addRoof := zin_5 (List.mem_of_getElem? (i := 219) (by decide +kernel))
theorem lkRX11_434 : zLk RX11 434 MX11_canPlan := zin_5 (List.mem_of_getElem? (i := 227) (by decide +kernel))
theorem lkRX11_437 : zLk RX11 437 MX7_prepare := zin_5 (List.mem_of_getElem? (i := 230) (by decide +kernel))
theorem lkRX11_440 : zLk RX11 440 MX7_findBest := zin_6 (List.mem_of_getElem? (i := 4) (by decide +kernel))
theorem lkRX11_443 : zLk RX11 443 MX7_told := zin_6 (List.mem_of_getElem? (i := 31) (by decide +kernel))
theorem lkRX11_446 : zLk RX11 446 MX7_canFollow := zin_6 (List.mem_of_getElem? (i := 39) (by decide +kernel))
theorem lkRX11_450 : zLk RX11 450 MX7_outcomeOf := zin_6 (List.mem_of_getElem? (i := 44) (by decide +kernel))
theorem lkRX11_455 : zLk RX11 455 MX8_chooseAll := zin_6 (List.mem_of_getElem? (i := 64) (by decide +kernel))
theorem lkRX11_458 : zLk RX11 458 MX8_exchangeAll := zin_6 (List.mem_of_getElem? (i := 74) (by decide +kernel))
theorem lkRX11_464 : zLk RX11 464 MX6_howManyHeld := zin_6 (List.mem_of_getElem? (i := 94) (by decide +kernel))
theorem lkRX12_267 : zLk RX12 267 MX12_no := zin_7 (List.mem_of_getElem? (i := 199) (by decide +kernel))
theorem lkRX12_271 : zLk RX12 271 MX12_isOne := zin_7 (List.mem_of_getElem? (i := 207) (by decide +kernel))
theorem lkRX12_275 : zLk RX12 275 MX12_climbs := zin_7 (List.mem_of_getElem? (i := 215) (by decide +kernel))
theorem lkRX12_282 : zLk RX12 282 MX12_valueOf := zin_7 (List.mem_of_getElem? (i := 231) (by decide +kernel))
theorem lkRX12_286 : zLk RX12 286 MX12_kinOf := zin_8 (List.mem_of_getElem? (i := 3) (by decide +kernel))
theorem lkRX12_290 : zLk RX12 290 MX12_nearOf := zin_7 (List.mem_of_getElem? (i := 239) (by decide +kernel))
theorem lkRX12_293 : zLk RX12 293 MX12_isShelf := zin_8 (List.mem_of_getElem? (i := 15) (by decide +kernel))
theorem lkRX12_297 : zLk RX12 297 MX12_isStatute := zin_8 (List.mem_of_getElem? (i := 47) (by decide +kernel))
theorem lkRX12_300 : zLk RX12 300 MX12_wants := zin_8 (List.mem_of_getElem? (i := 50) (by decide +kernel))
theorem lkRX12_309 : zLk RX12 309 MX12_isInForce := zin_8 (List.mem_of_getElem? (i := 66) (by decide +kernel))
theorem lkRX12_313 : zLk RX12 313 MX12_placeOf := zin_8 (List.mem_of_getElem? (i := 70) (by decide +kernel))
theorem lkRX12_316 : zLk RX12 316 MX12_words := zin_8 (List.mem_of_getElem? (i := 62) (by decide +kernel))
theorem lkRX12_323 : zLk RX12 323 MX12_letter := zin_8 (List.mem_of_getElem? (i := 86) (by decide +kernel))
theorem lkRX12_339 : zLk RX12 339 MX12_reads := zin_8 (List.mem_of_getElem? (i := 90) (by decide +kernel))
theorem lkRX12_343 : zLk RX12 343 MX12_closes := zin_8 (List.mem_of_getElem? (i := 94) (by decide +kernel))
theorem lkRX12_346 : zLk RX12 346 MX12_pops := zin_8 (List.mem_of_getElem? (i := 98) (by decide +kernel))
theorem lkRX12_350 : zLk RX12 350 MX12_compiles := zin_8 (List.mem_of_getElem? (i := 82) (by decide +kernel))
theorem lkRX12_355 : zLk RX12 355 MX12_compared := zin_8 (List.mem_of_getElem? (i := 115) (by decide +kernel))
theorem lkRX12_359 : zLk RX12 359 MX12_tested := zin_8 (List.mem_of_getElem? (i := 110) (by decide +kernel))
theorem lkRX12_362 : zLk RX12 362 MX12_joined := zin_8 (List.mem_of_getElem? (i := 118) (by decide +kernel))
theorem lkRX12_365 : zLk RX12 365 MX12_mays := zin_8 (List.mem_of_getElem? (i := 106) (by decide +kernel))
theorem lkRX12_368 : zLk RX12 368 MX12_isPlace := zin_8 (List.mem_of_getElem? (i := 137) (by decide +kernel))
theorem lkRX12_371 : zLk RX12 371 MX12_mayHold := zin_8 (List.mem_of_getElem? (i := 141) (by decide +kernel))
theorem lkRX12_375 : zLk RX12 375 MX12_placeHeld := zin_8 (List.mem_of_getElem? (i := 145) (by decide +kernel))
theorem lkRX12_378 : zLk RX12 378 MX12_comes := zin_8 (List.mem_of_getElem? (i := 149) (by decide +kernel))
theorem lkRX12_382 : zLk RX12 382 MX12_ends := zin_8 (List.mem_of_getElem? (i := 157) (by decide +kernel))
theorem lkRX12_389 : zLk RX12 389 MX12_choice := zin_8 (List.mem_of_getElem? (i := 185) (by decide +kernel))
theorem lkRX12_395 : zLk RX12 395 MX12_keeps := zin_8 (List.mem_of_getElem? (i := 177) (by decide +kernel))
theorem lkRX12_405 : zLk RX12 405 MX12_elects := zin_8 (List.mem_of_getElem? (i := 181) (by decide +kernel))
theorem lkRX12_409 : zLk RX12 409 MX12_seniors := zin_8 (List.mem_of_getElem? (i := 205) (by decide +kernel))
theorem lkRX12_412 : zLk RX12 412 MX12_isAsked := zin_8 (List.mem_of_getElem? (i := 201) (by decide +kernel))
theorem lkRX12_418 : zLk RX12 418 MX12_isLease := zin_8 (List.mem_of_getElem? (i := 217) (by decide +kernel))
theorem lkRX12_421 : zLk RX12 421 MX12_lets := zin_8 (List.mem_of_getElem? (i := 220) (by decide +kernel))
theorem lkRX12_425 : zLk RX12 425 MX12_bits := zin_8 (List.mem_of_getElem? (i := 228) (by decide +kernel))
theorem lkRX12_432 : zLk RX12 432 MX12_endOf := zin_8 (List.mem_of_getElem? (i := 239) (by decide +kernel))
theorem lkRX12_435 : zLk RX12 435 MX12_asBefore := zin_9 (List.mem_of_getElem? (i := 12) (by decide +kernel))
theorem lkRX12_438 : zLk RX12 438 MX12_rentOf := zin_9 (List.mem_of_getElem? (i := 8) (by decide +kernel))
theorem lkRX12_444 : zLk RX12 444 MX12_tableAt := zin_9 (List.mem_of_getElem? (i := 32) (by decide +kernel))
theorem lkRX12_450 : zLk RX12 450 MX12_year := zin_9 (List.mem_of_getElem? (i := 24) (by decide +kernel))
theorem lkRX12_456 : zLk RX12 456 MX12_fine := zin_9 (List.mem_of_getElem? (i := 28) (by decide +kernel))
theorem lkRX12_459 : zLk RX12 459 MX12_enters := zin_9 (List.mem_of_getElem? (i := 36) (by decide +kernel))
theorem lkRX12_465 : zLk RX12 465 MX12_newYear := zin_9 (List.mem_of_getElem? (i := 48) (by decide +kernel))
theorem lkRX12_480 : zLk RX12 480 MX12_isPlan := zin_9 (List.mem_of_getElem? (i := 83) (by decide +kernel))
theorem lkRX12_484 : zLk RX12 484 MX12_endsIn := zin_9 (List.mem_of_getElem? (i := 86) (by decide +kernel))
theorem lkRX12_487 : zLk RX12 487 MX12_holds_ := zin_9 (List.mem_of_getElem? (i := 90) (by decide +kernel))
theorem lkRX12_502 : zLk RX12 502 MX12_whoHas := zin_9 (List.mem_of_getElem? (i := 114) (by decide +kernel))
theorem lkRX12_505 : zLk RX12 505 MX12_pointed := zin_9 (List.mem_of_getElem? (i := 122) (by decide +kernel))
theorem lkRX0_37 : zLk RX0 37 MJ7_fill_53178 := zin_5 (List.mem_of_getElem? (i := 185) (by decide +kernel))
theorem lkRX0_43 : zLk RX0 43 MX0_beginYear := zin_5 (List.mem_of_getElem? (i := 181) (by decide +kernel))
theorem lkRX0_47 : zLk RX0 47 MX0_enter := zin_5 (List.mem_of_getElem? (i := 195) (by decide +kernel))
theorem lkRX1_22 : zLk RX1 22 MJ7_fill_53178 := zin_2 (List.mem_of_getElem? (i := 28) (by decide +kernel))
theorem lkRX1_32 : zLk RX1 32 MX9_letter := zin_4 (List.mem_of_getElem? (i := 201) (by decide +kernel))
theorem lkRX2_60 : zLk RX2 60 MX6_canTake := zin_4 (List.mem_of_getElem? (i := 214) (by decide +kernel))
theorem lkRX2_66 : zLk RX2 66 MX2_withBallots := zin_4 (List.mem_of_getElem? (i := 215) (by decide +kernel))
theorem lkRX2_70 : zLk RX2 70 MJ6_bitCount_0f7a4 := zin_4 (List.mem_of_getElem? (i := 224) (by decide +kernel))
theorem lkRX2_76 : zLk RX2 76 MX6_holdersOf := zin_4 (List.mem_of_getElem? (i := 219) (by decide +kernel))
theorem lkRX2_79 : zLk RX2 79 MX1_has := zin_4 (List.mem_of_getElem? (i := 220) (by decide +kernel))
theorem lkRX2_90 : zLk RX2 90 MX2_firstOfficer := zin_4 (List.mem_of_getElem? (i := 234) (by decide +kernel))
theorem lkRX2_93 : zLk RX2 93 MX1_takeOver := zin_4 (List.mem_of_getElem? (i := 238) (by decide +kernel))
theorem lkRX2_97 : zLk RX2 97 MX2_runRounds := zin_5 (List.mem_of_getElem? (i := 3) (by decide +kernel))
theorem lkRX2_101 : zLk RX2 101 MX2_countVotes := zin_5 (List.mem_of_getElem? (i := 7) (by decide +kernel))
theorem lkRX2_104 : zLk RX2 104 MX2_writeRound := zin_5 (List.mem_of_getElem? (i := 16) (by decide +kernel))
theorem lkRX2_108 : zLk RX2 108 MX2_winnerOf := zin_5 (List.mem_of_getElem? (i := 20) (by decide +kernel))
theorem lkRX2_112 : zLk RX2 112 MX2_leastOf := zin_5 (List.mem_of_getElem? (i := 28) (by decide +kernel))
theorem lkRX2_115 : zLk RX2 115 MJ7_fill_53178 := zin_5 (List.mem_of_getElem? (i := 11) (by decide +kernel))
theorem lkRX2_121 : zLk RX2 121 MX1_firstOf := zin_5 (List.mem_of_getElem? (i := 12) (by decide +kernel))
theorem lkRX2_124 : zLk RX2 124 MX2_decide := zin_5 (List.mem_of_getElem? (i := 24) (by decide +kernel))
theorem lkRX2_130 : zLk RX2 130 MX2_goesAhead := zin_5 (List.mem_of_getElem? (i := 32) (by decide +kernel))
theorem lkRX2_134 : zLk RX2 134 MJ9_max_7cf53 := zin_5 (List.mem_of_getElem? (i := 36) (by decide +kernel))
theorem lkRX3_32 : zLk RX3 32 MX10_compose := zin_3 (List.mem_of_getElem? (i := 106) (by decide +kernel))
theorem lkRX3_38 : zLk RX3 38 MX3_learn := zin_3 (List.mem_of_getElem? (i := 125) (by decide +kernel))
theorem lkRX3_41 : zLk RX3 41 MX5_measure := zin_3 (List.mem_of_getElem? (i := 137) (by decide +kernel))
theorem lkRX3_47 : zLk RX3 47 MX3_begin := zin_3 (List.mem_of_getElem? (i := 152) (by decide +kernel))
theorem lkRX3_62 : zLk RX3 62 MX3_readJoint := zin_3 (List.mem_of_getElem? (i := 160) (by decide +kernel))
theorem lkRX3_69 : zLk RX3 69 MX3_readOpening := zin_3 (List.mem_of_getElem? (i := 174) (by decide +kernel))
theorem lkRX3_72 : zLk RX3 72 MX3_readTest := zin_3 (List.mem_of_getElem? (i := 178) (by decide +kernel))
theorem lkRX3_78 : zLk RX3 78 MX5_isAlive := zin_3 (List.mem_of_getElem? (i := 202) (by decide +kernel))
theorem lkRX3_82 : zLk RX3 82 MX3_either := zin_3 (List.mem_of_getElem? (i := 164) (by decide +kernel))
theorem lkRX3_86 : zLk RX3 86 MX5_valueOf := zin_3 (List.mem_of_getElem? (i := 129) (by decide +kernel))
theorem lkRX3_95 : zLk RX3 95 MJ9_max_7cf53 := zin_3 (List.mem_of_getElem? (i := 134) (by decide +kernel))
theorem lkRX3_115 : zLk RX3 115 MX3_openLevel := zin_3 (List.mem_of_getElem? (i := 156) (by decide +kernel))
theorem lkRX3_118 : zLk RX3 118 MX3_endOfTest := zin_3 (List.mem_of_getElem? (i := 182) (by decide +kernel))
theorem lkRX3_121 : zLk RX3 121 MX3_valueOfTest := zin_3 (List.mem_of_getElem? (i := 190) (by decide +kernel))
theorem lkRX3_124 : zLk RX3 124 MX3_endPart := zin_3 (List.mem_of_getElem? (i := 167) (by decide +kernel))
theorem lkRX3_127 : zLk RX3 127 MX3_letterAt := zin_3 (List.mem_of_getElem? (i := 186) (by decide +kernel))
theorem lkRX3_130 : zLk RX3 130 MX3_kinTest := zin_3 (List.mem_of_getElem? (i := 194) (by decide +kernel))
theorem lkRX3_133 : zLk RX3 133 MX3_plainTest := zin_3 (List.mem_of_getElem? (i := 198) (by decide +kernel))
theorem lkRX3_142 : zLk RX3 142 MX3_both := zin_3 (List.mem_of_getElem? (i := 171) (by decide +kernel))
theorem lkRX4_56 : zLk RX4 56 MX4_isForLives := zin_5 (List.mem_of_getElem? (i := 114) (by decide +kernel))
theorem lkRX4_70 : zLk RX4 70 MJ9_max_7cf53 := zin_5 (List.mem_of_getElem? (i := 119) (by decide +kernel))
theorem lkRX4_76 : zLk RX4 76 MX4_priceIn := zin_5 (List.mem_of_getElem? (i := 133) (by decide +kernel))
theorem lkRX4_80 : zLk RX4 80 MX4_endOf := zin_5 (List.mem_of_getElem? (i := 128) (by decide +kernel))
theorem lkRX4_83 : zLk RX4 83 MX4_reservedIn := zin_5 (List.mem_of_getElem? (i := 129) (by decide +kernel))
theorem lkRX4_86 : zLk RX4 86 MJ9_min_7cf53 := zin_5 (List.mem_of_getElem? (i := 164) (by decide +kernel))
theorem lkRX4_89 : zLk RX4 89 MX4_rate := zin_5 (List.mem_of_getElem? (i := 160) (by decide +kernel))
theorem lkRX5_64 : zLk RX5 64 MJ7_fill_53178 := zin_1 (List.mem_of_getElem? (i := 34) (by decide +kernel))
theorem lkRX5_70 : zLk RX5 70 MX5_climb := zin_3 (List.mem_of_getElem? (i := 141) (by decide +kernel))
theorem lkRX5_74 : zLk RX5 74 MX5_isKnown := zin_3 (List.mem_of_getElem? (i := 145) (by decide +kernel))
theorem lkRX5_78 : zLk RX5 78 MJ9_min_7cf53 := zin_3 (List.mem_of_getElem? (i := 149) (by decide +kernel))
theorem lkRX5_84 : zLk RX5 84 MX5_measure := zin_4 (List.mem_of_getElem? (i := 29) (by decide +kernel))
theorem lkRX6_41 : zLk RX6 41 MX6_empty := zin_3 (List.mem_of_getElem? (i := 206) (by decide +kernel))
theorem lkRX6_45 : zLk RX6 45 MX6_holdersOf := zin_4 (List.mem_of_getElem? (i := 172) (by decide +kernel))
theorem lkRX6_49 : zLk RX6 49 MX3_weigh := zin_3 (List.mem_of_getElem? (i := 102) (by decide +kernel))
theorem lkRX6_55 : zLk RX6 55 MX6_isOutOfGrace := zin_3 (List.mem_of_getElem? (i := 98) (by decide +kernel))
theorem lkRX6_59 : zLk RX6 59 MX6_hasSettledLiving := zin_3 (List.mem_of_getElem? (i := 210) (by decide +kernel))
theorem lkRX6_62 : zLk RX6 62 MX6_isSenior := zin_5 (List.mem_of_getElem? (i := 65) (by decide +kernel))
theorem lkRX6_65 : zLk RX6 65 MX6_lineUpFellows := zin_5 (List.mem_of_getElem? (i := 61) (by decide +kernel))
theorem lkRX6_69 : zLk RX6 69 MX6_canTake := zin_5 (List.mem_of_getElem? (i := 69) (by decide +kernel))
theorem lkRX7_59 : zLk RX7 59 MJ7_fill_53178 := zin_5 (List.mem_of_getElem? (i := 234) (by decide +kernel))
theorem lkRX7_76 : zLk RX7 76 MX4_endOf := zin_5 (List.mem_of_getElem? (i := 235) (by decide +kernel))
theorem lkRX7_80 : zLk RX7 80 MX4_dueIn := zin_5 (List.mem_of_getElem? (i := 236) (by decide +kernel))
theorem lkRX7_84 : zLk RX7 84 MX4_isForLives := zin_5 (List.mem_of_getElem? (i := 237) (by decide +kernel))
theorem lkRX7_88 : zLk RX7 88 MX7_gainByRenewing := zin_5 (List.mem_of_getElem? (i := 238) (by decide +kernel))
theorem lkRX7_92 : zLk RX7 92 MX4_fineFor := zin_6 (List.mem_of_getElem? (i := 2) (by decide +kernel))
theorem lkRX7_95 : zLk RX7 95 MX4_reservedIn := zin_6 (List.mem_of_getElem? (i := 3) (by decide +kernel))
theorem lkRX7_102 : zLk RX7 102 MJ9_min_7cf53 := zin_6 (List.mem_of_getElem? (i := 13) (by decide +kernel))
theorem lkRX7_107 : zLk RX7 107 MX7_settle := zin_6 (List.mem_of_getElem? (i := 8) (by decide +kernel))
theorem lkRX7_111 : zLk RX7 111 MX7_mendBest := zin_6 (List.mem_of_getElem? (i := 14) (by decide +kernel))
theorem lkRX7_115 : zLk RX7 115 MJ9_max_7cf53 := zin_6 (List.mem_of_getElem? (i := 18) (by decide +kernel))
theorem lkRX7_118 : zLk RX7 118 MX7_worthOf := zin_6 (List.mem_of_getElem? (i := 19) (by decide +kernel))
theorem lkRX7_121 : zLk RX7 121 MX7_gainOfRoof := zin_6 (List.mem_of_getElem? (i := 23) (by decide +kernel))
theorem lkRX7_124 : zLk RX7 124 MX9_letter := zin_6 (List.mem_of_getElem? (i := 43) (by decide +kernel))
theorem lkRX7_129 : zLk RX7 129 MX7_yearOf := zin_6 (List.mem_of_getElem? (i := 48) (by decide +kernel))
theorem lkRX8_30 : zLk RX8 30 MJ7_fill_53178 := zin_2 (List.mem_of_getElem? (i := 235) (by decide +kernel))
theorem lkRX8_36 : zLk RX8 36 MX6_lineUpFellows := zin_6 (List.mem_of_getElem? (i := 68) (by decide +kernel))
theorem lkRX8_48 : zLk RX8 48 MX1_firstOf := zin_6 (List.mem_of_getElem? (i := 69) (by decide +kernel))
theorem lkRX8_54 : zLk RX8 54 MX8_closeRing := zin_6 (List.mem_of_getElem? (i := 78) (by decide +kernel))
theorem lkRX8_58 : zLk RX8 58 MX8_wantedFor := zin_6 (List.mem_of_getElem? (i := 82) (by decide +kernel))
theorem lkRX9_25 : zLk RX9 25 MJ7_fill_d0a16 := zin_4 (List.mem_of_getElem? (i := 41) (by decide +kernel))
theorem lkRX9_31 : zLk RX9 31 MX9_letter := zin_4 (List.mem_of_getElem? (i := 109) (by decide +kernel))
theorem lkRX10_55 : zLk RX10 55 MX9_copyLetters := zin_4 (List.mem_of_getElem? (i := 105) (by decide +kernel))
theorem lkRX10_68 : zLk RX10 68 MX10_inForce := zin_3 (List.mem_of_getElem? (i := 113) (by decide +kernel))
theorem lkRX10_72 : zLk RX10 72 MX10_replace := zin_3 (List.mem_of_getElem? (i := 117) (by decide +kernel))
theorem lkRX10_76 : zLk RX10 76 MX10_firstPlaceOf := zin_3 (List.mem_of_getElem? (i := 121) (by decide +kernel))
theorem flRX11_11 : zFl RX11 11 11 0 := ⟨_, rfl, by decide, rfl, zin_3 (List.mem_of_getElem? (i := 39) (by decide +kernel))⟩
theorem flRX11_18 : zFl RX11 18 11 1 := ⟨_, rfl, by decide, rfl, zin_3 (List.mem_of_getElem? (i := 40) (by decide +kernel))⟩
theorem flRX11_25 : zFl RX11 25 11 2 := ⟨_, rfl, by decide, rfl, zin_3 (List.mem_of_getElem? (i := 41) (by decide +kernel))⟩
theorem flRX11_34 : zFl RX11 34 11 3 := ⟨_, rfl, by decide, rfl, zin_3 (List.mem_of_getElem? (i := 42) (by decide +kernel))⟩
theorem flRX11_43 : zFl RX11 43 11 4 := ⟨_, rfl, by decide, rfl, zin_3 (List.mem_of_getElem? (i := 43) (by decide +kernel))⟩
theorem flRX11_52 : zFl RX11 52 11 5 := ⟨_, rfl, by decide, rfl, zin_3 (List.mem_of_getElem? (i := 44) (by decide +kernel))⟩
theorem flRX11_61 : zFl RX11 61 11 6 := ⟨_, rfl, by decide, rfl, zin_3 (List.mem_of_getElem? (i := 45) (by decide +kernel))⟩
theorem flRX11_70 : zFl RX11 70 11 7 := ⟨_, rfl, by decide, rfl, zin_3 (List.mem_of_getElem? (i := 46) (by decide +kernel))⟩
theorem flRX11_77 : zFl RX11 77 11 8 := ⟨_, rfl, by decide, rfl, zin_3 (List.mem_of_getElem? (i := 47) (by decide +kernel))⟩
theorem flRX11_86 : zFl RX11 86 11 9 := ⟨_, rfl, by decide, rfl, zin_3 (List.mem_of_getElem? (i := 48) (by decide +kernel))⟩
theorem flRX11_90 : zFl RX11 90 11 10 := ⟨_, rfl, by decide, rfl, zin_3 (List.mem_of_getElem? (i := 49) (by decide +kernel))⟩
theorem flRX11_98 : zFl RX11 98 11 11 := ⟨_, rfl, by decide, rfl, zin_3 (List.mem_of_getElem? (i := 50) (by decide +kernel))⟩
theorem flRX11_102 : zFl RX11 102 11 12 := ⟨_, rfl, by decide, rfl, zin_3 (List.mem_of_getElem? (i := 51) (by decide +kernel))⟩
theorem flRX11_106 : zFl RX11 106 11 13 := ⟨_, rfl, by decide, rfl, zin_3 (List.mem_of_getElem? (i := 52) (by decide +kernel))⟩
theorem fpRX11_106 : zFp RX11 106 11 13 .int := ⟨_, rfl, by decide, rfl, zin_3 (List.mem_of_getElem? (i := 52) (by decide +kernel)), rfl, by decide +kernel⟩
theorem flRX11_119 : zFl RX11 119 9 3 := ⟨_, rfl, by decide, rfl, zin_3 (List.mem_of_getElem? (i := 28) (by decide +kernel))⟩
theorem flRX11_122 : zFl RX11 122 9 1 := ⟨_, rfl, by decide, rfl, zin_3 (List.mem_of_getElem? (i := 22) (by decide +kernel))⟩
theorem flRX11_140 : zFl RX11 140 5 12 := ⟨_, rfl, by decide, rfl, zin_1 (List.mem_of_getElem? (i := 61) (by decide +kernel))⟩
theorem flRX11_149 : zFl RX11 149 5 13 := ⟨_, rfl, by decide, rfl, zin_1 (List.mem_of_getElem? (i := 63) (by decide +kernel))⟩
theorem fpRX11_149 : zFp RX11 149 5 13 .int := ⟨_, rfl, by decide, rfl, zin_1 (List.mem_of_getElem? (i := 63) (by decide +kernel)), rfl, by decide +kernel⟩
theorem flRX11_156 : zFl RX11 156 5 1 := ⟨_, rfl, by decide, rfl, zin_1 (List.mem_of_getElem? (i := 42) (by decide +kernel))⟩
theorem flRX11_159 : zFl RX11 159 5 2 := ⟨_, rfl, by decide, rfl, zin_1 (List.mem_of_getElem? (i := 44) (by decide +kernel))⟩
theorem flRX11_162 : zFl RX11 162 5 14 := ⟨_, rfl, by decide, rfl, zin_1 (List.mem_of_getElem? (i := 65) (by decide +kernel))⟩
theorem flRX11_169 : zFl RX11 169 5 4 := ⟨_, rfl, by decide, rfl, zin_1 (List.mem_of_getElem? (i := 50) (by decide +kernel))⟩
theorem flRX11_172 : zFl RX11 172 5 0 := ⟨_, rfl, by decide, rfl, zin_1 (List.mem_of_getElem? (i := 40) (by decide +kernel))⟩
theorem flRX11_175 : zFl RX11 175 5 3 := ⟨_, rfl, by decide, rfl, zin_1 (List.mem_of_getElem? (i := 47) (by decide +kernel))⟩
theorem flRX11_186 : zFl RX11 186 5 16 := ⟨_, rfl, by decide, rfl, zin_1 (List.mem_of_getElem? (i := 71) (by decide +kernel))⟩
theorem flRX11_189 : zFl RX11 189 5 15 := ⟨_, rfl, by decide, rfl, zin_1 (List.mem_of_getElem? (i := 68) (by decide +kernel))⟩
theorem flRX11_215 : zFl RX11 215 9 0 := ⟨_, rfl, by decide, rfl, zin_3 (List.mem_of_getElem? (i := 20) (by decide +kernel))⟩
theorem flRX11_232 : zFl RX11 232 10 1 := ⟨_, rfl, by decide, rfl, zin_1 (List.mem_of_getElem? (i := 116) (by decide +kernel))⟩
theorem flRX11_235 : zFl RX11 235 9 2 := ⟨_, rfl, by decide, rfl, zin_3 (List.mem_of_getElem? (i := 26) (by decide +kernel))⟩
theorem flRX11_242 : zFl RX11 242 10 11 := ⟨_, rfl, by decide, rfl, zin_1 (List.mem_of_getElem? (i := 130) (by decide +kernel))⟩
theorem flRX11_256 : zFl RX11 256 10 12 := ⟨_, rfl, by decide, rfl, zin_1 (List.mem_of_getElem? (i := 133) (by decide +kernel))⟩
theorem flRX11_257 : zFl RX11 257 10 10 := ⟨_, rfl, by decide, rfl, zin_1 (List.mem_of_getElem? (i := 128) (by decide +kernel))⟩
theorem flRX11_263 : zFl RX11 263 10 2 := ⟨_, rfl, by decide, rfl, zin_1 (List.mem_of_getElem? (i := 118) (by decide +kernel))⟩
theorem flRX11_266 : zFl RX11 266 10 13 := ⟨_, rfl, by decide, rfl, zin_1 (List.mem_of_getElem? (i := 135) (by decide +kernel))⟩
theorem flRX11_273 : zFl RX11 273 3 13 := ⟨_, rfl, by decide, rfl, zin_1 (List.mem_of_getElem? (i := 186) (by decide +kernel))⟩
theorem flRX11_276 : zFl RX11 276 3 12 := ⟨_, rfl, by decide, rfl, zin_1 (List.mem_of_getElem? (i := 184) (by decide +kernel))⟩
theorem flRX11_279 : zFl RX11 279 6 7 := ⟨_, rfl, by decide, rfl, zin_2 (List.mem_of_getElem? (i := 0) (by decide +kernel))⟩
theorem flRX11_281 : zFl RX11 281 6 8 := ⟨_, rfl, by decide, rfl, zin_2 (List.mem_of_getElem? (i := 2) (by decide +kernel))⟩
theorem fpRX11_281 : zFp RX11 281 6 8 .int := ⟨_, rfl, by decide, rfl, zin_2 (List.mem_of_getElem? (i := 2) (by decide +kernel)), rfl, by decide +kernel⟩
theorem flRX11_285 : zFl RX11 285 6 2 := ⟨_, rfl, by decide, rfl, zin_1 (List.mem_of_getElem? (i := 229) (by decide +kernel))⟩
theorem flRX11_288 : zFl RX11 288 6 1 := ⟨_, rfl, by decide, rfl, zin_1 (List.mem_of_getElem? (i := 225) (by decide +kernel))⟩
theorem flRX11_300 : zFl RX11 300 6 3 := ⟨_, rfl, by decide, rfl, zin_1 (List.mem_of_getElem? (i := 231) (by decide +kernel))⟩
theorem flRX11_303 : zFl RX11 303 6 4 := ⟨_, rfl, by decide, rfl, zin_1 (List.mem_of_getElem? (i := 233) (by decide +kernel))⟩
theorem flRX11_332 : zFl RX11 332 6 5 := ⟨_, rfl, by decide, rfl, zin_1 (List.mem_of_getElem? (i := 235) (by decide +kernel))⟩
theorem flRX11_338 : zFl RX11 338 4 11 := ⟨_, rfl, by decide, rfl, zin_2 (List.mem_of_getElem? (i := 106) (by decide +kernel))⟩
theorem flRX11_339 : zFl RX11 339 4 6 := ⟨_, rfl, by decide, rfl, zin_2 (List.mem_of_getElem? (i := 97) (by decide +kernel))⟩
theorem flRX11_342 : zFl RX11 342 4 5 := ⟨_, rfl, by decide, rfl, zin_2 (List.mem_of_getElem? (i := 95) (by decide +kernel))⟩
theorem flRX11_352 : zFl RX11 352 4 7 := ⟨_, rfl, by decide, rfl, zin_2 (List.mem_of_getElem? (i := 99) (by decide +kernel))⟩
theorem flRX11_358 : zFl RX11 358 4 12 := ⟨_, rfl, by decide, rfl, zin_2 (List.mem_of_getElem? (i := 108) (by decide +kernel))⟩
theorem flRX11_374 : zFl RX11 374 4 10 := ⟨_, rfl, by decide, rfl, zin_2 (List.mem_of_getElem? (i := 103) (by decide +kernel))⟩
theorem flRX11_381 : zFl RX11 381 4 13 := ⟨_, rfl, by decide, rfl, zin_2 (List.mem_of_getElem? (i := 110) (by decide +kernel))⟩
theorem fpRX11_381 : zFp RX11 381 4 13 .int := ⟨_, rfl, by decide, rfl, zin_2 (List.mem_of_getElem? (i := 110) (by decide +kernel)), rfl, by decide +kernel⟩
theorem flRX11_401 : zFl RX11 401 0 5 := ⟨_, rfl, by decide, rfl, zin_2 (List.mem_of_getElem? (i := 158) (by decide +kernel))⟩
theorem fpRX11_401 : zFp RX11 401 0 5 .int := ⟨_, rfl, by decide, rfl, zin_2 (List.mem_of_getElem? (i := 158) (by decide +kernel)), rfl, by decide +kernel⟩
theorem flRX11_407 : zFl RX11 407 0 3 := ⟨_, rfl, by decide, rfl, zin_2 (List.mem_of_getElem? (i := 153) (by decide +kernel))⟩
theorem flRX11_410 : zFl RX11 410 0 6 := ⟨_, rfl, by decide, rfl, zin_2 (List.mem_of_getElem? (i := 160) (by decide +kernel))⟩
theorem flRX11_419 : zFl RX11 419 0 2 := ⟨_, rfl, by decide, rfl, zin_2 (List.mem_of_getElem? (i := 150) (by decide +kernel))⟩
theorem flRX11_425 : zFl RX11 425 0 0 := ⟨_, rfl, by decide, rfl, zin_2 (List.mem_of_getElem? (i := 147) (by decide +kernel))⟩
theorem flRX11_428 : zFl RX11 428 7 9 := ⟨_, rfl, by decide, rfl, zin_2 (List.mem_of_getElem? (i := 195) (by decide +kernel))⟩
theorem flRX11_454 : zFl RX11 454 8 4 := ⟨_, rfl, by decide, rfl, zin_3 (List.mem_of_getElem? (i := 2) (by decide +kernel))⟩
theorem fpRX11_454 : zFp RX11 454 8 4 .int := ⟨_, rfl, by decide, rfl, zin_3 (List.mem_of_getElem? (i := 2) (by decide +kernel)), rfl, by decide +kernel⟩
theorem flRX11_461 : zFl RX11 461 8 2 := ⟨_, rfl, by decide, rfl, zin_2 (List.mem_of_getElem? (i := 239) (by decide +kernel))⟩
theorem flRX11_467 : zFl RX11 467 0 4 := ⟨_, rfl, by decide, rfl, zin_2 (List.mem_of_getElem? (i := 155) (by decide +kernel))⟩
theorem flRX11_470 : zFl RX11 470 2 10 := ⟨_, rfl, by decide, rfl, zin_2 (List.mem_of_getElem? (i := 58) (by decide +kernel))⟩
theorem flRX12_7 : zFl RX12 7 12 11 := ⟨_, rfl, by decide, rfl, zin_6 (List.mem_of_getElem? (i := 115) (by decide +kernel))⟩
theorem fpRX12_7 : zFp RX12 7 12 11 .int := ⟨_, rfl, by decide, rfl, zin_6 (List.mem_of_getElem? (i := 115) (by decide +kernel)), rfl, by decide +kernel⟩
theorem flRX12_13 : zFl RX12 13 12 13 := ⟨_, rfl, by decide, rfl, zin_6 (List.mem_of_getElem? (i := 117) (by decide +kernel))⟩
theorem flRX12_17 : zFl RX12 17 12 14 := ⟨_, rfl, by decide, rfl, zin_6 (List.mem_of_getElem? (i := 118) (by decide +kernel))⟩
theorem flRX12_20 : zFl RX12 20 12 15 := ⟨_, rfl, by decide, rfl, zin_6 (List.mem_of_getElem? (i := 119) (by decide +kernel))⟩
theorem flRX12_23 : zFl RX12 23 12 16 := ⟨_, rfl, by decide, rfl, zin_6 (List.mem_of_getElem? (i := 120) (by decide +kernel))⟩
theorem flRX12_26 : zFl RX12 26 12 17 := ⟨_, rfl, by decide, rfl, zin_6 (List.mem_of_getElem? (i := 121) (by decide +kernel))⟩
theorem flRX12_29 : zFl RX12 29 12 18 := ⟨_, rfl, by decide, rfl, zin_6 (List.mem_of_getElem? (i := 122) (by decide +kernel))⟩
theorem flRX12_33 : zFl RX12 33 12 19 := ⟨_, rfl, by decide, rfl, zin_6 (List.mem_of_getElem? (i := 123) (by decide +kernel))⟩
theorem flRX12_36 : zFl RX12 36 12 20 := ⟨_, rfl, by decide, rfl, zin_6 (List.mem_of_getElem? (i := 124) (by decide +kernel))⟩
theorem flRX12_39 : zFl RX12 39 12 21 := ⟨_, rfl, by decide, rfl, zin_6 (List.mem_of_getElem? (i := 125) (by decide +kernel))⟩
theorem flRX12_42 : zFl RX12 42 12 22 := ⟨_, rfl, by decide, rfl, zin_6 (List.mem_of_getElem? (i := 126) (by decide +kernel))⟩
theorem flRX12_45 : zFl RX12 45 12 23 := ⟨_, rfl, by decide, rfl, zin_6 (List.mem_of_getElem? (i := 127) (by decide +kernel))⟩
theorem flRX12_48 : zFl RX12 48 12 24 := ⟨_, rfl, by decide, rfl, zin_6 (List.mem_of_getElem? (i := 128) (by decide +kernel))⟩
theorem flRX12_51 : zFl RX12 51 12 25 := ⟨_, rfl, by decide, rfl, zin_6 (List.mem_of_getElem? (i := 129) (by decide +kernel))⟩
theorem flRX12_54 : zFl RX12 54 12 26 := ⟨_, rfl, by decide, rfl, zin_6 (List.mem_of_getElem? (i := 130) (by decide +kernel))⟩
theorem flRX12_57 : zFl RX12 57 12 27 := ⟨_, rfl, by decide, rfl, zin_6 (List.mem_of_getElem? (i := 131) (by decide +kernel))⟩
theorem flRX12_60 : zFl RX12 60 12 28 := ⟨_, rfl, by decide, rfl, zin_6 (List.mem_of_getElem? (i := 132) (by decide +kernel))⟩
theorem flRX12_63 : zFl RX12 63 12 29 := ⟨_, rfl, by decide, rfl, zin_6 (List.mem_of_getElem? (i := 133) (by decide +kernel))⟩
theorem flRX12_67 : zFl RX12 67 12 30 := ⟨_, rfl, by decide, rfl, zin_6 (List.mem_of_getElem? (i := 134) (by decide +kernel))⟩
theorem flRX12_70 : zFl RX12 70 12 31 := ⟨_, rfl, by decide, rfl, zin_6 (List.mem_of_getElem? (i := 135) (by decide +kernel))⟩
theorem flRX12_73 : zFl RX12 73 12 32 := ⟨_, rfl, by decide, rfl, zin_6 (List.mem_of_getElem? (i := 136) (by decide +kernel))⟩
theorem flRX12_76 : zFl RX12 76 12 33 := ⟨_, rfl, by decide, rfl, zin_6 (List.mem_of_getElem? (i := 137) (by decide +kernel))⟩
theorem flRX12_79 : zFl RX12 79 12 34 := ⟨_, rfl, by decide, rfl, zin_6 (List.mem_of_getElem? (i := 138) (by decide +kernel))⟩
theorem flRX12_82 : zFl RX12 82 12 35 := ⟨_, rfl, by decide, rfl, zin_6 (List.mem_of_getElem? (i := 139) (by decide +kernel))⟩
theorem flRX12_85 : zFl RX12 85 12 36 := ⟨_, rfl, by decide, rfl, zin_6 (List.mem_of_getElem? (i := 140) (by decide +kernel))⟩
theorem flRX12_88 : zFl RX12 88 12 37 := ⟨_, rfl, by decide, rfl, zin_6 (List.mem_of_getElem? (i := 141) (by decide +kernel))⟩
theorem flRX12_91 : zFl RX12 91 12 38 := ⟨_, rfl, by decide, rfl, zin_6 (List.mem_of_getElem? (i := 142) (by decide +kernel))⟩
theorem flRX12_94 : zFl RX12 94 12 39 := ⟨_, rfl, by decide, rfl, zin_6 (List.mem_of_getElem? (i := 143) (by decide +kernel))⟩
theorem flRX12_97 : zFl RX12 97 12 40 := ⟨_, rfl, by decide, rfl, zin_6 (List.mem_of_getElem? (i := 144) (by decide +kernel))⟩
theorem flRX12_100 : zFl RX12 100 12 41 := ⟨_, rfl, by decide, rfl, zin_6 (List.mem_of_getElem? (i := 145) (by decide +kernel))⟩
theorem flRX12_103 : zFl RX12 103 12 42 := ⟨_, rfl, by decide, rfl, zin_6 (List.mem_of_getElem? (i := 146) (by decide +kernel))⟩
theorem flRX12_106 : zFl RX12 106 12 44 := ⟨_, rfl, by decide, rfl, zin_6 (List.mem_of_getElem? (i := 148) (by decide +kernel))⟩
theorem flRX12_109 : zFl RX12 109 12 45 := ⟨_, rfl, by decide, rfl, zin_6 (List.mem_of_getElem? (i := 149) (by decide +kernel))⟩
theorem flRX12_112 : zFl RX12 112 12 46 := ⟨_, rfl, by decide, rfl, zin_6 (List.mem_of_getElem? (i := 150) (by decide +kernel))⟩
theorem flRX12_115 : zFl RX12 115 12 47 := ⟨_, rfl, by decide, rfl, zin_6 (List.mem_of_getElem? (i := 151) (by decide +kernel))⟩
theorem flRX12_118 : zFl RX12 118 12 48 := ⟨_, rfl, by decide, rfl, zin_6 (List.mem_of_getElem? (i := 152) (by decide +kernel))⟩
theorem flRX12_121 : zFl RX12 121 12 49 := ⟨_, rfl, by decide, rfl, zin_6 (List.mem_of_getElem? (i := 153) (by decide +kernel))⟩
theorem flRX12_124 : zFl RX12 124 12 50 := ⟨_, rfl, by decide, rfl, zin_6 (List.mem_of_getElem? (i := 154) (by decide +kernel))⟩
theorem flRX12_127 : zFl RX12 127 12 51 := ⟨_, rfl, by decide, rfl, zin_6 (List.mem_of_getElem? (i := 155) (by decide +kernel))⟩
theorem flRX12_130 : zFl RX12 130 12 52 := ⟨_, rfl, by decide, rfl, zin_6 (List.mem_of_getElem? (i := 156) (by decide +kernel))⟩
theorem flRX12_133 : zFl RX12 133 12 53 := ⟨_, rfl, by decide, rfl, zin_6 (List.mem_of_getElem? (i := 157) (by decide +kernel))⟩
theorem flRX12_136 : zFl RX12 136 12 54 := ⟨_, rfl, by decide, rfl, zin_6 (List.mem_of_getElem? (i := 158) (by decide +kernel))⟩
theorem flRX12_139 : zFl RX12 139 12 55 := ⟨_, rfl, by decide, rfl, zin_6 (List.mem_of_getElem? (i := 159) (by decide +kernel))⟩
theorem flRX12_142 : zFl RX12 142 12 56 := ⟨_, rfl, by decide, rfl, zin_6 (List.mem_of_getElem? (i := 160) (by decide +kernel))⟩
theorem flRX12_145 : zFl RX12 145 12 57 := ⟨_, rfl, by decide, rfl, zin_6 (List.mem_of_getElem? (i := 161) (by decide +kernel))⟩
theorem flRX12_148 : zFl RX12 148 12 58 := ⟨_, rfl, by decide, rfl, zin_6 (List.mem_of_getElem? (i := 162) (by decide +kernel))⟩
theorem flRX12_151 : zFl RX12 151 12 59 := ⟨_, rfl, by decide, rfl, zin_6 (List.mem_of_getElem? (i := 163) (by decide +kernel))⟩
theorem flRX12_154 : zFl RX12 154 12 60 := ⟨_, rfl, by decide, rfl, zin_6 (List.mem_of_getElem? (i := 164) (by decide +kernel))⟩
theorem flRX12_157 : zFl RX12 157 12 61 := ⟨_, rfl, by decide, rfl, zin_6 (List.mem_of_getElem? (i := 165) (by decide +kernel))⟩
theorem flRX12_160 : zFl RX12 160 12 62 := ⟨_, rfl, by decide, rfl, zin_6 (List.mem_of_getElem? (i := 166) (by decide +kernel))⟩
theorem flRX12_163 : zFl RX12 163 12 64 := ⟨_, rfl, by decide, rfl, zin_6 (List.mem_of_getElem? (i := 168) (by decide +kernel))⟩
theorem flRX12_166 : zFl RX12 166 12 65 := ⟨_, rfl, by decide, rfl, zin_6 (List.mem_of_getElem? (i := 169) (by decide +kernel))⟩
theorem flRX12_169 : zFl RX12 169 12 66 := ⟨_, rfl, by decide, rfl, zin_6 (List.mem_of_getElem? (i := 170) (by decide +kernel))⟩
theorem flRX12_172 : zFl RX12 172 12 67 := ⟨_, rfl, by decide, rfl, zin_6 (List.mem_of_getElem? (i := 171) (by decide +kernel))⟩
theorem flRX12_175 : zFl RX12 175 12 68 := ⟨_, rfl, by decide, rfl, zin_6 (List.mem_of_getElem? (i := 172) (by decide +kernel))⟩
theorem flRX12_178 : zFl RX12 178 12 69 := ⟨_, rfl, by decide, rfl, zin_6 (List.mem_of_getElem? (i := 173) (by decide +kernel))⟩
theorem flRX12_181 : zFl RX12 181 12 70 := ⟨_, rfl, by decide, rfl, zin_6 (List.mem_of_getElem? (i := 174) (by decide +kernel))⟩
theorem flRX12_184 : zFl RX12 184 12 71 := ⟨_, rfl, by decide, rfl, zin_6 (List.mem_of_getElem? (i := 175) (by decide +kernel))⟩
theorem flRX12_187 : zFl RX12 187 12 72 := ⟨_, rfl, by decide, rfl, zin_6 (List.mem_of_getElem? (i := 176) (by decide +kernel))⟩
theorem flRX12_190 : zFl RX12 190 12 73 := ⟨_, rfl, by decide, rfl, zin_6 (List.mem_of_getElem? (i := 177) (by decide +kernel))⟩
theorem flRX12_193 : zFl RX12 193 12 74 := ⟨_, rfl, by decide, rfl, zin_6 (List.mem_of_getElem? (i := 178) (by decide +kernel))⟩
theorem flRX12_196 : zFl RX12 196 12 75 := ⟨_, rfl, by decide, rfl, zin_6 (List.mem_of_getElem? (i := 179) (by decide +kernel))⟩
theorem flRX12_199 : zFl RX12 199 12 76 := ⟨_, rfl, by decide, rfl, zin_6 (List.mem_of_getElem? (i := 180) (by decide +kernel))⟩
theorem flRX12_202 : zFl RX12 202 12 77 := ⟨_, rfl, by decide, rfl, zin_6 (List.mem_of_getElem? (i := 181) (by decide +kernel))⟩
theorem flRX12_205 : zFl RX12 205 12 78 := ⟨_, rfl, by decide, rfl, zin_6 (List.mem_of_getElem? (i := 182) (by decide +kernel))⟩
theorem flRX12_208 : zFl RX12 208 12 79 := ⟨_, rfl, by decide, rfl, zin_6 (List.mem_of_getElem? (i := 183) (by decide +kernel))⟩
theorem flRX12_211 : zFl RX12 211 12 80 := ⟨_, rfl, by decide, rfl, zin_6 (List.mem_of_getElem? (i := 184) (by decide +kernel))⟩
theorem flRX12_214 : zFl RX12 214 12 81 := ⟨_, rfl, by decide, rfl, zin_6 (List.mem_of_getElem? (i := 185) (by decide +kernel))⟩
theorem flRX12_217 : zFl RX12 217 12 82 := ⟨_, rfl, by decide, rfl, zin_6 (List.mem_of_getElem? (i := 186) (by decide +kernel))⟩
theorem flRX12_220 : zFl RX12 220 12 83 := ⟨_, rfl, by decide, rfl, zin_6 (List.mem_of_getElem? (i := 187) (by decide +kernel))⟩
theorem flRX12_223 : zFl RX12 223 12 93 := ⟨_, rfl, by decide, rfl, zin_6 (List.mem_of_getElem? (i := 197) (by decide +kernel))⟩
theorem flRX12_226 : zFl RX12 226 12 94 := ⟨_, rfl, by decide, rfl, zin_6 (List.mem_of_getElem? (i := 198) (by decide +kernel))⟩
theorem flRX12_229 : zFl RX12 229 12 95 := ⟨_, rfl, by decide, rfl, zin_6 (List.mem_of_getElem? (i := 199) (by decide +kernel))⟩
theorem flRX12_232 : zFl RX12 232 12 96 := ⟨_, rfl, by decide, rfl, zin_6 (List.mem_of_getElem? (i := 200) (by decide +kernel))⟩
theorem flRX12_235 : zFl RX12 235 12 97 := ⟨_, rfl, by decide, rfl, zin_6 (List.mem_of_getElem? (i := 201) (by decide +kernel))⟩
theorem flRX12_238 : zFl RX12 238 12 98 := ⟨_, rfl, by decide, rfl, zin_6 (List.mem_of_getElem? (i := 202) (by decide +kernel))⟩
theorem flRX12_241 : zFl RX12 241 12 102 := ⟨_, rfl, by decide, rfl, zin_6 (List.mem_of_getElem? (i := 206) (by decide +kernel))⟩
theorem flRX12_244 : zFl RX12 244 12 103 := ⟨_, rfl, by decide, rfl, zin_6 (List.mem_of_getElem? (i := 207) (by decide +kernel))⟩
theorem flRX12_247 : zFl RX12 247 12 106 := ⟨_, rfl, by decide, rfl, zin_6 (List.mem_of_getElem? (i := 210) (by decide +kernel))⟩
theorem flRX12_250 : zFl RX12 250 12 107 := ⟨_, rfl, by decide, rfl, zin_6 (List.mem_of_getElem? (i := 211) (by decide +kernel))⟩
theorem flRX12_253 : zFl RX12 253 12 108 := ⟨_, rfl, by decide, rfl, zin_6 (List.mem_of_getElem? (i := 212) (by decide +kernel))⟩
theorem flRX12_256 : zFl RX12 256 12 1 := ⟨_, rfl, by decide, rfl, zin_6 (List.mem_of_getElem? (i := 105) (by decide +kernel))⟩
theorem fpRX12_256 : zFp RX12 256 12 1 .int := ⟨_, rfl, by decide, rfl, zin_6 (List.mem_of_getElem? (i := 105) (by decide +kernel)), rfl, by decide +kernel⟩
theorem flRX12_259 : zFl RX12 259 12 4 := ⟨_, rfl, by decide, rfl, zin_6 (List.mem_of_getElem? (i := 108) (by decide +kernel))⟩
theorem fpRX12_259 : zFp RX12 259 12 4 .int := ⟨_, rfl, by decide, rfl, zin_6 (List.mem_of_getElem? (i := 108) (by decide +kernel)), rfl, by decide +kernel⟩
theorem flRX12_262 : zFl RX12 262 12 0 := ⟨_, rfl, by decide, rfl, zin_6 (List.mem_of_getElem? (i := 104) (by decide +kernel))⟩
theorem fpRX12_262 : zFp RX12 262 12 0 .int := ⟨_, rfl, by decide, rfl, zin_6 (List.mem_of_getElem? (i := 104) (by decide +kernel)), rfl, by decide +kernel⟩
theorem flRX12_279 : zFl RX12 279 12 2 := ⟨_, rfl, by decide, rfl, zin_6 (List.mem_of_getElem? (i := 106) (by decide +kernel))⟩
theorem fpRX12_279 : zFp RX12 279 12 2 .int := ⟨_, rfl, by decide, rfl, zin_6 (List.mem_of_getElem? (i := 106) (by decide +kernel)), rfl, by decide +kernel⟩
theorem flRX12_303 : zFl RX12 303 12 3 := ⟨_, rfl, by decide, rfl, zin_6 (List.mem_of_getElem? (i := 107) (by decide +kernel))⟩
theorem fpRX12_303 : zFp RX12 303 12 3 .int := ⟨_, rfl, by decide, rfl, zin_6 (List.mem_of_getElem? (i := 107) (by decide +kernel)), rfl, by decide +kernel⟩
theorem flRX12_306 : zFl RX12 306 12 43 := ⟨_, rfl, by decide, rfl, zin_6 (List.mem_of_getElem? (i := 147) (by decide +kernel))⟩
theorem fpRX12_306 : zFp RX12 306 12 43 .int := ⟨_, rfl, by decide, rfl, zin_6 (List.mem_of_getElem? (i := 147) (by decide +kernel)), rfl, by decide +kernel⟩
theorem flRX12_320 : zFl RX12 320 12 87 := ⟨_, rfl, by decide, rfl, zin_6 (List.mem_of_getElem? (i := 191) (by decide +kernel))⟩
theorem fpRX12_320 : zFp RX12 320 12 87 .int := ⟨_, rfl, by decide, rfl, zin_6 (List.mem_of_getElem? (i := 191) (by decide +kernel)), rfl, by decide +kernel⟩
theorem flRX12_327 : zFl RX12 327 12 84 := ⟨_, rfl, by decide, rfl, zin_6 (List.mem_of_getElem? (i := 188) (by decide +kernel))⟩
theorem fpRX12_327 : zFp RX12 327 12 84 .int := ⟨_, rfl, by decide, rfl, zin_6 (List.mem_of_getElem? (i := 188) (by decide +kernel)), rfl, by decide +kernel⟩
theorem flRX12_330 : zFl RX12 330 12 86 := ⟨_, rfl, by decide, rfl, zin_6 (List.mem_of_getElem? (i := 190) (by decide +kernel))⟩
theorem fpRX12_330 : zFp RX12 330 12 86 .int := ⟨_, rfl, by decide, rfl, zin_6 (List.mem_of_getElem? (i := 190) (by decide +kernel)), rfl, by decide +kernel⟩
theorem flRX12_333 : zFl RX12 333 12 88 := ⟨_, rfl, by decide, rfl, zin_6 (List.mem_of_getElem? (i := 192) (by decide +kernel))⟩
theorem fpRX12_333 : zFp RX12 333 12 88 .int := ⟨_, rfl, by decide, rfl, zin_6 (List.mem_of_getElem? (i := 192) (by decide +kernel)), rfl, by decide +kernel⟩
theorem flRX12_336 : zFl RX12 336 12 85 := ⟨_, rfl, by decide, rfl, zin_6 (List.mem_of_getElem? (i := 189) (by decide +kernel))⟩
theorem fpRX12_336 : zFp RX12 336 12 85 .int := ⟨_, rfl, by decide, rfl, zin_6 (List.mem_of_getElem? (i := 189) (by decide +kernel)), rfl, by decide +kernel⟩
theorem flRX12_386 : zFl RX12 386 12 91 := ⟨_, rfl, by decide, rfl, zin_6 (List.mem_of_getElem? (i := 195) (by decide +kernel))⟩
theorem fpRX12_386 : zFp RX12 386 12 91 .int := ⟨_, rfl, by decide, rfl, zin_6 (List.mem_of_getElem? (i := 195) (by decide +kernel)), rfl, by decide +kernel⟩
theorem flRX12_392 : zFl RX12 392 12 92 := ⟨_, rfl, by decide, rfl, zin_6 (List.mem_of_getElem? (i := 196) (by decide +kernel))⟩
theorem fpRX12_392 : zFp RX12 392 12 92 .int := ⟨_, rfl, by decide, rfl, zin_6 (List.mem_of_getElem? (i := 196) (by decide +kernel)), rfl, by decide +kernel⟩
theorem flRX12_398 : zFl RX12 398 12 89 := ⟨_, rfl, by decide, rfl, zin_6 (List.mem_of_getElem? (i := 193) (by decide +kernel))⟩
theorem fpRX12_398 : zFp RX12 398 12 89 .boolean := ⟨_, rfl, by decide, rfl, zin_6 (List.mem_of_getElem? (i := 193) (by decide +kernel)), rfl, by decide +kernel⟩
theorem flRX12_402 : zFl RX12 402 12 90 := ⟨_, rfl, by decide, rfl, zin_6 (List.mem_of_getElem? (i := 194) (by decide +kernel))⟩
theorem fpRX12_402 : zFp RX12 402 12 90 .int := ⟨_, rfl, by decide, rfl, zin_6 (List.mem_of_getElem? (i := 194) (by decide +kernel)), rfl, by decide +kernel⟩
theorem flRX12_415 : zFl RX12 415 12 5 := ⟨_, rfl, by decide, rfl, zin_6 (List.mem_of_getElem? (i := 109) (by decide +kernel))⟩
theorem fpRX12_415 : zFp RX12 415 12 5 .int := ⟨_, rfl, by decide, rfl, zin_6 (List.mem_of_getElem? (i := 109) (by decide +kernel)), rfl, by decide +kernel⟩
theorem flRX12_428 : zFl RX12 428 12 6 := ⟨_, rfl, by decide, rfl, zin_6 (List.mem_of_getElem? (i := 110) (by decide +kernel))⟩
theorem fpRX12_428 : zFp RX12 428 12 6 .int := ⟨_, rfl, by decide, rfl, zin_6 (List.mem_of_getElem? (i := 110) (by decide +kernel)), rfl, by decide +kernel⟩
theorem flRX12_441 : zFl RX12 441 12 63 := ⟨_, rfl, by decide, rfl, zin_6 (List.mem_of_getElem? (i := 167) (by decide +kernel))⟩
theorem fpRX12_441 : zFp RX12 441 12 63 .int := ⟨_, rfl, by decide, rfl, zin_6 (List.mem_of_getElem? (i := 167) (by decide +kernel)), rfl, by decide +kernel⟩
theorem flRX12_447 : zFl RX12 447 12 7 := ⟨_, rfl, by decide, rfl, zin_6 (List.mem_of_getElem? (i := 111) (by decide +kernel))⟩
theorem fpRX12_447 : zFp RX12 447 12 7 .int := ⟨_, rfl, by decide, rfl, zin_6 (List.mem_of_getElem? (i := 111) (by decide +kernel)), rfl, by decide +kernel⟩
theorem flRX12_453 : zFl RX12 453 12 8 := ⟨_, rfl, by decide, rfl, zin_6 (List.mem_of_getElem? (i := 112) (by decide +kernel))⟩
theorem fpRX12_453 : zFp RX12 453 12 8 .int := ⟨_, rfl, by decide, rfl, zin_6 (List.mem_of_getElem? (i := 112) (by decide +kernel)), rfl, by decide +kernel⟩
theorem flRX12_462 : zFl RX12 462 12 12 := ⟨_, rfl, by decide, rfl, zin_6 (List.mem_of_getElem? (i := 116) (by decide +kernel))⟩
theorem fpRX12_462 : zFp RX12 462 12 12 .int := ⟨_, rfl, by decide, rfl, zin_6 (List.mem_of_getElem? (i := 116) (by decide +kernel)), rfl, by decide +kernel⟩
theorem flRX12_471 : zFl RX12 471 12 10 := ⟨_, rfl, by decide, rfl, zin_6 (List.mem_of_getElem? (i := 114) (by decide +kernel))⟩
theorem fpRX12_471 : zFp RX12 471 12 10 .int := ⟨_, rfl, by decide, rfl, zin_6 (List.mem_of_getElem? (i := 114) (by decide +kernel)), rfl, by decide +kernel⟩
theorem flRX12_474 : zFl RX12 474 12 104 := ⟨_, rfl, by decide, rfl, zin_6 (List.mem_of_getElem? (i := 208) (by decide +kernel))⟩
theorem fpRX12_474 : zFp RX12 474 12 104 .int := ⟨_, rfl, by decide, rfl, zin_6 (List.mem_of_getElem? (i := 208) (by decide +kernel)), rfl, by decide +kernel⟩
theorem flRX12_477 : zFl RX12 477 12 105 := ⟨_, rfl, by decide, rfl, zin_6 (List.mem_of_getElem? (i := 209) (by decide +kernel))⟩
theorem fpRX12_477 : zFp RX12 477 12 105 .int := ⟨_, rfl, by decide, rfl, zin_6 (List.mem_of_getElem? (i := 209) (by decide +kernel)), rfl, by decide +kernel⟩
theorem flRX12_490 : zFl RX12 490 12 99 := ⟨_, rfl, by decide, rfl, zin_6 (List.mem_of_getElem? (i := 203) (by decide +kernel))⟩
theorem fpRX12_490 : zFp RX12 490 12 99 .boolean := ⟨_, rfl, by decide, rfl, zin_6 (List.mem_of_getElem? (i := 203) (by decide +kernel)), rfl, by decide +kernel⟩
theorem flRX12_493 : zFl RX12 493 12 100 := ⟨_, rfl, by decide, rfl, zin_6 (List.mem_of_getElem? (i := 204) (by decide +kernel))⟩
theorem fpRX12_493 : zFp RX12 493 12 100 .int := ⟨_, rfl, by decide, rfl, zin_6 (List.mem_of_getElem? (i := 204) (by decide +kernel)), rfl, by decide +kernel⟩
theorem flRX12_496 : zFl RX12 496 12 101 := ⟨_, rfl, by decide, rfl, zin_6 (List.mem_of_getElem? (i := 205) (by decide +kernel))⟩
theorem fpRX12_496 : zFp RX12 496 12 101 .int := ⟨_, rfl, by decide, rfl, zin_6 (List.mem_of_getElem? (i := 205) (by decide +kernel)), rfl, by decide +kernel⟩
theorem flRX12_499 : zFl RX12 499 12 9 := ⟨_, rfl, by decide, rfl, zin_6 (List.mem_of_getElem? (i := 113) (by decide +kernel))⟩
theorem fpRX12_499 : zFp RX12 499 12 9 .int := ⟨_, rfl, by decide, rfl, zin_6 (List.mem_of_getElem? (i := 113) (by decide +kernel)), rfl, by decide +kernel⟩
theorem flRX0_9 : zFl RX0 9 0 0 := ⟨_, rfl, by decide, rfl, zin_2 (List.mem_of_getElem? (i := 146) (by decide +kernel))⟩
theorem flRX0_15 : zFl RX0 15 0 1 := ⟨_, rfl, by decide, rfl, zin_2 (List.mem_of_getElem? (i := 148) (by decide +kernel))⟩
theorem flRX0_18 : zFl RX0 18 0 2 := ⟨_, rfl, by decide, rfl, zin_2 (List.mem_of_getElem? (i := 149) (by decide +kernel))⟩
theorem flRX0_21 : zFl RX0 21 0 3 := ⟨_, rfl, by decide, rfl, zin_2 (List.mem_of_getElem? (i := 151) (by decide +kernel))⟩
theorem fpRX0_21 : zFp RX0 21 0 3 .int := ⟨_, rfl, by decide, rfl, zin_2 (List.mem_of_getElem? (i := 151) (by decide +kernel)), rfl, by decide +kernel⟩
theorem flRX0_25 : zFl RX0 25 0 4 := ⟨_, rfl, by decide, rfl, zin_2 (List.mem_of_getElem? (i := 154) (by decide +kernel))⟩
theorem fpRX0_25 : zFp RX0 25 0 4 .int := ⟨_, rfl, by decide, rfl, zin_2 (List.mem_of_getElem? (i := 154) (by decide +kernel)), rfl, by decide +kernel⟩
theorem flRX0_28 : zFl RX0 28 0 5 := ⟨_, rfl, by decide, rfl, zin_2 (List.mem_of_getElem? (i := 156) (by decide +kernel))⟩
theorem fpRX0_28 : zFp RX0 28 0 5 .int := ⟨_, rfl, by decide, rfl, zin_2 (List.mem_of_getElem? (i := 156) (by decide +kernel)), rfl, by decide +kernel⟩
theorem flRX0_31 : zFl RX0 31 0 6 := ⟨_, rfl, by decide, rfl, zin_2 (List.mem_of_getElem? (i := 159) (by decide +kernel))⟩
theorem fpRX0_31 : zFp RX0 31 0 6 .int := ⟨_, rfl, by decide, rfl, zin_2 (List.mem_of_getElem? (i := 159) (by decide +kernel)), rfl, by decide +kernel⟩
theorem flRX0_34 : zFl RX0 34 0 7 := ⟨_, rfl, by decide, rfl, zin_2 (List.mem_of_getElem? (i := 161) (by decide +kernel))⟩
theorem fpRX0_34 : zFp RX0 34 0 7 .int := ⟨_, rfl, by decide, rfl, zin_2 (List.mem_of_getElem? (i := 161) (by decide +kernel)), rfl, by decide +kernel⟩
theorem flRX1_9 : zFl RX1 9 1 2 := ⟨_, rfl, by decide, rfl, zin_2 (List.mem_of_getElem? (i := 31) (by decide +kernel))⟩
theorem flRX1_15 : zFl RX1 15 1 0 := ⟨_, rfl, by decide, rfl, zin_2 (List.mem_of_getElem? (i := 29) (by decide +kernel))⟩
theorem flRX1_19 : zFl RX1 19 1 1 := ⟨_, rfl, by decide, rfl, zin_2 (List.mem_of_getElem? (i := 30) (by decide +kernel))⟩
theorem flRX1_28 : zFl RX1 28 9 2 := ⟨_, rfl, by decide, rfl, zin_3 (List.mem_of_getElem? (i := 24) (by decide +kernel))⟩
theorem flRX2_14 : zFl RX2 14 2 4 := ⟨_, rfl, by decide, rfl, zin_2 (List.mem_of_getElem? (i := 51) (by decide +kernel))⟩
theorem flRX2_20 : zFl RX2 20 2 5 := ⟨_, rfl, by decide, rfl, zin_2 (List.mem_of_getElem? (i := 52) (by decide +kernel))⟩
theorem flRX2_24 : zFl RX2 24 2 6 := ⟨_, rfl, by decide, rfl, zin_2 (List.mem_of_getElem? (i := 53) (by decide +kernel))⟩
theorem flRX2_27 : zFl RX2 27 2 7 := ⟨_, rfl, by decide, rfl, zin_2 (List.mem_of_getElem? (i := 54) (by decide +kernel))⟩
theorem fpRX2_27 : zFp RX2 27 2 7 .int := ⟨_, rfl, by decide, rfl, zin_2 (List.mem_of_getElem? (i := 54) (by decide +kernel)), rfl, by decide +kernel⟩
theorem flRX2_31 : zFl RX2 31 2 8 := ⟨_, rfl, by decide, rfl, zin_2 (List.mem_of_getElem? (i := 55) (by decide +kernel))⟩
theorem fpRX2_31 : zFp RX2 31 2 8 .int := ⟨_, rfl, by decide, rfl, zin_2 (List.mem_of_getElem? (i := 55) (by decide +kernel)), rfl, by decide +kernel⟩
theorem flRX2_34 : zFl RX2 34 2 9 := ⟨_, rfl, by decide, rfl, zin_2 (List.mem_of_getElem? (i := 56) (by decide +kernel))⟩
theorem fpRX2_34 : zFp RX2 34 2 9 .int := ⟨_, rfl, by decide, rfl, zin_2 (List.mem_of_getElem? (i := 56) (by decide +kernel)), rfl, by decide +kernel⟩
theorem flRX2_37 : zFl RX2 37 2 10 := ⟨_, rfl, by decide, rfl, zin_2 (List.mem_of_getElem? (i := 57) (by decide +kernel))⟩
theorem fpRX2_37 : zFp RX2 37 2 10 .int := ⟨_, rfl, by decide, rfl, zin_2 (List.mem_of_getElem? (i := 57) (by decide +kernel)), rfl, by decide +kernel⟩
theorem flRX2_40 : zFl RX2 40 2 0 := ⟨_, rfl, by decide, rfl, zin_2 (List.mem_of_getElem? (i := 47) (by decide +kernel))⟩
theorem flRX2_44 : zFl RX2 44 2 1 := ⟨_, rfl, by decide, rfl, zin_2 (List.mem_of_getElem? (i := 48) (by decide +kernel))⟩
theorem flRX2_48 : zFl RX2 48 2 2 := ⟨_, rfl, by decide, rfl, zin_2 (List.mem_of_getElem? (i := 49) (by decide +kernel))⟩
theorem flRX2_52 : zFl RX2 52 2 3 := ⟨_, rfl, by decide, rfl, zin_2 (List.mem_of_getElem? (i := 50) (by decide +kernel))⟩
theorem flRX2_55 : zFl RX2 55 5 12 := ⟨_, rfl, by decide, rfl, zin_1 (List.mem_of_getElem? (i := 59) (by decide +kernel))⟩
theorem flRX2_83 : zFl RX2 83 6 7 := ⟨_, rfl, by decide, rfl, zin_1 (List.mem_of_getElem? (i := 239) (by decide +kernel))⟩
theorem flRX2_84 : zFl RX2 84 6 1 := ⟨_, rfl, by decide, rfl, zin_1 (List.mem_of_getElem? (i := 224) (by decide +kernel))⟩
theorem flRX2_87 : zFl RX2 87 6 2 := ⟨_, rfl, by decide, rfl, zin_1 (List.mem_of_getElem? (i := 228) (by decide +kernel))⟩
theorem flRX2_127 : zFl RX2 127 5 0 := ⟨_, rfl, by decide, rfl, zin_1 (List.mem_of_getElem? (i := 39) (by decide +kernel))⟩
theorem flRX3_11 : zFl RX3 11 3 2 := ⟨_, rfl, by decide, rfl, zin_1 (List.mem_of_getElem? (i := 173) (by decide +kernel))⟩
theorem flRX3_15 : zFl RX3 15 3 3 := ⟨_, rfl, by decide, rfl, zin_1 (List.mem_of_getElem? (i := 174) (by decide +kernel))⟩
theorem flRX3_18 : zFl RX3 18 3 4 := ⟨_, rfl, by decide, rfl, zin_1 (List.mem_of_getElem? (i := 175) (by decide +kernel))⟩
theorem flRX3_21 : zFl RX3 21 3 5 := ⟨_, rfl, by decide, rfl, zin_1 (List.mem_of_getElem? (i := 176) (by decide +kernel))⟩
theorem flRX3_24 : zFl RX3 24 3 0 := ⟨_, rfl, by decide, rfl, zin_1 (List.mem_of_getElem? (i := 171) (by decide +kernel))⟩
theorem flRX3_28 : zFl RX3 28 3 1 := ⟨_, rfl, by decide, rfl, zin_1 (List.mem_of_getElem? (i := 172) (by decide +kernel))⟩
theorem flRX3_51 : zFl RX3 51 10 12 := ⟨_, rfl, by decide, rfl, zin_1 (List.mem_of_getElem? (i := 132) (by decide +kernel))⟩
theorem flRX3_55 : zFl RX3 55 3 13 := ⟨_, rfl, by decide, rfl, zin_1 (List.mem_of_getElem? (i := 185) (by decide +kernel))⟩
theorem fpRX3_55 : zFp RX3 55 3 13 .int := ⟨_, rfl, by decide, rfl, zin_1 (List.mem_of_getElem? (i := 185) (by decide +kernel)), rfl, by decide +kernel⟩
theorem flRX3_58 : zFl RX3 58 3 9 := ⟨_, rfl, by decide, rfl, zin_1 (List.mem_of_getElem? (i := 180) (by decide +kernel))⟩
theorem fpRX3_58 : zFp RX3 58 3 9 .boolean := ⟨_, rfl, by decide, rfl, zin_1 (List.mem_of_getElem? (i := 180) (by decide +kernel)), rfl, by decide +kernel⟩
theorem flRX3_66 : zFl RX3 66 10 10 := ⟨_, rfl, by decide, rfl, zin_1 (List.mem_of_getElem? (i := 127) (by decide +kernel))⟩
theorem flRX3_75 : zFl RX3 75 3 7 := ⟨_, rfl, by decide, rfl, zin_1 (List.mem_of_getElem? (i := 178) (by decide +kernel))⟩
theorem fpRX3_75 : zFp RX3 75 3 7 .int := ⟨_, rfl, by decide, rfl, zin_1 (List.mem_of_getElem? (i := 178) (by decide +kernel)), rfl, by decide +kernel⟩
theorem flRX3_90 : zFl RX3 90 5 0 := ⟨_, rfl, by decide, rfl, zin_1 (List.mem_of_getElem? (i := 38) (by decide +kernel))⟩
theorem flRX3_100 : zFl RX3 100 3 6 := ⟨_, rfl, by decide, rfl, zin_1 (List.mem_of_getElem? (i := 177) (by decide +kernel))⟩
theorem fpRX3_100 : zFp RX3 100 3 6 .int := ⟨_, rfl, by decide, rfl, zin_1 (List.mem_of_getElem? (i := 177) (by decide +kernel)), rfl, by decide +kernel⟩
theorem flRX3_103 : zFl RX3 103 3 11 := ⟨_, rfl, by decide, rfl, zin_1 (List.mem_of_getElem? (i := 182) (by decide +kernel))⟩
theorem fpRX3_103 : zFp RX3 103 3 11 .int := ⟨_, rfl, by decide, rfl, zin_1 (List.mem_of_getElem? (i := 182) (by decide +kernel)), rfl, by decide +kernel⟩
theorem flRX3_106 : zFl RX3 106 3 12 := ⟨_, rfl, by decide, rfl, zin_1 (List.mem_of_getElem? (i := 183) (by decide +kernel))⟩
theorem fpRX3_106 : zFp RX3 106 3 12 .int := ⟨_, rfl, by decide, rfl, zin_1 (List.mem_of_getElem? (i := 183) (by decide +kernel)), rfl, by decide +kernel⟩
theorem flRX3_109 : zFl RX3 109 3 10 := ⟨_, rfl, by decide, rfl, zin_1 (List.mem_of_getElem? (i := 181) (by decide +kernel))⟩
theorem fpRX3_109 : zFp RX3 109 3 10 .int := ⟨_, rfl, by decide, rfl, zin_1 (List.mem_of_getElem? (i := 181) (by decide +kernel)), rfl, by decide +kernel⟩
theorem flRX3_112 : zFl RX3 112 3 8 := ⟨_, rfl, by decide, rfl, zin_1 (List.mem_of_getElem? (i := 179) (by decide +kernel))⟩
theorem fpRX3_112 : zFp RX3 112 3 8 .int := ⟨_, rfl, by decide, rfl, zin_1 (List.mem_of_getElem? (i := 179) (by decide +kernel)), rfl, by decide +kernel⟩
theorem flRX3_136 : zFl RX3 136 5 15 := ⟨_, rfl, by decide, rfl, zin_1 (List.mem_of_getElem? (i := 67) (by decide +kernel))⟩
theorem flRX3_139 : zFl RX3 139 5 16 := ⟨_, rfl, by decide, rfl, zin_1 (List.mem_of_getElem? (i := 70) (by decide +kernel))⟩
theorem flRX4_11 : zFl RX4 11 4 1 := ⟨_, rfl, by decide, rfl, zin_2 (List.mem_of_getElem? (i := 89) (by decide +kernel))⟩
theorem flRX4_15 : zFl RX4 15 4 2 := ⟨_, rfl, by decide, rfl, zin_2 (List.mem_of_getElem? (i := 91) (by decide +kernel))⟩
theorem flRX4_18 : zFl RX4 18 4 3 := ⟨_, rfl, by decide, rfl, zin_2 (List.mem_of_getElem? (i := 92) (by decide +kernel))⟩
theorem flRX4_21 : zFl RX4 21 4 4 := ⟨_, rfl, by decide, rfl, zin_2 (List.mem_of_getElem? (i := 93) (by decide +kernel))⟩
theorem flRX4_24 : zFl RX4 24 4 5 := ⟨_, rfl, by decide, rfl, zin_2 (List.mem_of_getElem? (i := 94) (by decide +kernel))⟩
theorem flRX4_27 : zFl RX4 27 4 6 := ⟨_, rfl, by decide, rfl, zin_2 (List.mem_of_getElem? (i := 96) (by decide +kernel))⟩
theorem flRX4_30 : zFl RX4 30 4 7 := ⟨_, rfl, by decide, rfl, zin_2 (List.mem_of_getElem? (i := 98) (by decide +kernel))⟩
theorem flRX4_33 : zFl RX4 33 4 8 := ⟨_, rfl, by decide, rfl, zin_2 (List.mem_of_getElem? (i := 100) (by decide +kernel))⟩
theorem flRX4_36 : zFl RX4 36 4 9 := ⟨_, rfl, by decide, rfl, zin_2 (List.mem_of_getElem? (i := 101) (by decide +kernel))⟩
theorem flRX4_39 : zFl RX4 39 4 10 := ⟨_, rfl, by decide, rfl, zin_2 (List.mem_of_getElem? (i := 102) (by decide +kernel))⟩
theorem flRX4_42 : zFl RX4 42 4 11 := ⟨_, rfl, by decide, rfl, zin_2 (List.mem_of_getElem? (i := 104) (by decide +kernel))⟩
theorem fpRX4_42 : zFp RX4 42 4 11 .int := ⟨_, rfl, by decide, rfl, zin_2 (List.mem_of_getElem? (i := 104) (by decide +kernel)), rfl, by decide +kernel⟩
theorem flRX4_46 : zFl RX4 46 4 12 := ⟨_, rfl, by decide, rfl, zin_2 (List.mem_of_getElem? (i := 107) (by decide +kernel))⟩
theorem fpRX4_46 : zFp RX4 46 4 12 .int := ⟨_, rfl, by decide, rfl, zin_2 (List.mem_of_getElem? (i := 107) (by decide +kernel)), rfl, by decide +kernel⟩
theorem flRX4_49 : zFl RX4 49 4 13 := ⟨_, rfl, by decide, rfl, zin_2 (List.mem_of_getElem? (i := 109) (by decide +kernel))⟩
theorem fpRX4_49 : zFp RX4 49 4 13 .int := ⟨_, rfl, by decide, rfl, zin_2 (List.mem_of_getElem? (i := 109) (by decide +kernel)), rfl, by decide +kernel⟩
theorem flRX4_52 : zFl RX4 52 4 0 := ⟨_, rfl, by decide, rfl, zin_2 (List.mem_of_getElem? (i := 88) (by decide +kernel))⟩
theorem flRX4_61 : zFl RX4 61 5 12 := ⟨_, rfl, by decide, rfl, zin_1 (List.mem_of_getElem? (i := 60) (by decide +kernel))⟩
theorem flRX4_64 : zFl RX4 64 5 4 := ⟨_, rfl, by decide, rfl, zin_1 (List.mem_of_getElem? (i := 49) (by decide +kernel))⟩
theorem flRX4_67 : zFl RX4 67 5 3 := ⟨_, rfl, by decide, rfl, zin_1 (List.mem_of_getElem? (i := 46) (by decide +kernel))⟩
theorem flRX5_9 : zFl RX5 9 5 0 := ⟨_, rfl, by decide, rfl, zin_1 (List.mem_of_getElem? (i := 37) (by decide +kernel))⟩
theorem flRX5_15 : zFl RX5 15 5 1 := ⟨_, rfl, by decide, rfl, zin_1 (List.mem_of_getElem? (i := 41) (by decide +kernel))⟩
theorem flRX5_18 : zFl RX5 18 5 2 := ⟨_, rfl, by decide, rfl, zin_1 (List.mem_of_getElem? (i := 43) (by decide +kernel))⟩
theorem flRX5_21 : zFl RX5 21 5 3 := ⟨_, rfl, by decide, rfl, zin_1 (List.mem_of_getElem? (i := 45) (by decide +kernel))⟩
theorem flRX5_24 : zFl RX5 24 5 4 := ⟨_, rfl, by decide, rfl, zin_1 (List.mem_of_getElem? (i := 48) (by decide +kernel))⟩
theorem flRX5_27 : zFl RX5 27 5 5 := ⟨_, rfl, by decide, rfl, zin_1 (List.mem_of_getElem? (i := 51) (by decide +kernel))⟩
theorem flRX5_30 : zFl RX5 30 5 6 := ⟨_, rfl, by decide, rfl, zin_1 (List.mem_of_getElem? (i := 52) (by decide +kernel))⟩
theorem flRX5_33 : zFl RX5 33 5 7 := ⟨_, rfl, by decide, rfl, zin_1 (List.mem_of_getElem? (i := 53) (by decide +kernel))⟩
theorem flRX5_36 : zFl RX5 36 5 8 := ⟨_, rfl, by decide, rfl, zin_1 (List.mem_of_getElem? (i := 54) (by decide +kernel))⟩
theorem flRX5_39 : zFl RX5 39 5 9 := ⟨_, rfl, by decide, rfl, zin_1 (List.mem_of_getElem? (i := 55) (by decide +kernel))⟩
theorem flRX5_42 : zFl RX5 42 5 10 := ⟨_, rfl, by decide, rfl, zin_1 (List.mem_of_getElem? (i := 56) (by decide +kernel))⟩
theorem flRX5_45 : zFl RX5 45 5 11 := ⟨_, rfl, by decide, rfl, zin_1 (List.mem_of_getElem? (i := 57) (by decide +kernel))⟩
theorem flRX5_48 : zFl RX5 48 5 12 := ⟨_, rfl, by decide, rfl, zin_1 (List.mem_of_getElem? (i := 58) (by decide +kernel))⟩
theorem fpRX5_48 : zFp RX5 48 5 12 .int := ⟨_, rfl, by decide, rfl, zin_1 (List.mem_of_getElem? (i := 58) (by decide +kernel)), rfl, by decide +kernel⟩
theorem flRX5_52 : zFl RX5 52 5 13 := ⟨_, rfl, by decide, rfl, zin_1 (List.mem_of_getElem? (i := 62) (by decide +kernel))⟩
theorem fpRX5_52 : zFp RX5 52 5 13 .int := ⟨_, rfl, by decide, rfl, zin_1 (List.mem_of_getElem? (i := 62) (by decide +kernel)), rfl, by decide +kernel⟩
theorem flRX5_55 : zFl RX5 55 5 14 := ⟨_, rfl, by decide, rfl, zin_1 (List.mem_of_getElem? (i := 64) (by decide +kernel))⟩
theorem fpRX5_55 : zFp RX5 55 5 14 .int := ⟨_, rfl, by decide, rfl, zin_1 (List.mem_of_getElem? (i := 64) (by decide +kernel)), rfl, by decide +kernel⟩
theorem flRX5_58 : zFl RX5 58 5 15 := ⟨_, rfl, by decide, rfl, zin_1 (List.mem_of_getElem? (i := 66) (by decide +kernel))⟩
theorem fpRX5_58 : zFp RX5 58 5 15 .int := ⟨_, rfl, by decide, rfl, zin_1 (List.mem_of_getElem? (i := 66) (by decide +kernel)), rfl, by decide +kernel⟩
theorem flRX5_61 : zFl RX5 61 5 16 := ⟨_, rfl, by decide, rfl, zin_1 (List.mem_of_getElem? (i := 69) (by decide +kernel))⟩
theorem fpRX5_61 : zFp RX5 61 5 16 .int := ⟨_, rfl, by decide, rfl, zin_1 (List.mem_of_getElem? (i := 69) (by decide +kernel)), rfl, by decide +kernel⟩
theorem flRX6_11 : zFl RX6 11 6 1 := ⟨_, rfl, by decide, rfl, zin_1 (List.mem_of_getElem? (i := 223) (by decide +kernel))⟩
theorem flRX6_15 : zFl RX6 15 6 2 := ⟨_, rfl, by decide, rfl, zin_1 (List.mem_of_getElem? (i := 226) (by decide +kernel))⟩
theorem flRX6_18 : zFl RX6 18 6 3 := ⟨_, rfl, by decide, rfl, zin_1 (List.mem_of_getElem? (i := 230) (by decide +kernel))⟩
theorem flRX6_21 : zFl RX6 21 6 4 := ⟨_, rfl, by decide, rfl, zin_1 (List.mem_of_getElem? (i := 232) (by decide +kernel))⟩
theorem flRX6_24 : zFl RX6 24 6 5 := ⟨_, rfl, by decide, rfl, zin_1 (List.mem_of_getElem? (i := 234) (by decide +kernel))⟩
theorem flRX6_27 : zFl RX6 27 6 6 := ⟨_, rfl, by decide, rfl, zin_1 (List.mem_of_getElem? (i := 236) (by decide +kernel))⟩
theorem flRX6_30 : zFl RX6 30 6 7 := ⟨_, rfl, by decide, rfl, zin_1 (List.mem_of_getElem? (i := 238) (by decide +kernel))⟩
theorem fpRX6_30 : zFp RX6 30 6 7 .int := ⟨_, rfl, by decide, rfl, zin_1 (List.mem_of_getElem? (i := 238) (by decide +kernel)), rfl, by decide +kernel⟩
theorem flRX6_34 : zFl RX6 34 6 8 := ⟨_, rfl, by decide, rfl, zin_2 (List.mem_of_getElem? (i := 1) (by decide +kernel))⟩
theorem fpRX6_34 : zFp RX6 34 6 8 .int := ⟨_, rfl, by decide, rfl, zin_2 (List.mem_of_getElem? (i := 1) (by decide +kernel)), rfl, by decide +kernel⟩
theorem flRX6_37 : zFl RX6 37 6 0 := ⟨_, rfl, by decide, rfl, zin_1 (List.mem_of_getElem? (i := 222) (by decide +kernel))⟩
theorem flRX7_11 : zFl RX7 11 7 2 := ⟨_, rfl, by decide, rfl, zin_2 (List.mem_of_getElem? (i := 187) (by decide +kernel))⟩
theorem flRX7_15 : zFl RX7 15 7 3 := ⟨_, rfl, by decide, rfl, zin_2 (List.mem_of_getElem? (i := 188) (by decide +kernel))⟩
theorem flRX7_18 : zFl RX7 18 7 4 := ⟨_, rfl, by decide, rfl, zin_2 (List.mem_of_getElem? (i := 189) (by decide +kernel))⟩
theorem flRX7_23 : zFl RX7 23 7 5 := ⟨_, rfl, by decide, rfl, zin_2 (List.mem_of_getElem? (i := 190) (by decide +kernel))⟩
theorem flRX7_26 : zFl RX7 26 7 6 := ⟨_, rfl, by decide, rfl, zin_2 (List.mem_of_getElem? (i := 191) (by decide +kernel))⟩
theorem flRX7_29 : zFl RX7 29 7 7 := ⟨_, rfl, by decide, rfl, zin_2 (List.mem_of_getElem? (i := 192) (by decide +kernel))⟩
theorem flRX7_32 : zFl RX7 32 7 8 := ⟨_, rfl, by decide, rfl, zin_2 (List.mem_of_getElem? (i := 193) (by decide +kernel))⟩
theorem flRX7_35 : zFl RX7 35 7 9 := ⟨_, rfl, by decide, rfl, zin_2 (List.mem_of_getElem? (i := 194) (by decide +kernel))⟩
theorem fpRX7_35 : zFp RX7 35 7 9 .int := ⟨_, rfl, by decide, rfl, zin_2 (List.mem_of_getElem? (i := 194) (by decide +kernel)), rfl, by decide +kernel⟩
theorem flRX7_39 : zFl RX7 39 7 10 := ⟨_, rfl, by decide, rfl, zin_2 (List.mem_of_getElem? (i := 196) (by decide +kernel))⟩
theorem fpRX7_39 : zFp RX7 39 7 10 .int := ⟨_, rfl, by decide, rfl, zin_2 (List.mem_of_getElem? (i := 196) (by decide +kernel)), rfl, by decide +kernel⟩
theorem flRX7_42 : zFl RX7 42 7 11 := ⟨_, rfl, by decide, rfl, zin_2 (List.mem_of_getElem? (i := 197) (by decide +kernel))⟩
theorem fpRX7_42 : zFp RX7 42 7 11 .int := ⟨_, rfl, by decide, rfl, zin_2 (List.mem_of_getElem? (i := 197) (by decide +kernel)), rfl, by decide +kernel⟩
theorem flRX7_45 : zFl RX7 45 7 12 := ⟨_, rfl, by decide, rfl, zin_2 (List.mem_of_getElem? (i := 198) (by decide +kernel))⟩
theorem fpRX7_45 : zFp RX7 45 7 12 .int := ⟨_, rfl, by decide, rfl, zin_2 (List.mem_of_getElem? (i := 198) (by decide +kernel)), rfl, by decide +kernel⟩
theorem flRX7_48 : zFl RX7 48 7 13 := ⟨_, rfl, by decide, rfl, zin_2 (List.mem_of_getElem? (i := 199) (by decide +kernel))⟩
theorem fpRX7_48 : zFp RX7 48 7 13 .int := ⟨_, rfl, by decide, rfl, zin_2 (List.mem_of_getElem? (i := 199) (by decide +kernel)), rfl, by decide +kernel⟩
theorem flRX7_51 : zFl RX7 51 7 0 := ⟨_, rfl, by decide, rfl, zin_2 (List.mem_of_getElem? (i := 185) (by decide +kernel))⟩
theorem flRX7_55 : zFl RX7 55 7 1 := ⟨_, rfl, by decide, rfl, zin_2 (List.mem_of_getElem? (i := 186) (by decide +kernel))⟩
theorem flRX7_65 : zFl RX7 65 0 3 := ⟨_, rfl, by decide, rfl, zin_2 (List.mem_of_getElem? (i := 152) (by decide +kernel))⟩
theorem flRX7_70 : zFl RX7 70 0 5 := ⟨_, rfl, by decide, rfl, zin_2 (List.mem_of_getElem? (i := 157) (by decide +kernel))⟩
theorem flRX7_73 : zFl RX7 73 4 11 := ⟨_, rfl, by decide, rfl, zin_2 (List.mem_of_getElem? (i := 105) (by decide +kernel))⟩
theorem flRX7_98 : zFl RX7 98 4 1 := ⟨_, rfl, by decide, rfl, zin_2 (List.mem_of_getElem? (i := 90) (by decide +kernel))⟩
theorem flRX8_9 : zFl RX8 9 8 2 := ⟨_, rfl, by decide, rfl, zin_2 (List.mem_of_getElem? (i := 238) (by decide +kernel))⟩
theorem flRX8_15 : zFl RX8 15 8 3 := ⟨_, rfl, by decide, rfl, zin_3 (List.mem_of_getElem? (i := 0) (by decide +kernel))⟩
theorem flRX8_18 : zFl RX8 18 8 4 := ⟨_, rfl, by decide, rfl, zin_3 (List.mem_of_getElem? (i := 1) (by decide +kernel))⟩
theorem fpRX8_18 : zFp RX8 18 8 4 .int := ⟨_, rfl, by decide, rfl, zin_3 (List.mem_of_getElem? (i := 1) (by decide +kernel)), rfl, by decide +kernel⟩
theorem flRX8_22 : zFl RX8 22 8 0 := ⟨_, rfl, by decide, rfl, zin_2 (List.mem_of_getElem? (i := 236) (by decide +kernel))⟩
theorem flRX8_26 : zFl RX8 26 8 1 := ⟨_, rfl, by decide, rfl, zin_2 (List.mem_of_getElem? (i := 237) (by decide +kernel))⟩
theorem flRX8_42 : zFl RX8 42 6 2 := ⟨_, rfl, by decide, rfl, zin_1 (List.mem_of_getElem? (i := 227) (by decide +kernel))⟩
theorem flRX8_45 : zFl RX8 45 6 6 := ⟨_, rfl, by decide, rfl, zin_1 (List.mem_of_getElem? (i := 237) (by decide +kernel))⟩
theorem flRX9_9 : zFl RX9 9 9 0 := ⟨_, rfl, by decide, rfl, zin_3 (List.mem_of_getElem? (i := 19) (by decide +kernel))⟩
theorem flRX9_15 : zFl RX9 15 9 1 := ⟨_, rfl, by decide, rfl, zin_3 (List.mem_of_getElem? (i := 21) (by decide +kernel))⟩
theorem fpRX9_15 : zFp RX9 15 9 1 .int := ⟨_, rfl, by decide, rfl, zin_3 (List.mem_of_getElem? (i := 21) (by decide +kernel)), rfl, by decide +kernel⟩
theorem flRX9_19 : zFl RX9 19 9 2 := ⟨_, rfl, by decide, rfl, zin_3 (List.mem_of_getElem? (i := 23) (by decide +kernel))⟩
theorem fpRX9_19 : zFp RX9 19 9 2 .int := ⟨_, rfl, by decide, rfl, zin_3 (List.mem_of_getElem? (i := 23) (by decide +kernel)), rfl, by decide +kernel⟩
theorem flRX9_22 : zFl RX9 22 9 3 := ⟨_, rfl, by decide, rfl, zin_3 (List.mem_of_getElem? (i := 27) (by decide +kernel))⟩
theorem fpRX9_22 : zFp RX9 22 9 3 .int := ⟨_, rfl, by decide, rfl, zin_3 (List.mem_of_getElem? (i := 27) (by decide +kernel)), rfl, by decide +kernel⟩
theorem flRX10_9 : zFl RX10 9 10 0 := ⟨_, rfl, by decide, rfl, zin_1 (List.mem_of_getElem? (i := 114) (by decide +kernel))⟩
theorem flRX10_15 : zFl RX10 15 10 1 := ⟨_, rfl, by decide, rfl, zin_1 (List.mem_of_getElem? (i := 115) (by decide +kernel))⟩
theorem flRX10_18 : zFl RX10 18 10 2 := ⟨_, rfl, by decide, rfl, zin_1 (List.mem_of_getElem? (i := 117) (by decide +kernel))⟩
theorem flRX10_21 : zFl RX10 21 10 3 := ⟨_, rfl, by decide, rfl, zin_1 (List.mem_of_getElem? (i := 119) (by decide +kernel))⟩
theorem flRX10_24 : zFl RX10 24 10 4 := ⟨_, rfl, by decide, rfl, zin_1 (List.mem_of_getElem? (i := 120) (by decide +kernel))⟩
theorem flRX10_27 : zFl RX10 27 10 5 := ⟨_, rfl, by decide, rfl, zin_1 (List.mem_of_getElem? (i := 121) (by decide +kernel))⟩
theorem flRX10_30 : zFl RX10 30 10 6 := ⟨_, rfl, by decide, rfl, zin_1 (List.mem_of_getElem? (i := 122) (by decide +kernel))⟩
theorem flRX10_33 : zFl RX10 33 10 7 := ⟨_, rfl, by decide, rfl, zin_1 (List.mem_of_getElem? (i := 123) (by decide +kernel))⟩
theorem flRX10_36 : zFl RX10 36 10 8 := ⟨_, rfl, by decide, rfl, zin_1 (List.mem_of_getElem? (i := 124) (by decide +kernel))⟩
theorem flRX10_39 : zFl RX10 39 10 9 := ⟨_, rfl, by decide, rfl, zin_1 (List.mem_of_getElem? (i := 125) (by decide +kernel))⟩
theorem flRX10_42 : zFl RX10 42 10 10 := ⟨_, rfl, by decide, rfl, zin_1 (List.mem_of_getElem? (i := 126) (by decide +kernel))⟩
theorem flRX10_45 : zFl RX10 45 10 11 := ⟨_, rfl, by decide, rfl, zin_1 (List.mem_of_getElem? (i := 129) (by decide +kernel))⟩
theorem fpRX10_45 : zFp RX10 45 10 11 .int := ⟨_, rfl, by decide, rfl, zin_1 (List.mem_of_getElem? (i := 129) (by decide +kernel)), rfl, by decide +kernel⟩
theorem flRX10_49 : zFl RX10 49 10 12 := ⟨_, rfl, by decide, rfl, zin_1 (List.mem_of_getElem? (i := 131) (by decide +kernel))⟩
theorem fpRX10_49 : zFp RX10 49 10 12 .int := ⟨_, rfl, by decide, rfl, zin_1 (List.mem_of_getElem? (i := 131) (by decide +kernel)), rfl, by decide +kernel⟩
theorem flRX10_52 : zFl RX10 52 10 13 := ⟨_, rfl, by decide, rfl, zin_1 (List.mem_of_getElem? (i := 134) (by decide +kernel))⟩
theorem fpRX10_52 : zFp RX10 52 10 13 .int := ⟨_, rfl, by decide, rfl, zin_1 (List.mem_of_getElem? (i := 134) (by decide +kernel)), rfl, by decide +kernel⟩
theorem flRX10_61 : zFl RX10 61 9 2 := ⟨_, rfl, by decide, rfl, zin_3 (List.mem_of_getElem? (i := 25) (by decide +kernel))⟩
