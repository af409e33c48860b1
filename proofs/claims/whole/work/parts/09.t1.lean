abbrev mJ6_compare_7cf53 : zMt := (yJ6_compare_7cf53, cJ6_compare_7cf53, 2, some .int)
theorem kJ6_compare_7cf53 : zmk mJ6_compare_7cf53 2 := ⟨zT_4 (i := 219) (by decide +kernel) rfl, zT_1 (i := 21) (by decide +kernel) rfl, ⟨by decide +kernel, by decide +kernel, by decide +kernel⟩, by decide +kernel, by decide⟩
theorem tJ6_compare_7cf53 : Cond.static yJ6_compare_7cf53 ∈ zTs := zT_4 (i := 218) (by decide +kernel) rfl
abbrev mJ6_bitCount_0f7a4 : zMt := (yJ6_bitCount_0f7a4, cJ6_bitCount_0f7a4, 1, some .int)
theorem kJ6_bitCount_0f7a4 : zmk mJ6_bitCount_0f7a4 1 := ⟨zT_5 (i := 138) (by decide +kernel) rfl, zT_1 (i := 21) (by decide +kernel) rfl, ⟨by decide +kernel, by decide +kernel, by decide +kernel⟩, by decide +kernel, by decide⟩
theorem tJ6_bitCount_0f7a4 : Cond.static yJ6_bitCount_0f7a4 ∈ zTs := zT_5 (i := 137) (by decide +kernel) rfl
abbrev mJ7_fill_53178 : zMt := (yJ7_fill_53178, cJ7_fill_53178, 4, none)
theorem kJ7_fill_53178 : zmk mJ7_fill_53178 2 := ⟨zT_1 (i := 42) (by decide +kernel) rfl, zT_1 (i := 3) (by decide +kernel) rfl, ⟨by decide +kernel, by decide +kernel, by decide +kernel⟩, by decide +kernel, by decide⟩
theorem tJ7_fill_53178 : Cond.static yJ7_fill_53178 ∈ zTs := zT_1 (i := 41) (by decide +kernel) rfl
abbrev mJ9_floorMod_7cf53 : zMt := (yJ9_floorMod_7cf53, cJ9_floorMod_7cf53, 3, some .int)
theorem tJ9_floorMod_7cf53 : Cond.static yJ9_floorMod_7cf53 ∈ zTs := zT_5 (i := 144) (by decide +kernel) rfl
abbrev mJ9_max_7cf53 : zMt := (yJ9_max_7cf53, cJ9_max_7cf53, 2, some .int)
theorem tJ9_max_7cf53 : Cond.static yJ9_max_7cf53 ∈ zTs := zT_3 (i := 199) (by decide +kernel) rfl
abbrev mJ9_max_f86c9 : zMt := (yJ9_max_f86c9, cJ9_max_f86c9, 4, some .long)
theorem tJ9_max_f86c9 : Cond.static yJ9_max_f86c9 ∈ zTs := zT_4 (i := 205) (by decide +kernel) rfl
abbrev mJ9_min_7cf53 : zMt := (yJ9_min_7cf53, cJ9_min_7cf53, 2, some .int)
theorem tJ9_min_7cf53 : Cond.static yJ9_min_7cf53 ∈ zTs := zT_3 (i := 112) (by decide +kernel) rfl
abbrev mJ9_min_f86c9 : zMt := (yJ9_min_f86c9, cJ9_min_f86c9, 4, some .long)
theorem tJ9_min_f86c9 : Cond.static yJ9_min_f86c9 ∈ zTs := zT_4 (i := 208) (by decide +kernel) rfl
abbrev mX0_countWorlds : zMt := (yX0_countWorlds, cX0_countWorlds, 6, some .int)
theorem kX0_countWorlds : zmk mX0_countWorlds 2 := ⟨zT_6 (i := 184) (by decide +kernel) rfl, zT_1 (i := 11) (by decide +kernel) rfl, ⟨by decide +kernel, by decide +kernel, by decide +kernel⟩, by decide +kernel, by decide⟩
theorem iX0_countWorlds : Cond.instanceMethod yX0_countWorlds ∈ zTs := zT_6 (i := 182) (by decide +kernel) rfl
theorem eX0_countWorlds : Cond.selects yX0_countWorlds.cls yX0_countWorlds yX0_countWorlds ∈ zTs := zT_6 (i := 183) (by decide +kernel) rfl
abbrev mX0_addUnlike : zMt := (yX0_addUnlike, cX0_addUnlike, 3, none)
theorem kX0_addUnlike : zmk mX0_addUnlike 1 := ⟨zT_6 (i := 188) (by decide +kernel) rfl, zT_1 (i := 11) (by decide +kernel) rfl, ⟨by decide +kernel, by decide +kernel, by decide +kernel⟩, by decide +kernel, by decide⟩
theorem iX0_addUnlike : Cond.instanceMethod yX0_addUnlike ∈ zTs := zT_6 (i := 187) (by decide +kernel) rfl
theorem eX0_addUnlike : Cond.selects yX0_addUnlike.cls yX0_addUnlike yX0_addUnlike ∈ zTs := zT_of (i := 69) (by decide +kernel) rfl
abbrev mX0_allAnswerAlike : zMt := (yX0_allAnswerAlike, cX0_allAnswerAlike, 5, some .boolean)
theorem kX0_allAnswerAlike : zmk mX0_allAnswerAlike 2 := ⟨zT_6 (i := 192) (by decide +kernel) rfl, zT_1 (i := 11) (by decide +kernel) rfl, ⟨by decide +kernel, by decide +kernel, by decide +kernel⟩, by decide +kernel, by decide⟩
theorem iX0_allAnswerAlike : Cond.instanceMethod yX0_allAnswerAlike ∈ zTs := zT_6 (i := 191) (by decide +kernel) rfl
theorem eX0_allAnswerAlike : Cond.selects yX0_allAnswerAlike.cls yX0_allAnswerAlike yX0_allAnswerAlike ∈ zTs := zT_of (i := 70) (by decide +kernel) rfl
abbrev mX0_save : zMt := (yX0_save, cX0_save, 2, none)
theorem kX0_save : zmk mX0_save 1 := ⟨zT_7 (i := 26) (by decide +kernel) rfl, zT_1 (i := 11) (by decide +kernel) rfl, ⟨by decide +kernel, by decide +kernel, by decide +kernel⟩, by decide +kernel, by decide⟩
theorem iX0_save : Cond.instanceMethod yX0_save ∈ zTs := zT_7 (i := 24) (by decide +kernel) rfl
theorem eX0_save : Cond.selects yX0_save.cls yX0_save yX0_save ∈ zTs := zT_7 (i := 25) (by decide +kernel) rfl
abbrev mX0_restore : zMt := (yX0_restore, cX0_restore, 2, none)
theorem kX0_restore : zmk mX0_restore 1 := ⟨zT_7 (i := 65) (by decide +kernel) rfl, zT_1 (i := 11) (by decide +kernel) rfl, ⟨by decide +kernel, by decide +kernel, by decide +kernel⟩, by decide +kernel, by decide⟩
theorem iX0_restore : Cond.instanceMethod yX0_restore ∈ zTs := zT_7 (i := 63) (by decide +kernel) rfl
theorem eX0_restore : Cond.selects yX0_restore.cls yX0_restore yX0_restore ∈ zTs := zT_7 (i := 64) (by decide +kernel) rfl
abbrev mX0_init : zMt := (yX0_init, cX0_init, 1, none)
theorem kX0_init : zmk mX0_init 0 := ⟨zT_2 (i := 153) (by decide +kernel) rfl, zT_1 (i := 11) (by decide +kernel) rfl, ⟨by decide +kernel, by decide +kernel, by decide +kernel⟩, by decide +kernel, by decide⟩
theorem iX0_init : Cond.instanceMethod yX0_init ∈ zTs := zT_2 (i := 152) (by decide +kernel) rfl
abbrev mX0_forgetHeard : zMt := (yX0_forgetHeard, cX0_forgetHeard, 1, none)
theorem kX0_forgetHeard : zmk mX0_forgetHeard 0 := ⟨zT_6 (i := 172) (by decide +kernel) rfl, zT_1 (i := 11) (by decide +kernel) rfl, ⟨by decide +kernel, by decide +kernel, by decide +kernel⟩, by decide +kernel, by decide⟩
theorem iX0_forgetHeard : Cond.instanceMethod yX0_forgetHeard ∈ zTs := zT_6 (i := 170) (by decide +kernel) rfl
theorem eX0_forgetHeard : Cond.selects yX0_forgetHeard.cls yX0_forgetHeard yX0_forgetHeard ∈ zTs := zT_6 (i := 171) (by decide +kernel) rfl
abbrev mX0_addHeard : zMt := (yX0_addHeard, cX0_addHeard, 3, some .int)
theorem kX0_addHeard : zmk mX0_addHeard 2 := ⟨zT_6 (i := 176) (by decide +kernel) rfl, zT_1 (i := 11) (by decide +kernel) rfl, ⟨by decide +kernel, by decide +kernel, by decide +kernel⟩, by decide +kernel, by decide⟩
theorem iX0_addHeard : Cond.instanceMethod yX0_addHeard ∈ zTs := zT_6 (i := 174) (by decide +kernel) rfl
theorem eX0_addHeard : Cond.selects yX0_addHeard.cls yX0_addHeard yX0_addHeard ∈ zTs := zT_6 (i := 175) (by decide +kernel) rfl
abbrev mX0_addTold : zMt := (yX0_addTold, cX0_addTold, 3, some .int)
theorem kX0_addTold : zmk mX0_addTold 2 := ⟨zT_6 (i := 208) (by decide +kernel) rfl, zT_1 (i := 11) (by decide +kernel) rfl, ⟨by decide +kernel, by decide +kernel, by decide +kernel⟩, by decide +kernel, by decide⟩
theorem iX0_addTold : Cond.instanceMethod yX0_addTold ∈ zTs := zT_6 (i := 206) (by decide +kernel) rfl
theorem eX0_addTold : Cond.selects yX0_addTold.cls yX0_addTold yX0_addTold ∈ zTs := zT_6 (i := 207) (by decide +kernel) rfl
abbrev mX0_wordsHeard : zMt := (yX0_wordsHeard, cX0_wordsHeard, 5, some .int)
theorem kX0_wordsHeard : zmk mX0_wordsHeard 2 := ⟨zT_6 (i := 200) (by decide +kernel) rfl, zT_1 (i := 11) (by decide +kernel) rfl, ⟨by decide +kernel, by decide +kernel, by decide +kernel⟩, by decide +kernel, by decide⟩
theorem iX0_wordsHeard : Cond.instanceMethod yX0_wordsHeard ∈ zTs := zT_6 (i := 198) (by decide +kernel) rfl
theorem eX0_wordsHeard : Cond.selects yX0_wordsHeard.cls yX0_wordsHeard yX0_wordsHeard ∈ zTs := zT_6 (i := 199) (by decide +kernel) rfl
abbrev mX0_liesIn : zMt := (yX0_liesIn, cX0_liesIn, 4, some .int)
theorem kX0_liesIn : zmk mX0_liesIn 1 := ⟨zT_6 (i := 216) (by decide +kernel) rfl, zT_1 (i := 11) (by decide +kernel) rfl, ⟨by decide +kernel, by decide +kernel, by decide +kernel⟩, by decide +kernel, by decide⟩
theorem iX0_liesIn : Cond.instanceMethod yX0_liesIn ∈ zTs := zT_6 (i := 214) (by decide +kernel) rfl
theorem eX0_liesIn : Cond.selects yX0_liesIn.cls yX0_liesIn yX0_liesIn ∈ zTs := zT_6 (i := 215) (by decide +kernel) rfl
abbrev mX0_firstClash : zMt := (yX0_firstClash, cX0_firstClash, 5, some .int)
theorem kX0_firstClash : zmk mX0_firstClash 1 := ⟨zT_6 (i := 224) (by decide +kernel) rfl, zT_1 (i := 11) (by decide +kernel) rfl, ⟨by decide +kernel, by decide +kernel, by decide +kernel⟩, by decide +kernel, by decide⟩
theorem iX0_firstClash : Cond.instanceMethod yX0_firstClash ∈ zTs := zT_6 (i := 222) (by decide +kernel) rfl
theorem eX0_firstClash : Cond.selects yX0_firstClash.cls yX0_firstClash yX0_firstClash ∈ zTs := zT_6 (i := 223) (by decide +kernel) rfl
abbrev mX0_findParting : zMt := (yX0_findParting, cX0_findParting, 7, some .boolean)
theorem kX0_findParting : zmk mX0_findParting 4 := ⟨zT_5 (i := 179) (by decide +kernel) rfl, zT_1 (i := 11) (by decide +kernel) rfl, ⟨by decide +kernel, by decide +kernel, by decide +kernel⟩, by decide +kernel, by decide⟩
theorem iX0_findParting : Cond.instanceMethod yX0_findParting ∈ zTs := zT_5 (i := 177) (by decide +kernel) rfl
theorem eX0_findParting : Cond.selects yX0_findParting.cls yX0_findParting yX0_findParting ∈ zTs := zT_5 (i := 178) (by decide +kernel) rfl
abbrev mX0_nextWorld : zMt := (yX0_nextWorld, cX0_nextWorld, 3, some .boolean)
theorem kX0_nextWorld : zmk mX0_nextWorld 1 := ⟨zT_5 (i := 185) (by decide +kernel) rfl, zT_1 (i := 11) (by decide +kernel) rfl, ⟨by decide +kernel, by decide +kernel, by decide +kernel⟩, by decide +kernel, by decide⟩
theorem iX0_nextWorld : Cond.instanceMethod yX0_nextWorld ∈ zTs := zT_5 (i := 184) (by decide +kernel) rfl
theorem eX0_nextWorld : Cond.selects yX0_nextWorld.cls yX0_nextWorld yX0_nextWorld ∈ zTs := zT_of (i := 53) (by decide +kernel) rfl
abbrev mX1_valueOf : zMt := (yX1_valueOf, cX1_valueOf, 2, some .int)
theorem kX1_valueOf : zmk mX1_valueOf 1 := ⟨zT_4 (i := 146) (by decide +kernel) rfl, zT_1 (i := 7) (by decide +kernel) rfl, ⟨by decide +kernel, by decide +kernel, by decide +kernel⟩, by decide +kernel, by decide⟩
theorem iX1_valueOf : Cond.instanceMethod yX1_valueOf ∈ zTs := zT_4 (i := 144) (by decide +kernel) rfl
theorem eX1_valueOf : Cond.selects yX1_valueOf.cls yX1_valueOf yX1_valueOf ∈ zTs := zT_4 (i := 145) (by decide +kernel) rfl
abbrev mX1_signOf : zMt := (yX1_signOf, cX1_signOf, 2, some .int)
theorem kX1_signOf : zmk mX1_signOf 1 := ⟨zT_4 (i := 159) (by decide +kernel) rfl, zT_1 (i := 7) (by decide +kernel) rfl, ⟨by decide +kernel, by decide +kernel, by decide +kernel⟩, by decide +kernel, by decide⟩
theorem iX1_signOf : Cond.instanceMethod yX1_signOf ∈ zTs := zT_4 (i := 157) (by decide +kernel) rfl
theorem eX1_signOf : Cond.selects yX1_signOf.cls yX1_signOf yX1_signOf ∈ zTs := zT_4 (i := 158) (by decide +kernel) rfl
abbrev mX1_partsOf : zMt := (yX1_partsOf, cX1_partsOf, 2, some .int)
theorem kX1_partsOf : zmk mX1_partsOf 1 := ⟨zT_4 (i := 154) (by decide +kernel) rfl, zT_1 (i := 7) (by decide +kernel) rfl, ⟨by decide +kernel, by decide +kernel, by decide +kernel⟩, by decide +kernel, by decide⟩
theorem iX1_partsOf : Cond.instanceMethod yX1_partsOf ∈ zTs := zT_4 (i := 152) (by decide +kernel) rfl
theorem eX1_partsOf : Cond.selects yX1_partsOf.cls yX1_partsOf yX1_partsOf ∈ zTs := zT_4 (i := 153) (by decide +kernel) rfl
abbrev mX1_firstOf : zMt := (yX1_firstOf, cX1_firstOf, 2, some .int)
theorem kX1_firstOf : zmk mX1_firstOf 1 := ⟨zT_4 (i := 150) (by decide +kernel) rfl, zT_1 (i := 7) (by decide +kernel) rfl, ⟨by decide +kernel, by decide +kernel, by decide +kernel⟩, by decide +kernel, by decide⟩
theorem iX1_firstOf : Cond.instanceMethod yX1_firstOf ∈ zTs := zT_4 (i := 148) (by decide +kernel) rfl
theorem eX1_firstOf : Cond.selects yX1_firstOf.cls yX1_firstOf yX1_firstOf ∈ zTs := zT_4 (i := 149) (by decide +kernel) rfl
abbrev mX1_behind : zMt := (yX1_behind, cX1_behind, 2, some .int)
theorem kX1_behind : zmk mX1_behind 1 := ⟨zT_4 (i := 168) (by decide +kernel) rfl, zT_1 (i := 7) (by decide +kernel) rfl, ⟨by decide +kernel, by decide +kernel, by decide +kernel⟩, by decide +kernel, by decide⟩
theorem iX1_behind : Cond.instanceMethod yX1_behind ∈ zTs := zT_4 (i := 166) (by decide +kernel) rfl
theorem eX1_behind : Cond.selects yX1_behind.cls yX1_behind yX1_behind ∈ zTs := zT_4 (i := 167) (by decide +kernel) rfl
abbrev mX1_say : zMt := (yX1_say, cX1_say, 8, some .int)
theorem kX1_say : zmk mX1_say 4 := ⟨zT_4 (i := 138) (by decide +kernel) rfl, zT_1 (i := 7) (by decide +kernel) rfl, ⟨by decide +kernel, by decide +kernel, by decide +kernel⟩, by decide +kernel, by decide⟩
theorem iX1_say : Cond.instanceMethod yX1_say ∈ zTs := zT_4 (i := 137) (by decide +kernel) rfl
theorem eX1_say : Cond.selects yX1_say.cls yX1_say yX1_say ∈ zTs := zT_of (i := 26) (by decide +kernel) rfl
abbrev mX1_adopt : zMt := (yX1_adopt, cX1_adopt, 11, none)
theorem kX1_adopt : zmk mX1_adopt 4 := ⟨zT_4 (i := 163) (by decide +kernel) rfl, zT_1 (i := 7) (by decide +kernel) rfl, ⟨by decide +kernel, by decide +kernel, by decide +kernel⟩, by decide +kernel, by decide⟩
theorem iX1_adopt : Cond.instanceMethod yX1_adopt ∈ zTs := zT_4 (i := 162) (by decide +kernel) rfl
theorem eX1_adopt : Cond.selects yX1_adopt.cls yX1_adopt yX1_adopt ∈ zTs := zT_of (i := 27) (by decide +kernel) rfl
abbrev mX1_change : zMt := (yX1_change, cX1_change, 3, some .int)
theorem kX1_change : zmk mX1_change 2 := ⟨zT_4 (i := 172) (by decide +kernel) rfl, zT_1 (i := 7) (by decide +kernel) rfl, ⟨by decide +kernel, by decide +kernel, by decide +kernel⟩, by decide +kernel, by decide⟩
theorem iX1_change : Cond.instanceMethod yX1_change ∈ zTs := zT_4 (i := 171) (by decide +kernel) rfl
theorem eX1_change : Cond.selects yX1_change.cls yX1_change yX1_change ∈ zTs := zT_of (i := 28) (by decide +kernel) rfl
abbrev mX1_aloneOr : zMt := (yX1_aloneOr, cX1_aloneOr, 3, some .int)
theorem kX1_aloneOr : zmk mX1_aloneOr 1 := ⟨zT_4 (i := 230) (by decide +kernel) rfl, zT_1 (i := 7) (by decide +kernel) rfl, ⟨by decide +kernel, by decide +kernel, by decide +kernel⟩, by decide +kernel, by decide⟩
theorem iX1_aloneOr : Cond.instanceMethod yX1_aloneOr ∈ zTs := zT_4 (i := 229) (by decide +kernel) rfl
theorem eX1_aloneOr : Cond.selects yX1_aloneOr.cls yX1_aloneOr yX1_aloneOr ∈ zTs := zT_of (i := 36) (by decide +kernel) rfl
abbrev mX1_leaveOut : zMt := (yX1_leaveOut, cX1_leaveOut, 6, none)
theorem kX1_leaveOut : zmk mX1_leaveOut 3 := ⟨zT_4 (i := 176) (by decide +kernel) rfl, zT_1 (i := 7) (by decide +kernel) rfl, ⟨by decide +kernel, by decide +kernel, by decide +kernel⟩, by decide +kernel, by decide⟩
theorem iX1_leaveOut : Cond.instanceMethod yX1_leaveOut ∈ zTs := zT_4 (i := 175) (by decide +kernel) rfl
theorem eX1_leaveOut : Cond.selects yX1_leaveOut.cls yX1_leaveOut yX1_leaveOut ∈ zTs := zT_of (i := 29) (by decide +kernel) rfl
abbrev mX1_init : zMt := (yX1_init, cX1_init, 1, none)
theorem kX1_init : zmk mX1_init 0 := ⟨zT_1 (i := 186) (by decide +kernel) rfl, zT_1 (i := 7) (by decide +kernel) rfl, ⟨by decide +kernel, by decide +kernel, by decide +kernel⟩, by decide +kernel, by decide⟩
theorem iX1_init : Cond.instanceMethod yX1_init ∈ zTs := zT_1 (i := 185) (by decide +kernel) rfl
abbrev mX1_collectParts : zMt := (yX1_collectParts, cX1_collectParts, 5, some .int)
theorem kX1_collectParts : zmk mX1_collectParts 1 := ⟨zT_4 (i := 180) (by decide +kernel) rfl, zT_1 (i := 7) (by decide +kernel) rfl, ⟨by decide +kernel, by decide +kernel, by decide +kernel⟩, by decide +kernel, by decide⟩
theorem iX1_collectParts : Cond.instanceMethod yX1_collectParts ∈ zTs := zT_4 (i := 179) (by decide +kernel) rfl
theorem eX1_collectParts : Cond.selects yX1_collectParts.cls yX1_collectParts yX1_collectParts ∈ zTs := zT_of (i := 30) (by decide +kernel) rfl
abbrev mX1_chainParts : zMt := (yX1_chainParts, cX1_chainParts, 4, none)
theorem kX1_chainParts : zmk mX1_chainParts 2 := ⟨zT_4 (i := 226) (by decide +kernel) rfl, zT_1 (i := 7) (by decide +kernel) rfl, ⟨by decide +kernel, by decide +kernel, by decide +kernel⟩, by decide +kernel, by decide⟩
theorem iX1_chainParts : Cond.instanceMethod yX1_chainParts ∈ zTs := zT_4 (i := 225) (by decide +kernel) rfl
theorem eX1_chainParts : Cond.selects yX1_chainParts.cls yX1_chainParts yX1_chainParts ∈ zTs := zT_of (i := 35) (by decide +kernel) rfl
abbrev mX1_workNumbers : zMt := (yX1_workNumbers, cX1_workNumbers, 8, none)
theorem kX1_workNumbers : zmk mX1_workNumbers 2 := ⟨zT_4 (i := 193) (by decide +kernel) rfl, zT_1 (i := 7) (by decide +kernel) rfl, ⟨by decide +kernel, by decide +kernel, by decide +kernel⟩, by decide +kernel, by decide⟩
theorem iX1_workNumbers : Cond.instanceMethod yX1_workNumbers ∈ zTs := zT_4 (i := 192) (by decide +kernel) rfl
theorem eX1_workNumbers : Cond.selects yX1_workNumbers.cls yX1_workNumbers yX1_workNumbers ∈ zTs := zT_of (i := 33) (by decide +kernel) rfl
abbrev mX1_workedWith : zMt := (yX1_workedWith, cX1_workedWith, 5, some .int)
theorem kX1_workedWith : zmk mX1_workedWith 3 := ⟨zT_4 (i := 196) (by decide +kernel) rfl, zT_1 (i := 7) (by decide +kernel) rfl, ⟨by decide +kernel, by decide +kernel, by decide +kernel⟩, by decide +kernel, by decide⟩
theorem tX1_workedWith : Cond.static yX1_workedWith ∈ zTs := zT_4 (i := 195) (by decide +kernel) rfl
abbrev mX1_sortParts : zMt := (yX1_sortParts, cX1_sortParts, 7, none)
theorem kX1_sortParts : zmk mX1_sortParts 2 := ⟨zT_4 (i := 213) (by decide +kernel) rfl, zT_1 (i := 7) (by decide +kernel) rfl, ⟨by decide +kernel, by decide +kernel, by decide +kernel⟩, by decide +kernel, by decide⟩
theorem iX1_sortParts : Cond.instanceMethod yX1_sortParts ∈ zTs := zT_4 (i := 212) (by decide +kernel) rfl
theorem eX1_sortParts : Cond.selects yX1_sortParts.cls yX1_sortParts yX1_sortParts ∈ zTs := zT_of (i := 34) (by decide +kernel) rfl
abbrev mX1_eitherOr : zMt := (yX1_eitherOr, cX1_eitherOr, 5, some .int)
theorem kX1_eitherOr : zmk mX1_eitherOr 2 := ⟨zT_4 (i := 234) (by decide +kernel) rfl, zT_1 (i := 7) (by decide +kernel) rfl, ⟨by decide +kernel, by decide +kernel, by decide +kernel⟩, by decide +kernel, by decide⟩
theorem iX1_eitherOr : Cond.instanceMethod yX1_eitherOr ∈ zTs := zT_4 (i := 233) (by decide +kernel) rfl
theorem eX1_eitherOr : Cond.selects yX1_eitherOr.cls yX1_eitherOr yX1_eitherOr ∈ zTs := zT_of (i := 37) (by decide +kernel) rfl
abbrev mX1_changeIf : zMt := (yX1_changeIf, cX1_changeIf, 4, some .int)
theorem kX1_changeIf : zmk mX1_changeIf 2 := ⟨zT_4 (i := 238) (by decide +kernel) rfl, zT_1 (i := 7) (by decide +kernel) rfl, ⟨by decide +kernel, by decide +kernel, by decide +kernel⟩, by decide +kernel, by decide⟩
theorem iX1_changeIf : Cond.instanceMethod yX1_changeIf ∈ zTs := zT_4 (i := 237) (by decide +kernel) rfl
theorem eX1_changeIf : Cond.selects yX1_changeIf.cls yX1_changeIf yX1_changeIf ∈ zTs := zT_of (i := 38) (by decide +kernel) rfl
abbrev mX1_orderOf : zMt := (yX1_orderOf, cX1_orderOf, 9, some .int)
theorem kX1_orderOf : zmk mX1_orderOf 5 := ⟨zT_4 (i := 222) (by decide +kernel) rfl, zT_1 (i := 7) (by decide +kernel) rfl, ⟨by decide +kernel, by decide +kernel, by decide +kernel⟩, by decide +kernel, by decide⟩
theorem tX1_orderOf : Cond.static yX1_orderOf ∈ zTs := zT_4 (i := 221) (by decide +kernel) rfl
abbrev mX1_orderOfTerms : zMt := (yX1_orderOfTerms, cX1_orderOfTerms, 6, some .int)
theorem kX1_orderOfTerms : zmk mX1_orderOfTerms 5 := ⟨zT_4 (i := 216) (by decide +kernel) rfl, zT_1 (i := 7) (by decide +kernel) rfl, ⟨by decide +kernel, by decide +kernel, by decide +kernel⟩, by decide +kernel, by decide⟩
theorem tX1_orderOfTerms : Cond.static yX1_orderOfTerms ∈ zTs := zT_4 (i := 215) (by decide +kernel) rfl
abbrev mX1_make : zMt := (yX1_make, cX1_make, 3, some .int)
theorem kX1_make : zmk mX1_make 2 := ⟨zT_4 (i := 46) (by decide +kernel) rfl, zT_1 (i := 7) (by decide +kernel) rfl, ⟨by decide +kernel, by decide +kernel, by decide +kernel⟩, by decide +kernel, by decide⟩
theorem iX1_make : Cond.instanceMethod yX1_make ∈ zTs := zT_4 (i := 44) (by decide +kernel) rfl
theorem eX1_make : Cond.selects yX1_make.cls yX1_make yX1_make ∈ zTs := zT_4 (i := 45) (by decide +kernel) rfl
abbrev mX1_become : zMt := (yX1_become, cX1_become, 4, none)
theorem kX1_become : zmk mX1_become 3 := ⟨zT_4 (i := 189) (by decide +kernel) rfl, zT_1 (i := 7) (by decide +kernel) rfl, ⟨by decide +kernel, by decide +kernel, by decide +kernel⟩, by decide +kernel, by decide⟩
theorem iX1_become : Cond.instanceMethod yX1_become ∈ zTs := zT_4 (i := 188) (by decide +kernel) rfl
theorem eX1_become : Cond.selects yX1_become.cls yX1_become yX1_become ∈ zTs := zT_of (i := 32) (by decide +kernel) rfl
abbrev mX1_link : zMt := (yX1_link, cX1_link, 4, none)
theorem kX1_link : zmk mX1_link 3 := ⟨zT_4 (i := 77) (by decide +kernel) rfl, zT_1 (i := 7) (by decide +kernel) rfl, ⟨by decide +kernel, by decide +kernel, by decide +kernel⟩, by decide +kernel, by decide⟩
theorem iX1_link : Cond.instanceMethod yX1_link ∈ zTs := zT_4 (i := 75) (by decide +kernel) rfl
theorem eX1_link : Cond.selects yX1_link.cls yX1_link yX1_link ∈ zTs := zT_4 (i := 76) (by decide +kernel) rfl
abbrev mX1_makeOf : zMt := (yX1_makeOf, cX1_makeOf, 6, some .int)
theorem kX1_makeOf : zmk mX1_makeOf 4 := ⟨zT_4 (i := 81) (by decide +kernel) rfl, zT_1 (i := 7) (by decide +kernel) rfl, ⟨by decide +kernel, by decide +kernel, by decide +kernel⟩, by decide +kernel, by decide⟩
theorem iX1_makeOf : Cond.instanceMethod yX1_makeOf ∈ zTs := zT_4 (i := 79) (by decide +kernel) rfl
theorem eX1_makeOf : Cond.selects yX1_makeOf.cls yX1_makeOf yX1_makeOf ∈ zTs := zT_4 (i := 80) (by decide +kernel) rfl
abbrev mX1_setValue : zMt := (yX1_setValue, cX1_setValue, 3, none)
theorem kX1_setValue : zmk mX1_setValue 2 := ⟨zT_5 (i := 2) (by decide +kernel) rfl, zT_1 (i := 7) (by decide +kernel) rfl, ⟨by decide +kernel, by decide +kernel, by decide +kernel⟩, by decide +kernel, by decide⟩
theorem iX1_setValue : Cond.instanceMethod yX1_setValue ∈ zTs := zT_5 (i := 1) (by decide +kernel) rfl
theorem eX1_setValue : Cond.selects yX1_setValue.cls yX1_setValue yX1_setValue ∈ zTs := zT_of (i := 39) (by decide +kernel) rfl
abbrev mX1_dropParts : zMt := (yX1_dropParts, cX1_dropParts, 2, none)
theorem kX1_dropParts : zmk mX1_dropParts 1 := ⟨zT_4 (i := 185) (by decide +kernel) rfl, zT_1 (i := 7) (by decide +kernel) rfl, ⟨by decide +kernel, by decide +kernel, by decide +kernel⟩, by decide +kernel, by decide⟩
theorem iX1_dropParts : Cond.instanceMethod yX1_dropParts ∈ zTs := zT_4 (i := 184) (by decide +kernel) rfl
theorem eX1_dropParts : Cond.selects yX1_dropParts.cls yX1_dropParts yX1_dropParts ∈ zTs := zT_of (i := 31) (by decide +kernel) rfl
abbrev mX1_append : zMt := (yX1_append, cX1_append, 5, none)
theorem kX1_append : zmk mX1_append 3 := ⟨zT_4 (i := 66) (by decide +kernel) rfl, zT_1 (i := 7) (by decide +kernel) rfl, ⟨by decide +kernel, by decide +kernel, by decide +kernel⟩, by decide +kernel, by decide⟩
theorem iX1_append : Cond.instanceMethod yX1_append ∈ zTs := zT_4 (i := 64) (by decide +kernel) rfl
theorem eX1_append : Cond.selects yX1_append.cls yX1_append yX1_append ∈ zTs := zT_4 (i := 65) (by decide +kernel) rfl
abbrev mX1_kindOf : zMt := (yX1_kindOf, cX1_kindOf, 2, some .int)
theorem kX1_kindOf : zmk mX1_kindOf 1 := ⟨zT_4 (i := 142) (by decide +kernel) rfl, zT_1 (i := 7) (by decide +kernel) rfl, ⟨by decide +kernel, by decide +kernel, by decide +kernel⟩, by decide +kernel, by decide⟩
theorem iX1_kindOf : Cond.instanceMethod yX1_kindOf ∈ zTs := zT_4 (i := 140) (by decide +kernel) rfl
theorem eX1_kindOf : Cond.selects yX1_kindOf.cls yX1_kindOf yX1_kindOf ∈ zTs := zT_4 (i := 141) (by decide +kernel) rfl
abbrev mX2_orderFrom : zMt := (yX2_orderFrom, cX2_orderFrom, 6, some .boolean)
theorem kX2_orderFrom : zmk mX2_orderFrom 3 := ⟨zT_6 (i := 43) (by decide +kernel) rfl, zT_1 (i := 9) (by decide +kernel) rfl, ⟨by decide +kernel, by decide +kernel, by decide +kernel⟩, by decide +kernel, by decide⟩
theorem iX2_orderFrom : Cond.instanceMethod yX2_orderFrom ∈ zTs := zT_6 (i := 42) (by decide +kernel) rfl
theorem eX2_orderFrom : Cond.selects yX2_orderFrom.cls yX2_orderFrom yX2_orderFrom ∈ zTs := zT_of (i := 58) (by decide +kernel) rfl
abbrev mX2_winningStart : zMt := (yX2_winningStart, cX2_winningStart, 4, some .int)
theorem kX2_winningStart : zmk mX2_winningStart 2 := ⟨zT_6 (i := 59) (by decide +kernel) rfl, zT_1 (i := 9) (by decide +kernel) rfl, ⟨by decide +kernel, by decide +kernel, by decide +kernel⟩, by decide +kernel, by decide⟩
theorem iX2_winningStart : Cond.instanceMethod yX2_winningStart ∈ zTs := zT_6 (i := 57) (by decide +kernel) rfl
theorem eX2_winningStart : Cond.selects yX2_winningStart.cls yX2_winningStart yX2_winningStart ∈ zTs := zT_6 (i := 58) (by decide +kernel) rfl
abbrev mX2_winsFrom : zMt := (yX2_winsFrom, cX2_winsFrom, 9, some .boolean)
theorem kX2_winsFrom : zmk mX2_winsFrom 2 := ⟨zT_6 (i := 63) (by decide +kernel) rfl, zT_1 (i := 9) (by decide +kernel) rfl, ⟨by decide +kernel, by decide +kernel, by decide +kernel⟩, by decide +kernel, by decide⟩
theorem iX2_winsFrom : Cond.instanceMethod yX2_winsFrom ∈ zTs := zT_6 (i := 62) (by decide +kernel) rfl
theorem eX2_winsFrom : Cond.selects yX2_winsFrom.cls yX2_winsFrom yX2_winsFrom ∈ zTs := zT_of (i := 59) (by decide +kernel) rfl
abbrev mX2_moverWins : zMt := (yX2_moverWins, cX2_moverWins, 4, some .boolean)
theorem kX2_moverWins : zmk mX2_moverWins 4 := ⟨zT_6 (i := 66) (by decide +kernel) rfl, zT_1 (i := 9) (by decide +kernel) rfl, ⟨by decide +kernel, by decide +kernel, by decide +kernel⟩, by decide +kernel, by decide⟩
theorem tX2_moverWins : Cond.static yX2_moverWins ∈ zTs := zT_6 (i := 65) (by decide +kernel) rfl
abbrev mX2_init : zMt := (yX2_init, cX2_init, 1, none)
theorem kX2_init : zmk mX2_init 0 := ⟨zT_2 (i := 103) (by decide +kernel) rfl, zT_1 (i := 9) (by decide +kernel) rfl, ⟨by decide +kernel, by decide +kernel, by decide +kernel⟩, by decide +kernel, by decide⟩
theorem iX2_init : Cond.instanceMethod yX2_init ∈ zTs := zT_2 (i := 102) (by decide +kernel) rfl
abbrev mX2_look : zMt := (yX2_look, cX2_look, 4, none)
theorem kX2_look : zmk mX2_look 2 := ⟨zT_6 (i := 6) (by decide +kernel) rfl, zT_1 (i := 9) (by decide +kernel) rfl, ⟨by decide +kernel, by decide +kernel, by decide +kernel⟩, by decide +kernel, by decide⟩
theorem iX2_look : Cond.instanceMethod yX2_look ∈ zTs := zT_6 (i := 4) (by decide +kernel) rfl
theorem eX2_look : Cond.selects yX2_look.cls yX2_look yX2_look ∈ zTs := zT_6 (i := 5) (by decide +kernel) rfl
abbrev mX2_openTo : zMt := (yX2_openTo, cX2_openTo, 5, none)
theorem kX2_openTo : zmk mX2_openTo 3 := ⟨zT_6 (i := 16) (by decide +kernel) rfl, zT_1 (i := 9) (by decide +kernel) rfl, ⟨by decide +kernel, by decide +kernel, by decide +kernel⟩, by decide +kernel, by decide⟩
theorem iX2_openTo : Cond.instanceMethod yX2_openTo ∈ zTs := zT_6 (i := 15) (by decide +kernel) rfl
theorem eX2_openTo : Cond.selects yX2_openTo.cls yX2_openTo yX2_openTo ∈ zTs := zT_of (i := 54) (by decide +kernel) rfl
abbrev mX2_lowestOf : zMt := (yX2_lowestOf, cX2_lowestOf, 3, some .int)
theorem kX2_lowestOf : zmk mX2_lowestOf 1 := ⟨zT_6 (i := 33) (by decide +kernel) rfl, zT_1 (i := 9) (by decide +kernel) rfl, ⟨by decide +kernel, by decide +kernel, by decide +kernel⟩, by decide +kernel, by decide⟩
theorem iX2_lowestOf : Cond.instanceMethod yX2_lowestOf ∈ zTs := zT_6 (i := 32) (by decide +kernel) rfl
theorem eX2_lowestOf : Cond.selects yX2_lowestOf.cls yX2_lowestOf yX2_lowestOf ∈ zTs := zT_of (i := 57) (by decide +kernel) rfl
abbrev mX2_explore : zMt := (yX2_explore, cX2_explore, 6, none)
theorem kX2_explore : zmk mX2_explore 3 := ⟨zT_6 (i := 29) (by decide +kernel) rfl, zT_1 (i := 9) (by decide +kernel) rfl, ⟨by decide +kernel, by decide +kernel, by decide +kernel⟩, by decide +kernel, by decide⟩
theorem iX2_explore : Cond.instanceMethod yX2_explore ∈ zTs := zT_6 (i := 28) (by decide +kernel) rfl
theorem eX2_explore : Cond.selects yX2_explore.cls yX2_explore yX2_explore ∈ zTs := zT_of (i := 56) (by decide +kernel) rfl
abbrev mX2_exploreAll : zMt := (yX2_exploreAll, cX2_exploreAll, 2, none)
theorem kX2_exploreAll : zmk mX2_exploreAll 0 := ⟨zT_6 (i := 25) (by decide +kernel) rfl, zT_1 (i := 9) (by decide +kernel) rfl, ⟨by decide +kernel, by decide +kernel, by decide +kernel⟩, by decide +kernel, by decide⟩
theorem iX2_exploreAll : Cond.instanceMethod yX2_exploreAll ∈ zTs := zT_6 (i := 24) (by decide +kernel) rfl
theorem eX2_exploreAll : Cond.selects yX2_exploreAll.cls yX2_exploreAll yX2_exploreAll ∈ zTs := zT_of (i := 55) (by decide +kernel) rfl
abbrev mX2_mostWhoCan : zMt := (yX2_mostWhoCan, cX2_mostWhoCan, 3, some .int)
theorem kX2_mostWhoCan : zmk mX2_mostWhoCan 0 := ⟨zT_6 (i := 21) (by decide +kernel) rfl, zT_1 (i := 9) (by decide +kernel) rfl, ⟨by decide +kernel, by decide +kernel, by decide +kernel⟩, by decide +kernel, by decide⟩
theorem iX2_mostWhoCan : Cond.instanceMethod yX2_mostWhoCan ∈ zTs := zT_6 (i := 19) (by decide +kernel) rfl
theorem eX2_mostWhoCan : Cond.selects yX2_mostWhoCan.cls yX2_mostWhoCan yX2_mostWhoCan ∈ zTs := zT_6 (i := 20) (by decide +kernel) rfl
abbrev mX2_fewestToShut : zMt := (yX2_fewestToShut, cX2_fewestToShut, 4, some .int)
theorem kX2_fewestToShut : zmk mX2_fewestToShut 0 := ⟨zT_6 (i := 51) (by decide +kernel) rfl, zT_1 (i := 9) (by decide +kernel) rfl, ⟨by decide +kernel, by decide +kernel, by decide +kernel⟩, by decide +kernel, by decide⟩
theorem iX2_fewestToShut : Cond.instanceMethod yX2_fewestToShut ∈ zTs := zT_6 (i := 49) (by decide +kernel) rfl
theorem eX2_fewestToShut : Cond.selects yX2_fewestToShut.cls yX2_fewestToShut yX2_fewestToShut ∈ zTs := zT_6 (i := 50) (by decide +kernel) rfl
abbrev mX2_findOrder : zMt := (yX2_findOrder, cX2_findOrder, 1, some .boolean)
theorem kX2_findOrder : zmk mX2_findOrder 0 := ⟨zT_6 (i := 39) (by decide +kernel) rfl, zT_1 (i := 9) (by decide +kernel) rfl, ⟨by decide +kernel, by decide +kernel, by decide +kernel⟩, by decide +kernel, by decide⟩
theorem iX2_findOrder : Cond.instanceMethod yX2_findOrder ∈ zTs := zT_6 (i := 37) (by decide +kernel) rfl
theorem eX2_findOrder : Cond.selects yX2_findOrder.cls yX2_findOrder yX2_findOrder ∈ zTs := zT_6 (i := 38) (by decide +kernel) rfl
abbrev mX3_save : zMt := (yX3_save, cX3_save, 2, none)
theorem kX3_save : zmk mX3_save 1 := ⟨zT_7 (i := 15) (by decide +kernel) rfl, zT_1 (i := 6) (by decide +kernel) rfl, ⟨by decide +kernel, by decide +kernel, by decide +kernel⟩, by decide +kernel, by decide⟩
theorem iX3_save : Cond.instanceMethod yX3_save ∈ zTs := zT_7 (i := 13) (by decide +kernel) rfl
theorem eX3_save : Cond.selects yX3_save.cls yX3_save yX3_save ∈ zTs := zT_7 (i := 14) (by decide +kernel) rfl
abbrev mX3_restore : zMt := (yX3_restore, cX3_restore, 2, none)
theorem kX3_restore : zmk mX3_restore 1 := ⟨zT_7 (i := 50) (by decide +kernel) rfl, zT_1 (i := 6) (by decide +kernel) rfl, ⟨by decide +kernel, by decide +kernel, by decide +kernel⟩, by decide +kernel, by decide⟩
theorem iX3_restore : Cond.instanceMethod yX3_restore ∈ zTs := zT_7 (i := 48) (by decide +kernel) rfl
theorem eX3_restore : Cond.selects yX3_restore.cls yX3_restore yX3_restore ∈ zTs := zT_7 (i := 49) (by decide +kernel) rfl
abbrev mX3_init : zMt := (yX3_init, cX3_init, 2, none)
theorem kX3_init : zmk mX3_init 0 := ⟨zT_1 (i := 179) (by decide +kernel) rfl, zT_1 (i := 6) (by decide +kernel) rfl, ⟨by decide +kernel, by decide +kernel, by decide +kernel⟩, by decide +kernel, by decide⟩
theorem iX3_init : Cond.instanceMethod yX3_init ∈ zTs := zT_1 (i := 178) (by decide +kernel) rfl
abbrev mX3_add : zMt := (yX3_add, cX3_add, 3, some .boolean)
theorem kX3_add : zmk mX3_add 2 := ⟨zT_5 (i := 56) (by decide +kernel) rfl, zT_1 (i := 6) (by decide +kernel) rfl, ⟨by decide +kernel, by decide +kernel, by decide +kernel⟩, by decide +kernel, by decide⟩
theorem iX3_add : Cond.instanceMethod yX3_add ∈ zTs := zT_5 (i := 54) (by decide +kernel) rfl
theorem eX3_add : Cond.selects yX3_add.cls yX3_add yX3_add ∈ zTs := zT_5 (i := 55) (by decide +kernel) rfl
abbrev mX3_setEqualities : zMt := (yX3_setEqualities, cX3_setEqualities, 2, none)
theorem kX3_setEqualities : zmk mX3_setEqualities 1 := ⟨zT_5 (i := 68) (by decide +kernel) rfl, zT_1 (i := 6) (by decide +kernel) rfl, ⟨by decide +kernel, by decide +kernel, by decide +kernel⟩, by decide +kernel, by decide⟩
theorem iX3_setEqualities : Cond.instanceMethod yX3_setEqualities ∈ zTs := zT_5 (i := 66) (by decide +kernel) rfl
theorem eX3_setEqualities : Cond.selects yX3_setEqualities.cls yX3_setEqualities yX3_setEqualities ∈ zTs := zT_5 (i := 67) (by decide +kernel) rfl
abbrev mX3_answerIn : zMt := (yX3_answerIn, cX3_answerIn, 5, some .int)
theorem kX3_answerIn : zmk mX3_answerIn 3 := ⟨zT_5 (i := 11) (by decide +kernel) rfl, zT_1 (i := 6) (by decide +kernel) rfl, ⟨by decide +kernel, by decide +kernel, by decide +kernel⟩, by decide +kernel, by decide⟩
theorem iX3_answerIn : Cond.instanceMethod yX3_answerIn ∈ zTs := zT_5 (i := 9) (by decide +kernel) rfl
theorem eX3_answerIn : Cond.selects yX3_answerIn.cls yX3_answerIn yX3_answerIn ∈ zTs := zT_5 (i := 10) (by decide +kernel) rfl
abbrev mX3_workAll : zMt := (yX3_workAll, cX3_workAll, 3, none)
theorem kX3_workAll : zmk mX3_workAll 1 := ⟨zT_5 (i := 7) (by decide +kernel) rfl, zT_1 (i := 6) (by decide +kernel) rfl, ⟨by decide +kernel, by decide +kernel, by decide +kernel⟩, by decide +kernel, by decide⟩
theorem iX3_workAll : Cond.instanceMethod yX3_workAll ∈ zTs := zT_5 (i := 5) (by decide +kernel) rfl
theorem eX3_workAll : Cond.selects yX3_workAll.cls yX3_workAll yX3_workAll ∈ zTs := zT_5 (i := 6) (by decide +kernel) rfl
abbrev mX3_areAlike : zMt := (yX3_areAlike, cX3_areAlike, 3, some .boolean)
theorem kX3_areAlike : zmk mX3_areAlike 2 := ⟨zT_5 (i := 115) (by decide +kernel) rfl, zT_1 (i := 6) (by decide +kernel) rfl, ⟨by decide +kernel, by decide +kernel, by decide +kernel⟩, by decide +kernel, by decide⟩
theorem iX3_areAlike : Cond.instanceMethod yX3_areAlike ∈ zTs := zT_5 (i := 113) (by decide +kernel) rfl
theorem eX3_areAlike : Cond.selects yX3_areAlike.cls yX3_areAlike yX3_areAlike ∈ zTs := zT_5 (i := 114) (by decide +kernel) rfl
abbrev mX3_allAlike : zMt := (yX3_allAlike, cX3_allAlike, 4, some .int)
theorem kX3_allAlike : zmk mX3_allAlike 1 := ⟨zT_6 (i := 11) (by decide +kernel) rfl, zT_1 (i := 6) (by decide +kernel) rfl, ⟨by decide +kernel, by decide +kernel, by decide +kernel⟩, by decide +kernel, by decide⟩
theorem iX3_allAlike : Cond.instanceMethod yX3_allAlike ∈ zTs := zT_6 (i := 9) (by decide +kernel) rfl
theorem eX3_allAlike : Cond.selects yX3_allAlike.cls yX3_allAlike yX3_allAlike ∈ zTs := zT_6 (i := 10) (by decide +kernel) rfl
abbrev mX3_sayAll : zMt := (yX3_sayAll, cX3_sayAll, 3, none)
theorem kX3_sayAll : zmk mX3_sayAll 0 := ⟨zT_4 (i := 134) (by decide +kernel) rfl, zT_1 (i := 6) (by decide +kernel) rfl, ⟨by decide +kernel, by decide +kernel, by decide +kernel⟩, by decide +kernel, by decide⟩
theorem iX3_sayAll : Cond.instanceMethod yX3_sayAll ∈ zTs := zT_4 (i := 132) (by decide +kernel) rfl
theorem eX3_sayAll : Cond.selects yX3_sayAll.cls yX3_sayAll yX3_sayAll ∈ zTs := zT_4 (i := 133) (by decide +kernel) rfl
abbrev mX3_areAlikeByAll : zMt := (yX3_areAlikeByAll, cX3_areAlikeByAll, 5, some .boolean)
theorem kX3_areAlikeByAll : zmk mX3_areAlikeByAll 2 := ⟨zT_5 (i := 171) (by decide +kernel) rfl, zT_1 (i := 6) (by decide +kernel) rfl, ⟨by decide +kernel, by decide +kernel, by decide +kernel⟩, by decide +kernel, by decide⟩
theorem iX3_areAlikeByAll : Cond.instanceMethod yX3_areAlikeByAll ∈ zTs := zT_5 (i := 169) (by decide +kernel) rfl
theorem eX3_areAlikeByAll : Cond.selects yX3_areAlikeByAll.cls yX3_areAlikeByAll yX3_areAlikeByAll ∈ zTs := zT_5 (i := 170) (by decide +kernel) rfl
abbrev mX4_readSum : zMt := (yX4_readSum, cX4_readSum, 9, some .int)
theorem kX4_readSum : zmk mX4_readSum 2 := ⟨zT_4 (i := 29) (by decide +kernel) rfl, zT_1 (i := 4) (by decide +kernel) rfl, ⟨by decide +kernel, by decide +kernel, by decide +kernel⟩, by decide +kernel, by decide⟩
theorem iX4_readSum : Cond.instanceMethod yX4_readSum ∈ zTs := zT_4 (i := 28) (by decide +kernel) rfl
theorem eX4_readSum : Cond.selects yX4_readSum.cls yX4_readSum yX4_readSum ∈ zTs := zT_of (i := 14) (by decide +kernel) rfl
abbrev mX4_readProduct : zMt := (yX4_readProduct, cX4_readProduct, 8, some .int)
theorem kX4_readProduct : zmk mX4_readProduct 2 := ⟨zT_4 (i := 33) (by decide +kernel) rfl, zT_1 (i := 4) (by decide +kernel) rfl, ⟨by decide +kernel, by decide +kernel, by decide +kernel⟩, by decide +kernel, by decide⟩
theorem iX4_readProduct : Cond.instanceMethod yX4_readProduct ∈ zTs := zT_4 (i := 32) (by decide +kernel) rfl
theorem eX4_readProduct : Cond.selects yX4_readProduct.cls yX4_readProduct yX4_readProduct ∈ zTs := zT_of (i := 15) (by decide +kernel) rfl
abbrev mX4_readOne : zMt := (yX4_readOne, cX4_readOne, 4, some .int)
theorem kX4_readOne : zmk mX4_readOne 2 := ⟨zT_4 (i := 37) (by decide +kernel) rfl, zT_1 (i := 4) (by decide +kernel) rfl, ⟨by decide +kernel, by decide +kernel, by decide +kernel⟩, by decide +kernel, by decide⟩
theorem iX4_readOne : Cond.instanceMethod yX4_readOne ∈ zTs := zT_4 (i := 36) (by decide +kernel) rfl
theorem eX4_readOne : Cond.selects yX4_readOne.cls yX4_readOne yX4_readOne ∈ zTs := zT_of (i := 16) (by decide +kernel) rfl
abbrev mX4_readLeaf : zMt := (yX4_readLeaf, cX4_readLeaf, 4, some .int)
theorem kX4_readLeaf : zmk mX4_readLeaf 1 := ⟨zT_4 (i := 41) (by decide +kernel) rfl, zT_1 (i := 4) (by decide +kernel) rfl, ⟨by decide +kernel, by decide +kernel, by decide +kernel⟩, by decide +kernel, by decide⟩
theorem iX4_readLeaf : Cond.instanceMethod yX4_readLeaf ∈ zTs := zT_4 (i := 40) (by decide +kernel) rfl
theorem eX4_readLeaf : Cond.selects yX4_readLeaf.cls yX4_readLeaf yX4_readLeaf ∈ zTs := zT_of (i := 17) (by decide +kernel) rfl
abbrev mX4_enter : zMt := (yX4_enter, cX4_enter, 3, some .boolean)
theorem kX4_enter : zmk mX4_enter 2 := ⟨zT_4 (i := 54) (by decide +kernel) rfl, zT_1 (i := 4) (by decide +kernel) rfl, ⟨by decide +kernel, by decide +kernel, by decide +kernel⟩, by decide +kernel, by decide⟩
theorem iX4_enter : Cond.instanceMethod yX4_enter ∈ zTs := zT_4 (i := 53) (by decide +kernel) rfl
theorem eX4_enter : Cond.selects yX4_enter.cls yX4_enter yX4_enter ∈ zTs := zT_of (i := 19) (by decide +kernel) rfl
abbrev mX4_readBracket : zMt := (yX4_readBracket, cX4_readBracket, 4, some .int)
theorem kX4_readBracket : zmk mX4_readBracket 2 := ⟨zT_4 (i := 50) (by decide +kernel) rfl, zT_1 (i := 4) (by decide +kernel) rfl, ⟨by decide +kernel, by decide +kernel, by decide +kernel⟩, by decide +kernel, by decide⟩
theorem iX4_readBracket : Cond.instanceMethod yX4_readBracket ∈ zTs := zT_4 (i := 49) (by decide +kernel) rfl
theorem eX4_readBracket : Cond.selects yX4_readBracket.cls yX4_readBracket yX4_readBracket ∈ zTs := zT_of (i := 18) (by decide +kernel) rfl
abbrev mX4_readWordOf : zMt := (yX4_readWordOf, cX4_readWordOf, 8, some .int)
theorem kX4_readWordOf : zmk mX4_readWordOf 2 := ⟨zT_4 (i := 62) (by decide +kernel) rfl, zT_1 (i := 4) (by decide +kernel) rfl, ⟨by decide +kernel, by decide +kernel, by decide +kernel⟩, by decide +kernel, by decide⟩
theorem iX4_readWordOf : Cond.instanceMethod yX4_readWordOf ∈ zTs := zT_4 (i := 61) (by decide +kernel) rfl
theorem eX4_readWordOf : Cond.selects yX4_readWordOf.cls yX4_readWordOf yX4_readWordOf ∈ zTs := zT_of (i := 21) (by decide +kernel) rfl
abbrev mX4_readIf : zMt := (yX4_readIf, cX4_readIf, 9, some .int)
theorem kX4_readIf : zmk mX4_readIf 2 := ⟨zT_4 (i := 70) (by decide +kernel) rfl, zT_1 (i := 4) (by decide +kernel) rfl, ⟨by decide +kernel, by decide +kernel, by decide +kernel⟩, by decide +kernel, by decide⟩
theorem iX4_readIf : Cond.instanceMethod yX4_readIf ∈ zTs := zT_4 (i := 69) (by decide +kernel) rfl
theorem eX4_readIf : Cond.selects yX4_readIf.cls yX4_readIf yX4_readIf ∈ zTs := zT_of (i := 22) (by decide +kernel) rfl
abbrev mX4_comparisonOf : zMt := (yX4_comparisonOf, cX4_comparisonOf, 1, some .int)
theorem kX4_comparisonOf : zmk mX4_comparisonOf 1 := ⟨zT_4 (i := 73) (by decide +kernel) rfl, zT_1 (i := 4) (by decide +kernel) rfl, ⟨by decide +kernel, by decide +kernel, by decide +kernel⟩, by decide +kernel, by decide⟩
theorem tX4_comparisonOf : Cond.static yX4_comparisonOf ∈ zTs := zT_4 (i := 72) (by decide +kernel) rfl
abbrev mX4_init : zMt := (yX4_init, cX4_init, 1, none)
theorem kX4_init : zmk mX4_init 0 := ⟨zT_1 (i := 101) (by decide +kernel) rfl, zT_1 (i := 4) (by decide +kernel) rfl, ⟨by decide +kernel, by decide +kernel, by decide +kernel⟩, by decide +kernel, by decide⟩
theorem iX4_init : Cond.instanceMethod yX4_init ∈ zTs := zT_1 (i := 100) (by decide +kernel) rfl
abbrev mX4_readScript : zMt := (yX4_readScript, cX4_readScript, 4, some .boolean)
theorem kX4_readScript : zmk mX4_readScript 1 := ⟨zT_3 (i := 86) (by decide +kernel) rfl, zT_1 (i := 4) (by decide +kernel) rfl, ⟨by decide +kernel, by decide +kernel, by decide +kernel⟩, by decide +kernel, by decide⟩
theorem iX4_readScript : Cond.instanceMethod yX4_readScript ∈ zTs := zT_3 (i := 84) (by decide +kernel) rfl
theorem eX4_readScript : Cond.selects yX4_readScript.cls yX4_readScript yX4_readScript ∈ zTs := zT_3 (i := 85) (by decide +kernel) rfl
abbrev mX4_fail : zMt := (yX4_fail, cX4_fail, 2, some .int)
theorem kX4_fail : zmk mX4_fail 1 := ⟨zT_4 (i := 12) (by decide +kernel) rfl, zT_1 (i := 4) (by decide +kernel) rfl, ⟨by decide +kernel, by decide +kernel, by decide +kernel⟩, by decide +kernel, by decide⟩
theorem iX4_fail : Cond.instanceMethod yX4_fail ∈ zTs := zT_4 (i := 11) (by decide +kernel) rfl
theorem eX4_fail : Cond.selects yX4_fail.cls yX4_fail yX4_fail ∈ zTs := zT_of (i := 11) (by decide +kernel) rfl
abbrev mX4_beginClause : zMt := (yX4_beginClause, cX4_beginClause, 2, some .boolean)
theorem kX4_beginClause : zmk mX4_beginClause 1 := ⟨zT_4 (i := 7) (by decide +kernel) rfl, zT_1 (i := 4) (by decide +kernel) rfl, ⟨by decide +kernel, by decide +kernel, by decide +kernel⟩, by decide +kernel, by decide⟩
theorem iX4_beginClause : Cond.instanceMethod yX4_beginClause ∈ zTs := zT_4 (i := 6) (by decide +kernel) rfl
theorem eX4_beginClause : Cond.selects yX4_beginClause.cls yX4_beginClause yX4_beginClause ∈ zTs := zT_of (i := 10) (by decide +kernel) rfl
abbrev mX4_readRest : zMt := (yX4_readRest, cX4_readRest, 3, some .boolean)
theorem kX4_readRest : zmk mX4_readRest 2 := ⟨zT_4 (i := 21) (by decide +kernel) rfl, zT_1 (i := 4) (by decide +kernel) rfl, ⟨by decide +kernel, by decide +kernel, by decide +kernel⟩, by decide +kernel, by decide⟩
theorem iX4_readRest : Cond.instanceMethod yX4_readRest ∈ zTs := zT_4 (i := 20) (by decide +kernel) rfl
theorem eX4_readRest : Cond.selects yX4_readRest.cls yX4_readRest yX4_readRest ∈ zTs := zT_of (i := 12) (by decide +kernel) rfl
abbrev mX4_expect : zMt := (yX4_expect, cX4_expect, 2, some .boolean)
theorem kX4_expect : zmk mX4_expect 1 := ⟨zT_4 (i := 58) (by decide +kernel) rfl, zT_1 (i := 4) (by decide +kernel) rfl, ⟨by decide +kernel, by decide +kernel, by decide +kernel⟩, by decide +kernel, by decide⟩
theorem iX4_expect : Cond.instanceMethod yX4_expect ∈ zTs := zT_4 (i := 57) (by decide +kernel) rfl
theorem eX4_expect : Cond.selects yX4_expect.cls yX4_expect yX4_expect ∈ zTs := zT_of (i := 20) (by decide +kernel) rfl
abbrev mX4_follow : zMt := (yX4_follow, cX4_follow, 4, some .boolean)
theorem kX4_follow : zmk mX4_follow 2 := ⟨zT_4 (i := 96) (by decide +kernel) rfl, zT_1 (i := 4) (by decide +kernel) rfl, ⟨by decide +kernel, by decide +kernel, by decide +kernel⟩, by decide +kernel, by decide⟩
theorem iX4_follow : Cond.instanceMethod yX4_follow ∈ zTs := zT_4 (i := 95) (by decide +kernel) rfl
theorem eX4_follow : Cond.selects yX4_follow.cls yX4_follow yX4_follow ∈ zTs := zT_of (i := 24) (by decide +kernel) rfl
abbrev mX4_readThing : zMt := (yX4_readThing, cX4_readThing, 2, some .boolean)
theorem kX4_readThing : zmk mX4_readThing 1 := ⟨zT_4 (i := 90) (by decide +kernel) rfl, zT_1 (i := 4) (by decide +kernel) rfl, ⟨by decide +kernel, by decide +kernel, by decide +kernel⟩, by decide +kernel, by decide⟩
theorem iX4_readThing : Cond.instanceMethod yX4_readThing ∈ zTs := zT_4 (i := 89) (by decide +kernel) rfl
theorem eX4_readThing : Cond.selects yX4_readThing.cls yX4_readThing yX4_readThing ∈ zTs := zT_of (i := 23) (by decide +kernel) rfl
abbrev mX4_readQuestion : zMt := (yX4_readQuestion, cX4_readQuestion, 4, some .boolean)
theorem kX4_readQuestion : zmk mX4_readQuestion 1 := ⟨zT_4 (i := 25) (by decide +kernel) rfl, zT_1 (i := 4) (by decide +kernel) rfl, ⟨by decide +kernel, by decide +kernel, by decide +kernel⟩, by decide +kernel, by decide⟩
theorem iX4_readQuestion : Cond.instanceMethod yX4_readQuestion ∈ zTs := zT_4 (i := 24) (by decide +kernel) rfl
theorem eX4_readQuestion : Cond.selects yX4_readQuestion.cls yX4_readQuestion yX4_readQuestion ∈ zTs := zT_of (i := 13) (by decide +kernel) rfl
abbrev mX5_init : zMt := (yX5_init, cX5_init, 1, none)
theorem kX5_init : zmk mX5_init 0 := ⟨zT_2 (i := 203) (by decide +kernel) rfl, zT_1 (i := 12) (by decide +kernel) rfl, ⟨by decide +kernel, by decide +kernel, by decide +kernel⟩, by decide +kernel, by decide⟩
theorem iX5_init : Cond.instanceMethod yX5_init ∈ zTs := zT_2 (i := 202) (by decide +kernel) rfl
abbrev mX5_rewind : zMt := (yX5_rewind, cX5_rewind, 1, none)
theorem kX5_rewind : zmk mX5_rewind 0 := ⟨zT_6 (i := 237) (by decide +kernel) rfl, zT_1 (i := 12) (by decide +kernel) rfl, ⟨by decide +kernel, by decide +kernel, by decide +kernel⟩, by decide +kernel, by decide⟩
theorem iX5_rewind : Cond.instanceMethod yX5_rewind ∈ zTs := zT_6 (i := 235) (by decide +kernel) rfl
theorem eX5_rewind : Cond.selects yX5_rewind.cls yX5_rewind yX5_rewind ∈ zTs := zT_6 (i := 236) (by decide +kernel) rfl
abbrev mX5_put : zMt := (yX5_put, cX5_put, 2, none)
theorem kX5_put : zmk mX5_put 1 := ⟨zT_7 (i := 1) (by decide +kernel) rfl, zT_1 (i := 12) (by decide +kernel) rfl, ⟨by decide +kernel, by decide +kernel, by decide +kernel⟩, by decide +kernel, by decide⟩
theorem iX5_put : Cond.instanceMethod yX5_put ∈ zTs := zT_6 (i := 239) (by decide +kernel) rfl
theorem eX5_put : Cond.selects yX5_put.cls yX5_put yX5_put ∈ zTs := zT_7 (i := 0) (by decide +kernel) rfl
abbrev mX5_take : zMt := (yX5_take, cX5_take, 1, some .int)
theorem kX5_take : zmk mX5_take 0 := ⟨zT_7 (i := 36) (by decide +kernel) rfl, zT_1 (i := 12) (by decide +kernel) rfl, ⟨by decide +kernel, by decide +kernel, by decide +kernel⟩, by decide +kernel, by decide⟩
theorem iX5_take : Cond.instanceMethod yX5_take ∈ zTs := zT_7 (i := 34) (by decide +kernel) rfl
theorem eX5_take : Cond.selects yX5_take.cls yX5_take yX5_take ∈ zTs := zT_7 (i := 35) (by decide +kernel) rfl
abbrev mX5_putAll : zMt := (yX5_putAll, cX5_putAll, 3, none)
theorem kX5_putAll : zmk mX5_putAll 1 := ⟨zT_7 (i := 9) (by decide +kernel) rfl, zT_1 (i := 12) (by decide +kernel) rfl, ⟨by decide +kernel, by decide +kernel, by decide +kernel⟩, by decide +kernel, by decide⟩
theorem iX5_putAll : Cond.instanceMethod yX5_putAll ∈ zTs := zT_7 (i := 7) (by decide +kernel) rfl
theorem eX5_putAll : Cond.selects yX5_putAll.cls yX5_putAll yX5_putAll ∈ zTs := zT_7 (i := 8) (by decide +kernel) rfl
abbrev mX5_takeAll : zMt := (yX5_takeAll, cX5_takeAll, 3, none)
theorem kX5_takeAll : zmk mX5_takeAll 1 := ⟨zT_7 (i := 44) (by decide +kernel) rfl, zT_1 (i := 12) (by decide +kernel) rfl, ⟨by decide +kernel, by decide +kernel, by decide +kernel⟩, by decide +kernel, by decide⟩
theorem iX5_takeAll : Cond.instanceMethod yX5_takeAll ∈ zTs := zT_7 (i := 42) (by decide +kernel) rfl
theorem eX5_takeAll : Cond.selects yX5_takeAll.cls yX5_takeAll yX5_takeAll ∈ zTs := zT_7 (i := 43) (by decide +kernel) rfl
abbrev mX6_whoHasNotAsked : zMt := (yX6_whoHasNotAsked, cX6_whoHasNotAsked, 3, some .int)
theorem kX6_whoHasNotAsked : zmk mX6_whoHasNotAsked 0 := ⟨zT_5 (i := 127) (by decide +kernel) rfl, zT_1 (i := 8) (by decide +kernel) rfl, ⟨by decide +kernel, by decide +kernel, by decide +kernel⟩, by decide +kernel, by decide⟩
theorem iX6_whoHasNotAsked : Cond.instanceMethod yX6_whoHasNotAsked ∈ zTs := zT_5 (i := 126) (by decide +kernel) rfl
theorem eX6_whoHasNotAsked : Cond.selects yX6_whoHasNotAsked.cls yX6_whoHasNotAsked yX6_whoHasNotAsked ∈ zTs := zT_of (i := 49) (by decide +kernel) rfl
abbrev mX6_youngest : zMt := (yX6_youngest, cX6_youngest, 4, some .int)
theorem kX6_youngest : zmk mX6_youngest 1 := ⟨zT_5 (i := 131) (by decide +kernel) rfl, zT_1 (i := 8) (by decide +kernel) rfl, ⟨by decide +kernel, by decide +kernel, by decide +kernel⟩, by decide +kernel, by decide⟩
theorem iX6_youngest : Cond.instanceMethod yX6_youngest ∈ zTs := zT_5 (i := 130) (by decide +kernel) rfl
theorem eX6_youngest : Cond.selects yX6_youngest.cls yX6_youngest yX6_youngest ∈ zTs := zT_of (i := 50) (by decide +kernel) rfl
abbrev mX6_drawn : zMt := (yX6_drawn, cX6_drawn, 5, some .int)
theorem kX6_drawn : zmk mX6_drawn 2 := ⟨zT_5 (i := 135) (by decide +kernel) rfl, zT_1 (i := 8) (by decide +kernel) rfl, ⟨by decide +kernel, by decide +kernel, by decide +kernel⟩, by decide +kernel, by decide⟩
theorem iX6_drawn : Cond.instanceMethod yX6_drawn ∈ zTs := zT_5 (i := 134) (by decide +kernel) rfl
theorem eX6_drawn : Cond.selects yX6_drawn.cls yX6_drawn yX6_drawn ∈ zTs := zT_of (i := 51) (by decide +kernel) rfl
abbrev mX6_holdMorning : zMt := (yX6_holdMorning, cX6_holdMorning, 9, some .int)
theorem kX6_holdMorning : zmk mX6_holdMorning 2 := ⟨zT_5 (i := 123) (by decide +kernel) rfl, zT_1 (i := 8) (by decide +kernel) rfl, ⟨by decide +kernel, by decide +kernel, by decide +kernel⟩, by decide +kernel, by decide⟩
theorem iX6_holdMorning : Cond.instanceMethod yX6_holdMorning ∈ zTs := zT_5 (i := 121) (by decide +kernel) rfl
theorem eX6_holdMorning : Cond.selects yX6_holdMorning.cls yX6_holdMorning yX6_holdMorning ∈ zTs := zT_5 (i := 122) (by decide +kernel) rfl
abbrev mX6_firstPassedOver : zMt := (yX6_firstPassedOver, cX6_firstPassedOver, 8, some .int)
theorem kX6_firstPassedOver : zmk mX6_firstPassedOver 1 := ⟨zT_5 (i := 222) (by decide +kernel) rfl, zT_1 (i := 8) (by decide +kernel) rfl, ⟨by decide +kernel, by decide +kernel, by decide +kernel⟩, by decide +kernel, by decide⟩
theorem iX6_firstPassedOver : Cond.instanceMethod yX6_firstPassedOver ∈ zTs := zT_5 (i := 220) (by decide +kernel) rfl
theorem eX6_firstPassedOver : Cond.selects yX6_firstPassedOver.cls yX6_firstPassedOver yX6_firstPassedOver ∈ zTs := zT_5 (i := 221) (by decide +kernel) rfl
abbrev mX6_save : zMt := (yX6_save, cX6_save, 2, none)
theorem kX6_save : zmk mX6_save 1 := ⟨zT_7 (i := 20) (by decide +kernel) rfl, zT_1 (i := 8) (by decide +kernel) rfl, ⟨by decide +kernel, by decide +kernel, by decide +kernel⟩, by decide +kernel, by decide⟩
theorem iX6_save : Cond.instanceMethod yX6_save ∈ zTs := zT_7 (i := 18) (by decide +kernel) rfl
theorem eX6_save : Cond.selects yX6_save.cls yX6_save yX6_save ∈ zTs := zT_7 (i := 19) (by decide +kernel) rfl
abbrev mX6_restore : zMt := (yX6_restore, cX6_restore, 2, none)
theorem kX6_restore : zmk mX6_restore 1 := ⟨zT_7 (i := 58) (by decide +kernel) rfl, zT_1 (i := 8) (by decide +kernel) rfl, ⟨by decide +kernel, by decide +kernel, by decide +kernel⟩, by decide +kernel, by decide⟩
theorem iX6_restore : Cond.instanceMethod yX6_restore ∈ zTs := zT_7 (i := 56) (by decide +kernel) rfl
theorem eX6_restore : Cond.selects yX6_restore.cls yX6_restore yX6_restore ∈ zTs := zT_7 (i := 57) (by decide +kernel) rfl
abbrev mX6_init : zMt := (yX6_init, cX6_init, 1, none)
theorem kX6_init : zmk mX6_init 0 := ⟨zT_2 (i := 55) (by decide +kernel) rfl, zT_1 (i := 8) (by decide +kernel) rfl, ⟨by decide +kernel, by decide +kernel, by decide +kernel⟩, by decide +kernel, by decide⟩
theorem iX6_init : Cond.instanceMethod yX6_init ∈ zTs := zT_2 (i := 54) (by decide +kernel) rfl
abbrev mX6_addPupil : zMt := (yX6_addPupil, cX6_addPupil, 6, some .int)
theorem kX6_addPupil : zmk mX6_addPupil 5 := ⟨zT_5 (i := 76) (by decide +kernel) rfl, zT_1 (i := 8) (by decide +kernel) rfl, ⟨by decide +kernel, by decide +kernel, by decide +kernel⟩, by decide +kernel, by decide⟩
theorem iX6_addPupil : Cond.instanceMethod yX6_addPupil ∈ zTs := zT_5 (i := 74) (by decide +kernel) rfl
theorem eX6_addPupil : Cond.selects yX6_addPupil.cls yX6_addPupil yX6_addPupil ∈ zTs := zT_5 (i := 75) (by decide +kernel) rfl
abbrev mX6_lacking : zMt := (yX6_lacking, cX6_lacking, 5, some .int)
theorem kX6_lacking : zmk mX6_lacking 3 := ⟨zT_5 (i := 104) (by decide +kernel) rfl, zT_1 (i := 8) (by decide +kernel) rfl, ⟨by decide +kernel, by decide +kernel, by decide +kernel⟩, by decide +kernel, by decide⟩
theorem iX6_lacking : Cond.instanceMethod yX6_lacking ∈ zTs := zT_5 (i := 102) (by decide +kernel) rfl
theorem eX6_lacking : Cond.selects yX6_lacking.cls yX6_lacking yX6_lacking ∈ zTs := zT_5 (i := 103) (by decide +kernel) rfl
abbrev mX6_hasAsked : zMt := (yX6_hasAsked, cX6_hasAsked, 3, some .boolean)
theorem kX6_hasAsked : zmk mX6_hasAsked 1 := ⟨zT_5 (i := 100) (by decide +kernel) rfl, zT_1 (i := 8) (by decide +kernel) rfl, ⟨by decide +kernel, by decide +kernel, by decide +kernel⟩, by decide +kernel, by decide⟩
theorem iX6_hasAsked : Cond.instanceMethod yX6_hasAsked ∈ zTs := zT_5 (i := 99) (by decide +kernel) rfl
theorem eX6_hasAsked : Cond.selects yX6_hasAsked.cls yX6_hasAsked yX6_hasAsked ∈ zTs := zT_of (i := 48) (by decide +kernel) rfl
abbrev mX6_barring : zMt := (yX6_barring, cX6_barring, 6, some .int)
theorem kX6_barring : zmk mX6_barring 2 := ⟨zT_5 (i := 111) (by decide +kernel) rfl, zT_1 (i := 8) (by decide +kernel) rfl, ⟨by decide +kernel, by decide +kernel, by decide +kernel⟩, by decide +kernel, by decide⟩
theorem iX6_barring : Cond.instanceMethod yX6_barring ∈ zTs := zT_5 (i := 109) (by decide +kernel) rfl
theorem eX6_barring : Cond.selects yX6_barring.cls yX6_barring yX6_barring ∈ zTs := zT_5 (i := 110) (by decide +kernel) rfl
abbrev mX6_hindrance : zMt := (yX6_hindrance, cX6_hindrance, 4, some .int)
theorem kX6_hindrance : zmk mX6_hindrance 3 := ⟨zT_5 (i := 96) (by decide +kernel) rfl, zT_1 (i := 8) (by decide +kernel) rfl, ⟨by decide +kernel, by decide +kernel, by decide +kernel⟩, by decide +kernel, by decide⟩
theorem iX6_hindrance : Cond.instanceMethod yX6_hindrance ∈ zTs := zT_5 (i := 94) (by decide +kernel) rfl
theorem eX6_hindrance : Cond.selects yX6_hindrance.cls yX6_hindrance yX6_hindrance ∈ zTs := zT_5 (i := 95) (by decide +kernel) rfl
abbrev mX6_addStep : zMt := (yX6_addStep, cX6_addStep, 3, none)
theorem kX6_addStep : zmk mX6_addStep 2 := ⟨zT_5 (i := 119) (by decide +kernel) rfl, zT_1 (i := 8) (by decide +kernel) rfl, ⟨by decide +kernel, by decide +kernel, by decide +kernel⟩, by decide +kernel, by decide⟩
theorem iX6_addStep : Cond.instanceMethod yX6_addStep ∈ zTs := zT_5 (i := 117) (by decide +kernel) rfl
theorem eX6_addStep : Cond.selects yX6_addStep.cls yX6_addStep yX6_addStep ∈ zTs := zT_5 (i := 118) (by decide +kernel) rfl
abbrev mX6_lowestNow : zMt := (yX6_lowestNow, cX6_lowestNow, 4, some .int)
theorem kX6_lowestNow : zmk mX6_lowestNow 2 := ⟨zT_5 (i := 149) (by decide +kernel) rfl, zT_1 (i := 8) (by decide +kernel) rfl, ⟨by decide +kernel, by decide +kernel, by decide +kernel⟩, by decide +kernel, by decide⟩
theorem iX6_lowestNow : Cond.instanceMethod yX6_lowestNow ∈ zTs := zT_5 (i := 148) (by decide +kernel) rfl
theorem eX6_lowestNow : Cond.selects yX6_lowestNow.cls yX6_lowestNow yX6_lowestNow ∈ zTs := zT_of (i := 52) (by decide +kernel) rfl
abbrev mX6_shortestNow : zMt := (yX6_shortestNow, cX6_shortestNow, 6, some .int)
theorem kX6_shortestNow : zmk mX6_shortestNow 2 := ⟨zT_5 (i := 238) (by decide +kernel) rfl, zT_1 (i := 8) (by decide +kernel) rfl, ⟨by decide +kernel, by decide +kernel, by decide +kernel⟩, by decide +kernel, by decide⟩
theorem iX6_shortestNow : Cond.instanceMethod yX6_shortestNow ∈ zTs := zT_5 (i := 236) (by decide +kernel) rfl
theorem eX6_shortestNow : Cond.selects yX6_shortestNow.cls yX6_shortestNow yX6_shortestNow ∈ zTs := zT_5 (i := 237) (by decide +kernel) rfl
abbrev mX7_init : zMt := (yX7_init, cX7_init, 1, none)
theorem kX7_init : zmk mX7_init 0 := ⟨zT_2 (i := 215) (by decide +kernel) rfl, zT_1 (i := 13) (by decide +kernel) rfl, ⟨by decide +kernel, by decide +kernel, by decide +kernel⟩, by decide +kernel, by decide⟩
theorem iX7_init : Cond.instanceMethod yX7_init ∈ zTs := zT_2 (i := 214) (by decide +kernel) rfl
abbrev mX7_empty : zMt := (yX7_empty, cX7_empty, 1, none)
theorem kX7_empty : zmk mX7_empty 0 := ⟨zT_3 (i := 90) (by decide +kernel) rfl, zT_1 (i := 13) (by decide +kernel) rfl, ⟨by decide +kernel, by decide +kernel, by decide +kernel⟩, by decide +kernel, by decide⟩
theorem iX7_empty : Cond.instanceMethod yX7_empty ∈ zTs := zT_3 (i := 88) (by decide +kernel) rfl
theorem eX7_empty : Cond.selects yX7_empty.cls yX7_empty yX7_empty ∈ zTs := zT_3 (i := 89) (by decide +kernel) rfl
abbrev mX7_beginClause : zMt := (yX7_beginClause, cX7_beginClause, 3, none)
theorem kX7_beginClause : zmk mX7_beginClause 1 := ⟨zT_4 (i := 16) (by decide +kernel) rfl, zT_1 (i := 13) (by decide +kernel) rfl, ⟨by decide +kernel, by decide +kernel, by decide +kernel⟩, by decide +kernel, by decide⟩
theorem iX7_beginClause : Cond.instanceMethod yX7_beginClause ∈ zTs := zT_4 (i := 14) (by decide +kernel) rfl
theorem eX7_beginClause : Cond.selects yX7_beginClause.cls yX7_beginClause yX7_beginClause ∈ zTs := zT_4 (i := 15) (by decide +kernel) rfl
abbrev mX7_give : zMt := (yX7_give, cX7_give, 2, none)
theorem kX7_give : zmk mX7_give 1 := ⟨zT_4 (i := 86) (by decide +kernel) rfl, zT_1 (i := 13) (by decide +kernel) rfl, ⟨by decide +kernel, by decide +kernel, by decide +kernel⟩, by decide +kernel, by decide⟩
theorem iX7_give : Cond.instanceMethod yX7_give ∈ zTs := zT_4 (i := 84) (by decide +kernel) rfl
theorem eX7_give : Cond.selects yX7_give.cls yX7_give yX7_give ∈ zTs := zT_4 (i := 85) (by decide +kernel) rfl
abbrev mX7_sortOf : zMt := (yX7_sortOf, cX7_sortOf, 2, some .int)
theorem kX7_sortOf : zmk mX7_sortOf 1 := ⟨zT_4 (i := 125) (by decide +kernel) rfl, zT_1 (i := 13) (by decide +kernel) rfl, ⟨by decide +kernel, by decide +kernel, by decide +kernel⟩, by decide +kernel, by decide⟩
theorem iX7_sortOf : Cond.instanceMethod yX7_sortOf ∈ zTs := zT_4 (i := 123) (by decide +kernel) rfl
theorem eX7_sortOf : Cond.selects yX7_sortOf.cls yX7_sortOf yX7_sortOf ∈ zTs := zT_4 (i := 124) (by decide +kernel) rfl
abbrev mX7_partOf : zMt := (yX7_partOf, cX7_partOf, 4, some .int)
theorem kX7_partOf : zmk mX7_partOf 2 := ⟨zT_5 (i := 52) (by decide +kernel) rfl, zT_1 (i := 13) (by decide +kernel) rfl, ⟨by decide +kernel, by decide +kernel, by decide +kernel⟩, by decide +kernel, by decide⟩
theorem iX7_partOf : Cond.instanceMethod yX7_partOf ∈ zTs := zT_5 (i := 50) (by decide +kernel) rfl
theorem eX7_partOf : Cond.selects yX7_partOf.cls yX7_partOf yX7_partOf ∈ zTs := zT_5 (i := 51) (by decide +kernel) rfl
abbrev mX8_takeNumber : zMt := (yX8_takeNumber, cX8_takeNumber, 4, some .int)
theorem kX8_takeNumber : zmk mX8_takeNumber 1 := ⟨zT_3 (i := 109) (by decide +kernel) rfl, zT_1 (i := 5) (by decide +kernel) rfl, ⟨by decide +kernel, by decide +kernel, by decide +kernel⟩, by decide +kernel, by decide⟩
theorem iX8_takeNumber : Cond.instanceMethod yX8_takeNumber ∈ zTs := zT_3 (i := 108) (by decide +kernel) rfl
theorem eX8_takeNumber : Cond.selects yX8_takeNumber.cls yX8_takeNumber yX8_takeNumber ∈ zTs := zT_of (i := 5) (by decide +kernel) rfl
abbrev mX8_takeLetters : zMt := (yX8_takeLetters, cX8_takeLetters, 3, some .int)
theorem kX8_takeLetters : zmk mX8_takeLetters 1 := ⟨zT_3 (i := 124) (by decide +kernel) rfl, zT_1 (i := 5) (by decide +kernel) rfl, ⟨by decide +kernel, by decide +kernel, by decide +kernel⟩, by decide +kernel, by decide⟩
theorem iX8_takeLetters : Cond.instanceMethod yX8_takeLetters ∈ zTs := zT_3 (i := 123) (by decide +kernel) rfl
theorem eX8_takeLetters : Cond.selects yX8_takeLetters.cls yX8_takeLetters yX8_takeLetters ∈ zTs := zT_of (i := 7) (by decide +kernel) rfl
abbrev mX8_sortOfLetters : zMt := (yX8_sortOfLetters, cX8_sortOfLetters, 7, some .int)
theorem kX8_sortOfLetters : zmk mX8_sortOfLetters 2 := ⟨zT_3 (i := 128) (by decide +kernel) rfl, zT_1 (i := 5) (by decide +kernel) rfl, ⟨by decide +kernel, by decide +kernel, by decide +kernel⟩, by decide +kernel, by decide⟩
theorem iX8_sortOfLetters : Cond.instanceMethod yX8_sortOfLetters ∈ zTs := zT_3 (i := 127) (by decide +kernel) rfl
theorem eX8_sortOfLetters : Cond.selects yX8_sortOfLetters.cls yX8_sortOfLetters yX8_sortOfLetters ∈ zTs := zT_of (i := 8) (by decide +kernel) rfl
abbrev mX8_takeSign : zMt := (yX8_takeSign, cX8_takeSign, 4, some .int)
theorem kX8_takeSign : zmk mX8_takeSign 1 := ⟨zT_3 (i := 181) (by decide +kernel) rfl, zT_1 (i := 5) (by decide +kernel) rfl, ⟨by decide +kernel, by decide +kernel, by decide +kernel⟩, by decide +kernel, by decide⟩
theorem iX8_takeSign : Cond.instanceMethod yX8_takeSign ∈ zTs := zT_3 (i := 180) (by decide +kernel) rfl
theorem eX8_takeSign : Cond.selects yX8_takeSign.cls yX8_takeSign yX8_takeSign ∈ zTs := zT_of (i := 9) (by decide +kernel) rfl
abbrev mX8_init : zMt := (yX8_init, cX8_init, 1, none)
theorem kX8_init : zmk mX8_init 0 := ⟨zT_1 (i := 107) (by decide +kernel) rfl, zT_1 (i := 5) (by decide +kernel) rfl, ⟨by decide +kernel, by decide +kernel, by decide +kernel⟩, by decide +kernel, by decide⟩
theorem iX8_init : Cond.instanceMethod yX8_init ∈ zTs := zT_1 (i := 106) (by decide +kernel) rfl
abbrev mX8_addWord : zMt := (yX8_addWord, cX8_addWord, 3, none)
theorem kX8_addWord : zmk mX8_addWord 1 := ⟨zT_3 (i := 74) (by decide +kernel) rfl, zT_1 (i := 5) (by decide +kernel) rfl, ⟨by decide +kernel, by decide +kernel, by decide +kernel⟩, by decide +kernel, by decide⟩
theorem iX8_addWord : Cond.instanceMethod yX8_addWord ∈ zTs := zT_3 (i := 72) (by decide +kernel) rfl
theorem eX8_addWord : Cond.selects yX8_addWord.cls yX8_addWord yX8_addWord ∈ zTs := zT_3 (i := 73) (by decide +kernel) rfl
abbrev mX8_split : zMt := (yX8_split, cX8_split, 4, none)
theorem kX8_split : zmk mX8_split 0 := ⟨zT_3 (i := 94) (by decide +kernel) rfl, zT_1 (i := 5) (by decide +kernel) rfl, ⟨by decide +kernel, by decide +kernel, by decide +kernel⟩, by decide +kernel, by decide⟩
theorem iX8_split : Cond.instanceMethod yX8_split ∈ zTs := zT_3 (i := 92) (by decide +kernel) rfl
theorem eX8_split : Cond.selects yX8_split.cls yX8_split yX8_split ∈ zTs := zT_3 (i := 93) (by decide +kernel) rfl
abbrev mX8_advance : zMt := (yX8_advance, cX8_advance, 1, none)
theorem kX8_advance : zmk mX8_advance 0 := ⟨zT_4 (i := 3) (by decide +kernel) rfl, zT_1 (i := 5) (by decide +kernel) rfl, ⟨by decide +kernel, by decide +kernel, by decide +kernel⟩, by decide +kernel, by decide⟩
theorem iX8_advance : Cond.instanceMethod yX8_advance ∈ zTs := zT_4 (i := 1) (by decide +kernel) rfl
theorem eX8_advance : Cond.selects yX8_advance.cls yX8_advance yX8_advance ∈ zTs := zT_4 (i := 2) (by decide +kernel) rfl
abbrev mX8_addToken : zMt := (yX8_addToken, cX8_addToken, 4, none)
theorem kX8_addToken : zmk mX8_addToken 3 := ⟨zT_3 (i := 117) (by decide +kernel) rfl, zT_1 (i := 5) (by decide +kernel) rfl, ⟨by decide +kernel, by decide +kernel, by decide +kernel⟩, by decide +kernel, by decide⟩
theorem iX8_addToken : Cond.instanceMethod yX8_addToken ∈ zTs := zT_3 (i := 116) (by decide +kernel) rfl
theorem eX8_addToken : Cond.selects yX8_addToken.cls yX8_addToken yX8_addToken ∈ zTs := zT_of (i := 6) (by decide +kernel) rfl
abbrev mX8_byteAt : zMt := (yX8_byteAt, cX8_byteAt, 2, some .int)
theorem kX8_byteAt : zmk mX8_byteAt 1 := ⟨zT_3 (i := 98) (by decide +kernel) rfl, zT_1 (i := 5) (by decide +kernel) rfl, ⟨by decide +kernel, by decide +kernel, by decide +kernel⟩, by decide +kernel, by decide⟩
theorem iX8_byteAt : Cond.instanceMethod yX8_byteAt ∈ zTs := zT_3 (i := 97) (by decide +kernel) rfl
theorem eX8_byteAt : Cond.selects yX8_byteAt.cls yX8_byteAt yX8_byteAt ∈ zTs := zT_of (i := 3) (by decide +kernel) rfl
abbrev mX8_isDigit : zMt := (yX8_isDigit, cX8_isDigit, 1, some .boolean)
theorem kX8_isDigit : zmk mX8_isDigit 1 := ⟨zT_3 (i := 105) (by decide +kernel) rfl, zT_1 (i := 5) (by decide +kernel) rfl, ⟨by decide +kernel, by decide +kernel, by decide +kernel⟩, by decide +kernel, by decide⟩
theorem tX8_isDigit : Cond.static yX8_isDigit ∈ zTs := zT_3 (i := 104) (by decide +kernel) rfl
abbrev mX8_isLetter : zMt := (yX8_isLetter, cX8_isLetter, 1, some .boolean)
theorem kX8_isLetter : zmk mX8_isLetter 1 := ⟨zT_3 (i := 120) (by decide +kernel) rfl, zT_1 (i := 5) (by decide +kernel) rfl, ⟨by decide +kernel, by decide +kernel, by decide +kernel⟩, by decide +kernel, by decide⟩
theorem tX8_isLetter : Cond.static yX8_isLetter ∈ zTs := zT_3 (i := 119) (by decide +kernel) rfl
abbrev mX8_takeToken : zMt := (yX8_takeToken, cX8_takeToken, 3, some .int)
theorem kX8_takeToken : zmk mX8_takeToken 1 := ⟨zT_3 (i := 102) (by decide +kernel) rfl, zT_1 (i := 5) (by decide +kernel) rfl, ⟨by decide +kernel, by decide +kernel, by decide +kernel⟩, by decide +kernel, by decide⟩
theorem iX8_takeToken : Cond.instanceMethod yX8_takeToken ∈ zTs := zT_3 (i := 101) (by decide +kernel) rfl
theorem eX8_takeToken : Cond.selects yX8_takeToken.cls yX8_takeToken yX8_takeToken ∈ zTs := zT_of (i := 4) (by decide +kernel) rfl
abbrev mX9_rarestOf : zMt := (yX9_rarestOf, cX9_rarestOf, 9, some .int)
theorem kX9_rarestOf : zmk mX9_rarestOf 4 := ⟨zT_6 (i := 150) (by decide +kernel) rfl, zT_1 (i := 10) (by decide +kernel) rfl, ⟨by decide +kernel, by decide +kernel, by decide +kernel⟩, by decide +kernel, by decide⟩
theorem iX9_rarestOf : Cond.instanceMethod yX9_rarestOf ∈ zTs := zT_6 (i := 148) (by decide +kernel) rfl
theorem eX9_rarestOf : Cond.selects yX9_rarestOf.cls yX9_rarestOf yX9_rarestOf ∈ zTs := zT_6 (i := 149) (by decide +kernel) rfl
abbrev mX9_longestOf : zMt := (yX9_longestOf, cX9_longestOf, 10, some .int)
theorem kX9_longestOf : zmk mX9_longestOf 5 := ⟨zT_6 (i := 159) (by decide +kernel) rfl, zT_1 (i := 10) (by decide +kernel) rfl, ⟨by decide +kernel, by decide +kernel, by decide +kernel⟩, by decide +kernel, by decide⟩
theorem iX9_longestOf : Cond.instanceMethod yX9_longestOf ∈ zTs := zT_6 (i := 157) (by decide +kernel) rfl
theorem eX9_longestOf : Cond.selects yX9_longestOf.cls yX9_longestOf yX9_longestOf ∈ zTs := zT_6 (i := 158) (by decide +kernel) rfl
abbrev mX9_signAt : zMt := (yX9_signAt, cX9_signAt, 5, some .int)
theorem kX9_signAt : zmk mX9_signAt 4 := ⟨zT_6 (i := 119) (by decide +kernel) rfl, zT_1 (i := 10) (by decide +kernel) rfl, ⟨by decide +kernel, by decide +kernel, by decide +kernel⟩, by decide +kernel, by decide⟩
theorem iX9_signAt : Cond.instanceMethod yX9_signAt ∈ zTs := zT_6 (i := 117) (by decide +kernel) rfl
theorem eX9_signAt : Cond.selects yX9_signAt.cls yX9_signAt yX9_signAt ∈ zTs := zT_6 (i := 118) (by decide +kernel) rfl
abbrev mX9_put : zMt := (yX9_put, cX9_put, 3, none)
theorem kX9_put : zmk mX9_put 2 := ⟨zT_6 (i := 131) (by decide +kernel) rfl, zT_1 (i := 10) (by decide +kernel) rfl, ⟨by decide +kernel, by decide +kernel, by decide +kernel⟩, by decide +kernel, by decide⟩
theorem iX9_put : Cond.instanceMethod yX9_put ∈ zTs := zT_6 (i := 130) (by decide +kernel) rfl
theorem eX9_put : Cond.selects yX9_put.cls yX9_put yX9_put ∈ zTs := zT_of (i := 66) (by decide +kernel) rfl
abbrev mX9_write : zMt := (yX9_write, cX9_write, 9, some .int)
theorem kX9_write : zmk mX9_write 4 := ⟨zT_6 (i := 123) (by decide +kernel) rfl, zT_1 (i := 10) (by decide +kernel) rfl, ⟨by decide +kernel, by decide +kernel, by decide +kernel⟩, by decide +kernel, by decide⟩
theorem iX9_write : Cond.instanceMethod yX9_write ∈ zTs := zT_6 (i := 122) (by decide +kernel) rfl
theorem eX9_write : Cond.selects yX9_write.cls yX9_write yX9_write ∈ zTs := zT_of (i := 64) (by decide +kernel) rfl
abbrev mX9_leafOf : zMt := (yX9_leafOf, cX9_leafOf, 4, some .int)
theorem kX9_leafOf : zmk mX9_leafOf 2 := ⟨zT_6 (i := 127) (by decide +kernel) rfl, zT_1 (i := 10) (by decide +kernel) rfl, ⟨by decide +kernel, by decide +kernel, by decide +kernel⟩, by decide +kernel, by decide⟩
theorem iX9_leafOf : Cond.instanceMethod yX9_leafOf ∈ zTs := zT_6 (i := 126) (by decide +kernel) rfl
theorem eX9_leafOf : Cond.selects yX9_leafOf.cls yX9_leafOf yX9_leafOf ∈ zTs := zT_of (i := 65) (by decide +kernel) rfl
abbrev mX9_partnerOf : zMt := (yX9_partnerOf, cX9_partnerOf, 7, some .int)
theorem kX9_partnerOf : zmk mX9_partnerOf 5 := ⟨zT_6 (i := 135) (by decide +kernel) rfl, zT_1 (i := 10) (by decide +kernel) rfl, ⟨by decide +kernel, by decide +kernel, by decide +kernel⟩, by decide +kernel, by decide⟩
theorem iX9_partnerOf : Cond.instanceMethod yX9_partnerOf ∈ zTs := zT_6 (i := 134) (by decide +kernel) rfl
theorem eX9_partnerOf : Cond.selects yX9_partnerOf.cls yX9_partnerOf yX9_partnerOf ∈ zTs := zT_of (i := 67) (by decide +kernel) rfl
abbrev mX9_leastOf : zMt := (yX9_leastOf, cX9_leastOf, 4, some .int)
theorem kX9_leastOf : zmk mX9_leastOf 2 := ⟨zT_6 (i := 139) (by decide +kernel) rfl, zT_1 (i := 10) (by decide +kernel) rfl, ⟨by decide +kernel, by decide +kernel, by decide +kernel⟩, by decide +kernel, by decide⟩
theorem iX9_leastOf : Cond.instanceMethod yX9_leastOf ∈ zTs := zT_6 (i := 138) (by decide +kernel) rfl
theorem eX9_leastOf : Cond.selects yX9_leastOf.cls yX9_leastOf yX9_leastOf ∈ zTs := zT_of (i := 68) (by decide +kernel) rfl
abbrev mX9_init : zMt := (yX9_init, cX9_init, 1, none)
theorem kX9_init : zmk mX9_init 0 := ⟨zT_2 (i := 130) (by decide +kernel) rfl, zT_1 (i := 10) (by decide +kernel) rfl, ⟨by decide +kernel, by decide +kernel, by decide +kernel⟩, by decide +kernel, by decide⟩
theorem iX9_init : Cond.instanceMethod yX9_init ∈ zTs := zT_2 (i := 129) (by decide +kernel) rfl
abbrev mX9_prepare : zMt := (yX9_prepare, cX9_prepare, 6, none)
theorem kX9_prepare : zmk mX9_prepare 3 := ⟨zT_6 (i := 75) (by decide +kernel) rfl, zT_1 (i := 10) (by decide +kernel) rfl, ⟨by decide +kernel, by decide +kernel, by decide +kernel⟩, by decide +kernel, by decide⟩
theorem iX9_prepare : Cond.instanceMethod yX9_prepare ∈ zTs := zT_6 (i := 73) (by decide +kernel) rfl
theorem eX9_prepare : Cond.selects yX9_prepare.cls yX9_prepare yX9_prepare ∈ zTs := zT_6 (i := 74) (by decide +kernel) rfl
abbrev mX9_placeOf : zMt := (yX9_placeOf, cX9_placeOf, 3, some .int)
theorem kX9_placeOf : zmk mX9_placeOf 3 := ⟨zT_6 (i := 83) (by decide +kernel) rfl, zT_1 (i := 10) (by decide +kernel) rfl, ⟨by decide +kernel, by decide +kernel, by decide +kernel⟩, by decide +kernel, by decide⟩
theorem tX9_placeOf : Cond.static yX9_placeOf ∈ zTs := zT_6 (i := 82) (by decide +kernel) rfl
abbrev mX9_clear : zMt := (yX9_clear, cX9_clear, 5, none)
theorem kX9_clear : zmk mX9_clear 2 := ⟨zT_6 (i := 80) (by decide +kernel) rfl, zT_1 (i := 10) (by decide +kernel) rfl, ⟨by decide +kernel, by decide +kernel, by decide +kernel⟩, by decide +kernel, by decide⟩
theorem iX9_clear : Cond.instanceMethod yX9_clear ∈ zTs := zT_6 (i := 79) (by decide +kernel) rfl
theorem eX9_clear : Cond.selects yX9_clear.cls yX9_clear yX9_clear ∈ zTs := zT_of (i := 60) (by decide +kernel) rfl
abbrev mX9_countLeaves : zMt := (yX9_countLeaves, cX9_countLeaves, 3, none)
theorem kX9_countLeaves : zmk mX9_countLeaves 1 := ⟨zT_6 (i := 87) (by decide +kernel) rfl, zT_1 (i := 10) (by decide +kernel) rfl, ⟨by decide +kernel, by decide +kernel, by decide +kernel⟩, by decide +kernel, by decide⟩
theorem iX9_countLeaves : Cond.instanceMethod yX9_countLeaves ∈ zTs := zT_6 (i := 86) (by decide +kernel) rfl
theorem eX9_countLeaves : Cond.selects yX9_countLeaves.cls yX9_countLeaves yX9_countLeaves ∈ zTs := zT_of (i := 61) (by decide +kernel) rfl
abbrev mX9_join : zMt := (yX9_join, cX9_join, 8, none)
theorem kX9_join : zmk mX9_join 3 := ⟨zT_6 (i := 91) (by decide +kernel) rfl, zT_1 (i := 10) (by decide +kernel) rfl, ⟨by decide +kernel, by decide +kernel, by decide +kernel⟩, by decide +kernel, by decide⟩
theorem iX9_join : Cond.instanceMethod yX9_join ∈ zTs := zT_6 (i := 90) (by decide +kernel) rfl
theorem eX9_join : Cond.selects yX9_join.cls yX9_join yX9_join ∈ zTs := zT_of (i := 62) (by decide +kernel) rfl
abbrev mX9_joinValue : zMt := (yX9_joinValue, cX9_joinValue, 11, none)
theorem kX9_joinValue : zmk mX9_joinValue 6 := ⟨zT_6 (i := 95) (by decide +kernel) rfl, zT_1 (i := 10) (by decide +kernel) rfl, ⟨by decide +kernel, by decide +kernel, by decide +kernel⟩, by decide +kernel, by decide⟩
theorem iX9_joinValue : Cond.instanceMethod yX9_joinValue ∈ zTs := zT_6 (i := 94) (by decide +kernel) rfl
theorem eX9_joinValue : Cond.selects yX9_joinValue.cls yX9_joinValue yX9_joinValue ∈ zTs := zT_of (i := 63) (by decide +kernel) rfl
abbrev mX9_countOf : zMt := (yX9_countOf, cX9_countOf, 5, some .int)
theorem kX9_countOf : zmk mX9_countOf 3 := ⟨zT_6 (i := 99) (by decide +kernel) rfl, zT_1 (i := 10) (by decide +kernel) rfl, ⟨by decide +kernel, by decide +kernel, by decide +kernel⟩, by decide +kernel, by decide⟩
theorem iX9_countOf : Cond.instanceMethod yX9_countOf ∈ zTs := zT_6 (i := 97) (by decide +kernel) rfl
theorem eX9_countOf : Cond.selects yX9_countOf.cls yX9_countOf yX9_countOf ∈ zTs := zT_6 (i := 98) (by decide +kernel) rfl
abbrev mX9_fewestLeaves : zMt := (yX9_fewestLeaves, cX9_fewestLeaves, 6, some .int)
theorem kX9_fewestLeaves : zmk mX9_fewestLeaves 4 := ⟨zT_6 (i := 108) (by decide +kernel) rfl, zT_1 (i := 10) (by decide +kernel) rfl, ⟨by decide +kernel, by decide +kernel, by decide +kernel⟩, by decide +kernel, by decide⟩
theorem iX9_fewestLeaves : Cond.instanceMethod yX9_fewestLeaves ∈ zTs := zT_6 (i := 106) (by decide +kernel) rfl
theorem eX9_fewestLeaves : Cond.selects yX9_fewestLeaves.cls yX9_fewestLeaves yX9_fewestLeaves ∈ zTs := zT_6 (i := 107) (by decide +kernel) rfl
abbrev mX10_workOut : zMt := (yX10_workOut, cX10_workOut, 7, some .int)
theorem kX10_workOut : zmk mX10_workOut 4 := ⟨zT_5 (i := 15) (by decide +kernel) rfl, zT_1 (i := 2) (by decide +kernel) rfl, ⟨by decide +kernel, by decide +kernel, by decide +kernel⟩, by decide +kernel, by decide⟩
theorem iX10_workOut : Cond.instanceMethod yX10_workOut ∈ zTs := zT_5 (i := 13) (by decide +kernel) rfl
theorem eX10_workOut : Cond.selects yX10_workOut.cls yX10_workOut yX10_workOut ∈ zTs := zT_5 (i := 14) (by decide +kernel) rfl
abbrev mX10_sumOf : zMt := (yX10_sumOf, cX10_sumOf, 6, some .int)
theorem kX10_sumOf : zmk mX10_sumOf 2 := ⟨zT_5 (i := 19) (by decide +kernel) rfl, zT_1 (i := 2) (by decide +kernel) rfl, ⟨by decide +kernel, by decide +kernel, by decide +kernel⟩, by decide +kernel, by decide⟩
theorem iX10_sumOf : Cond.instanceMethod yX10_sumOf ∈ zTs := zT_5 (i := 18) (by decide +kernel) rfl
theorem eX10_sumOf : Cond.selects yX10_sumOf.cls yX10_sumOf yX10_sumOf ∈ zTs := zT_of (i := 40) (by decide +kernel) rfl
abbrev mX10_productOf : zMt := (yX10_productOf, cX10_productOf, 7, some .int)
theorem kX10_productOf : zmk mX10_productOf 2 := ⟨zT_5 (i := 26) (by decide +kernel) rfl, zT_1 (i := 2) (by decide +kernel) rfl, ⟨by decide +kernel, by decide +kernel, by decide +kernel⟩, by decide +kernel, by decide⟩
theorem iX10_productOf : Cond.instanceMethod yX10_productOf ∈ zTs := zT_5 (i := 25) (by decide +kernel) rfl
theorem eX10_productOf : Cond.selects yX10_productOf.cls yX10_productOf yX10_productOf ∈ zTs := zT_of (i := 41) (by decide +kernel) rfl
abbrev mX10_workWord : zMt := (yX10_workWord, cX10_workWord, 9, some .int)
theorem kX10_workWord : zmk mX10_workWord 2 := ⟨zT_5 (i := 32) (by decide +kernel) rfl, zT_1 (i := 2) (by decide +kernel) rfl, ⟨by decide +kernel, by decide +kernel, by decide +kernel⟩, by decide +kernel, by decide⟩
theorem iX10_workWord : Cond.instanceMethod yX10_workWord ∈ zTs := zT_5 (i := 31) (by decide +kernel) rfl
theorem eX10_workWord : Cond.selects yX10_workWord.cls yX10_workWord yX10_workWord ∈ zTs := zT_of (i := 42) (by decide +kernel) rfl
abbrev mX10_resultOf : zMt := (yX10_resultOf, cX10_resultOf, 3, some .int)
theorem kX10_resultOf : zmk mX10_resultOf 2 := ⟨zT_5 (i := 36) (by decide +kernel) rfl, zT_1 (i := 2) (by decide +kernel) rfl, ⟨by decide +kernel, by decide +kernel, by decide +kernel⟩, by decide +kernel, by decide⟩
theorem iX10_resultOf : Cond.instanceMethod yX10_resultOf ∈ zTs := zT_5 (i := 35) (by decide +kernel) rfl
theorem eX10_resultOf : Cond.selects yX10_resultOf.cls yX10_resultOf yX10_resultOf ∈ zTs := zT_of (i := 43) (by decide +kernel) rfl
abbrev mX10_holds : zMt := (yX10_holds, cX10_holds, 3, some .boolean)
theorem kX10_holds : zmk mX10_holds 3 := ⟨zT_5 (i := 44) (by decide +kernel) rfl, zT_1 (i := 2) (by decide +kernel) rfl, ⟨by decide +kernel, by decide +kernel, by decide +kernel⟩, by decide +kernel, by decide⟩
theorem tX10_holds : Cond.static yX10_holds ∈ zTs := zT_5 (i := 43) (by decide +kernel) rfl
abbrev mX10_save : zMt := (yX10_save, cX10_save, 2, none)
theorem kX10_save : zmk mX10_save 1 := ⟨zT_7 (i := 5) (by decide +kernel) rfl, zT_1 (i := 2) (by decide +kernel) rfl, ⟨by decide +kernel, by decide +kernel, by decide +kernel⟩, by decide +kernel, by decide⟩
theorem iX10_save : Cond.instanceMethod yX10_save ∈ zTs := zT_7 (i := 3) (by decide +kernel) rfl
theorem eX10_save : Cond.selects yX10_save.cls yX10_save yX10_save ∈ zTs := zT_7 (i := 4) (by decide +kernel) rfl
abbrev mX10_restore : zMt := (yX10_restore, cX10_restore, 2, none)
theorem kX10_restore : zmk mX10_restore 1 := ⟨zT_7 (i := 40) (by decide +kernel) rfl, zT_1 (i := 2) (by decide +kernel) rfl, ⟨by decide +kernel, by decide +kernel, by decide +kernel⟩, by decide +kernel, by decide⟩
theorem iX10_restore : Cond.instanceMethod yX10_restore ∈ zTs := zT_7 (i := 38) (by decide +kernel) rfl
theorem eX10_restore : Cond.selects yX10_restore.cls yX10_restore yX10_restore ∈ zTs := zT_7 (i := 39) (by decide +kernel) rfl
abbrev mX10_init : zMt := (yX10_init, cX10_init, 1, none)
theorem kX10_init : zmk mX10_init 0 := ⟨zT_1 (i := 34) (by decide +kernel) rfl, zT_1 (i := 2) (by decide +kernel) rfl, ⟨by decide +kernel, by decide +kernel, by decide +kernel⟩, by decide +kernel, by decide⟩
theorem iX10_init : Cond.instanceMethod yX10_init ∈ zTs := zT_1 (i := 33) (by decide +kernel) rfl
abbrev mX10_addPerson : zMt := (yX10_addPerson, cX10_addPerson, 5, some .int)
theorem kX10_addPerson : zmk mX10_addPerson 3 := ⟨zT_3 (i := 42) (by decide +kernel) rfl, zT_1 (i := 2) (by decide +kernel) rfl, ⟨by decide +kernel, by decide +kernel, by decide +kernel⟩, by decide +kernel, by decide⟩
theorem iX10_addPerson : Cond.instanceMethod yX10_addPerson ∈ zTs := zT_3 (i := 40) (by decide +kernel) rfl
theorem eX10_addPerson : Cond.selects yX10_addPerson.cls yX10_addPerson yX10_addPerson ∈ zTs := zT_3 (i := 41) (by decide +kernel) rfl
abbrev mX10_layRoad : zMt := (yX10_layRoad, cX10_layRoad, 5, some .boolean)
theorem kX10_layRoad : zmk mX10_layRoad 3 := ⟨zT_3 (i := 50) (by decide +kernel) rfl, zT_1 (i := 2) (by decide +kernel) rfl, ⟨by decide +kernel, by decide +kernel, by decide +kernel⟩, by decide +kernel, by decide⟩
theorem iX10_layRoad : Cond.instanceMethod yX10_layRoad ∈ zTs := zT_3 (i := 48) (by decide +kernel) rfl
theorem eX10_layRoad : Cond.selects yX10_layRoad.cls yX10_layRoad yX10_layRoad ∈ zTs := zT_3 (i := 49) (by decide +kernel) rfl
abbrev mX10_kinOf : zMt := (yX10_kinOf, cX10_kinOf, 4, some .int)
theorem kX10_kinOf : zmk mX10_kinOf 2 := ⟨zT_3 (i := 58) (by decide +kernel) rfl, zT_1 (i := 2) (by decide +kernel) rfl, ⟨by decide +kernel, by decide +kernel, by decide +kernel⟩, by decide +kernel, by decide⟩
theorem iX10_kinOf : Cond.instanceMethod yX10_kinOf ∈ zTs := zT_3 (i := 56) (by decide +kernel) rfl
theorem eX10_kinOf : Cond.selects yX10_kinOf.cls yX10_kinOf yX10_kinOf ∈ zTs := zT_3 (i := 57) (by decide +kernel) rfl
abbrev mX10_wayOf : zMt := (yX10_wayOf, cX10_wayOf, 4, some .int)
theorem kX10_wayOf : zmk mX10_wayOf 2 := ⟨zT_3 (i := 66) (by decide +kernel) rfl, zT_1 (i := 2) (by decide +kernel) rfl, ⟨by decide +kernel, by decide +kernel, by decide +kernel⟩, by decide +kernel, by decide⟩
theorem iX10_wayOf : Cond.instanceMethod yX10_wayOf ∈ zTs := zT_3 (i := 64) (by decide +kernel) rfl
theorem eX10_wayOf : Cond.selects yX10_wayOf.cls yX10_wayOf yX10_wayOf ∈ zTs := zT_3 (i := 65) (by decide +kernel) rfl
abbrev mX10_measureKin : zMt := (yX10_measureKin, cX10_measureKin, 2, none)
theorem kX10_measureKin : zmk mX10_measureKin 0 := ⟨zT_1 (i := 39) (by decide +kernel) rfl, zT_1 (i := 2) (by decide +kernel) rfl, ⟨by decide +kernel, by decide +kernel, by decide +kernel⟩, by decide +kernel, by decide⟩
theorem iX10_measureKin : Cond.instanceMethod yX10_measureKin ∈ zTs := zT_1 (i := 38) (by decide +kernel) rfl
theorem eX10_measureKin : Cond.selects yX10_measureKin.cls yX10_measureKin yX10_measureKin ∈ zTs := zT_of (i := 0) (by decide +kernel) rfl
abbrev mX10_joinParent : zMt := (yX10_joinParent, cX10_joinParent, 3, none)
theorem kX10_joinParent : zmk mX10_joinParent 2 := ⟨zT_1 (i := 46) (by decide +kernel) rfl, zT_1 (i := 2) (by decide +kernel) rfl, ⟨by decide +kernel, by decide +kernel, by decide +kernel⟩, by decide +kernel, by decide⟩
theorem iX10_joinParent : Cond.instanceMethod yX10_joinParent ∈ zTs := zT_1 (i := 45) (by decide +kernel) rfl
theorem eX10_joinParent : Cond.selects yX10_joinParent.cls yX10_joinParent yX10_joinParent ∈ zTs := zT_of (i := 1) (by decide +kernel) rfl
abbrev mX10_measureWays : zMt := (yX10_measureWays, cX10_measureWays, 2, none)
theorem kX10_measureWays : zmk mX10_measureWays 0 := ⟨zT_1 (i := 56) (by decide +kernel) rfl, zT_1 (i := 2) (by decide +kernel) rfl, ⟨by decide +kernel, by decide +kernel, by decide +kernel⟩, by decide +kernel, by decide⟩
theorem iX10_measureWays : Cond.instanceMethod yX10_measureWays ∈ zTs := zT_1 (i := 55) (by decide +kernel) rfl
theorem eX10_measureWays : Cond.selects yX10_measureWays.cls yX10_measureWays yX10_measureWays ∈ zTs := zT_of (i := 2) (by decide +kernel) rfl
abbrev mX10_closeTable : zMt := (yX10_closeTable, cX10_closeTable, 8, none)
theorem kX10_closeTable : zmk mX10_closeTable 2 := ⟨zT_1 (i := 52) (by decide +kernel) rfl, zT_1 (i := 2) (by decide +kernel) rfl, ⟨by decide +kernel, by decide +kernel, by decide +kernel⟩, by decide +kernel, by decide⟩
theorem tX10_closeTable : Cond.static yX10_closeTable ∈ zTs := zT_1 (i := 51) (by decide +kernel) rfl
abbrev mX11_fault : zMt := (yX11_fault, cX11_fault, 2, some .int)
theorem kX11_fault : zmk mX11_fault 1 := ⟨zT_4 (i := 117) (by decide +kernel) rfl, zT_1 (i := 1) (by decide +kernel) rfl, ⟨by decide +kernel, by decide +kernel, by decide +kernel⟩, by decide +kernel, by decide⟩
theorem iX11_fault : Cond.instanceMethod yX11_fault ∈ zTs := zT_4 (i := 115) (by decide +kernel) rfl
theorem eX11_fault : Cond.selects yX11_fault.cls yX11_fault yX11_fault ∈ zTs := zT_4 (i := 116) (by decide +kernel) rfl
abbrev mX11_played : zMt := (yX11_played, cX11_played, 4, some .int)
theorem kX11_played : zmk mX11_played 1 := ⟨zT_4 (i := 121) (by decide +kernel) rfl, zT_1 (i := 1) (by decide +kernel) rfl, ⟨by decide +kernel, by decide +kernel, by decide +kernel⟩, by decide +kernel, by decide⟩
theorem iX11_played : Cond.instanceMethod yX11_played ∈ zTs := zT_4 (i := 119) (by decide +kernel) rfl
theorem eX11_played : Cond.selects yX11_played.cls yX11_played yX11_played ∈ zTs := zT_4 (i := 120) (by decide +kernel) rfl
abbrev mX11_perform : zMt := (yX11_perform, cX11_perform, 6, some .boolean)
theorem kX11_perform : zmk mX11_perform 2 := ⟨zT_5 (i := 48) (by decide +kernel) rfl, zT_1 (i := 1) (by decide +kernel) rfl, ⟨by decide +kernel, by decide +kernel, by decide +kernel⟩, by decide +kernel, by decide⟩
theorem iX11_perform : Cond.instanceMethod yX11_perform ∈ zTs := zT_5 (i := 47) (by decide +kernel) rfl
theorem eX11_perform : Cond.selects yX11_perform.cls yX11_perform yX11_perform ∈ zTs := zT_of (i := 44) (by decide +kernel) rfl
abbrev mX11_equalities : zMt := (yX11_equalities, cX11_equalities, 2, some .boolean)
theorem kX11_equalities : zmk mX11_equalities 1 := ⟨zT_5 (i := 64) (by decide +kernel) rfl, zT_1 (i := 1) (by decide +kernel) rfl, ⟨by decide +kernel, by decide +kernel, by decide +kernel⟩, by decide +kernel, by decide⟩
theorem iX11_equalities : Cond.instanceMethod yX11_equalities ∈ zTs := zT_5 (i := 62) (by decide +kernel) rfl
theorem eX11_equalities : Cond.selects yX11_equalities.cls yX11_equalities yX11_equalities ∈ zTs := zT_5 (i := 63) (by decide +kernel) rfl
abbrev mX11_of : zMt := (yX11_of, cX11_of, 3, some .int)
theorem kX11_of : zmk mX11_of 2 := ⟨zT_5 (i := 156) (by decide +kernel) rfl, zT_1 (i := 1) (by decide +kernel) rfl, ⟨by decide +kernel, by decide +kernel, by decide +kernel⟩, by decide +kernel, by decide⟩
theorem iX11_of : Cond.instanceMethod yX11_of ∈ zTs := zT_5 (i := 154) (by decide +kernel) rfl
theorem eX11_of : Cond.selects yX11_of.cls yX11_of yX11_of ∈ zTs := zT_5 (i := 155) (by decide +kernel) rfl
abbrev mX11_alike : zMt := (yX11_alike, cX11_alike, 3, some .int)
theorem kX11_alike : zmk mX11_alike 2 := ⟨zT_5 (i := 162) (by decide +kernel) rfl, zT_1 (i := 1) (by decide +kernel) rfl, ⟨by decide +kernel, by decide +kernel, by decide +kernel⟩, by decide +kernel, by decide⟩
theorem iX11_alike : Cond.instanceMethod yX11_alike ∈ zTs := zT_5 (i := 160) (by decide +kernel) rfl
theorem eX11_alike : Cond.selects yX11_alike.cls yX11_alike yX11_alike ∈ zTs := zT_5 (i := 161) (by decide +kernel) rfl
abbrev mX11_nearly : zMt := (yX11_nearly, cX11_nearly, 3, some .int)
theorem kX11_nearly : zmk mX11_nearly 2 := ⟨zT_5 (i := 167) (by decide +kernel) rfl, zT_1 (i := 1) (by decide +kernel) rfl, ⟨by decide +kernel, by decide +kernel, by decide +kernel⟩, by decide +kernel, by decide⟩
theorem iX11_nearly : Cond.instanceMethod yX11_nearly ∈ zTs := zT_5 (i := 165) (by decide +kernel) rfl
theorem eX11_nearly : Cond.selects yX11_nearly.cls yX11_nearly yX11_nearly ∈ zTs := zT_5 (i := 166) (by decide +kernel) rfl
abbrev mX11_parted : zMt := (yX11_parted, cX11_parted, 4, some .int)
theorem kX11_parted : zmk mX11_parted 3 := ⟨zT_5 (i := 175) (by decide +kernel) rfl, zT_1 (i := 1) (by decide +kernel) rfl, ⟨by decide +kernel, by decide +kernel, by decide +kernel⟩, by decide +kernel, by decide⟩
theorem iX11_parted : Cond.instanceMethod yX11_parted ∈ zTs := zT_5 (i := 173) (by decide +kernel) rfl
theorem eX11_parted : Cond.selects yX11_parted.cls yX11_parted yX11_parted ∈ zTs := zT_5 (i := 174) (by decide +kernel) rfl
abbrev mX11_pupil : zMt := (yX11_pupil, cX11_pupil, 7, some .int)
theorem kX11_pupil : zmk mX11_pupil 5 := ⟨zT_5 (i := 72) (by decide +kernel) rfl, zT_1 (i := 1) (by decide +kernel) rfl, ⟨by decide +kernel, by decide +kernel, by decide +kernel⟩, by decide +kernel, by decide⟩
theorem iX11_pupil : Cond.instanceMethod yX11_pupil ∈ zTs := zT_5 (i := 70) (by decide +kernel) rfl
theorem eX11_pupil : Cond.selects yX11_pupil.cls yX11_pupil yX11_pupil ∈ zTs := zT_5 (i := 71) (by decide +kernel) rfl
abbrev mX11_answer : zMt := (yX11_answer, cX11_answer, 2, some .boolean)
theorem kX11_answer : zmk mX11_answer 1 := ⟨zT_5 (i := 80) (by decide +kernel) rfl, zT_1 (i := 1) (by decide +kernel) rfl, ⟨by decide +kernel, by decide +kernel, by decide +kernel⟩, by decide +kernel, by decide⟩
theorem iX11_answer : Cond.instanceMethod yX11_answer ∈ zTs := zT_5 (i := 78) (by decide +kernel) rfl
theorem eX11_answer : Cond.selects yX11_answer.cls yX11_answer yX11_answer ∈ zTs := zT_5 (i := 79) (by decide +kernel) rfl
abbrev mX11_init : zMt := (yX11_init, cX11_init, 2, none)
theorem kX11_init : zmk mX11_init 0 := ⟨zT_1 (i := 26) (by decide +kernel) rfl, zT_1 (i := 1) (by decide +kernel) rfl, ⟨by decide +kernel, by decide +kernel, by decide +kernel⟩, by decide +kernel, by decide⟩
theorem iX11_init : Cond.instanceMethod yX11_init ∈ zTs := zT_1 (i := 25) (by decide +kernel) rfl
abbrev mX11_can : zMt := (yX11_can, cX11_can, 3, some .boolean)
theorem kX11_can : zmk mX11_can 2 := ⟨zT_5 (i := 191) (by decide +kernel) rfl, zT_1 (i := 1) (by decide +kernel) rfl, ⟨by decide +kernel, by decide +kernel, by decide +kernel⟩, by decide +kernel, by decide⟩
theorem iX11_can : Cond.instanceMethod yX11_can ∈ zTs := zT_5 (i := 189) (by decide +kernel) rfl
theorem eX11_can : Cond.selects yX11_can.cls yX11_can yX11_can ∈ zTs := zT_5 (i := 190) (by decide +kernel) rfl
abbrev mX11_lacks : zMt := (yX11_lacks, cX11_lacks, 3, some .int)
theorem kX11_lacks : zmk mX11_lacks 2 := ⟨zT_5 (i := 195) (by decide +kernel) rfl, zT_1 (i := 1) (by decide +kernel) rfl, ⟨by decide +kernel, by decide +kernel, by decide +kernel⟩, by decide +kernel, by decide⟩
theorem iX11_lacks : Cond.instanceMethod yX11_lacks ∈ zTs := zT_5 (i := 193) (by decide +kernel) rfl
theorem eX11_lacks : Cond.selects yX11_lacks.cls yX11_lacks yX11_lacks ∈ zTs := zT_5 (i := 194) (by decide +kernel) rfl
abbrev mX11_ask : zMt := (yX11_ask, cX11_ask, 3, some .int)
theorem kX11_ask : zmk mX11_ask 2 := ⟨zT_5 (i := 201) (by decide +kernel) rfl, zT_1 (i := 1) (by decide +kernel) rfl, ⟨by decide +kernel, by decide +kernel, by decide +kernel⟩, by decide +kernel, by decide⟩
theorem iX11_ask : Cond.instanceMethod yX11_ask ∈ zTs := zT_5 (i := 199) (by decide +kernel) rfl
theorem eX11_ask : Cond.selects yX11_ask.cls yX11_ask yX11_ask ∈ zTs := zT_5 (i := 200) (by decide +kernel) rfl
abbrev mX11_askNow : zMt := (yX11_askNow, cX11_askNow, 3, some .int)
theorem kX11_askNow : zmk mX11_askNow 2 := ⟨zT_5 (i := 84) (by decide +kernel) rfl, zT_1 (i := 1) (by decide +kernel) rfl, ⟨by decide +kernel, by decide +kernel, by decide +kernel⟩, by decide +kernel, by decide⟩
theorem iX11_askNow : Cond.instanceMethod yX11_askNow ∈ zTs := zT_5 (i := 83) (by decide +kernel) rfl
theorem eX11_askNow : Cond.selects yX11_askNow.cls yX11_askNow yX11_askNow ∈ zTs := zT_of (i := 45) (by decide +kernel) rfl
abbrev mX11_why : zMt := (yX11_why, cX11_why, 3, some .int)
theorem kX11_why : zmk mX11_why 2 := ⟨zT_5 (i := 205) (by decide +kernel) rfl, zT_1 (i := 1) (by decide +kernel) rfl, ⟨by decide +kernel, by decide +kernel, by decide +kernel⟩, by decide +kernel, by decide⟩
theorem iX11_why : Cond.instanceMethod yX11_why ∈ zTs := zT_5 (i := 203) (by decide +kernel) rfl
theorem eX11_why : Cond.selects yX11_why.cls yX11_why yX11_why ∈ zTs := zT_5 (i := 204) (by decide +kernel) rfl
abbrev mX11_barred : zMt := (yX11_barred, cX11_barred, 2, some .int)
theorem kX11_barred : zmk mX11_barred 1 := ⟨zT_5 (i := 209) (by decide +kernel) rfl, zT_1 (i := 1) (by decide +kernel) rfl, ⟨by decide +kernel, by decide +kernel, by decide +kernel⟩, by decide +kernel, by decide⟩
theorem iX11_barred : Cond.instanceMethod yX11_barred ∈ zTs := zT_5 (i := 207) (by decide +kernel) rfl
theorem eX11_barred : Cond.selects yX11_barred.cls yX11_barred yX11_barred ∈ zTs := zT_5 (i := 208) (by decide +kernel) rfl
abbrev mX11_morning : zMt := (yX11_morning, cX11_morning, 2, some .int)
theorem kX11_morning : zmk mX11_morning 1 := ⟨zT_5 (i := 214) (by decide +kernel) rfl, zT_1 (i := 1) (by decide +kernel) rfl, ⟨by decide +kernel, by decide +kernel, by decide +kernel⟩, by decide +kernel, by decide⟩
theorem iX11_morning : Cond.instanceMethod yX11_morning ∈ zTs := zT_5 (i := 212) (by decide +kernel) rfl
theorem eX11_morning : Cond.selects yX11_morning.cls yX11_morning yX11_morning ∈ zTs := zT_5 (i := 213) (by decide +kernel) rfl
abbrev mX11_stuck : zMt := (yX11_stuck, cX11_stuck, 1, some .int)
theorem kX11_stuck : zmk mX11_stuck 0 := ⟨zT_5 (i := 218) (by decide +kernel) rfl, zT_1 (i := 1) (by decide +kernel) rfl, ⟨by decide +kernel, by decide +kernel, by decide +kernel⟩, by decide +kernel, by decide⟩
theorem iX11_stuck : Cond.instanceMethod yX11_stuck ∈ zTs := zT_5 (i := 216) (by decide +kernel) rfl
theorem eX11_stuck : Cond.selects yX11_stuck.cls yX11_stuck yX11_stuck ∈ zTs := zT_5 (i := 217) (by decide +kernel) rfl
abbrev mX11_takeStock : zMt := (yX11_takeStock, cX11_takeStock, 1, none)
theorem kX11_takeStock : zmk mX11_takeStock 0 := ⟨zT_4 (i := 130) (by decide +kernel) rfl, zT_1 (i := 1) (by decide +kernel) rfl, ⟨by decide +kernel, by decide +kernel, by decide +kernel⟩, by decide +kernel, by decide⟩
theorem iX11_takeStock : Cond.instanceMethod yX11_takeStock ∈ zTs := zT_4 (i := 129) (by decide +kernel) rfl
theorem eX11_takeStock : Cond.selects yX11_takeStock.cls yX11_takeStock yX11_takeStock ∈ zTs := zT_of (i := 25) (by decide +kernel) rfl
abbrev mX11_undo : zMt := (yX11_undo, cX11_undo, 1, some .int)
theorem kX11_undo : zmk mX11_undo 0 := ⟨zT_5 (i := 226) (by decide +kernel) rfl, zT_1 (i := 1) (by decide +kernel) rfl, ⟨by decide +kernel, by decide +kernel, by decide +kernel⟩, by decide +kernel, by decide⟩
theorem iX11_undo : Cond.instanceMethod yX11_undo ∈ zTs := zT_5 (i := 224) (by decide +kernel) rfl
theorem eX11_undo : Cond.selects yX11_undo.cls yX11_undo yX11_undo ∈ zTs := zT_5 (i := 225) (by decide +kernel) rfl
abbrev mX11_thing : zMt := (yX11_thing, cX11_thing, 3, some .boolean)
theorem kX11_thing : zmk mX11_thing 2 := ⟨zT_3 (i := 33) (by decide +kernel) rfl, zT_1 (i := 1) (by decide +kernel) rfl, ⟨by decide +kernel, by decide +kernel, by decide +kernel⟩, by decide +kernel, by decide⟩
theorem iX11_thing : Cond.instanceMethod yX11_thing ∈ zTs := zT_3 (i := 31) (by decide +kernel) rfl
theorem eX11_thing : Cond.selects yX11_thing.cls yX11_thing yX11_thing ∈ zTs := zT_3 (i := 32) (by decide +kernel) rfl
abbrev mX11_asked : zMt := (yX11_asked, cX11_asked, 3, some .int)
theorem kX11_asked : zmk mX11_asked 2 := ⟨zT_5 (i := 230) (by decide +kernel) rfl, zT_1 (i := 1) (by decide +kernel) rfl, ⟨by decide +kernel, by decide +kernel, by decide +kernel⟩, by decide +kernel, by decide⟩
theorem iX11_asked : Cond.instanceMethod yX11_asked ∈ zTs := zT_5 (i := 228) (by decide +kernel) rfl
theorem eX11_asked : Cond.selects yX11_asked.cls yX11_asked yX11_asked ∈ zTs := zT_5 (i := 229) (by decide +kernel) rfl
abbrev mX11_left : zMt := (yX11_left, cX11_left, 2, some .int)
theorem kX11_left : zmk mX11_left 1 := ⟨zT_5 (i := 234) (by decide +kernel) rfl, zT_1 (i := 1) (by decide +kernel) rfl, ⟨by decide +kernel, by decide +kernel, by decide +kernel⟩, by decide +kernel, by decide⟩
theorem iX11_left : Cond.instanceMethod yX11_left ∈ zTs := zT_5 (i := 232) (by decide +kernel) rfl
theorem eX11_left : Cond.selects yX11_left.cls yX11_left yX11_left ∈ zTs := zT_5 (i := 233) (by decide +kernel) rfl
abbrev mX11_order : zMt := (yX11_order, cX11_order, 2, some .int)
theorem kX11_order : zmk mX11_order 1 := ⟨zT_6 (i := 2) (by decide +kernel) rfl, zT_1 (i := 1) (by decide +kernel) rfl, ⟨by decide +kernel, by decide +kernel, by decide +kernel⟩, by decide +kernel, by decide⟩
theorem iX11_order : Cond.instanceMethod yX11_order ∈ zTs := zT_6 (i := 0) (by decide +kernel) rfl
theorem eX11_order : Cond.selects yX11_order.cls yX11_order yX11_order ∈ zTs := zT_6 (i := 1) (by decide +kernel) rfl
abbrev mX11_shut : zMt := (yX11_shut, cX11_shut, 1, some .int)
theorem kX11_shut : zmk mX11_shut 0 := ⟨zT_6 (i := 47) (by decide +kernel) rfl, zT_1 (i := 1) (by decide +kernel) rfl, ⟨by decide +kernel, by decide +kernel, by decide +kernel⟩, by decide +kernel, by decide⟩
theorem iX11_shut : Cond.instanceMethod yX11_shut ∈ zTs := zT_6 (i := 45) (by decide +kernel) rfl
theorem eX11_shut : Cond.selects yX11_shut.cls yX11_shut yX11_shut ∈ zTs := zT_6 (i := 46) (by decide +kernel) rfl
abbrev mX11_game : zMt := (yX11_game, cX11_game, 5, some .int)
theorem kX11_game : zmk mX11_game 3 := ⟨zT_6 (i := 55) (by decide +kernel) rfl, zT_1 (i := 1) (by decide +kernel) rfl, ⟨by decide +kernel, by decide +kernel, by decide +kernel⟩, by decide +kernel, by decide⟩
theorem iX11_game : Cond.instanceMethod yX11_game ∈ zTs := zT_6 (i := 53) (by decide +kernel) rfl
theorem eX11_game : Cond.selects yX11_game.cls yX11_game yX11_game ∈ zTs := zT_6 (i := 54) (by decide +kernel) rfl
abbrev mX11_kinds : zMt := (yX11_kinds, cX11_kinds, 4, some .long)
theorem kX11_kinds : zmk mX11_kinds 3 := ⟨zT_6 (i := 70) (by decide +kernel) rfl, zT_1 (i := 1) (by decide +kernel) rfl, ⟨by decide +kernel, by decide +kernel, by decide +kernel⟩, by decide +kernel, by decide⟩
theorem iX11_kinds : Cond.instanceMethod yX11_kinds ∈ zTs := zT_6 (i := 68) (by decide +kernel) rfl
theorem eX11_kinds : Cond.selects yX11_kinds.cls yX11_kinds yX11_kinds ∈ zTs := zT_6 (i := 69) (by decide +kernel) rfl
abbrev mX11_fewest : zMt := (yX11_fewest, cX11_fewest, 3, some .int)
theorem kX11_fewest : zmk mX11_fewest 2 := ⟨zT_6 (i := 104) (by decide +kernel) rfl, zT_1 (i := 1) (by decide +kernel) rfl, ⟨by decide +kernel, by decide +kernel, by decide +kernel⟩, by decide +kernel, by decide⟩
theorem iX11_fewest : Cond.instanceMethod yX11_fewest ∈ zTs := zT_6 (i := 102) (by decide +kernel) rfl
theorem eX11_fewest : Cond.selects yX11_fewest.cls yX11_fewest yX11_fewest ∈ zTs := zT_6 (i := 103) (by decide +kernel) rfl
abbrev mX11_shortest : zMt := (yX11_shortest, cX11_shortest, 5, some .int)
theorem kX11_shortest : zmk mX11_shortest 3 := ⟨zT_6 (i := 114) (by decide +kernel) rfl, zT_1 (i := 1) (by decide +kernel) rfl, ⟨by decide +kernel, by decide +kernel, by decide +kernel⟩, by decide +kernel, by decide⟩
theorem iX11_shortest : Cond.instanceMethod yX11_shortest ∈ zTs := zT_6 (i := 112) (by decide +kernel) rfl
theorem eX11_shortest : Cond.selects yX11_shortest.cls yX11_shortest yX11_shortest ∈ zTs := zT_6 (i := 113) (by decide +kernel) rfl
abbrev mX11_rarest : zMt := (yX11_rarest, cX11_rarest, 5, some .int)
theorem kX11_rarest : zmk mX11_rarest 4 := ⟨zT_6 (i := 143) (by decide +kernel) rfl, zT_1 (i := 1) (by decide +kernel) rfl, ⟨by decide +kernel, by decide +kernel, by decide +kernel⟩, by decide +kernel, by decide⟩
theorem iX11_rarest : Cond.instanceMethod yX11_rarest ∈ zTs := zT_6 (i := 141) (by decide +kernel) rfl
theorem eX11_rarest : Cond.selects yX11_rarest.cls yX11_rarest yX11_rarest ∈ zTs := zT_6 (i := 142) (by decide +kernel) rfl
abbrev mX11_fair : zMt := (yX11_fair, cX11_fair, 6, some .int)
theorem kX11_fair : zmk mX11_fair 3 := ⟨zT_6 (i := 154) (by decide +kernel) rfl, zT_1 (i := 1) (by decide +kernel) rfl, ⟨by decide +kernel, by decide +kernel, by decide +kernel⟩, by decide +kernel, by decide⟩
theorem iX11_fair : Cond.instanceMethod yX11_fair ∈ zTs := zT_6 (i := 152) (by decide +kernel) rfl
theorem eX11_fair : Cond.selects yX11_fair.cls yX11_fair yX11_fair ∈ zTs := zT_6 (i := 153) (by decide +kernel) rfl
abbrev mX11_person : zMt := (yX11_person, cX11_person, 4, some .int)
theorem kX11_person : zmk mX11_person 3 := ⟨zT_3 (i := 38) (by decide +kernel) rfl, zT_1 (i := 1) (by decide +kernel) rfl, ⟨by decide +kernel, by decide +kernel, by decide +kernel⟩, by decide +kernel, by decide⟩
theorem iX11_person : Cond.instanceMethod yX11_person ∈ zTs := zT_3 (i := 36) (by decide +kernel) rfl
theorem eX11_person : Cond.selects yX11_person.cls yX11_person yX11_person ∈ zTs := zT_3 (i := 37) (by decide +kernel) rfl
abbrev mX11_unasked : zMt := (yX11_unasked, cX11_unasked, 4, some .int)
theorem kX11_unasked : zmk mX11_unasked 2 := ⟨zT_6 (i := 164) (by decide +kernel) rfl, zT_1 (i := 1) (by decide +kernel) rfl, ⟨by decide +kernel, by decide +kernel, by decide +kernel⟩, by decide +kernel, by decide⟩
theorem iX11_unasked : Cond.instanceMethod yX11_unasked ∈ zTs := zT_6 (i := 162) (by decide +kernel) rfl
theorem eX11_unasked : Cond.selects yX11_unasked.cls yX11_unasked yX11_unasked ∈ zTs := zT_6 (i := 163) (by decide +kernel) rfl
abbrev mX11_hear : zMt := (yX11_hear, cX11_hear, 3, some .int)
theorem kX11_hear : zmk mX11_hear 2 := ⟨zT_6 (i := 168) (by decide +kernel) rfl, zT_1 (i := 1) (by decide +kernel) rfl, ⟨by decide +kernel, by decide +kernel, by decide +kernel⟩, by decide +kernel, by decide⟩
theorem iX11_hear : Cond.instanceMethod yX11_hear ∈ zTs := zT_6 (i := 166) (by decide +kernel) rfl
theorem eX11_hear : Cond.selects yX11_hear.cls yX11_hear yX11_hear ∈ zTs := zT_6 (i := 167) (by decide +kernel) rfl
abbrev mX11_worlds : zMt := (yX11_worlds, cX11_worlds, 3, some .int)
theorem kX11_worlds : zmk mX11_worlds 1 := ⟨zT_6 (i := 180) (by decide +kernel) rfl, zT_1 (i := 1) (by decide +kernel) rfl, ⟨by decide +kernel, by decide +kernel, by decide +kernel⟩, by decide +kernel, by decide⟩
theorem iX11_worlds : Cond.instanceMethod yX11_worlds ∈ zTs := zT_6 (i := 178) (by decide +kernel) rfl
theorem eX11_worlds : Cond.selects yX11_worlds.cls yX11_worlds yX11_worlds ∈ zTs := zT_6 (i := 179) (by decide +kernel) rfl
abbrev mX11_knew : zMt := (yX11_knew, cX11_knew, 2, some .int)
theorem kX11_knew : zmk mX11_knew 1 := ⟨zT_6 (i := 196) (by decide +kernel) rfl, zT_1 (i := 1) (by decide +kernel) rfl, ⟨by decide +kernel, by decide +kernel, by decide +kernel⟩, by decide +kernel, by decide⟩
theorem iX11_knew : Cond.instanceMethod yX11_knew ∈ zTs := zT_6 (i := 194) (by decide +kernel) rfl
theorem eX11_knew : Cond.selects yX11_knew.cls yX11_knew yX11_knew ∈ zTs := zT_6 (i := 195) (by decide +kernel) rfl
abbrev mX11_tell : zMt := (yX11_tell, cX11_tell, 4, some .int)
theorem kX11_tell : zmk mX11_tell 2 := ⟨zT_6 (i := 204) (by decide +kernel) rfl, zT_1 (i := 1) (by decide +kernel) rfl, ⟨by decide +kernel, by decide +kernel, by decide +kernel⟩, by decide +kernel, by decide⟩
theorem iX11_tell : Cond.instanceMethod yX11_tell ∈ zTs := zT_6 (i := 202) (by decide +kernel) rfl
theorem eX11_tell : Cond.selects yX11_tell.cls yX11_tell yX11_tell ∈ zTs := zT_6 (i := 203) (by decide +kernel) rfl
abbrev mX11_lies : zMt := (yX11_lies, cX11_lies, 1, some .int)
theorem kX11_lies : zmk mX11_lies 0 := ⟨zT_6 (i := 212) (by decide +kernel) rfl, zT_1 (i := 1) (by decide +kernel) rfl, ⟨by decide +kernel, by decide +kernel, by decide +kernel⟩, by decide +kernel, by decide⟩
theorem iX11_lies : Cond.instanceMethod yX11_lies ∈ zTs := zT_6 (i := 210) (by decide +kernel) rfl
theorem eX11_lies : Cond.selects yX11_lies.cls yX11_lies yX11_lies ∈ zTs := zT_6 (i := 211) (by decide +kernel) rfl
abbrev mX11_clash : zMt := (yX11_clash, cX11_clash, 1, some .int)
theorem kX11_clash : zmk mX11_clash 0 := ⟨zT_6 (i := 220) (by decide +kernel) rfl, zT_1 (i := 1) (by decide +kernel) rfl, ⟨by decide +kernel, by decide +kernel, by decide +kernel⟩, by decide +kernel, by decide⟩
theorem iX11_clash : Cond.instanceMethod yX11_clash ∈ zTs := zT_6 (i := 218) (by decide +kernel) rfl
theorem eX11_clash : Cond.selects yX11_clash.cls yX11_clash yX11_clash ∈ zTs := zT_6 (i := 219) (by decide +kernel) rfl
abbrev mX11_image : zMt := (yX11_image, cX11_image, 1, some .int)
theorem kX11_image : zmk mX11_image 0 := ⟨zT_6 (i := 229) (by decide +kernel) rfl, zT_1 (i := 1) (by decide +kernel) rfl, ⟨by decide +kernel, by decide +kernel, by decide +kernel⟩, by decide +kernel, by decide⟩
theorem iX11_image : Cond.instanceMethod yX11_image ∈ zTs := zT_6 (i := 227) (by decide +kernel) rfl
theorem eX11_image : Cond.selects yX11_image.cls yX11_image yX11_image ∈ zTs := zT_6 (i := 228) (by decide +kernel) rfl
abbrev mX11_back : zMt := (yX11_back, cX11_back, 1, some .int)
theorem kX11_back : zmk mX11_back 0 := ⟨zT_7 (i := 32) (by decide +kernel) rfl, zT_1 (i := 1) (by decide +kernel) rfl, ⟨by decide +kernel, by decide +kernel, by decide +kernel⟩, by decide +kernel, by decide⟩
theorem iX11_back : Cond.instanceMethod yX11_back ∈ zTs := zT_7 (i := 30) (by decide +kernel) rfl
theorem eX11_back : Cond.selects yX11_back.cls yX11_back yX11_back ∈ zTs := zT_7 (i := 31) (by decide +kernel) rfl
abbrev mX11_saveAll : zMt := (yX11_saveAll, cX11_saveAll, 1, none)
theorem kX11_saveAll : zmk mX11_saveAll 0 := ⟨zT_6 (i := 233) (by decide +kernel) rfl, zT_1 (i := 1) (by decide +kernel) rfl, ⟨by decide +kernel, by decide +kernel, by decide +kernel⟩, by decide +kernel, by decide⟩
theorem iX11_saveAll : Cond.instanceMethod yX11_saveAll ∈ zTs := zT_6 (i := 232) (by decide +kernel) rfl
theorem eX11_saveAll : Cond.selects yX11_saveAll.cls yX11_saveAll yX11_saveAll ∈ zTs := zT_of (i := 71) (by decide +kernel) rfl
abbrev mX11_road : zMt := (yX11_road, cX11_road, 4, some .boolean)
theorem kX11_road : zmk mX11_road 3 := ⟨zT_3 (i := 46) (by decide +kernel) rfl, zT_1 (i := 1) (by decide +kernel) rfl, ⟨by decide +kernel, by decide +kernel, by decide +kernel⟩, by decide +kernel, by decide⟩
theorem iX11_road : Cond.instanceMethod yX11_road ∈ zTs := zT_3 (i := 44) (by decide +kernel) rfl
theorem eX11_road : Cond.selects yX11_road.cls yX11_road yX11_road ∈ zTs := zT_3 (i := 45) (by decide +kernel) rfl
abbrev mX11_about : zMt := (yX11_about, cX11_about, 2, some .int)
theorem kX11_about : zmk mX11_about 1 := ⟨zT_7 (i := 73) (by decide +kernel) rfl, zT_1 (i := 1) (by decide +kernel) rfl, ⟨by decide +kernel, by decide +kernel, by decide +kernel⟩, by decide +kernel, by decide⟩
theorem iX11_about : Cond.instanceMethod yX11_about ∈ zTs := zT_7 (i := 71) (by decide +kernel) rfl
theorem eX11_about : Cond.selects yX11_about.cls yX11_about yX11_about ∈ zTs := zT_7 (i := 72) (by decide +kernel) rfl
abbrev mX11_amountOf : zMt := (yX11_amountOf, cX11_amountOf, 2, some .int)
theorem kX11_amountOf : zmk mX11_amountOf 1 := ⟨zT_7 (i := 77) (by decide +kernel) rfl, zT_1 (i := 1) (by decide +kernel) rfl, ⟨by decide +kernel, by decide +kernel, by decide +kernel⟩, by decide +kernel, by decide⟩
theorem iX11_amountOf : Cond.instanceMethod yX11_amountOf ∈ zTs := zT_7 (i := 76) (by decide +kernel) rfl
theorem eX11_amountOf : Cond.selects yX11_amountOf.cls yX11_amountOf yX11_amountOf ∈ zTs := zT_of (i := 72) (by decide +kernel) rfl
abbrev mX11_isQuestion : zMt := (yX11_isQuestion, cX11_isQuestion, 2, some .boolean)
theorem kX11_isQuestion : zmk mX11_isQuestion 1 := ⟨zT_5 (i := 92) (by decide +kernel) rfl, zT_1 (i := 1) (by decide +kernel) rfl, ⟨by decide +kernel, by decide +kernel, by decide +kernel⟩, by decide +kernel, by decide⟩
theorem iX11_isQuestion : Cond.instanceMethod yX11_isQuestion ∈ zTs := zT_5 (i := 91) (by decide +kernel) rfl
theorem eX11_isQuestion : Cond.selects yX11_isQuestion.cls yX11_isQuestion yX11_isQuestion ∈ zTs := zT_of (i := 47) (by decide +kernel) rfl
abbrev mX11_isPupil : zMt := (yX11_isPupil, cX11_isPupil, 2, some .boolean)
theorem kX11_isPupil : zmk mX11_isPupil 1 := ⟨zT_5 (i := 88) (by decide +kernel) rfl, zT_1 (i := 1) (by decide +kernel) rfl, ⟨by decide +kernel, by decide +kernel, by decide +kernel⟩, by decide +kernel, by decide⟩
theorem iX11_isPupil : Cond.instanceMethod yX11_isPupil ∈ zTs := zT_5 (i := 87) (by decide +kernel) rfl
theorem eX11_isPupil : Cond.selects yX11_isPupil.cls yX11_isPupil yX11_isPupil ∈ zTs := zT_of (i := 46) (by decide +kernel) rfl
abbrev mX11_areValues : zMt := (yX11_areValues, cX11_areValues, 2, some .boolean)
theorem kX11_areValues : zmk mX11_areValues 2 := ⟨zT_6 (i := 146) (by decide +kernel) rfl, zT_1 (i := 1) (by decide +kernel) rfl, ⟨by decide +kernel, by decide +kernel, by decide +kernel⟩, by decide +kernel, by decide⟩
theorem tX11_areValues : Cond.static yX11_areValues ∈ zTs := zT_6 (i := 145) (by decide +kernel) rfl
abbrev mX11_within : zMt := (yX11_within, cX11_within, 3, some .boolean)
theorem kX11_within : zmk mX11_within 3 := ⟨zT_1 (i := 49) (by decide +kernel) rfl, zT_1 (i := 1) (by decide +kernel) rfl, ⟨by decide +kernel, by decide +kernel, by decide +kernel⟩, by decide +kernel, by decide⟩
theorem tX11_within : Cond.static yX11_within ∈ zTs := zT_1 (i := 48) (by decide +kernel) rfl
abbrev mX11_clamped : zMt := (yX11_clamped, cX11_clamped, 2, some .int)
theorem kX11_clamped : zmk mX11_clamped 1 := ⟨zT_4 (i := 199) (by decide +kernel) rfl, zT_1 (i := 1) (by decide +kernel) rfl, ⟨by decide +kernel, by decide +kernel, by decide +kernel⟩, by decide +kernel, by decide⟩
theorem tX11_clamped : Cond.static yX11_clamped ∈ zTs := zT_4 (i := 198) (by decide +kernel) rfl
abbrev mX11_kin : zMt := (yX11_kin, cX11_kin, 3, some .int)
theorem kX11_kin : zmk mX11_kin 2 := ⟨zT_3 (i := 54) (by decide +kernel) rfl, zT_1 (i := 1) (by decide +kernel) rfl, ⟨by decide +kernel, by decide +kernel, by decide +kernel⟩, by decide +kernel, by decide⟩
theorem iX11_kin : Cond.instanceMethod yX11_kin ∈ zTs := zT_3 (i := 52) (by decide +kernel) rfl
theorem eX11_kin : Cond.selects yX11_kin.cls yX11_kin yX11_kin ∈ zTs := zT_3 (i := 53) (by decide +kernel) rfl
abbrev mX11_way : zMt := (yX11_way, cX11_way, 3, some .int)
theorem kX11_way : zmk mX11_way 2 := ⟨zT_3 (i := 62) (by decide +kernel) rfl, zT_1 (i := 1) (by decide +kernel) rfl, ⟨by decide +kernel, by decide +kernel, by decide +kernel⟩, by decide +kernel, by decide⟩
theorem iX11_way : Cond.instanceMethod yX11_way ∈ zTs := zT_3 (i := 60) (by decide +kernel) rfl
theorem eX11_way : Cond.selects yX11_way.cls yX11_way yX11_way ∈ zTs := zT_3 (i := 61) (by decide +kernel) rfl
abbrev mX11_feed : zMt := (yX11_feed, cX11_feed, 6, some .int)
theorem kX11_feed : zmk mX11_feed 5 := ⟨zT_3 (i := 70) (by decide +kernel) rfl, zT_1 (i := 1) (by decide +kernel) rfl, ⟨by decide +kernel, by decide +kernel, by decide +kernel⟩, by decide +kernel, by decide⟩
theorem iX11_feed : Cond.instanceMethod yX11_feed ∈ zTs := zT_3 (i := 68) (by decide +kernel) rfl
theorem eX11_feed : Cond.selects yX11_feed.cls yX11_feed yX11_feed ∈ zTs := zT_3 (i := 69) (by decide +kernel) rfl
abbrev mX11_end : zMt := (yX11_end, cX11_end, 2, some .int)
theorem kX11_end : zmk mX11_end 1 := ⟨zT_3 (i := 78) (by decide +kernel) rfl, zT_1 (i := 1) (by decide +kernel) rfl, ⟨by decide +kernel, by decide +kernel, by decide +kernel⟩, by decide +kernel, by decide⟩
theorem iX11_end : Cond.instanceMethod yX11_end ∈ zTs := zT_3 (i := 76) (by decide +kernel) rfl
theorem eX11_end : Cond.selects yX11_end.cls yX11_end yX11_end ∈ zTs := zT_3 (i := 77) (by decide +kernel) rfl
abbrev mX11_text : zMt := (yX11_text, cX11_text, 2, some .int)
theorem kX11_text : zmk mX11_text 0 := ⟨zT_3 (i := 82) (by decide +kernel) rfl, zT_1 (i := 1) (by decide +kernel) rfl, ⟨by decide +kernel, by decide +kernel, by decide +kernel⟩, by decide +kernel, by decide⟩
theorem iX11_text : Cond.instanceMethod yX11_text ∈ zTs := zT_3 (i := 80) (by decide +kernel) rfl
theorem eX11_text : Cond.selects yX11_text.cls yX11_text yX11_text ∈ zTs := zT_3 (i := 81) (by decide +kernel) rfl
abbrev mX12_hasAsked : zMt := (yX12_hasAsked, cX12_hasAsked, 3, some .boolean)
theorem kX12_hasAsked : zmk mX12_hasAsked 1 := ⟨zT_9 (i := 23) (by decide +kernel) rfl, zT_1 (i := 14) (by decide +kernel) rfl, ⟨by decide +kernel, by decide +kernel, by decide +kernel⟩, by decide +kernel, by decide⟩
theorem iX12_hasAsked : Cond.instanceMethod yX12_hasAsked ∈ zTs := zT_9 (i := 22) (by decide +kernel) rfl
theorem eX12_hasAsked : Cond.selects yX12_hasAsked.cls yX12_hasAsked yX12_hasAsked ∈ zTs := zT_of (i := 110) (by decide +kernel) rfl
abbrev mX12_barring : zMt := (yX12_barring, cX12_barring, 5, some .int)
theorem kX12_barring : zmk mX12_barring 1 := ⟨zT_9 (i := 71) (by decide +kernel) rfl, zT_1 (i := 14) (by decide +kernel) rfl, ⟨by decide +kernel, by decide +kernel, by decide +kernel⟩, by decide +kernel, by decide⟩
theorem iX12_barring : Cond.instanceMethod yX12_barring ∈ zTs := zT_9 (i := 70) (by decide +kernel) rfl
theorem eX12_barring : Cond.selects yX12_barring.cls yX12_barring yX12_barring ∈ zTs := zT_of (i := 116) (by decide +kernel) rfl
abbrev mX12_barred : zMt := (yX12_barred, cX12_barred, 2, some .int)
theorem kX12_barred : zmk mX12_barred 1 := ⟨zT_9 (i := 208) (by decide +kernel) rfl, zT_1 (i := 14) (by decide +kernel) rfl, ⟨by decide +kernel, by decide +kernel, by decide +kernel⟩, by decide +kernel, by decide⟩
theorem iX12_barred : Cond.instanceMethod yX12_barred ∈ zTs := zT_9 (i := 206) (by decide +kernel) rfl
theorem eX12_barred : Cond.selects yX12_barred.cls yX12_barred yX12_barred ∈ zTs := zT_9 (i := 207) (by decide +kernel) rfl
abbrev mX12_why : zMt := (yX12_why, cX12_why, 3, some .int)
theorem kX12_why : zmk mX12_why 2 := ⟨zT_9 (i := 11) (by decide +kernel) rfl, zT_1 (i := 14) (by decide +kernel) rfl, ⟨by decide +kernel, by decide +kernel, by decide +kernel⟩, by decide +kernel, by decide⟩
theorem iX12_why : Cond.instanceMethod yX12_why ∈ zTs := zT_9 (i := 9) (by decide +kernel) rfl
theorem eX12_why : Cond.selects yX12_why.cls yX12_why yX12_why ∈ zTs := zT_9 (i := 10) (by decide +kernel) rfl
abbrev mX12_ask : zMt := (yX12_ask, cX12_ask, 3, some .int)
theorem kX12_ask : zmk mX12_ask 2 := ⟨zT_9 (i := 7) (by decide +kernel) rfl, zT_1 (i := 14) (by decide +kernel) rfl, ⟨by decide +kernel, by decide +kernel, by decide +kernel⟩, by decide +kernel, by decide⟩
theorem iX12_ask : Cond.instanceMethod yX12_ask ∈ zTs := zT_9 (i := 5) (by decide +kernel) rfl
theorem eX12_ask : Cond.selects yX12_ask.cls yX12_ask yX12_ask ∈ zTs := zT_9 (i := 6) (by decide +kernel) rfl
abbrev mX12_undo : zMt := (yX12_undo, cX12_undo, 1, some .int)
theorem kX12_undo : zmk mX12_undo 0 := ⟨zT_9 (i := 214) (by decide +kernel) rfl, zT_1 (i := 14) (by decide +kernel) rfl, ⟨by decide +kernel, by decide +kernel, by decide +kernel⟩, by decide +kernel, by decide⟩
theorem iX12_undo : Cond.instanceMethod yX12_undo ∈ zTs := zT_9 (i := 212) (by decide +kernel) rfl
theorem eX12_undo : Cond.selects yX12_undo.cls yX12_undo yX12_undo ∈ zTs := zT_9 (i := 213) (by decide +kernel) rfl
abbrev mX12_asked : zMt := (yX12_asked, cX12_asked, 3, some .int)
theorem kX12_asked : zmk mX12_asked 2 := ⟨zT_9 (i := 218) (by decide +kernel) rfl, zT_1 (i := 14) (by decide +kernel) rfl, ⟨by decide +kernel, by decide +kernel, by decide +kernel⟩, by decide +kernel, by decide⟩
theorem iX12_asked : Cond.instanceMethod yX12_asked ∈ zTs := zT_9 (i := 216) (by decide +kernel) rfl
theorem eX12_asked : Cond.selects yX12_asked.cls yX12_asked yX12_asked ∈ zTs := zT_9 (i := 217) (by decide +kernel) rfl
abbrev mX12_asksLowest : zMt := (yX12_asksLowest, cX12_asksLowest, 3, some .boolean)
theorem kX12_asksLowest : zmk mX12_asksLowest 1 := ⟨zT_9 (i := 174) (by decide +kernel) rfl, zT_1 (i := 14) (by decide +kernel) rfl, ⟨by decide +kernel, by decide +kernel, by decide +kernel⟩, by decide +kernel, by decide⟩
theorem iX12_asksLowest : Cond.instanceMethod yX12_asksLowest ∈ zTs := zT_9 (i := 173) (by decide +kernel) rfl
theorem eX12_asksLowest : Cond.selects yX12_asksLowest.cls yX12_asksLowest yX12_asksLowest ∈ zTs := zT_of (i := 140) (by decide +kernel) rfl
abbrev mX12_youngest : zMt := (yX12_youngest, cX12_youngest, 4, some .int)
theorem kX12_youngest : zmk mX12_youngest 1 := ⟨zT_9 (i := 163) (by decide +kernel) rfl, zT_1 (i := 14) (by decide +kernel) rfl, ⟨by decide +kernel, by decide +kernel, by decide +kernel⟩, by decide +kernel, by decide⟩
theorem iX12_youngest : Cond.instanceMethod yX12_youngest ∈ zTs := zT_9 (i := 162) (by decide +kernel) rfl
theorem eX12_youngest : Cond.selects yX12_youngest.cls yX12_youngest yX12_youngest ∈ zTs := zT_of (i := 138) (by decide +kernel) rfl
abbrev mX12_nth : zMt := (yX12_nth, cX12_nth, 5, some .int)
theorem kX12_nth : zmk mX12_nth 2 := ⟨zT_9 (i := 170) (by decide +kernel) rfl, zT_1 (i := 14) (by decide +kernel) rfl, ⟨by decide +kernel, by decide +kernel, by decide +kernel⟩, by decide +kernel, by decide⟩
theorem iX12_nth : Cond.instanceMethod yX12_nth ∈ zTs := zT_9 (i := 169) (by decide +kernel) rfl
theorem eX12_nth : Cond.selects yX12_nth.cls yX12_nth yX12_nth ∈ zTs := zT_of (i := 139) (by decide +kernel) rfl
abbrev mX12_pupilOf : zMt := (yX12_pupilOf, cX12_pupilOf, 3, some .int)
theorem kX12_pupilOf : zmk mX12_pupilOf 2 := ⟨zT_9 (i := 35) (by decide +kernel) rfl, zT_1 (i := 14) (by decide +kernel) rfl, ⟨by decide +kernel, by decide +kernel, by decide +kernel⟩, by decide +kernel, by decide⟩
theorem iX12_pupilOf : Cond.instanceMethod yX12_pupilOf ∈ zTs := zT_9 (i := 34) (by decide +kernel) rfl
theorem eX12_pupilOf : Cond.selects yX12_pupilOf.cls yX12_pupilOf yX12_pupilOf ∈ zTs := zT_of (i := 111) (by decide +kernel) rfl
abbrev mX12_waiting : zMt := (yX12_waiting, cX12_waiting, 3, some .int)
theorem kX12_waiting : zmk mX12_waiting 0 := ⟨zT_9 (i := 159) (by decide +kernel) rfl, zT_1 (i := 14) (by decide +kernel) rfl, ⟨by decide +kernel, by decide +kernel, by decide +kernel⟩, by decide +kernel, by decide⟩
theorem iX12_waiting : Cond.instanceMethod yX12_waiting ∈ zTs := zT_9 (i := 158) (by decide +kernel) rfl
theorem eX12_waiting : Cond.selects yX12_waiting.cls yX12_waiting yX12_waiting ∈ zTs := zT_of (i := 137) (by decide +kernel) rfl
abbrev mX12_morning : zMt := (yX12_morning, cX12_morning, 6, some .int)
theorem kX12_morning : zmk mX12_morning 1 := ⟨zT_9 (i := 155) (by decide +kernel) rfl, zT_1 (i := 14) (by decide +kernel) rfl, ⟨by decide +kernel, by decide +kernel, by decide +kernel⟩, by decide +kernel, by decide⟩
theorem iX12_morning : Cond.instanceMethod yX12_morning ∈ zTs := zT_9 (i := 153) (by decide +kernel) rfl
theorem eX12_morning : Cond.selects yX12_morning.cls yX12_morning yX12_morning ∈ zTs := zT_9 (i := 154) (by decide +kernel) rfl
abbrev mX12_stuck : zMt := (yX12_stuck, cX12_stuck, 5, some .int)
theorem kX12_stuck : zmk mX12_stuck 0 := ⟨zT_9 (i := 223) (by decide +kernel) rfl, zT_1 (i := 14) (by decide +kernel) rfl, ⟨by decide +kernel, by decide +kernel, by decide +kernel⟩, by decide +kernel, by decide⟩
theorem iX12_stuck : Cond.instanceMethod yX12_stuck ∈ zTs := zT_9 (i := 221) (by decide +kernel) rfl
theorem eX12_stuck : Cond.selects yX12_stuck.cls yX12_stuck yX12_stuck ∈ zTs := zT_9 (i := 222) (by decide +kernel) rfl
abbrev mX12_findLike : zMt := (yX12_findLike, cX12_findLike, 3, none)
theorem kX12_findLike : zmk mX12_findLike 0 := ⟨zT_9 (i := 231) (by decide +kernel) rfl, zT_1 (i := 14) (by decide +kernel) rfl, ⟨by decide +kernel, by decide +kernel, by decide +kernel⟩, by decide +kernel, by decide⟩
theorem iX12_findLike : Cond.instanceMethod yX12_findLike ∈ zTs := zT_9 (i := 230) (by decide +kernel) rfl
theorem eX12_findLike : Cond.selects yX12_findLike.cls yX12_findLike yX12_findLike ∈ zTs := zT_of (i := 143) (by decide +kernel) rfl
abbrev mX12_canAsk : zMt := (yX12_canAsk, cX12_canAsk, 7, some .int)
theorem kX12_canAsk : zmk mX12_canAsk 1 := ⟨zT_10 (i := 3) (by decide +kernel) rfl, zT_1 (i := 14) (by decide +kernel) rfl, ⟨by decide +kernel, by decide +kernel, by decide +kernel⟩, by decide +kernel, by decide⟩
theorem iX12_canAsk : Cond.instanceMethod yX12_canAsk ∈ zTs := zT_10 (i := 2) (by decide +kernel) rfl
theorem eX12_canAsk : Cond.selects yX12_canAsk.cls yX12_canAsk yX12_canAsk ∈ zTs := zT_of (i := 146) (by decide +kernel) rfl
abbrev mX12_firstOrder : zMt := (yX12_firstOrder, cX12_firstOrder, 2, none)
theorem kX12_firstOrder : zmk mX12_firstOrder 0 := ⟨zT_9 (i := 239) (by decide +kernel) rfl, zT_1 (i := 14) (by decide +kernel) rfl, ⟨by decide +kernel, by decide +kernel, by decide +kernel⟩, by decide +kernel, by decide⟩
theorem iX12_firstOrder : Cond.instanceMethod yX12_firstOrder ∈ zTs := zT_9 (i := 238) (by decide +kernel) rfl
theorem eX12_firstOrder : Cond.selects yX12_firstOrder.cls yX12_firstOrder yX12_firstOrder ∈ zTs := zT_of (i := 145) (by decide +kernel) rfl
abbrev mX12_change : zMt := (yX12_change, cX12_change, 4, none)
theorem kX12_change : zmk mX12_change 2 := ⟨zT_10 (i := 11) (by decide +kernel) rfl, zT_1 (i := 14) (by decide +kernel) rfl, ⟨by decide +kernel, by decide +kernel, by decide +kernel⟩, by decide +kernel, by decide⟩
theorem iX12_change : Cond.instanceMethod yX12_change ∈ zTs := zT_10 (i := 10) (by decide +kernel) rfl
theorem eX12_change : Cond.selects yX12_change.cls yX12_change yX12_change ∈ zTs := zT_of (i := 148) (by decide +kernel) rfl
abbrev mX12_nextOrder : zMt := (yX12_nextOrder, cX12_nextOrder, 6, some .boolean)
theorem kX12_nextOrder : zmk mX12_nextOrder 0 := ⟨zT_10 (i := 7) (by decide +kernel) rfl, zT_1 (i := 14) (by decide +kernel) rfl, ⟨by decide +kernel, by decide +kernel, by decide +kernel⟩, by decide +kernel, by decide⟩
theorem iX12_nextOrder : Cond.instanceMethod yX12_nextOrder ∈ zTs := zT_10 (i := 6) (by decide +kernel) rfl
theorem eX12_nextOrder : Cond.selects yX12_nextOrder.cls yX12_nextOrder yX12_nextOrder ∈ zTs := zT_of (i := 147) (by decide +kernel) rfl
abbrev mX12_mostOf : zMt := (yX12_mostOf, cX12_mostOf, 6, some .int)
theorem kX12_mostOf : zmk mX12_mostOf 1 := ⟨zT_9 (i := 235) (by decide +kernel) rfl, zT_1 (i := 14) (by decide +kernel) rfl, ⟨by decide +kernel, by decide +kernel, by decide +kernel⟩, by decide +kernel, by decide⟩
theorem iX12_mostOf : Cond.instanceMethod yX12_mostOf ∈ zTs := zT_9 (i := 234) (by decide +kernel) rfl
theorem eX12_mostOf : Cond.selects yX12_mostOf.cls yX12_mostOf yX12_mostOf ∈ zTs := zT_of (i := 144) (by decide +kernel) rfl
abbrev mX12_order : zMt := (yX12_order, cX12_order, 3, some .int)
theorem kX12_order : zmk mX12_order 1 := ⟨zT_9 (i := 227) (by decide +kernel) rfl, zT_1 (i := 14) (by decide +kernel) rfl, ⟨by decide +kernel, by decide +kernel, by decide +kernel⟩, by decide +kernel, by decide⟩
theorem iX12_order : Cond.instanceMethod yX12_order ∈ zTs := zT_9 (i := 225) (by decide +kernel) rfl
theorem eX12_order : Cond.selects yX12_order.cls yX12_order yX12_order ∈ zTs := zT_9 (i := 226) (by decide +kernel) rfl
abbrev mX12_thing : zMt := (yX12_thing, cX12_thing, 3, some .boolean)
theorem kX12_thing : zmk mX12_thing 2 := ⟨zT_8 (i := 11) (by decide +kernel) rfl, zT_1 (i := 14) (by decide +kernel) rfl, ⟨by decide +kernel, by decide +kernel, by decide +kernel⟩, by decide +kernel, by decide⟩
theorem iX12_thing : Cond.instanceMethod yX12_thing ∈ zTs := zT_8 (i := 9) (by decide +kernel) rfl
theorem eX12_thing : Cond.selects yX12_thing.cls yX12_thing yX12_thing ∈ zTs := zT_8 (i := 10) (by decide +kernel) rfl
abbrev mX12_shut : zMt := (yX12_shut, cX12_shut, 4, some .int)
theorem kX12_shut : zmk mX12_shut 0 := ⟨zT_10 (i := 15) (by decide +kernel) rfl, zT_1 (i := 14) (by decide +kernel) rfl, ⟨by decide +kernel, by decide +kernel, by decide +kernel⟩, by decide +kernel, by decide⟩
theorem iX12_shut : Cond.instanceMethod yX12_shut ∈ zTs := zT_10 (i := 13) (by decide +kernel) rfl
theorem eX12_shut : Cond.selects yX12_shut.cls yX12_shut yX12_shut ∈ zTs := zT_10 (i := 14) (by decide +kernel) rfl
abbrev mX12_isGood : zMt := (yX12_isGood, cX12_isGood, 6, some .boolean)
theorem kX12_isGood : zmk mX12_isGood 4 := ⟨zT_10 (i := 27) (by decide +kernel) rfl, zT_1 (i := 14) (by decide +kernel) rfl, ⟨by decide +kernel, by decide +kernel, by decide +kernel⟩, by decide +kernel, by decide⟩
theorem iX12_isGood : Cond.instanceMethod yX12_isGood ∈ zTs := zT_10 (i := 26) (by decide +kernel) rfl
theorem eX12_isGood : Cond.selects yX12_isGood.cls yX12_isGood yX12_isGood ∈ zTs := zT_of (i := 150) (by decide +kernel) rfl
abbrev mX12_wins : zMt := (yX12_wins, cX12_wins, 5, some .boolean)
theorem kX12_wins : zmk mX12_wins 3 := ⟨zT_10 (i := 23) (by decide +kernel) rfl, zT_1 (i := 14) (by decide +kernel) rfl, ⟨by decide +kernel, by decide +kernel, by decide +kernel⟩, by decide +kernel, by decide⟩
theorem iX12_wins : Cond.instanceMethod yX12_wins ∈ zTs := zT_10 (i := 22) (by decide +kernel) rfl
theorem eX12_wins : Cond.selects yX12_wins.cls yX12_wins yX12_wins ∈ zTs := zT_of (i := 149) (by decide +kernel) rfl
abbrev mX12_game : zMt := (yX12_game, cX12_game, 5, some .int)
theorem kX12_game : zmk mX12_game 3 := ⟨zT_10 (i := 19) (by decide +kernel) rfl, zT_1 (i := 14) (by decide +kernel) rfl, ⟨by decide +kernel, by decide +kernel, by decide +kernel⟩, by decide +kernel, by decide⟩
theorem iX12_game : Cond.instanceMethod yX12_game ∈ zTs := zT_10 (i := 17) (by decide +kernel) rfl
theorem eX12_game : Cond.selects yX12_game.cls yX12_game yX12_game ∈ zTs := zT_10 (i := 18) (by decide +kernel) rfl
abbrev mX12_left : zMt := (yX12_left, cX12_left, 4, some .int)
theorem kX12_left : zmk mX12_left 1 := ⟨zT_10 (i := 31) (by decide +kernel) rfl, zT_1 (i := 14) (by decide +kernel) rfl, ⟨by decide +kernel, by decide +kernel, by decide +kernel⟩, by decide +kernel, by decide⟩
theorem iX12_left : Cond.instanceMethod yX12_left ∈ zTs := zT_10 (i := 29) (by decide +kernel) rfl
theorem eX12_left : Cond.selects yX12_left.cls yX12_left yX12_left ∈ zTs := zT_10 (i := 30) (by decide +kernel) rfl
abbrev mX12_cell : zMt := (yX12_cell, cX12_cell, 2, some .int)
theorem kX12_cell : zmk mX12_cell 2 := ⟨zT_10 (i := 42) (by decide +kernel) rfl, zT_1 (i := 14) (by decide +kernel) rfl, ⟨by decide +kernel, by decide +kernel, by decide +kernel⟩, by decide +kernel, by decide⟩
theorem tX12_cell : Cond.static yX12_cell ∈ zTs := zT_10 (i := 41) (by decide +kernel) rfl
abbrev mX12_two : zMt := (yX12_two, cX12_two, 3, some .int)
theorem kX12_two : zmk mX12_two 3 := ⟨zT_10 (i := 49) (by decide +kernel) rfl, zT_1 (i := 14) (by decide +kernel) rfl, ⟨by decide +kernel, by decide +kernel, by decide +kernel⟩, by decide +kernel, by decide⟩
theorem tX12_two : Cond.static yX12_two ∈ zTs := zT_10 (i := 48) (by decide +kernel) rfl
abbrev mX12_join : zMt := (yX12_join, cX12_join, 11, none)
theorem kX12_join : zmk mX12_join 2 := ⟨zT_10 (i := 46) (by decide +kernel) rfl, zT_1 (i := 14) (by decide +kernel) rfl, ⟨by decide +kernel, by decide +kernel, by decide +kernel⟩, by decide +kernel, by decide⟩
theorem iX12_join : Cond.instanceMethod yX12_join ∈ zTs := zT_10 (i := 45) (by decide +kernel) rfl
theorem eX12_join : Cond.selects yX12_join.cls yX12_join yX12_join ∈ zTs := zT_of (i := 152) (by decide +kernel) rfl
abbrev mX12_findKinds : zMt := (yX12_findKinds, cX12_findKinds, 5, none)
theorem kX12_findKinds : zmk mX12_findKinds 2 := ⟨zT_10 (i := 39) (by decide +kernel) rfl, zT_1 (i := 14) (by decide +kernel) rfl, ⟨by decide +kernel, by decide +kernel, by decide +kernel⟩, by decide +kernel, by decide⟩
theorem iX12_findKinds : Cond.instanceMethod yX12_findKinds ∈ zTs := zT_10 (i := 38) (by decide +kernel) rfl
theorem eX12_findKinds : Cond.selects yX12_findKinds.cls yX12_findKinds yX12_findKinds ∈ zTs := zT_of (i := 151) (by decide +kernel) rfl
abbrev mX12_kinds : zMt := (yX12_kinds, cX12_kinds, 4, some .long)
theorem kX12_kinds : zmk mX12_kinds 3 := ⟨zT_10 (i := 35) (by decide +kernel) rfl, zT_1 (i := 14) (by decide +kernel) rfl, ⟨by decide +kernel, by decide +kernel, by decide +kernel⟩, by decide +kernel, by decide⟩
theorem iX12_kinds : Cond.instanceMethod yX12_kinds ∈ zTs := zT_10 (i := 33) (by decide +kernel) rfl
theorem eX12_kinds : Cond.selects yX12_kinds.cls yX12_kinds yX12_kinds ∈ zTs := zT_10 (i := 34) (by decide +kernel) rfl
abbrev mX12_isParent : zMt := (yX12_isParent, cX12_isParent, 2, some .boolean)
theorem kX12_isParent : zmk mX12_isParent 1 := ⟨zT_8 (i := 22) (by decide +kernel) rfl, zT_1 (i := 14) (by decide +kernel) rfl, ⟨by decide +kernel, by decide +kernel, by decide +kernel⟩, by decide +kernel, by decide⟩
theorem iX12_isParent : Cond.instanceMethod yX12_isParent ∈ zTs := zT_8 (i := 21) (by decide +kernel) rfl
theorem eX12_isParent : Cond.selects yX12_isParent.cls yX12_isParent yX12_isParent ∈ zTs := zT_of (i := 73) (by decide +kernel) rfl
abbrev mX12_fewestOf : zMt := (yX12_fewestOf, cX12_fewestOf, 4, some .int)
theorem kX12_fewestOf : zmk mX12_fewestOf 2 := ⟨zT_10 (i := 57) (by decide +kernel) rfl, zT_1 (i := 14) (by decide +kernel) rfl, ⟨by decide +kernel, by decide +kernel, by decide +kernel⟩, by decide +kernel, by decide⟩
theorem iX12_fewestOf : Cond.instanceMethod yX12_fewestOf ∈ zTs := zT_10 (i := 56) (by decide +kernel) rfl
theorem eX12_fewestOf : Cond.selects yX12_fewestOf.cls yX12_fewestOf yX12_fewestOf ∈ zTs := zT_of (i := 153) (by decide +kernel) rfl
abbrev mX12_fewest : zMt := (yX12_fewest, cX12_fewest, 3, some .int)
theorem kX12_fewest : zmk mX12_fewest 2 := ⟨zT_10 (i := 53) (by decide +kernel) rfl, zT_1 (i := 14) (by decide +kernel) rfl, ⟨by decide +kernel, by decide +kernel, by decide +kernel⟩, by decide +kernel, by decide⟩
theorem iX12_fewest : Cond.instanceMethod yX12_fewest ∈ zTs := zT_10 (i := 51) (by decide +kernel) rfl
theorem eX12_fewest : Cond.selects yX12_fewest.cls yX12_fewest yX12_fewest ∈ zTs := zT_10 (i := 52) (by decide +kernel) rfl
abbrev mX12_await0 : zMt := (yX12_await0, cX12_await0, 3, none)
theorem kX12_await0 : zmk mX12_await0 2 := ⟨zT_10 (i := 65) (by decide +kernel) rfl, zT_1 (i := 14) (by decide +kernel) rfl, ⟨by decide +kernel, by decide +kernel, by decide +kernel⟩, by decide +kernel, by decide⟩
theorem iX12_await0 : Cond.instanceMethod yX12_await0 ∈ zTs := zT_10 (i := 64) (by decide +kernel) rfl
theorem eX12_await0 : Cond.selects yX12_await0.cls yX12_await0 yX12_await0 ∈ zTs := zT_of (i := 154) (by decide +kernel) rfl
abbrev mX12_leafOf : zMt := (yX12_leafOf, cX12_leafOf, 4, some .int)
theorem kX12_leafOf : zmk mX12_leafOf 2 := ⟨zT_10 (i := 69) (by decide +kernel) rfl, zT_1 (i := 14) (by decide +kernel) rfl, ⟨by decide +kernel, by decide +kernel, by decide +kernel⟩, by decide +kernel, by decide⟩
theorem iX12_leafOf : Cond.instanceMethod yX12_leafOf ∈ zTs := zT_10 (i := 68) (by decide +kernel) rfl
theorem eX12_leafOf : Cond.selects yX12_leafOf.cls yX12_leafOf yX12_leafOf ∈ zTs := zT_of (i := 155) (by decide +kernel) rfl
abbrev mX12_split : zMt := (yX12_split, cX12_split, 7, some .int)
theorem kX12_split : zmk mX12_split 2 := ⟨zT_10 (i := 73) (by decide +kernel) rfl, zT_1 (i := 14) (by decide +kernel) rfl, ⟨by decide +kernel, by decide +kernel, by decide +kernel⟩, by decide +kernel, by decide⟩
theorem iX12_split : Cond.instanceMethod yX12_split ∈ zTs := zT_10 (i := 72) (by decide +kernel) rfl
theorem eX12_split : Cond.selects yX12_split.cls yX12_split yX12_split ∈ zTs := zT_of (i := 156) (by decide +kernel) rfl
abbrev mX12_shortest : zMt := (yX12_shortest, cX12_shortest, 6, some .int)
theorem kX12_shortest : zmk mX12_shortest 3 := ⟨zT_10 (i := 61) (by decide +kernel) rfl, zT_1 (i := 14) (by decide +kernel) rfl, ⟨by decide +kernel, by decide +kernel, by decide +kernel⟩, by decide +kernel, by decide⟩
theorem iX12_shortest : Cond.instanceMethod yX12_shortest ∈ zTs := zT_10 (i := 59) (by decide +kernel) rfl
theorem eX12_shortest : Cond.selects yX12_shortest.cls yX12_shortest yX12_shortest ∈ zTs := zT_10 (i := 60) (by decide +kernel) rfl
abbrev mX12_areValues : zMt := (yX12_areValues, cX12_areValues, 2, some .boolean)
theorem kX12_areValues : zmk mX12_areValues 2 := ⟨zT_10 (i := 80) (by decide +kernel) rfl, zT_1 (i := 14) (by decide +kernel) rfl, ⟨by decide +kernel, by decide +kernel, by decide +kernel⟩, by decide +kernel, by decide⟩
theorem tX12_areValues : Cond.static yX12_areValues ∈ zTs := zT_10 (i := 79) (by decide +kernel) rfl
abbrev mX12_rarest : zMt := (yX12_rarest, cX12_rarest, 9, some .int)
theorem kX12_rarest : zmk mX12_rarest 4 := ⟨zT_10 (i := 77) (by decide +kernel) rfl, zT_1 (i := 14) (by decide +kernel) rfl, ⟨by decide +kernel, by decide +kernel, by decide +kernel⟩, by decide +kernel, by decide⟩
theorem iX12_rarest : Cond.instanceMethod yX12_rarest ∈ zTs := zT_10 (i := 75) (by decide +kernel) rfl
theorem eX12_rarest : Cond.selects yX12_rarest.cls yX12_rarest yX12_rarest ∈ zTs := zT_10 (i := 76) (by decide +kernel) rfl
abbrev mX12_fair : zMt := (yX12_fair, cX12_fair, 9, some .int)
theorem kX12_fair : zmk mX12_fair 3 := ⟨zT_10 (i := 84) (by decide +kernel) rfl, zT_1 (i := 14) (by decide +kernel) rfl, ⟨by decide +kernel, by decide +kernel, by decide +kernel⟩, by decide +kernel, by decide⟩
theorem iX12_fair : Cond.instanceMethod yX12_fair ∈ zTs := zT_10 (i := 82) (by decide +kernel) rfl
theorem eX12_fair : Cond.selects yX12_fair.cls yX12_fair yX12_fair ∈ zTs := zT_10 (i := 83) (by decide +kernel) rfl
abbrev mX12_unasked : zMt := (yX12_unasked, cX12_unasked, 4, some .int)
theorem kX12_unasked : zmk mX12_unasked 2 := ⟨zT_10 (i := 88) (by decide +kernel) rfl, zT_1 (i := 14) (by decide +kernel) rfl, ⟨by decide +kernel, by decide +kernel, by decide +kernel⟩, by decide +kernel, by decide⟩
theorem iX12_unasked : Cond.instanceMethod yX12_unasked ∈ zTs := zT_10 (i := 86) (by decide +kernel) rfl
theorem eX12_unasked : Cond.selects yX12_unasked.cls yX12_unasked yX12_unasked ∈ zTs := zT_10 (i := 87) (by decide +kernel) rfl
abbrev mX12_person : zMt := (yX12_person, cX12_person, 5, some .int)
theorem kX12_person : zmk mX12_person 3 := ⟨zT_8 (i := 18) (by decide +kernel) rfl, zT_1 (i := 14) (by decide +kernel) rfl, ⟨by decide +kernel, by decide +kernel, by decide +kernel⟩, by decide +kernel, by decide⟩
theorem iX12_person : Cond.instanceMethod yX12_person ∈ zTs := zT_8 (i := 16) (by decide +kernel) rfl
theorem eX12_person : Cond.selects yX12_person.cls yX12_person yX12_person ∈ zTs := zT_8 (i := 17) (by decide +kernel) rfl
abbrev mX12_hear : zMt := (yX12_hear, cX12_hear, 3, some .int)
theorem kX12_hear : zmk mX12_hear 2 := ⟨zT_10 (i := 92) (by decide +kernel) rfl, zT_1 (i := 14) (by decide +kernel) rfl, ⟨by decide +kernel, by decide +kernel, by decide +kernel⟩, by decide +kernel, by decide⟩
theorem iX12_hear : Cond.instanceMethod yX12_hear ∈ zTs := zT_10 (i := 90) (by decide +kernel) rfl
theorem eX12_hear : Cond.selects yX12_hear.cls yX12_hear yX12_hear ∈ zTs := zT_10 (i := 91) (by decide +kernel) rfl
abbrev mX12_isOneAnswer : zMt := (yX12_isOneAnswer, cX12_isOneAnswer, 6, some .boolean)
theorem kX12_isOneAnswer : zmk mX12_isOneAnswer 0 := ⟨zT_10 (i := 100) (by decide +kernel) rfl, zT_1 (i := 14) (by decide +kernel) rfl, ⟨by decide +kernel, by decide +kernel, by decide +kernel⟩, by decide +kernel, by decide⟩
theorem iX12_isOneAnswer : Cond.instanceMethod yX12_isOneAnswer ∈ zTs := zT_10 (i := 99) (by decide +kernel) rfl
theorem eX12_isOneAnswer : Cond.selects yX12_isOneAnswer.cls yX12_isOneAnswer yX12_isOneAnswer ∈ zTs := zT_of (i := 157) (by decide +kernel) rfl
abbrev mX12_worlds : zMt := (yX12_worlds, cX12_worlds, 5, some .int)
theorem kX12_worlds : zmk mX12_worlds 1 := ⟨zT_10 (i := 96) (by decide +kernel) rfl, zT_1 (i := 14) (by decide +kernel) rfl, ⟨by decide +kernel, by decide +kernel, by decide +kernel⟩, by decide +kernel, by decide⟩
theorem iX12_worlds : Cond.instanceMethod yX12_worlds ∈ zTs := zT_10 (i := 94) (by decide +kernel) rfl
theorem eX12_worlds : Cond.selects yX12_worlds.cls yX12_worlds yX12_worlds ∈ zTs := zT_10 (i := 95) (by decide +kernel) rfl
abbrev mX12_knew : zMt := (yX12_knew, cX12_knew, 4, some .int)
theorem kX12_knew : zmk mX12_knew 1 := ⟨zT_10 (i := 104) (by decide +kernel) rfl, zT_1 (i := 14) (by decide +kernel) rfl, ⟨by decide +kernel, by decide +kernel, by decide +kernel⟩, by decide +kernel, by decide⟩
theorem iX12_knew : Cond.instanceMethod yX12_knew ∈ zTs := zT_10 (i := 102) (by decide +kernel) rfl
theorem eX12_knew : Cond.selects yX12_knew.cls yX12_knew yX12_knew ∈ zTs := zT_10 (i := 103) (by decide +kernel) rfl
abbrev mX12_tell : zMt := (yX12_tell, cX12_tell, 3, some .int)
theorem kX12_tell : zmk mX12_tell 2 := ⟨zT_10 (i := 108) (by decide +kernel) rfl, zT_1 (i := 14) (by decide +kernel) rfl, ⟨by decide +kernel, by decide +kernel, by decide +kernel⟩, by decide +kernel, by decide⟩
theorem iX12_tell : Cond.instanceMethod yX12_tell ∈ zTs := zT_10 (i := 106) (by decide +kernel) rfl
theorem eX12_tell : Cond.selects yX12_tell.cls yX12_tell yX12_tell ∈ zTs := zT_10 (i := 107) (by decide +kernel) rfl
abbrev mX12_lies : zMt := (yX12_lies, cX12_lies, 3, some .int)
theorem kX12_lies : zmk mX12_lies 0 := ⟨zT_10 (i := 112) (by decide +kernel) rfl, zT_1 (i := 14) (by decide +kernel) rfl, ⟨by decide +kernel, by decide +kernel, by decide +kernel⟩, by decide +kernel, by decide⟩
theorem iX12_lies : Cond.instanceMethod yX12_lies ∈ zTs := zT_10 (i := 110) (by decide +kernel) rfl
theorem eX12_lies : Cond.selects yX12_lies.cls yX12_lies yX12_lies ∈ zTs := zT_10 (i := 111) (by decide +kernel) rfl
abbrev mX12_clash : zMt := (yX12_clash, cX12_clash, 3, some .int)
theorem kX12_clash : zmk mX12_clash 0 := ⟨zT_10 (i := 116) (by decide +kernel) rfl, zT_1 (i := 14) (by decide +kernel) rfl, ⟨by decide +kernel, by decide +kernel, by decide +kernel⟩, by decide +kernel, by decide⟩
theorem iX12_clash : Cond.instanceMethod yX12_clash ∈ zTs := zT_10 (i := 114) (by decide +kernel) rfl
theorem eX12_clash : Cond.selects yX12_clash.cls yX12_clash yX12_clash ∈ zTs := zT_10 (i := 115) (by decide +kernel) rfl
abbrev mX12_image : zMt := (yX12_image, cX12_image, 1, some .int)
theorem kX12_image : zmk mX12_image 0 := ⟨zT_10 (i := 120) (by decide +kernel) rfl, zT_1 (i := 14) (by decide +kernel) rfl, ⟨by decide +kernel, by decide +kernel, by decide +kernel⟩, by decide +kernel, by decide⟩
theorem iX12_image : Cond.instanceMethod yX12_image ∈ zTs := zT_10 (i := 118) (by decide +kernel) rfl
theorem eX12_image : Cond.selects yX12_image.cls yX12_image yX12_image ∈ zTs := zT_10 (i := 119) (by decide +kernel) rfl
abbrev mX12_back : zMt := (yX12_back, cX12_back, 1, some .int)
theorem kX12_back : zmk mX12_back 0 := ⟨zT_10 (i := 124) (by decide +kernel) rfl, zT_1 (i := 14) (by decide +kernel) rfl, ⟨by decide +kernel, by decide +kernel, by decide +kernel⟩, by decide +kernel, by decide⟩
theorem iX12_back : Cond.instanceMethod yX12_back ∈ zTs := zT_10 (i := 122) (by decide +kernel) rfl
theorem eX12_back : Cond.selects yX12_back.cls yX12_back yX12_back ∈ zTs := zT_10 (i := 123) (by decide +kernel) rfl
abbrev mX12_about : zMt := (yX12_about, cX12_about, 2, some .int)
theorem kX12_about : zmk mX12_about 1 := ⟨zT_10 (i := 128) (by decide +kernel) rfl, zT_1 (i := 14) (by decide +kernel) rfl, ⟨by decide +kernel, by decide +kernel, by decide +kernel⟩, by decide +kernel, by decide⟩
theorem iX12_about : Cond.instanceMethod yX12_about ∈ zTs := zT_10 (i := 126) (by decide +kernel) rfl
theorem eX12_about : Cond.selects yX12_about.cls yX12_about yX12_about ∈ zTs := zT_10 (i := 127) (by decide +kernel) rfl
abbrev mX12_road : zMt := (yX12_road, cX12_road, 4, some .boolean)
theorem kX12_road : zmk mX12_road 3 := ⟨zT_8 (i := 30) (by decide +kernel) rfl, zT_1 (i := 14) (by decide +kernel) rfl, ⟨by decide +kernel, by decide +kernel, by decide +kernel⟩, by decide +kernel, by decide⟩
theorem iX12_road : Cond.instanceMethod yX12_road ∈ zTs := zT_8 (i := 28) (by decide +kernel) rfl
theorem eX12_road : Cond.selects yX12_road.cls yX12_road yX12_road ∈ zTs := zT_8 (i := 29) (by decide +kernel) rfl
abbrev mX12_isChild : zMt := (yX12_isChild, cX12_isChild, 3, some .boolean)
theorem kX12_isChild : zmk mX12_isChild 2 := ⟨zT_8 (i := 42) (by decide +kernel) rfl, zT_1 (i := 14) (by decide +kernel) rfl, ⟨by decide +kernel, by decide +kernel, by decide +kernel⟩, by decide +kernel, by decide⟩
theorem iX12_isChild : Cond.instanceMethod yX12_isChild ∈ zTs := zT_8 (i := 41) (by decide +kernel) rfl
theorem eX12_isChild : Cond.selects yX12_isChild.cls yX12_isChild yX12_isChild ∈ zTs := zT_of (i := 76) (by decide +kernel) rfl
abbrev mX12_close : zMt := (yX12_close, cX12_close, 7, none)
theorem kX12_close : zmk mX12_close 3 := ⟨zT_8 (i := 46) (by decide +kernel) rfl, zT_1 (i := 14) (by decide +kernel) rfl, ⟨by decide +kernel, by decide +kernel, by decide +kernel⟩, by decide +kernel, by decide⟩
theorem tX12_close : Cond.static yX12_close ∈ zTs := zT_8 (i := 45) (by decide +kernel) rfl
abbrev mX12_findKin : zMt := (yX12_findKin, cX12_findKin, 4, none)
theorem kX12_findKin : zmk mX12_findKin 0 := ⟨zT_8 (i := 38) (by decide +kernel) rfl, zT_1 (i := 14) (by decide +kernel) rfl, ⟨by decide +kernel, by decide +kernel, by decide +kernel⟩, by decide +kernel, by decide⟩
theorem iX12_findKin : Cond.instanceMethod yX12_findKin ∈ zTs := zT_8 (i := 37) (by decide +kernel) rfl
theorem eX12_findKin : Cond.selects yX12_findKin.cls yX12_findKin yX12_findKin ∈ zTs := zT_of (i := 75) (by decide +kernel) rfl
abbrev mX12_known : zMt := (yX12_known, cX12_known, 1, some .int)
theorem kX12_known : zmk mX12_known 1 := ⟨zT_8 (i := 49) (by decide +kernel) rfl, zT_1 (i := 14) (by decide +kernel) rfl, ⟨by decide +kernel, by decide +kernel, by decide +kernel⟩, by decide +kernel, by decide⟩
theorem tX12_known : Cond.static yX12_known ∈ zTs := zT_8 (i := 48) (by decide +kernel) rfl
abbrev mX12_kin : zMt := (yX12_kin, cX12_kin, 3, some .int)
theorem kX12_kin : zmk mX12_kin 2 := ⟨zT_8 (i := 34) (by decide +kernel) rfl, zT_1 (i := 14) (by decide +kernel) rfl, ⟨by decide +kernel, by decide +kernel, by decide +kernel⟩, by decide +kernel, by decide⟩
theorem iX12_kin : Cond.instanceMethod yX12_kin ∈ zTs := zT_8 (i := 32) (by decide +kernel) rfl
theorem eX12_kin : Cond.selects yX12_kin.cls yX12_kin yX12_kin ∈ zTs := zT_8 (i := 33) (by decide +kernel) rfl
abbrev mX12_init : zMt := (yX12_init, cX12_init, 1, none)
theorem kX12_init : zmk mX12_init 0 := ⟨zT_7 (i := 82) (by decide +kernel) rfl, zT_1 (i := 14) (by decide +kernel) rfl, ⟨by decide +kernel, by decide +kernel, by decide +kernel⟩, by decide +kernel, by decide⟩
theorem iX12_init : Cond.instanceMethod yX12_init ∈ zTs := zT_7 (i := 81) (by decide +kernel) rfl
abbrev mX12_way : zMt := (yX12_way, cX12_way, 3, some .int)
theorem kX12_way : zmk mX12_way 2 := ⟨zT_8 (i := 53) (by decide +kernel) rfl, zT_1 (i := 14) (by decide +kernel) rfl, ⟨by decide +kernel, by decide +kernel, by decide +kernel⟩, by decide +kernel, by decide⟩
theorem iX12_way : Cond.instanceMethod yX12_way ∈ zTs := zT_8 (i := 51) (by decide +kernel) rfl
theorem eX12_way : Cond.selects yX12_way.cls yX12_way yX12_way ∈ zTs := zT_8 (i := 52) (by decide +kernel) rfl
abbrev mX12_four : zMt := (yX12_four, cX12_four, 3, none)
theorem kX12_four : zmk mX12_four 1 := ⟨zT_8 (i := 61) (by decide +kernel) rfl, zT_1 (i := 14) (by decide +kernel) rfl, ⟨by decide +kernel, by decide +kernel, by decide +kernel⟩, by decide +kernel, by decide⟩
theorem iX12_four : Cond.instanceMethod yX12_four ∈ zTs := zT_8 (i := 60) (by decide +kernel) rfl
theorem eX12_four : Cond.selects yX12_four.cls yX12_four yX12_four ∈ zTs := zT_of (i := 77) (by decide +kernel) rfl
abbrev mX12_feed : zMt := (yX12_feed, cX12_feed, 6, some .int)
theorem kX12_feed : zmk mX12_feed 5 := ⟨zT_8 (i := 57) (by decide +kernel) rfl, zT_1 (i := 14) (by decide +kernel) rfl, ⟨by decide +kernel, by decide +kernel, by decide +kernel⟩, by decide +kernel, by decide⟩
theorem iX12_feed : Cond.instanceMethod yX12_feed ∈ zTs := zT_8 (i := 55) (by decide +kernel) rfl
theorem eX12_feed : Cond.selects yX12_feed.cls yX12_feed yX12_feed ∈ zTs := zT_8 (i := 56) (by decide +kernel) rfl
abbrev mX12_end : zMt := (yX12_end, cX12_end, 2, some .int)
theorem kX12_end : zmk mX12_end 1 := ⟨zT_8 (i := 65) (by decide +kernel) rfl, zT_1 (i := 14) (by decide +kernel) rfl, ⟨by decide +kernel, by decide +kernel, by decide +kernel⟩, by decide +kernel, by decide⟩
theorem iX12_end : Cond.instanceMethod yX12_end ∈ zTs := zT_8 (i := 63) (by decide +kernel) rfl
theorem eX12_end : Cond.selects yX12_end.cls yX12_end yX12_end ∈ zTs := zT_8 (i := 64) (by decide +kernel) rfl
abbrev mX12_byteAt : zMt := (yX12_byteAt, cX12_byteAt, 2, some .int)
theorem kX12_byteAt : zmk mX12_byteAt 1 := ⟨zT_8 (i := 81) (by decide +kernel) rfl, zT_1 (i := 14) (by decide +kernel) rfl, ⟨by decide +kernel, by decide +kernel, by decide +kernel⟩, by decide +kernel, by decide⟩
theorem iX12_byteAt : Cond.instanceMethod yX12_byteAt ∈ zTs := zT_8 (i := 80) (by decide +kernel) rfl
theorem eX12_byteAt : Cond.selects yX12_byteAt.cls yX12_byteAt yX12_byteAt ∈ zTs := zT_of (i := 80) (by decide +kernel) rfl
abbrev mX12_isLetterByte : zMt := (yX12_isLetterByte, cX12_isLetterByte, 1, some .boolean)
theorem kX12_isLetterByte : zmk mX12_isLetterByte 1 := ⟨zT_8 (i := 88) (by decide +kernel) rfl, zT_1 (i := 14) (by decide +kernel) rfl, ⟨by decide +kernel, by decide +kernel, by decide +kernel⟩, by decide +kernel, by decide⟩
theorem tX12_isLetterByte : Cond.static yX12_isLetterByte ∈ zTs := zT_8 (i := 87) (by decide +kernel) rfl
abbrev mX12_isFigure : zMt := (yX12_isFigure, cX12_isFigure, 1, some .boolean)
theorem kX12_isFigure : zmk mX12_isFigure 1 := ⟨zT_8 (i := 84) (by decide +kernel) rfl, zT_1 (i := 14) (by decide +kernel) rfl, ⟨by decide +kernel, by decide +kernel, by decide +kernel⟩, by decide +kernel, by decide⟩
theorem tX12_isFigure : Cond.static yX12_isFigure ∈ zTs := zT_8 (i := 83) (by decide +kernel) rfl
abbrev mX12_isSign : zMt := (yX12_isSign, cX12_isSign, 1, some .boolean)
theorem kX12_isSign : zmk mX12_isSign 1 := ⟨zT_8 (i := 92) (by decide +kernel) rfl, zT_1 (i := 14) (by decide +kernel) rfl, ⟨by decide +kernel, by decide +kernel, by decide +kernel⟩, by decide +kernel, by decide⟩
theorem tX12_isSign : Cond.static yX12_isSign ∈ zTs := zT_8 (i := 91) (by decide +kernel) rfl
abbrev mX12_nextToken : zMt := (yX12_nextToken, cX12_nextToken, 2, none)
theorem kX12_nextToken : zmk mX12_nextToken 0 := ⟨zT_8 (i := 77) (by decide +kernel) rfl, zT_1 (i := 14) (by decide +kernel) rfl, ⟨by decide +kernel, by decide +kernel, by decide +kernel⟩, by decide +kernel, by decide⟩
theorem iX12_nextToken : Cond.instanceMethod yX12_nextToken ∈ zTs := zT_8 (i := 76) (by decide +kernel) rfl
theorem eX12_nextToken : Cond.selects yX12_nextToken.cls yX12_nextToken yX12_nextToken ∈ zTs := zT_of (i := 79) (by decide +kernel) rfl
abbrev mX12_w3 : zMt := (yX12_w3, cX12_w3, 3, some .long)
theorem kX12_w3 : zmk mX12_w3 3 := ⟨zT_8 (i := 103) (by decide +kernel) rfl, zT_1 (i := 14) (by decide +kernel) rfl, ⟨by decide +kernel, by decide +kernel, by decide +kernel⟩, by decide +kernel, by decide⟩
theorem tX12_w3 : Cond.static yX12_w3 ∈ zTs := zT_8 (i := 102) (by decide +kernel) rfl
abbrev mX12_copy : zMt := (yX12_copy, cX12_copy, 3, none)
theorem kX12_copy : zmk mX12_copy 2 := ⟨zT_7 (i := 86) (by decide +kernel) rfl, zT_1 (i := 14) (by decide +kernel) rfl, ⟨by decide +kernel, by decide +kernel, by decide +kernel⟩, by decide +kernel, by decide⟩
theorem tX12_copy : Cond.static yX12_copy ∈ zTs := zT_7 (i := 85) (by decide +kernel) rfl
abbrev mX12_w4 : zMt := (yX12_w4, cX12_w4, 4, some .long)
theorem kX12_w4 : zmk mX12_w4 4 := ⟨zT_8 (i := 110) (by decide +kernel) rfl, zT_1 (i := 14) (by decide +kernel) rfl, ⟨by decide +kernel, by decide +kernel, by decide +kernel⟩, by decide +kernel, by decide⟩
theorem tX12_w4 : Cond.static yX12_w4 ∈ zTs := zT_8 (i := 109) (by decide +kernel) rfl
abbrev mX12_w5 : zMt := (yX12_w5, cX12_w5, 5, some .long)
theorem kX12_w5 : zmk mX12_w5 5 := ⟨zT_8 (i := 113) (by decide +kernel) rfl, zT_1 (i := 14) (by decide +kernel) rfl, ⟨by decide +kernel, by decide +kernel, by decide +kernel⟩, by decide +kernel, by decide⟩
theorem tX12_w5 : Cond.static yX12_w5 ∈ zTs := zT_8 (i := 112) (by decide +kernel) rfl
abbrev mX12_w6 : zMt := (yX12_w6, cX12_w6, 6, some .long)
theorem kX12_w6 : zmk mX12_w6 6 := ⟨zT_8 (i := 116) (by decide +kernel) rfl, zT_1 (i := 14) (by decide +kernel) rfl, ⟨by decide +kernel, by decide +kernel, by decide +kernel⟩, by decide +kernel, by decide⟩
theorem tX12_w6 : Cond.static yX12_w6 ∈ zTs := zT_8 (i := 115) (by decide +kernel) rfl
abbrev mX12_isWord : zMt := (yX12_isWord, cX12_isWord, 3, some .boolean)
theorem kX12_isWord : zmk mX12_isWord 1 := ⟨zT_8 (i := 107) (by decide +kernel) rfl, zT_1 (i := 14) (by decide +kernel) rfl, ⟨by decide +kernel, by decide +kernel, by decide +kernel⟩, by decide +kernel, by decide⟩
theorem iX12_isWord : Cond.instanceMethod yX12_isWord ∈ zTs := zT_8 (i := 106) (by decide +kernel) rfl
theorem eX12_isWord : Cond.selects yX12_isWord.cls yX12_isWord yX12_isWord ∈ zTs := zT_of (i := 83) (by decide +kernel) rfl
abbrev mX12_write : zMt := (yX12_write, cX12_write, 3, none)
theorem kX12_write : zmk mX12_write 2 := ⟨zT_8 (i := 144) (by decide +kernel) rfl, zT_1 (i := 14) (by decide +kernel) rfl, ⟨by decide +kernel, by decide +kernel, by decide +kernel⟩, by decide +kernel, by decide⟩
theorem iX12_write : Cond.instanceMethod yX12_write ∈ zTs := zT_8 (i := 143) (by decide +kernel) rfl
theorem eX12_write : Cond.selects yX12_write.cls yX12_write yX12_write ∈ zTs := zT_of (i := 90) (by decide +kernel) rfl
abbrev mX12_begin : zMt := (yX12_begin, cX12_begin, 3, none)
theorem kX12_begin : zmk mX12_begin 2 := ⟨zT_8 (i := 128) (by decide +kernel) rfl, zT_1 (i := 14) (by decide +kernel) rfl, ⟨by decide +kernel, by decide +kernel, by decide +kernel⟩, by decide +kernel, by decide⟩
theorem iX12_begin : Cond.instanceMethod yX12_begin ∈ zTs := zT_8 (i := 127) (by decide +kernel) rfl
theorem eX12_begin : Cond.selects yX12_begin.cls yX12_begin yX12_begin ∈ zTs := zT_of (i := 86) (by decide +kernel) rfl
abbrev mX12_startSum : zMt := (yX12_startSum, cX12_startSum, 1, none)
theorem kX12_startSum : zmk mX12_startSum 0 := ⟨zT_8 (i := 132) (by decide +kernel) rfl, zT_1 (i := 14) (by decide +kernel) rfl, ⟨by decide +kernel, by decide +kernel, by decide +kernel⟩, by decide +kernel, by decide⟩
theorem iX12_startSum : Cond.instanceMethod yX12_startSum ∈ zTs := zT_8 (i := 131) (by decide +kernel) rfl
theorem eX12_startSum : Cond.selects yX12_startSum.cls yX12_startSum yX12_startSum ∈ zTs := zT_of (i := 87) (by decide +kernel) rfl
abbrev mX12_thingAt : zMt := (yX12_thingAt, cX12_thingAt, 1, some .int)
theorem kX12_thingAt : zmk mX12_thingAt 0 := ⟨zT_8 (i := 172) (by decide +kernel) rfl, zT_1 (i := 14) (by decide +kernel) rfl, ⟨by decide +kernel, by decide +kernel, by decide +kernel⟩, by decide +kernel, by decide⟩
theorem iX12_thingAt : Cond.instanceMethod yX12_thingAt ∈ zTs := zT_8 (i := 171) (by decide +kernel) rfl
theorem eX12_thingAt : Cond.selects yX12_thingAt.cls yX12_thingAt yX12_thingAt ∈ zTs := zT_of (i := 97) (by decide +kernel) rfl
abbrev mX12_wordStep : zMt := (yX12_wordStep, cX12_wordStep, 1, some .int)
theorem kX12_wordStep : zmk mX12_wordStep 0 := ⟨zT_8 (i := 183) (by decide +kernel) rfl, zT_1 (i := 14) (by decide +kernel) rfl, ⟨by decide +kernel, by decide +kernel, by decide +kernel⟩, by decide +kernel, by decide⟩
theorem iX12_wordStep : Cond.instanceMethod yX12_wordStep ∈ zTs := zT_8 (i := 182) (by decide +kernel) rfl
theorem eX12_wordStep : Cond.selects yX12_wordStep.cls yX12_wordStep yX12_wordStep ∈ zTs := zT_of (i := 99) (by decide +kernel) rfl
abbrev mX12_opened : zMt := (yX12_opened, cX12_opened, 3, some .int)
theorem kX12_opened : zmk mX12_opened 2 := ⟨zT_8 (i := 178) (by decide +kernel) rfl, zT_1 (i := 14) (by decide +kernel) rfl, ⟨by decide +kernel, by decide +kernel, by decide +kernel⟩, by decide +kernel, by decide⟩
theorem iX12_opened : Cond.instanceMethod yX12_opened ∈ zTs := zT_8 (i := 177) (by decide +kernel) rfl
theorem eX12_opened : Cond.selects yX12_opened.cls yX12_opened yX12_opened ∈ zTs := zT_of (i := 98) (by decide +kernel) rfl
abbrev mX12_isIn : zMt := (yX12_isIn, cX12_isIn, 3, some .boolean)
theorem kX12_isIn : zmk mX12_isIn 3 := ⟨zT_8 (i := 14) (by decide +kernel) rfl, zT_1 (i := 14) (by decide +kernel) rfl, ⟨by decide +kernel, by decide +kernel, by decide +kernel⟩, by decide +kernel, by decide⟩
theorem tX12_isIn : Cond.static yX12_isIn ∈ zTs := zT_8 (i := 13) (by decide +kernel) rfl
abbrev mX12_leaf : zMt := (yX12_leaf, cX12_leaf, 3, some .int)
theorem kX12_leaf : zmk mX12_leaf 2 := ⟨zT_8 (i := 168) (by decide +kernel) rfl, zT_1 (i := 14) (by decide +kernel) rfl, ⟨by decide +kernel, by decide +kernel, by decide +kernel⟩, by decide +kernel, by decide⟩
theorem iX12_leaf : Cond.instanceMethod yX12_leaf ∈ zTs := zT_8 (i := 167) (by decide +kernel) rfl
theorem eX12_leaf : Cond.selects yX12_leaf.cls yX12_leaf yX12_leaf ∈ zTs := zT_of (i := 96) (by decide +kernel) rfl
abbrev mX12_beginOne : zMt := (yX12_beginOne, cX12_beginOne, 2, some .int)
theorem kX12_beginOne : zmk mX12_beginOne 0 := ⟨zT_8 (i := 164) (by decide +kernel) rfl, zT_1 (i := 14) (by decide +kernel) rfl, ⟨by decide +kernel, by decide +kernel, by decide +kernel⟩, by decide +kernel, by decide⟩
theorem iX12_beginOne : Cond.instanceMethod yX12_beginOne ∈ zTs := zT_8 (i := 163) (by decide +kernel) rfl
theorem eX12_beginOne : Cond.selects yX12_beginOne.cls yX12_beginOne yX12_beginOne ∈ zTs := zT_of (i := 95) (by decide +kernel) rfl
abbrev mX12_endTerm : zMt := (yX12_endTerm, cX12_endTerm, 1, none)
theorem kX12_endTerm : zmk mX12_endTerm 0 := ⟨zT_8 (i := 140) (by decide +kernel) rfl, zT_1 (i := 14) (by decide +kernel) rfl, ⟨by decide +kernel, by decide +kernel, by decide +kernel⟩, by decide +kernel, by decide⟩
theorem iX12_endTerm : Cond.instanceMethod yX12_endTerm ∈ zTs := zT_8 (i := 139) (by decide +kernel) rfl
theorem eX12_endTerm : Cond.selects yX12_endTerm.cls yX12_endTerm yX12_endTerm ∈ zTs := zT_of (i := 89) (by decide +kernel) rfl
abbrev mX12_endSum : zMt := (yX12_endSum, cX12_endSum, 1, none)
theorem kX12_endSum : zmk mX12_endSum 0 := ⟨zT_8 (i := 148) (by decide +kernel) rfl, zT_1 (i := 14) (by decide +kernel) rfl, ⟨by decide +kernel, by decide +kernel, by decide +kernel⟩, by decide +kernel, by decide⟩
theorem iX12_endSum : Cond.instanceMethod yX12_endSum ∈ zTs := zT_8 (i := 147) (by decide +kernel) rfl
theorem eX12_endSum : Cond.selects yX12_endSum.cls yX12_endSum yX12_endSum ∈ zTs := zT_of (i := 91) (by decide +kernel) rfl
abbrev mX12_compareAt : zMt := (yX12_compareAt, cX12_compareAt, 1, some .int)
theorem kX12_compareAt : zmk mX12_compareAt 0 := ⟨zT_8 (i := 160) (by decide +kernel) rfl, zT_1 (i := 14) (by decide +kernel) rfl, ⟨by decide +kernel, by decide +kernel, by decide +kernel⟩, by decide +kernel, by decide⟩
theorem iX12_compareAt : Cond.instanceMethod yX12_compareAt ∈ zTs := zT_8 (i := 159) (by decide +kernel) rfl
theorem eX12_compareAt : Cond.selects yX12_compareAt.cls yX12_compareAt yX12_compareAt ∈ zTs := zT_of (i := 94) (by decide +kernel) rfl
abbrev mX12_closed : zMt := (yX12_closed, cX12_closed, 4, some .int)
theorem kX12_closed : zmk mX12_closed 3 := ⟨zT_8 (i := 152) (by decide +kernel) rfl, zT_1 (i := 14) (by decide +kernel) rfl, ⟨by decide +kernel, by decide +kernel, by decide +kernel⟩, by decide +kernel, by decide⟩
theorem iX12_closed : Cond.instanceMethod yX12_closed ∈ zTs := zT_8 (i := 151) (by decide +kernel) rfl
theorem eX12_closed : Cond.selects yX12_closed.cls yX12_closed yX12_closed ∈ zTs := zT_of (i := 92) (by decide +kernel) rfl
abbrev mX12_goesOn : zMt := (yX12_goesOn, cX12_goesOn, 3, some .int)
theorem kX12_goesOn : zmk mX12_goesOn 2 := ⟨zT_8 (i := 156) (by decide +kernel) rfl, zT_1 (i := 14) (by decide +kernel) rfl, ⟨by decide +kernel, by decide +kernel, by decide +kernel⟩, by decide +kernel, by decide⟩
theorem iX12_goesOn : Cond.instanceMethod yX12_goesOn ∈ zTs := zT_8 (i := 155) (by decide +kernel) rfl
theorem eX12_goesOn : Cond.selects yX12_goesOn.cls yX12_goesOn yX12_goesOn ∈ zTs := zT_of (i := 93) (by decide +kernel) rfl
abbrev mX12_behindOne : zMt := (yX12_behindOne, cX12_behindOne, 1, some .int)
theorem kX12_behindOne : zmk mX12_behindOne 0 := ⟨zT_8 (i := 136) (by decide +kernel) rfl, zT_1 (i := 14) (by decide +kernel) rfl, ⟨by decide +kernel, by decide +kernel, by decide +kernel⟩, by decide +kernel, by decide⟩
theorem iX12_behindOne : Cond.instanceMethod yX12_behindOne ∈ zTs := zT_8 (i := 135) (by decide +kernel) rfl
theorem eX12_behindOne : Cond.selects yX12_behindOne.cls yX12_behindOne yX12_behindOne ∈ zTs := zT_of (i := 88) (by decide +kernel) rfl
abbrev mX12_summed : zMt := (yX12_summed, cX12_summed, 2, some .int)
theorem kX12_summed : zmk mX12_summed 0 := ⟨zT_8 (i := 124) (by decide +kernel) rfl, zT_1 (i := 14) (by decide +kernel) rfl, ⟨by decide +kernel, by decide +kernel, by decide +kernel⟩, by decide +kernel, by decide⟩
theorem iX12_summed : Cond.instanceMethod yX12_summed ∈ zTs := zT_8 (i := 123) (by decide +kernel) rfl
theorem eX12_summed : Cond.selects yX12_summed.cls yX12_summed yX12_summed ∈ zTs := zT_of (i := 85) (by decide +kernel) rfl
abbrev mX12_figure : zMt := (yX12_figure, cX12_figure, 4, some .int)
theorem kX12_figure : zmk mX12_figure 3 := ⟨zT_8 (i := 196) (by decide +kernel) rfl, zT_1 (i := 14) (by decide +kernel) rfl, ⟨by decide +kernel, by decide +kernel, by decide +kernel⟩, by decide +kernel, by decide⟩
theorem iX12_figure : Cond.instanceMethod yX12_figure ∈ zTs := zT_8 (i := 195) (by decide +kernel) rfl
theorem eX12_figure : Cond.selects yX12_figure.cls yX12_figure yX12_figure ∈ zTs := zT_of (i := 102) (by decide +kernel) rfl
abbrev mX12_has : zMt := (yX12_has, cX12_has, 2, some .boolean)
theorem kX12_has : zmk mX12_has 2 := ⟨zT_9 (i := 49) (by decide +kernel) rfl, zT_1 (i := 14) (by decide +kernel) rfl, ⟨by decide +kernel, by decide +kernel, by decide +kernel⟩, by decide +kernel, by decide⟩
theorem tX12_has : Cond.static yX12_has ∈ zTs := zT_9 (i := 48) (by decide +kernel) rfl
abbrev mX12_worded : zMt := (yX12_worded, cX12_worded, 6, some .int)
theorem kX12_worded : zmk mX12_worded 4 := ⟨zT_8 (i := 192) (by decide +kernel) rfl, zT_1 (i := 14) (by decide +kernel) rfl, ⟨by decide +kernel, by decide +kernel, by decide +kernel⟩, by decide +kernel, by decide⟩
theorem iX12_worded : Cond.instanceMethod yX12_worded ∈ zTs := zT_8 (i := 191) (by decide +kernel) rfl
theorem eX12_worded : Cond.selects yX12_worded.cls yX12_worded yX12_worded ∈ zTs := zT_of (i := 101) (by decide +kernel) rfl
abbrev mX12_let : zMt := (yX12_let, cX12_let, 1, some .int)
theorem kX12_let : zmk mX12_let 0 := ⟨zT_8 (i := 187) (by decide +kernel) rfl, zT_1 (i := 14) (by decide +kernel) rfl, ⟨by decide +kernel, by decide +kernel, by decide +kernel⟩, by decide +kernel, by decide⟩
theorem iX12_let : Cond.instanceMethod yX12_let ∈ zTs := zT_8 (i := 186) (by decide +kernel) rfl
theorem eX12_let : Cond.selects yX12_let.cls yX12_let yX12_let ∈ zTs := zT_of (i := 100) (by decide +kernel) rfl
abbrev mX12_born : zMt := (yX12_born, cX12_born, 2, some .int)
theorem kX12_born : zmk mX12_born 0 := ⟨zT_8 (i := 200) (by decide +kernel) rfl, zT_1 (i := 14) (by decide +kernel) rfl, ⟨by decide +kernel, by decide +kernel, by decide +kernel⟩, by decide +kernel, by decide⟩
theorem iX12_born : Cond.instanceMethod yX12_born ∈ zTs := zT_8 (i := 199) (by decide +kernel) rfl
theorem eX12_born : Cond.selects yX12_born.cls yX12_born yX12_born ∈ zTs := zT_of (i := 103) (by decide +kernel) rfl
abbrev mX12_path : zMt := (yX12_path, cX12_path, 2, some .int)
theorem kX12_path : zmk mX12_path 0 := ⟨zT_8 (i := 205) (by decide +kernel) rfl, zT_1 (i := 14) (by decide +kernel) rfl, ⟨by decide +kernel, by decide +kernel, by decide +kernel⟩, by decide +kernel, by decide⟩
theorem iX12_path : Cond.instanceMethod yX12_path ∈ zTs := zT_8 (i := 204) (by decide +kernel) rfl
theorem eX12_path : Cond.selects yX12_path.cls yX12_path yX12_path ∈ zTs := zT_of (i := 104) (by decide +kernel) rfl
abbrev mX12_pupilClause : zMt := (yX12_pupilClause, cX12_pupilClause, 2, some .int)
theorem kX12_pupilClause : zmk mX12_pupilClause 0 := ⟨zT_8 (i := 210) (by decide +kernel) rfl, zT_1 (i := 14) (by decide +kernel) rfl, ⟨by decide +kernel, by decide +kernel, by decide +kernel⟩, by decide +kernel, by decide⟩
theorem iX12_pupilClause : Cond.instanceMethod yX12_pupilClause ∈ zTs := zT_8 (i := 209) (by decide +kernel) rfl
theorem eX12_pupilClause : Cond.selects yX12_pupilClause.cls yX12_pupilClause yX12_pupilClause ∈ zTs := zT_of (i := 105) (by decide +kernel) rfl
abbrev mX12_sortAt : zMt := (yX12_sortAt, cX12_sortAt, 1, some .int)
theorem kX12_sortAt : zmk mX12_sortAt 0 := ⟨zT_8 (i := 100) (by decide +kernel) rfl, zT_1 (i := 14) (by decide +kernel) rfl, ⟨by decide +kernel, by decide +kernel, by decide +kernel⟩, by decide +kernel, by decide⟩
theorem iX12_sortAt : Cond.instanceMethod yX12_sortAt ∈ zTs := zT_8 (i := 99) (by decide +kernel) rfl
theorem eX12_sortAt : Cond.selects yX12_sortAt.cls yX12_sortAt yX12_sortAt ∈ zTs := zT_of (i := 82) (by decide +kernel) rfl
abbrev mX12_body : zMt := (yX12_body, cX12_body, 3, some .int)
theorem kX12_body : zmk mX12_body 1 := ⟨zT_8 (i := 120) (by decide +kernel) rfl, zT_1 (i := 14) (by decide +kernel) rfl, ⟨by decide +kernel, by decide +kernel, by decide +kernel⟩, by decide +kernel, by decide⟩
theorem iX12_body : Cond.instanceMethod yX12_body ∈ zTs := zT_8 (i := 119) (by decide +kernel) rfl
theorem eX12_body : Cond.selects yX12_body.cls yX12_body yX12_body ∈ zTs := zT_of (i := 84) (by decide +kernel) rfl
abbrev mX12_clause : zMt := (yX12_clause, cX12_clause, 4, some .int)
theorem kX12_clause : zmk mX12_clause 0 := ⟨zT_8 (i := 96) (by decide +kernel) rfl, zT_1 (i := 14) (by decide +kernel) rfl, ⟨by decide +kernel, by decide +kernel, by decide +kernel⟩, by decide +kernel, by decide⟩
theorem iX12_clause : Cond.instanceMethod yX12_clause ∈ zTs := zT_8 (i := 95) (by decide +kernel) rfl
theorem eX12_clause : Cond.selects yX12_clause.cls yX12_clause yX12_clause ∈ zTs := zT_of (i := 81) (by decide +kernel) rfl
abbrev mX12_readText : zMt := (yX12_readText, cX12_readText, 2, some .int)
theorem kX12_readText : zmk mX12_readText 0 := ⟨zT_8 (i := 73) (by decide +kernel) rfl, zT_1 (i := 14) (by decide +kernel) rfl, ⟨by decide +kernel, by decide +kernel, by decide +kernel⟩, by decide +kernel, by decide⟩
theorem iX12_readText : Cond.instanceMethod yX12_readText ∈ zTs := zT_8 (i := 72) (by decide +kernel) rfl
theorem eX12_readText : Cond.selects yX12_readText.cls yX12_readText yX12_readText ∈ zTs := zT_of (i := 78) (by decide +kernel) rfl
abbrev mX12_text : zMt := (yX12_text, cX12_text, 1, some .int)
theorem kX12_text : zmk mX12_text 0 := ⟨zT_8 (i := 69) (by decide +kernel) rfl, zT_1 (i := 14) (by decide +kernel) rfl, ⟨by decide +kernel, by decide +kernel, by decide +kernel⟩, by decide +kernel, by decide⟩
theorem iX12_text : Cond.instanceMethod yX12_text ∈ zTs := zT_8 (i := 67) (by decide +kernel) rfl
theorem eX12_text : Cond.selects yX12_text.cls yX12_text yX12_text ∈ zTs := zT_8 (i := 68) (by decide +kernel) rfl
abbrev mX12_bits : zMt := (yX12_bits, cX12_bits, 3, some .int)
theorem kX12_bits : zmk mX12_bits 1 := ⟨zT_9 (i := 166) (by decide +kernel) rfl, zT_1 (i := 14) (by decide +kernel) rfl, ⟨by decide +kernel, by decide +kernel, by decide +kernel⟩, by decide +kernel, by decide⟩
theorem tX12_bits : Cond.static yX12_bits ∈ zTs := zT_9 (i := 165) (by decide +kernel) rfl
abbrev mX12_fault : zMt := (yX12_fault, cX12_fault, 2, some .int)
theorem kX12_fault : zmk mX12_fault 1 := ⟨zT_8 (i := 214) (by decide +kernel) rfl, zT_1 (i := 14) (by decide +kernel) rfl, ⟨by decide +kernel, by decide +kernel, by decide +kernel⟩, by decide +kernel, by decide⟩
theorem iX12_fault : Cond.instanceMethod yX12_fault ∈ zTs := zT_8 (i := 212) (by decide +kernel) rfl
theorem eX12_fault : Cond.selects yX12_fault.cls yX12_fault yX12_fault ∈ zTs := zT_8 (i := 213) (by decide +kernel) rfl
abbrev mX12_askMore : zMt := (yX12_askMore, cX12_askMore, 6, some .boolean)
theorem kX12_askMore : zmk mX12_askMore 2 := ⟨zT_8 (i := 226) (by decide +kernel) rfl, zT_1 (i := 14) (by decide +kernel) rfl, ⟨by decide +kernel, by decide +kernel, by decide +kernel⟩, by decide +kernel, by decide⟩
theorem iX12_askMore : Cond.instanceMethod yX12_askMore ∈ zTs := zT_8 (i := 225) (by decide +kernel) rfl
theorem eX12_askMore : Cond.selects yX12_askMore.cls yX12_askMore yX12_askMore ∈ zTs := zT_of (i := 107) (by decide +kernel) rfl
abbrev mX12_isPlayed : zMt := (yX12_isPlayed, cX12_isPlayed, 3, some .boolean)
theorem kX12_isPlayed : zmk mX12_isPlayed 2 := ⟨zT_8 (i := 222) (by decide +kernel) rfl, zT_1 (i := 14) (by decide +kernel) rfl, ⟨by decide +kernel, by decide +kernel, by decide +kernel⟩, by decide +kernel, by decide⟩
theorem iX12_isPlayed : Cond.instanceMethod yX12_isPlayed ∈ zTs := zT_8 (i := 221) (by decide +kernel) rfl
theorem eX12_isPlayed : Cond.selects yX12_isPlayed.cls yX12_isPlayed yX12_isPlayed ∈ zTs := zT_of (i := 106) (by decide +kernel) rfl
abbrev mX12_played : zMt := (yX12_played, cX12_played, 3, some .int)
theorem kX12_played : zmk mX12_played 1 := ⟨zT_8 (i := 218) (by decide +kernel) rfl, zT_1 (i := 14) (by decide +kernel) rfl, ⟨by decide +kernel, by decide +kernel, by decide +kernel⟩, by decide +kernel, by decide⟩
theorem iX12_played : Cond.instanceMethod yX12_played ∈ zTs := zT_8 (i := 216) (by decide +kernel) rfl
theorem eX12_played : Cond.selects yX12_played.cls yX12_played yX12_played ∈ zTs := zT_8 (i := 217) (by decide +kernel) rfl
abbrev mX12_equalities : zMt := (yX12_equalities, cX12_equalities, 2, some .boolean)
theorem kX12_equalities : zmk mX12_equalities 1 := ⟨zT_8 (i := 233) (by decide +kernel) rfl, zT_1 (i := 14) (by decide +kernel) rfl, ⟨by decide +kernel, by decide +kernel, by decide +kernel⟩, by decide +kernel, by decide⟩
theorem iX12_equalities : Cond.instanceMethod yX12_equalities ∈ zTs := zT_8 (i := 231) (by decide +kernel) rfl
theorem eX12_equalities : Cond.selects yX12_equalities.cls yX12_equalities yX12_equalities ∈ zTs := zT_8 (i := 232) (by decide +kernel) rfl
abbrev mX12_pupil : zMt := (yX12_pupil, cX12_pupil, 7, some .int)
theorem kX12_pupil : zmk mX12_pupil 5 := ⟨zT_8 (i := 237) (by decide +kernel) rfl, zT_1 (i := 14) (by decide +kernel) rfl, ⟨by decide +kernel, by decide +kernel, by decide +kernel⟩, by decide +kernel, by decide⟩
theorem iX12_pupil : Cond.instanceMethod yX12_pupil ∈ zTs := zT_8 (i := 235) (by decide +kernel) rfl
theorem eX12_pupil : Cond.selects yX12_pupil.cls yX12_pupil yX12_pupil ∈ zTs := zT_8 (i := 236) (by decide +kernel) rfl
abbrev mX12_answer : zMt := (yX12_answer, cX12_answer, 2, some .boolean)
theorem kX12_answer : zmk mX12_answer 1 := ⟨zT_9 (i := 1) (by decide +kernel) rfl, zT_1 (i := 14) (by decide +kernel) rfl, ⟨by decide +kernel, by decide +kernel, by decide +kernel⟩, by decide +kernel, by decide⟩
theorem iX12_answer : Cond.instanceMethod yX12_answer ∈ zTs := zT_8 (i := 239) (by decide +kernel) rfl
theorem eX12_answer : Cond.selects yX12_answer.cls yX12_answer yX12_answer ∈ zTs := zT_9 (i := 0) (by decide +kernel) rfl
abbrev mX12_worldNow : zMt := (yX12_worldNow, cX12_worldNow, 2, none)
theorem kX12_worldNow : zmk mX12_worldNow 0 := ⟨zT_9 (i := 42) (by decide +kernel) rfl, zT_1 (i := 14) (by decide +kernel) rfl, ⟨by decide +kernel, by decide +kernel, by decide +kernel⟩, by decide +kernel, by decide⟩
theorem iX12_worldNow : Cond.instanceMethod yX12_worldNow ∈ zTs := zT_9 (i := 41) (by decide +kernel) rfl
theorem eX12_worldNow : Cond.selects yX12_worldNow.cls yX12_worldNow yX12_worldNow ∈ zTs := zT_of (i := 112) (by decide +kernel) rfl
abbrev mX12_ofOne : zMt := (yX12_ofOne, cX12_ofOne, 7, some .long)
theorem kX12_ofOne : zmk mX12_ofOne 2 := ⟨zT_9 (i := 58) (by decide +kernel) rfl, zT_1 (i := 14) (by decide +kernel) rfl, ⟨by decide +kernel, by decide +kernel, by decide +kernel⟩, by decide +kernel, by decide⟩
theorem iX12_ofOne : Cond.instanceMethod yX12_ofOne ∈ zTs := zT_9 (i := 57) (by decide +kernel) rfl
theorem eX12_ofOne : Cond.selects yX12_ofOne.cls yX12_ofOne yX12_ofOne ∈ zTs := zT_of (i := 114) (by decide +kernel) rfl
abbrev mX12_ofTwo : zMt := (yX12_ofTwo, cX12_ofTwo, 6, some .long)
theorem kX12_ofTwo : zmk mX12_ofTwo 3 := ⟨zT_9 (i := 66) (by decide +kernel) rfl, zT_1 (i := 14) (by decide +kernel) rfl, ⟨by decide +kernel, by decide +kernel, by decide +kernel⟩, by decide +kernel, by decide⟩
theorem iX12_ofTwo : Cond.instanceMethod yX12_ofTwo ∈ zTs := zT_9 (i := 65) (by decide +kernel) rfl
theorem eX12_ofTwo : Cond.selects yX12_ofTwo.cls yX12_ofTwo yX12_ofTwo ∈ zTs := zT_of (i := 115) (by decide +kernel) rfl
abbrev mX12_held : zMt := (yX12_held, cX12_held, 2, some .long)
theorem kX12_held : zmk mX12_held 1 := ⟨zT_9 (i := 52) (by decide +kernel) rfl, zT_1 (i := 14) (by decide +kernel) rfl, ⟨by decide +kernel, by decide +kernel, by decide +kernel⟩, by decide +kernel, by decide⟩
theorem tX12_held : Cond.static yX12_held ∈ zTs := zT_9 (i := 51) (by decide +kernel) rfl
abbrev mX12_isSo : zMt := (yX12_isSo, cX12_isSo, 5, some .boolean)
theorem kX12_isSo : zmk mX12_isSo 3 := ⟨zT_9 (i := 62) (by decide +kernel) rfl, zT_1 (i := 14) (by decide +kernel) rfl, ⟨by decide +kernel, by decide +kernel, by decide +kernel⟩, by decide +kernel, by decide⟩
theorem tX12_isSo : Cond.static yX12_isSo ∈ zTs := zT_9 (i := 61) (by decide +kernel) rfl
abbrev mX12_answerOf : zMt := (yX12_answerOf, cX12_answerOf, 10, some .long)
theorem kX12_answerOf : zmk mX12_answerOf 1 := ⟨zT_9 (i := 46) (by decide +kernel) rfl, zT_1 (i := 14) (by decide +kernel) rfl, ⟨by decide +kernel, by decide +kernel, by decide +kernel⟩, by decide +kernel, by decide⟩
theorem iX12_answerOf : Cond.instanceMethod yX12_answerOf ∈ zTs := zT_9 (i := 45) (by decide +kernel) rfl
theorem eX12_answerOf : Cond.selects yX12_answerOf.cls yX12_answerOf yX12_answerOf ∈ zTs := zT_of (i := 113) (by decide +kernel) rfl
abbrev mX12_of : zMt := (yX12_of, cX12_of, 3, some .int)
theorem kX12_of : zmk mX12_of 2 := ⟨zT_9 (i := 181) (by decide +kernel) rfl, zT_1 (i := 14) (by decide +kernel) rfl, ⟨by decide +kernel, by decide +kernel, by decide +kernel⟩, by decide +kernel, by decide⟩
theorem iX12_of : Cond.instanceMethod yX12_of ∈ zTs := zT_9 (i := 179) (by decide +kernel) rfl
theorem eX12_of : Cond.selects yX12_of.cls yX12_of yX12_of ∈ zTs := zT_9 (i := 180) (by decide +kernel) rfl
abbrev mX12_behind : zMt := (yX12_behind, cX12_behind, 5, some .int)
theorem kX12_behind : zmk mX12_behind 1 := ⟨zT_9 (i := 95) (by decide +kernel) rfl, zT_1 (i := 14) (by decide +kernel) rfl, ⟨by decide +kernel, by decide +kernel, by decide +kernel⟩, by decide +kernel, by decide⟩
theorem iX12_behind : Cond.instanceMethod yX12_behind ∈ zTs := zT_9 (i := 94) (by decide +kernel) rfl
theorem eX12_behind : Cond.selects yX12_behind.cls yX12_behind yX12_behind ∈ zTs := zT_of (i := 122) (by decide +kernel) rfl
abbrev mX12_compared : zMt := (yX12_compared, cX12_compared, 6, some .int)
theorem kX12_compared : zmk mX12_compared 4 := ⟨zT_9 (i := 131) (by decide +kernel) rfl, zT_1 (i := 14) (by decide +kernel) rfl, ⟨by decide +kernel, by decide +kernel, by decide +kernel⟩, by decide +kernel, by decide⟩
theorem iX12_compared : Cond.instanceMethod yX12_compared ∈ zTs := zT_9 (i := 130) (by decide +kernel) rfl
theorem eX12_compared : Cond.selects yX12_compared.cls yX12_compared yX12_compared ∈ zTs := zT_of (i := 131) (by decide +kernel) rfl
abbrev mX12_addTerm : zMt := (yX12_addTerm, cX12_addTerm, 4, none)
theorem kX12_addTerm : zmk mX12_addTerm 3 := ⟨zT_9 (i := 91) (by decide +kernel) rfl, zT_1 (i := 14) (by decide +kernel) rfl, ⟨by decide +kernel, by decide +kernel, by decide +kernel⟩, by decide +kernel, by decide⟩
theorem iX12_addTerm : Cond.instanceMethod yX12_addTerm ∈ zTs := zT_9 (i := 90) (by decide +kernel) rfl
theorem eX12_addTerm : Cond.selects yX12_addTerm.cls yX12_addTerm yX12_addTerm ∈ zTs := zT_of (i := 121) (by decide +kernel) rfl
abbrev mX12_findTerms : zMt := (yX12_findTerms, cX12_findTerms, 13, none)
theorem kX12_findTerms : zmk mX12_findTerms 4 := ⟨zT_9 (i := 87) (by decide +kernel) rfl, zT_1 (i := 14) (by decide +kernel) rfl, ⟨by decide +kernel, by decide +kernel, by decide +kernel⟩, by decide +kernel, by decide⟩
theorem iX12_findTerms : Cond.instanceMethod yX12_findTerms ∈ zTs := zT_9 (i := 86) (by decide +kernel) rfl
theorem eX12_findTerms : Cond.selects yX12_findTerms.cls yX12_findTerms yX12_findTerms ∈ zTs := zT_of (i := 120) (by decide +kernel) rfl
abbrev mX12_isNumber : zMt := (yX12_isNumber, cX12_isNumber, 2, some .boolean)
theorem kX12_isNumber : zmk mX12_isNumber 1 := ⟨zT_9 (i := 103) (by decide +kernel) rfl, zT_1 (i := 14) (by decide +kernel) rfl, ⟨by decide +kernel, by decide +kernel, by decide +kernel⟩, by decide +kernel, by decide⟩
theorem iX12_isNumber : Cond.instanceMethod yX12_isNumber ∈ zTs := zT_9 (i := 102) (by decide +kernel) rfl
theorem eX12_isNumber : Cond.selects yX12_isNumber.cls yX12_isNumber yX12_isNumber ∈ zTs := zT_of (i := 124) (by decide +kernel) rfl
abbrev mX12_leaveOut : zMt := (yX12_leaveOut, cX12_leaveOut, 4, none)
theorem kX12_leaveOut : zmk mX12_leaveOut 1 := ⟨zT_9 (i := 99) (by decide +kernel) rfl, zT_1 (i := 14) (by decide +kernel) rfl, ⟨by decide +kernel, by decide +kernel, by decide +kernel⟩, by decide +kernel, by decide⟩
theorem iX12_leaveOut : Cond.instanceMethod yX12_leaveOut ∈ zTs := zT_9 (i := 98) (by decide +kernel) rfl
theorem eX12_leaveOut : Cond.selects yX12_leaveOut.cls yX12_leaveOut yX12_leaveOut ∈ zTs := zT_of (i := 123) (by decide +kernel) rfl
abbrev mX12_areNumbers : zMt := (yX12_areNumbers, cX12_areNumbers, 2, some .boolean)
theorem kX12_areNumbers : zmk mX12_areNumbers 0 := ⟨zT_9 (i := 107) (by decide +kernel) rfl, zT_1 (i := 14) (by decide +kernel) rfl, ⟨by decide +kernel, by decide +kernel, by decide +kernel⟩, by decide +kernel, by decide⟩
theorem iX12_areNumbers : Cond.instanceMethod yX12_areNumbers ∈ zTs := zT_9 (i := 106) (by decide +kernel) rfl
theorem eX12_areNumbers : Cond.selects yX12_areNumbers.cls yX12_areNumbers yX12_areNumbers ∈ zTs := zT_of (i := 125) (by decide +kernel) rfl
abbrev mX12_isQuestion : zMt := (yX12_isQuestion, cX12_isQuestion, 2, some .boolean)
theorem kX12_isQuestion : zmk mX12_isQuestion 1 := ⟨zT_9 (i := 19) (by decide +kernel) rfl, zT_1 (i := 14) (by decide +kernel) rfl, ⟨by decide +kernel, by decide +kernel, by decide +kernel⟩, by decide +kernel, by decide⟩
theorem iX12_isQuestion : Cond.instanceMethod yX12_isQuestion ∈ zTs := zT_9 (i := 18) (by decide +kernel) rfl
theorem eX12_isQuestion : Cond.selects yX12_isQuestion.cls yX12_isQuestion yX12_isQuestion ∈ zTs := zT_of (i := 109) (by decide +kernel) rfl
abbrev mX12_worked : zMt := (yX12_worked, cX12_worked, 7, some .int)
theorem kX12_worked : zmk mX12_worked 1 := ⟨zT_9 (i := 111) (by decide +kernel) rfl, zT_1 (i := 14) (by decide +kernel) rfl, ⟨by decide +kernel, by decide +kernel, by decide +kernel⟩, by decide +kernel, by decide⟩
theorem iX12_worked : Cond.instanceMethod yX12_worked ∈ zTs := zT_9 (i := 110) (by decide +kernel) rfl
theorem eX12_worked : Cond.selects yX12_worked.cls yX12_worked yX12_worked ∈ zTs := zT_of (i := 126) (by decide +kernel) rfl
abbrev mX12_exchange : zMt := (yX12_exchange, cX12_exchange, 6, none)
theorem kX12_exchange : zmk mX12_exchange 2 := ⟨zT_9 (i := 135) (by decide +kernel) rfl, zT_1 (i := 14) (by decide +kernel) rfl, ⟨by decide +kernel, by decide +kernel, by decide +kernel⟩, by decide +kernel, by decide⟩
theorem iX12_exchange : Cond.instanceMethod yX12_exchange ∈ zTs := zT_9 (i := 134) (by decide +kernel) rfl
theorem eX12_exchange : Cond.selects yX12_exchange.cls yX12_exchange yX12_exchange ∈ zTs := zT_of (i := 132) (by decide +kernel) rfl
abbrev mX12_isAhead : zMt := (yX12_isAhead, cX12_isAhead, 3, some .boolean)
theorem kX12_isAhead : zmk mX12_isAhead 2 := ⟨zT_9 (i := 127) (by decide +kernel) rfl, zT_1 (i := 14) (by decide +kernel) rfl, ⟨by decide +kernel, by decide +kernel, by decide +kernel⟩, by decide +kernel, by decide⟩
theorem iX12_isAhead : Cond.instanceMethod yX12_isAhead ∈ zTs := zT_9 (i := 126) (by decide +kernel) rfl
theorem eX12_isAhead : Cond.selects yX12_isAhead.cls yX12_isAhead yX12_isAhead ∈ zTs := zT_of (i := 130) (by decide +kernel) rfl
abbrev mX12_setInOrder : zMt := (yX12_setInOrder, cX12_setInOrder, 3, none)
theorem kX12_setInOrder : zmk mX12_setInOrder 0 := ⟨zT_9 (i := 123) (by decide +kernel) rfl, zT_1 (i := 14) (by decide +kernel) rfl, ⟨by decide +kernel, by decide +kernel, by decide +kernel⟩, by decide +kernel, by decide⟩
theorem iX12_setInOrder : Cond.instanceMethod yX12_setInOrder ∈ zTs := zT_9 (i := 122) (by decide +kernel) rfl
theorem eX12_setInOrder : Cond.selects yX12_setInOrder.cls yX12_setInOrder yX12_setInOrder ∈ zTs := zT_of (i := 129) (by decide +kernel) rfl
abbrev mX12_put : zMt := (yX12_put, cX12_put, 5, none)
theorem kX12_put : zmk mX12_put 2 := ⟨zT_9 (i := 119) (by decide +kernel) rfl, zT_1 (i := 14) (by decide +kernel) rfl, ⟨by decide +kernel, by decide +kernel, by decide +kernel⟩, by decide +kernel, by decide⟩
theorem iX12_put : Cond.instanceMethod yX12_put ∈ zTs := zT_9 (i := 118) (by decide +kernel) rfl
theorem eX12_put : Cond.selects yX12_put.cls yX12_put yX12_put ∈ zTs := zT_of (i := 128) (by decide +kernel) rfl
abbrev mX12_putNumber : zMt := (yX12_putNumber, cX12_putNumber, 3, none)
theorem kX12_putNumber : zmk mX12_putNumber 2 := ⟨zT_9 (i := 115) (by decide +kernel) rfl, zT_1 (i := 14) (by decide +kernel) rfl, ⟨by decide +kernel, by decide +kernel, by decide +kernel⟩, by decide +kernel, by decide⟩
theorem iX12_putNumber : Cond.instanceMethod yX12_putNumber ∈ zTs := zT_9 (i := 114) (by decide +kernel) rfl
theorem eX12_putNumber : Cond.selects yX12_putNumber.cls yX12_putNumber yX12_putNumber ∈ zTs := zT_of (i := 127) (by decide +kernel) rfl
abbrev mX12_saySum : zMt := (yX12_saySum, cX12_saySum, 9, none)
theorem kX12_saySum : zmk mX12_saySum 4 := ⟨zT_9 (i := 83) (by decide +kernel) rfl, zT_1 (i := 14) (by decide +kernel) rfl, ⟨by decide +kernel, by decide +kernel, by decide +kernel⟩, by decide +kernel, by decide⟩
theorem iX12_saySum : Cond.instanceMethod yX12_saySum ∈ zTs := zT_9 (i := 82) (by decide +kernel) rfl
theorem eX12_saySum : Cond.selects yX12_saySum.cls yX12_saySum yX12_saySum ∈ zTs := zT_of (i := 119) (by decide +kernel) rfl
abbrev mX12_lay : zMt := (yX12_lay, cX12_lay, 5, some .int)
theorem kX12_lay : zmk mX12_lay 2 := ⟨zT_9 (i := 147) (by decide +kernel) rfl, zT_1 (i := 14) (by decide +kernel) rfl, ⟨by decide +kernel, by decide +kernel, by decide +kernel⟩, by decide +kernel, by decide⟩
theorem iX12_lay : Cond.instanceMethod yX12_lay ∈ zTs := zT_9 (i := 146) (by decide +kernel) rfl
theorem eX12_lay : Cond.selects yX12_lay.cls yX12_lay yX12_lay ∈ zTs := zT_of (i := 135) (by decide +kernel) rfl
abbrev mX12_areAlike : zMt := (yX12_areAlike, cX12_areAlike, 3, some .boolean)
theorem kX12_areAlike : zmk mX12_areAlike 2 := ⟨zT_9 (i := 143) (by decide +kernel) rfl, zT_1 (i := 14) (by decide +kernel) rfl, ⟨by decide +kernel, by decide +kernel, by decide +kernel⟩, by decide +kernel, by decide⟩
theorem iX12_areAlike : Cond.instanceMethod yX12_areAlike ∈ zTs := zT_9 (i := 142) (by decide +kernel) rfl
theorem eX12_areAlike : Cond.selects yX12_areAlike.cls yX12_areAlike yX12_areAlike ∈ zTs := zT_of (i := 134) (by decide +kernel) rfl
abbrev mX12_sayWord : zMt := (yX12_sayWord, cX12_sayWord, 8, none)
theorem kX12_sayWord : zmk mX12_sayWord 3 := ⟨zT_9 (i := 151) (by decide +kernel) rfl, zT_1 (i := 14) (by decide +kernel) rfl, ⟨by decide +kernel, by decide +kernel, by decide +kernel⟩, by decide +kernel, by decide⟩
theorem iX12_sayWord : Cond.instanceMethod yX12_sayWord ∈ zTs := zT_9 (i := 150) (by decide +kernel) rfl
theorem eX12_sayWord : Cond.selects yX12_sayWord.cls yX12_sayWord yX12_sayWord ∈ zTs := zT_of (i := 136) (by decide +kernel) rfl
abbrev mX12_isPupil : zMt := (yX12_isPupil, cX12_isPupil, 2, some .boolean)
theorem kX12_isPupil : zmk mX12_isPupil 1 := ⟨zT_9 (i := 15) (by decide +kernel) rfl, zT_1 (i := 14) (by decide +kernel) rfl, ⟨by decide +kernel, by decide +kernel, by decide +kernel⟩, by decide +kernel, by decide⟩
theorem iX12_isPupil : Cond.instanceMethod yX12_isPupil ∈ zTs := zT_9 (i := 14) (by decide +kernel) rfl
theorem eX12_isPupil : Cond.selects yX12_isPupil.cls yX12_isPupil yX12_isPupil ∈ zTs := zT_of (i := 108) (by decide +kernel) rfl
abbrev mX12_sayIf : zMt := (yX12_sayIf, cX12_sayIf, 6, none)
theorem kX12_sayIf : zmk mX12_sayIf 2 := ⟨zT_9 (i := 139) (by decide +kernel) rfl, zT_1 (i := 14) (by decide +kernel) rfl, ⟨by decide +kernel, by decide +kernel, by decide +kernel⟩, by decide +kernel, by decide⟩
theorem iX12_sayIf : Cond.instanceMethod yX12_sayIf ∈ zTs := zT_9 (i := 138) (by decide +kernel) rfl
theorem eX12_sayIf : Cond.selects yX12_sayIf.cls yX12_sayIf yX12_sayIf ∈ zTs := zT_of (i := 133) (by decide +kernel) rfl
abbrev mX12_say : zMt := (yX12_say, cX12_say, 6, some .int)
theorem kX12_say : zmk mX12_say 2 := ⟨zT_9 (i := 79) (by decide +kernel) rfl, zT_1 (i := 14) (by decide +kernel) rfl, ⟨by decide +kernel, by decide +kernel, by decide +kernel⟩, by decide +kernel, by decide⟩
theorem iX12_say : Cond.instanceMethod yX12_say ∈ zTs := zT_9 (i := 78) (by decide +kernel) rfl
theorem eX12_say : Cond.selects yX12_say.cls yX12_say yX12_say ∈ zTs := zT_of (i := 118) (by decide +kernel) rfl
abbrev mX12_isAlike : zMt := (yX12_isAlike, cX12_isAlike, 6, some .boolean)
theorem kX12_isAlike : zmk mX12_isAlike 3 := ⟨zT_9 (i := 75) (by decide +kernel) rfl, zT_1 (i := 14) (by decide +kernel) rfl, ⟨by decide +kernel, by decide +kernel, by decide +kernel⟩, by decide +kernel, by decide⟩
theorem iX12_isAlike : Cond.instanceMethod yX12_isAlike ∈ zTs := zT_9 (i := 74) (by decide +kernel) rfl
theorem eX12_isAlike : Cond.selects yX12_isAlike.cls yX12_isAlike yX12_isAlike ∈ zTs := zT_of (i := 117) (by decide +kernel) rfl
abbrev mX12_alike : zMt := (yX12_alike, cX12_alike, 3, some .int)
theorem kX12_alike : zmk mX12_alike 2 := ⟨zT_9 (i := 186) (by decide +kernel) rfl, zT_1 (i := 14) (by decide +kernel) rfl, ⟨by decide +kernel, by decide +kernel, by decide +kernel⟩, by decide +kernel, by decide⟩
theorem iX12_alike : Cond.instanceMethod yX12_alike ∈ zTs := zT_9 (i := 184) (by decide +kernel) rfl
theorem eX12_alike : Cond.selects yX12_alike.cls yX12_alike yX12_alike ∈ zTs := zT_9 (i := 185) (by decide +kernel) rfl
abbrev mX12_nearly : zMt := (yX12_nearly, cX12_nearly, 3, some .int)
theorem kX12_nearly : zmk mX12_nearly 2 := ⟨zT_9 (i := 190) (by decide +kernel) rfl, zT_1 (i := 14) (by decide +kernel) rfl, ⟨by decide +kernel, by decide +kernel, by decide +kernel⟩, by decide +kernel, by decide⟩
theorem iX12_nearly : Cond.instanceMethod yX12_nearly ∈ zTs := zT_9 (i := 188) (by decide +kernel) rfl
theorem eX12_nearly : Cond.selects yX12_nearly.cls yX12_nearly yX12_nearly ∈ zTs := zT_9 (i := 189) (by decide +kernel) rfl
abbrev mX12_nextWorld : zMt := (yX12_nextWorld, cX12_nextWorld, 3, some .boolean)
theorem kX12_nextWorld : zmk mX12_nextWorld 1 := ⟨zT_9 (i := 202) (by decide +kernel) rfl, zT_1 (i := 14) (by decide +kernel) rfl, ⟨by decide +kernel, by decide +kernel, by decide +kernel⟩, by decide +kernel, by decide⟩
theorem iX12_nextWorld : Cond.instanceMethod yX12_nextWorld ∈ zTs := zT_9 (i := 201) (by decide +kernel) rfl
theorem eX12_nextWorld : Cond.selects yX12_nextWorld.cls yX12_nextWorld yX12_nextWorld ∈ zTs := zT_of (i := 142) (by decide +kernel) rfl
abbrev mX12_firstWorld : zMt := (yX12_firstWorld, cX12_firstWorld, 2, none)
theorem kX12_firstWorld : zmk mX12_firstWorld 0 := ⟨zT_9 (i := 198) (by decide +kernel) rfl, zT_1 (i := 14) (by decide +kernel) rfl, ⟨by decide +kernel, by decide +kernel, by decide +kernel⟩, by decide +kernel, by decide⟩
theorem iX12_firstWorld : Cond.instanceMethod yX12_firstWorld ∈ zTs := zT_9 (i := 197) (by decide +kernel) rfl
theorem eX12_firstWorld : Cond.selects yX12_firstWorld.cls yX12_firstWorld yX12_firstWorld ∈ zTs := zT_of (i := 141) (by decide +kernel) rfl
abbrev mX12_parted : zMt := (yX12_parted, cX12_parted, 8, some .int)
theorem kX12_parted : zmk mX12_parted 3 := ⟨zT_9 (i := 194) (by decide +kernel) rfl, zT_1 (i := 14) (by decide +kernel) rfl, ⟨by decide +kernel, by decide +kernel, by decide +kernel⟩, by decide +kernel, by decide⟩
theorem iX12_parted : Cond.instanceMethod yX12_parted ∈ zTs := zT_9 (i := 192) (by decide +kernel) rfl
theorem eX12_parted : Cond.selects yX12_parted.cls yX12_parted yX12_parted ∈ zTs := zT_9 (i := 193) (by decide +kernel) rfl
abbrev mX12_lacks : zMt := (yX12_lacks, cX12_lacks, 4, some .int)
theorem kX12_lacks : zmk mX12_lacks 2 := ⟨zT_9 (i := 31) (by decide +kernel) rfl, zT_1 (i := 14) (by decide +kernel) rfl, ⟨by decide +kernel, by decide +kernel, by decide +kernel⟩, by decide +kernel, by decide⟩
theorem iX12_lacks : Cond.instanceMethod yX12_lacks ∈ zTs := zT_9 (i := 29) (by decide +kernel) rfl
theorem eX12_lacks : Cond.selects yX12_lacks.cls yX12_lacks yX12_lacks ∈ zTs := zT_9 (i := 30) (by decide +kernel) rfl
abbrev mX12_can : zMt := (yX12_can, cX12_can, 3, some .boolean)
theorem kX12_can : zmk mX12_can 2 := ⟨zT_9 (i := 27) (by decide +kernel) rfl, zT_1 (i := 14) (by decide +kernel) rfl, ⟨by decide +kernel, by decide +kernel, by decide +kernel⟩, by decide +kernel, by decide⟩
theorem iX12_can : Cond.instanceMethod yX12_can ∈ zTs := zT_9 (i := 25) (by decide +kernel) rfl
theorem eX12_can : Cond.selects yX12_can.cls yX12_can yX12_can ∈ zTs := zT_9 (i := 26) (by decide +kernel) rfl
abbrev mX12_isPerson : zMt := (yX12_isPerson, cX12_isPerson, 2, some .boolean)
theorem kX12_isPerson : zmk mX12_isPerson 1 := ⟨zT_8 (i := 26) (by decide +kernel) rfl, zT_1 (i := 14) (by decide +kernel) rfl, ⟨by decide +kernel, by decide +kernel, by decide +kernel⟩, by decide +kernel, by decide⟩
theorem iX12_isPerson : Cond.instanceMethod yX12_isPerson ∈ zTs := zT_8 (i := 25) (by decide +kernel) rfl
theorem eX12_isPerson : Cond.selects yX12_isPerson.cls yX12_isPerson yX12_isPerson ∈ zTs := zT_of (i := 74) (by decide +kernel) rfl
