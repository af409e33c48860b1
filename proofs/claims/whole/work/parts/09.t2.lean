theorem lL_9 : zlk RL 9 yX11_init := Or.inl (zT_1 (i := 24) (by decide +kernel) rfl)
theorem lX11_9 : zlk RX11 9 yX10_init := Or.inl (zT_1 (i := 32) (by decide +kernel) rfl)
theorem lX10_39 : zlk RX10 39 yX10_measureKin := Or.inl (zT_1 (i := 36) (by decide +kernel) rfl)
theorem lX10_53 : zlk RX10 53 yJ7_fill_53178 := Or.inl (zT_1 (i := 40) (by decide +kernel) rfl)
theorem lX10_59 : zlk RX10 59 yX10_joinParent := Or.inl (zT_1 (i := 43) (by decide +kernel) rfl)
theorem lX10_45 : zlk RX10 45 yX11_within := Or.inr ⟨"AnswersFirst", zN_1 (i := 47) (by decide +kernel) rfl⟩
theorem lX10_63 : zlk RX10 63 yX10_closeTable := Or.inl (zT_1 (i := 50) (by decide +kernel) rfl)
theorem lX10_42 : zlk RX10 42 yX10_measureWays := Or.inl (zT_1 (i := 53) (by decide +kernel) rfl)
theorem lX11_18 : zlk RX11 18 yX4_init := Or.inr ⟨"AnswersFirst", zN_1 (i := 99) (by decide +kernel) rfl⟩
theorem lX4_11 : zlk RX4 11 yX8_init := Or.inr ⟨"AnswersFirst", zN_1 (i := 105) (by decide +kernel) rfl⟩
theorem lX11_31 : zlk RX11 31 yX3_init := Or.inl (zT_1 (i := 177) (by decide +kernel) rfl)
theorem lX3_48 : zlk RX3 48 yX1_init := Or.inr ⟨"AnswersFirst", zN_1 (i := 184) (by decide +kernel) rfl⟩
theorem lX11_38 : zlk RX11 38 yX6_init := Or.inr ⟨"AnswersFirst", zN_2 (i := 53) (by decide +kernel) rfl⟩
theorem lX11_45 : zlk RX11 45 yX2_init := Or.inr ⟨"AnswersFirst", zN_2 (i := 101) (by decide +kernel) rfl⟩
theorem lX11_52 : zlk RX11 52 yX9_init := Or.inr ⟨"AnswersFirst", zN_2 (i := 128) (by decide +kernel) rfl⟩
theorem lX11_59 : zlk RX11 59 yX0_init := Or.inr ⟨"AnswersFirst", zN_2 (i := 151) (by decide +kernel) rfl⟩
theorem lX11_66 : zlk RX11 66 yX5_init := Or.inr ⟨"AnswersFirst", zN_2 (i := 201) (by decide +kernel) rfl⟩
theorem lX11_71 : zlk RX11 71 yX7_init := Or.inr ⟨"AnswersFirst", zN_2 (i := 213) (by decide +kernel) rfl⟩
theorem lX7_20 : zlk RX7 20 yX1_init := Or.inr ⟨"AnswersFirst", zN_2 (i := 218) (by decide +kernel) rfl⟩
theorem lL_13 : zlk RL 13 yX11_thing := Or.inl (zT_3 (i := 30) (by decide +kernel) rfl)
theorem lX11_72 : zlk RX11 72 yX11_within := Or.inl (zT_3 (i := 34) (by decide +kernel) rfl)
theorem lL_18 : zlk RL 18 yX11_person := Or.inl (zT_3 (i := 35) (by decide +kernel) rfl)
theorem lX11_80 : zlk RX11 80 yX10_addPerson := Or.inl (zT_3 (i := 39) (by decide +kernel) rfl)
theorem lL_23 : zlk RL 23 yX11_road := Or.inl (zT_3 (i := 43) (by decide +kernel) rfl)
theorem lX11_84 : zlk RX11 84 yX10_layRoad := Or.inl (zT_3 (i := 47) (by decide +kernel) rfl)
theorem lL_28 : zlk RL 28 yX11_kin := Or.inl (zT_3 (i := 51) (by decide +kernel) rfl)
theorem lX11_91 : zlk RX11 91 yX10_kinOf := Or.inl (zT_3 (i := 55) (by decide +kernel) rfl)
theorem lL_33 : zlk RL 33 yX11_way := Or.inl (zT_3 (i := 59) (by decide +kernel) rfl)
theorem lX11_95 : zlk RX11 95 yX10_wayOf := Or.inl (zT_3 (i := 63) (by decide +kernel) rfl)
theorem lL_37 : zlk RL 37 yX11_feed := Or.inl (zT_3 (i := 67) (by decide +kernel) rfl)
theorem lX11_107 : zlk RX11 107 yX8_addWord := Or.inl (zT_3 (i := 71) (by decide +kernel) rfl)
theorem lL_42 : zlk RL 42 yX11_end := Or.inl (zT_3 (i := 75) (by decide +kernel) rfl)
theorem lL_47 : zlk RL 47 yX11_text := Or.inl (zT_3 (i := 79) (by decide +kernel) rfl)
theorem lX11_114 : zlk RX11 114 yX4_readScript := Or.inl (zT_3 (i := 83) (by decide +kernel) rfl)
theorem lX4_29 : zlk RX4 29 yX7_empty := Or.inl (zT_3 (i := 87) (by decide +kernel) rfl)
theorem lX4_34 : zlk RX4 34 yX8_split := Or.inl (zT_3 (i := 91) (by decide +kernel) rfl)
theorem lX8_31 : zlk RX8 31 yX8_byteAt := Or.inl (zT_3 (i := 95) (by decide +kernel) rfl)
theorem lX8_35 : zlk RX8 35 yX8_takeToken := Or.inl (zT_3 (i := 99) (by decide +kernel) rfl)
theorem lX8_57 : zlk RX8 57 yX8_isDigit := Or.inl (zT_3 (i := 103) (by decide +kernel) rfl)
theorem lX8_61 : zlk RX8 61 yX8_takeNumber := Or.inl (zT_3 (i := 106) (by decide +kernel) rfl)
theorem lX8_74 : zlk RX8 74 yJ9_min_7cf53 := Or.inl (zT_3 (i := 111) (by decide +kernel) rfl)
theorem lX8_38 : zlk RX8 38 yX8_addToken := Or.inl (zT_3 (i := 114) (by decide +kernel) rfl)
theorem lX8_64 : zlk RX8 64 yX8_isLetter := Or.inl (zT_3 (i := 118) (by decide +kernel) rfl)
theorem lX8_67 : zlk RX8 67 yX8_takeLetters := Or.inl (zT_3 (i := 121) (by decide +kernel) rfl)
theorem lX8_80 : zlk RX8 80 yX8_sortOfLetters := Or.inl (zT_3 (i := 125) (by decide +kernel) rfl)
theorem lX8_70 : zlk RX8 70 yX8_takeSign := Or.inl (zT_3 (i := 178) (by decide +kernel) rfl)
theorem lX8_45 : zlk RX8 45 yX8_advance := Or.inl (zT_4 (i := 0) (by decide +kernel) rfl)
theorem lX4_40 : zlk RX4 40 yX4_beginClause := Or.inl (zT_4 (i := 4) (by decide +kernel) rfl)
theorem lX4_58 : zlk RX4 58 yX11_within := Or.inr ⟨"AnswersFirst", zN_4 (i := 8) (by decide +kernel) rfl⟩
theorem lX4_62 : zlk RX4 62 yX4_fail := Or.inl (zT_4 (i := 9) (by decide +kernel) rfl)
theorem lX4_66 : zlk RX4 66 yX7_beginClause := Or.inl (zT_4 (i := 13) (by decide +kernel) rfl)
theorem lX4_69 : zlk RX4 69 yX8_advance := Or.inl (zT_4 (i := 17) (by decide +kernel) rfl)
theorem lX4_44 : zlk RX4 44 yX4_readRest := Or.inl (zT_4 (i := 18) (by decide +kernel) rfl)
theorem lX4_72 : zlk RX4 72 yX4_readQuestion := Or.inl (zT_4 (i := 22) (by decide +kernel) rfl)
theorem lX4_137 : zlk RX4 137 yX4_readSum := Or.inl (zT_4 (i := 26) (by decide +kernel) rfl)
theorem lX4_141 : zlk RX4 141 yX4_readProduct := Or.inl (zT_4 (i := 30) (by decide +kernel) rfl)
theorem lX4_152 : zlk RX4 152 yX4_readOne := Or.inl (zT_4 (i := 34) (by decide +kernel) rfl)
theorem lX4_155 : zlk RX4 155 yX4_readLeaf := Or.inl (zT_4 (i := 38) (by decide +kernel) rfl)
theorem lX4_168 : zlk RX4 168 yJ9_max_7cf53 := Or.inl (zT_4 (i := 42) (by decide +kernel) rfl)
theorem lX4_174 : zlk RX4 174 yX1_make := Or.inl (zT_4 (i := 43) (by decide +kernel) rfl)
theorem lX4_159 : zlk RX4 159 yX4_readBracket := Or.inl (zT_4 (i := 47) (by decide +kernel) rfl)
theorem lX4_177 : zlk RX4 177 yX4_enter := Or.inl (zT_4 (i := 51) (by decide +kernel) rfl)
theorem lX4_48 : zlk RX4 48 yX4_expect := Or.inl (zT_4 (i := 55) (by decide +kernel) rfl)
theorem lX4_162 : zlk RX4 162 yX4_readWordOf := Or.inl (zT_4 (i := 59) (by decide +kernel) rfl)
theorem lX4_181 : zlk RX4 181 yX1_append := Or.inl (zT_4 (i := 63) (by decide +kernel) rfl)
theorem lX4_165 : zlk RX4 165 yX4_readIf := Or.inl (zT_4 (i := 67) (by decide +kernel) rfl)
theorem lX4_184 : zlk RX4 184 yX4_comparisonOf := Or.inl (zT_4 (i := 71) (by decide +kernel) rfl)
theorem lX4_144 : zlk RX4 144 yX1_link := Or.inl (zT_4 (i := 74) (by decide +kernel) rfl)
theorem lX4_148 : zlk RX4 148 yX1_makeOf := Or.inl (zT_4 (i := 78) (by decide +kernel) rfl)
theorem lX1_40 : zlk RX1 40 yX1_make := Or.inl (zT_4 (i := 82) (by decide +kernel) rfl)
theorem lX4_113 : zlk RX4 113 yX7_give := Or.inl (zT_4 (i := 83) (by decide +kernel) rfl)
theorem lX4_75 : zlk RX4 75 yX4_readThing := Or.inl (zT_4 (i := 87) (by decide +kernel) rfl)
theorem lX4_82 : zlk RX4 82 yX4_follow := Or.inl (zT_4 (i := 93) (by decide +kernel) rfl)
theorem lL_52 : zlk RL 52 yX11_fault := Or.inl (zT_4 (i := 114) (by decide +kernel) rfl)
theorem lL_56 : zlk RL 56 yX11_played := Or.inl (zT_4 (i := 118) (by decide +kernel) rfl)
theorem lX11_131 : zlk RX11 131 yX7_sortOf := Or.inl (zT_4 (i := 122) (by decide +kernel) rfl)
theorem lX7_35 : zlk RX7 35 yX11_within := Or.inr ⟨"AnswersFirst", zN_4 (i := 126) (by decide +kernel) rfl⟩
theorem lX11_135 : zlk RX11 135 yX11_takeStock := Or.inl (zT_4 (i := 127) (by decide +kernel) rfl)
theorem lX11_245 : zlk RX11 245 yX3_sayAll := Or.inl (zT_4 (i := 131) (by decide +kernel) rfl)
theorem lX3_95 : zlk RX3 95 yX1_say := Or.inr ⟨"AnswersFirst", zN_4 (i := 135) (by decide +kernel) rfl⟩
theorem lX1_44 : zlk RX1 44 yX1_kindOf := Or.inl (zT_4 (i := 139) (by decide +kernel) rfl)
theorem lX1_48 : zlk RX1 48 yX1_valueOf := Or.inl (zT_4 (i := 143) (by decide +kernel) rfl)
theorem lX1_51 : zlk RX1 51 yX1_firstOf := Or.inl (zT_4 (i := 147) (by decide +kernel) rfl)
theorem lX1_54 : zlk RX1 54 yX1_partsOf := Or.inl (zT_4 (i := 151) (by decide +kernel) rfl)
theorem lX1_57 : zlk RX1 57 yX1_say := Or.inl (zT_4 (i := 155) (by decide +kernel) rfl)
theorem lX1_61 : zlk RX1 61 yX1_signOf := Or.inl (zT_4 (i := 156) (by decide +kernel) rfl)
theorem lX1_64 : zlk RX1 64 yX1_adopt := Or.inl (zT_4 (i := 160) (by decide +kernel) rfl)
theorem lX1_74 : zlk RX1 74 yX1_append := Or.inl (zT_4 (i := 164) (by decide +kernel) rfl)
theorem lX1_68 : zlk RX1 68 yX1_behind := Or.inl (zT_4 (i := 165) (by decide +kernel) rfl)
theorem lX1_71 : zlk RX1 71 yX1_change := Or.inl (zT_4 (i := 169) (by decide +kernel) rfl)
theorem lX1_78 : zlk RX1 78 yX1_leaveOut := Or.inl (zT_4 (i := 173) (by decide +kernel) rfl)
theorem lX1_97 : zlk RX1 97 yX1_collectParts := Or.inl (zT_4 (i := 177) (by decide +kernel) rfl)
theorem lX1_107 : zlk RX1 107 yJ9_min_7cf53 := Or.inl (zT_4 (i := 181) (by decide +kernel) rfl)
theorem lX1_100 : zlk RX1 100 yX1_dropParts := Or.inl (zT_4 (i := 182) (by decide +kernel) rfl)
theorem lX1_104 : zlk RX1 104 yX1_become := Or.inl (zT_4 (i := 186) (by decide +kernel) rfl)
theorem lX1_81 : zlk RX1 81 yX1_workNumbers := Or.inl (zT_4 (i := 190) (by decide +kernel) rfl)
theorem lX1_112 : zlk RX1 112 yX1_workedWith := Or.inl (zT_4 (i := 194) (by decide +kernel) rfl)
theorem lX1_116 : zlk RX1 116 yX11_clamped := Or.inr ⟨"AnswersFirst", zN_4 (i := 197) (by decide +kernel) rfl⟩
theorem lX1_120 : zlk RX1 120 yJ9_max_f86c9 := Or.inl (zT_4 (i := 204) (by decide +kernel) rfl)
theorem lX1_124 : zlk RX1 124 yJ9_min_f86c9 := Or.inl (zT_4 (i := 207) (by decide +kernel) rfl)
theorem lX1_85 : zlk RX1 85 yX1_sortParts := Or.inl (zT_4 (i := 210) (by decide +kernel) rfl)
theorem lX1_126 : zlk RX1 126 yX1_orderOfTerms := Or.inl (zT_4 (i := 214) (by decide +kernel) rfl)
theorem lX1_139 : zlk RX1 139 yJ6_compare_7cf53 := Or.inl (zT_4 (i := 217) (by decide +kernel) rfl)
theorem lX1_133 : zlk RX1 133 yX1_orderOf := Or.inl (zT_4 (i := 220) (by decide +kernel) rfl)
theorem lX1_130 : zlk RX1 130 yX1_chainParts := Or.inl (zT_4 (i := 223) (by decide +kernel) rfl)
theorem lX1_88 : zlk RX1 88 yX1_aloneOr := Or.inl (zT_4 (i := 227) (by decide +kernel) rfl)
theorem lX1_91 : zlk RX1 91 yX1_eitherOr := Or.inl (zT_4 (i := 231) (by decide +kernel) rfl)
theorem lX1_94 : zlk RX1 94 yX1_changeIf := Or.inl (zT_4 (i := 235) (by decide +kernel) rfl)
theorem lX1_136 : zlk RX1 136 yX1_setValue := Or.inl (zT_4 (i := 239) (by decide +kernel) rfl)
theorem lX3_99 : zlk RX3 99 yX1_orderOf := Or.inr ⟨"AnswersFirst", zN_5 (i := 3) (by decide +kernel) rfl⟩
theorem lX11_248 : zlk RX11 248 yX3_workAll := Or.inl (zT_5 (i := 4) (by decide +kernel) rfl)
theorem lX3_84 : zlk RX3 84 yX3_answerIn := Or.inl (zT_5 (i := 8) (by decide +kernel) rfl)
theorem lX3_75 : zlk RX3 75 yX10_workOut := Or.inl (zT_5 (i := 12) (by decide +kernel) rfl)
theorem lX10_80 : zlk RX10 80 yX10_sumOf := Or.inl (zT_5 (i := 16) (by decide +kernel) rfl)
theorem lX10_101 : zlk RX10 101 yX11_clamped := Or.inr ⟨"AnswersFirst", zN_5 (i := 22) (by decide +kernel) rfl⟩
theorem lX10_84 : zlk RX10 84 yX10_productOf := Or.inl (zT_5 (i := 23) (by decide +kernel) rfl)
theorem lX10_87 : zlk RX10 87 yX10_workWord := Or.inl (zT_5 (i := 29) (by decide +kernel) rfl)
theorem lX10_112 : zlk RX10 112 yX10_resultOf := Or.inl (zT_5 (i := 33) (by decide +kernel) rfl)
theorem lX10_116 : zlk RX10 116 yX1_behind := Or.inl (zT_5 (i := 37) (by decide +kernel) rfl)
theorem lX10_120 : zlk RX10 120 yX10_kinOf := Or.inl (zT_5 (i := 38) (by decide +kernel) rfl)
theorem lX10_123 : zlk RX10 123 yX10_wayOf := Or.inl (zT_5 (i := 39) (by decide +kernel) rfl)
theorem lX10_126 : zlk RX10 126 yJ9_max_7cf53 := Or.inl (zT_5 (i := 40) (by decide +kernel) rfl)
theorem lX10_131 : zlk RX10 131 yJ9_min_7cf53 := Or.inl (zT_5 (i := 41) (by decide +kernel) rfl)
theorem lX10_134 : zlk RX10 134 yX10_holds := Or.inl (zT_5 (i := 42) (by decide +kernel) rfl)
theorem lX11_138 : zlk RX11 138 yX11_perform := Or.inl (zT_5 (i := 45) (by decide +kernel) rfl)
theorem lX11_142 : zlk RX11 142 yX7_partOf := Or.inl (zT_5 (i := 49) (by decide +kernel) rfl)
theorem lX11_145 : zlk RX11 145 yX3_add := Or.inl (zT_5 (i := 53) (by decide +kernel) rfl)
theorem lX3_65 : zlk RX3 65 yX7_partOf := Or.inl (zT_5 (i := 57) (by decide +kernel) rfl)
theorem lX11_148 : zlk RX11 148 yX11_thing := Or.inl (zT_5 (i := 58) (by decide +kernel) rfl)
theorem lX11_152 : zlk RX11 152 yX11_person := Or.inl (zT_5 (i := 59) (by decide +kernel) rfl)
theorem lX11_155 : zlk RX11 155 yX11_road := Or.inl (zT_5 (i := 60) (by decide +kernel) rfl)
theorem lX11_158 : zlk RX11 158 yX11_equalities := Or.inl (zT_5 (i := 61) (by decide +kernel) rfl)
theorem lX11_176 : zlk RX11 176 yX3_setEqualities := Or.inl (zT_5 (i := 65) (by decide +kernel) rfl)
theorem lX11_162 : zlk RX11 162 yX11_pupil := Or.inl (zT_5 (i := 69) (by decide +kernel) rfl)
theorem lX11_210 : zlk RX11 210 yX6_addPupil := Or.inl (zT_5 (i := 73) (by decide +kernel) rfl)
theorem lX11_166 : zlk RX11 166 yX11_answer := Or.inl (zT_5 (i := 77) (by decide +kernel) rfl)
theorem lX11_169 : zlk RX11 169 yX11_askNow := Or.inl (zT_5 (i := 81) (by decide +kernel) rfl)
theorem lX11_221 : zlk RX11 221 yX11_isPupil := Or.inl (zT_5 (i := 85) (by decide +kernel) rfl)
theorem lX11_179 : zlk RX11 179 yX11_isQuestion := Or.inl (zT_5 (i := 89) (by decide +kernel) rfl)
theorem lX11_228 : zlk RX11 228 yX6_hindrance := Or.inl (zT_5 (i := 93) (by decide +kernel) rfl)
theorem lX6_55 : zlk RX6 55 yX6_hasAsked := Or.inl (zT_5 (i := 97) (by decide +kernel) rfl)
theorem lX6_59 : zlk RX6 59 yX6_lacking := Or.inl (zT_5 (i := 101) (by decide +kernel) rfl)
theorem lX6_69 : zlk RX6 69 yX6_barring := Or.inl (zT_5 (i := 108) (by decide +kernel) rfl)
theorem lX6_51 : zlk RX6 51 yX3_areAlike := Or.inl (zT_5 (i := 112) (by decide +kernel) rfl)
theorem lX11_231 : zlk RX11 231 yX6_addStep := Or.inl (zT_5 (i := 116) (by decide +kernel) rfl)
theorem lX11_172 : zlk RX11 172 yX6_holdMorning := Or.inl (zT_5 (i := 120) (by decide +kernel) rfl)
theorem lX6_94 : zlk RX6 94 yX6_whoHasNotAsked := Or.inl (zT_5 (i := 124) (by decide +kernel) rfl)
theorem lX6_98 : zlk RX6 98 yX6_youngest := Or.inl (zT_5 (i := 128) (by decide +kernel) rfl)
theorem lX6_101 : zlk RX6 101 yX6_drawn := Or.inl (zT_5 (i := 132) (by decide +kernel) rfl)
theorem lX6_79 : zlk RX6 79 yJ6_bitCount_0f7a4 := Or.inl (zT_5 (i := 136) (by decide +kernel) rfl)
theorem lX6_85 : zlk RX6 85 yJ9_max_7cf53 := Or.inl (zT_5 (i := 142) (by decide +kernel) rfl)
theorem lX6_91 : zlk RX6 91 yJ9_floorMod_7cf53 := Or.inl (zT_5 (i := 143) (by decide +kernel) rfl)
theorem lX6_104 : zlk RX6 104 yX6_lowestNow := Or.inl (zT_5 (i := 146) (by decide +kernel) rfl)
theorem lX6_76 : zlk RX6 76 yX6_hindrance := Or.inl (zT_5 (i := 150) (by decide +kernel) rfl)
theorem lX6_107 : zlk RX6 107 yX6_addStep := Or.inl (zT_5 (i := 151) (by decide +kernel) rfl)
theorem lL_60 : zlk RL 60 yX11_equalities := Or.inl (zT_5 (i := 152) (by decide +kernel) rfl)
theorem lL_73 : zlk RL 73 yX11_of := Or.inl (zT_5 (i := 153) (by decide +kernel) rfl)
theorem lX11_183 : zlk RX11 183 yX3_answerIn := Or.inl (zT_5 (i := 158) (by decide +kernel) rfl)
theorem lL_77 : zlk RL 77 yX11_alike := Or.inl (zT_5 (i := 159) (by decide +kernel) rfl)
theorem lX11_199 : zlk RX11 199 yX3_areAlike := Or.inl (zT_5 (i := 163) (by decide +kernel) rfl)
theorem lL_81 : zlk RL 81 yX11_nearly := Or.inl (zT_5 (i := 164) (by decide +kernel) rfl)
theorem lX11_202 : zlk RX11 202 yX3_areAlikeByAll := Or.inl (zT_5 (i := 168) (by decide +kernel) rfl)
theorem lL_85 : zlk RL 85 yX11_parted := Or.inl (zT_5 (i := 172) (by decide +kernel) rfl)
theorem lX11_205 : zlk RX11 205 yX0_findParting := Or.inl (zT_5 (i := 176) (by decide +kernel) rfl)
theorem lX0_56 : zlk RX0 56 yJ7_fill_53178 := Or.inl (zT_5 (i := 180) (by decide +kernel) rfl)
theorem lX0_62 : zlk RX0 62 yX3_answerIn := Or.inl (zT_5 (i := 181) (by decide +kernel) rfl)
theorem lX0_66 : zlk RX0 66 yX0_nextWorld := Or.inl (zT_5 (i := 182) (by decide +kernel) rfl)
theorem lL_65 : zlk RL 65 yX11_pupil := Or.inl (zT_5 (i := 186) (by decide +kernel) rfl)
theorem lL_69 : zlk RL 69 yX11_answer := Or.inl (zT_5 (i := 187) (by decide +kernel) rfl)
theorem lL_89 : zlk RL 89 yX11_can := Or.inl (zT_5 (i := 188) (by decide +kernel) rfl)
theorem lX11_218 : zlk RX11 218 yX11_lacks := Or.inl (zT_5 (i := 192) (by decide +kernel) rfl)
theorem lX11_224 : zlk RX11 224 yX6_lacking := Or.inl (zT_5 (i := 196) (by decide +kernel) rfl)
theorem lL_93 : zlk RL 93 yX11_lacks := Or.inl (zT_5 (i := 197) (by decide +kernel) rfl)
theorem lL_97 : zlk RL 97 yX11_ask := Or.inl (zT_5 (i := 198) (by decide +kernel) rfl)
theorem lL_101 : zlk RL 101 yX11_why := Or.inl (zT_5 (i := 202) (by decide +kernel) rfl)
theorem lL_105 : zlk RL 105 yX11_barred := Or.inl (zT_5 (i := 206) (by decide +kernel) rfl)
theorem lX11_238 : zlk RX11 238 yX6_barring := Or.inl (zT_5 (i := 210) (by decide +kernel) rfl)
theorem lL_109 : zlk RL 109 yX11_morning := Or.inl (zT_5 (i := 211) (by decide +kernel) rfl)
theorem lL_113 : zlk RL 113 yX11_stuck := Or.inl (zT_5 (i := 215) (by decide +kernel) rfl)
theorem lX11_241 : zlk RX11 241 yX6_firstPassedOver := Or.inl (zT_5 (i := 219) (by decide +kernel) rfl)
theorem lL_117 : zlk RL 117 yX11_undo := Or.inl (zT_5 (i := 223) (by decide +kernel) rfl)
theorem lL_121 : zlk RL 121 yX11_asked := Or.inl (zT_5 (i := 227) (by decide +kernel) rfl)
theorem lL_139 : zlk RL 139 yX11_left := Or.inl (zT_5 (i := 231) (by decide +kernel) rfl)
theorem lX11_258 : zlk RX11 258 yX6_shortestNow := Or.inl (zT_5 (i := 235) (by decide +kernel) rfl)
theorem lL_126 : zlk RL 126 yX11_order := Or.inl (zT_5 (i := 239) (by decide +kernel) rfl)
theorem lX11_264 : zlk RX11 264 yX2_look := Or.inl (zT_6 (i := 3) (by decide +kernel) rfl)
theorem lX2_40 : zlk RX2 40 yJ7_fill_53178 := Or.inl (zT_6 (i := 7) (by decide +kernel) rfl)
theorem lX2_46 : zlk RX2 46 yX3_allAlike := Or.inl (zT_6 (i := 8) (by decide +kernel) rfl)
theorem lX3_88 : zlk RX3 88 yX3_areAlike := Or.inl (zT_6 (i := 12) (by decide +kernel) rfl)
theorem lX2_56 : zlk RX2 56 yX2_openTo := Or.inl (zT_6 (i := 13) (by decide +kernel) rfl)
theorem lX2_60 : zlk RX2 60 yX6_lacking := Or.inl (zT_6 (i := 17) (by decide +kernel) rfl)
theorem lX11_268 : zlk RX11 268 yX2_mostWhoCan := Or.inl (zT_6 (i := 18) (by decide +kernel) rfl)
theorem lX2_71 : zlk RX2 71 yX2_exploreAll := Or.inl (zT_6 (i := 22) (by decide +kernel) rfl)
theorem lX2_67 : zlk RX2 67 yX2_explore := Or.inl (zT_6 (i := 26) (by decide +kernel) rfl)
theorem lX2_64 : zlk RX2 64 yX2_lowestOf := Or.inl (zT_6 (i := 30) (by decide +kernel) rfl)
theorem lX2_74 : zlk RX2 74 yJ6_bitCount_0f7a4 := Or.inl (zT_6 (i := 34) (by decide +kernel) rfl)
theorem lX2_79 : zlk RX2 79 yJ9_max_7cf53 := Or.inl (zT_6 (i := 35) (by decide +kernel) rfl)
theorem lX11_272 : zlk RX11 272 yX2_findOrder := Or.inl (zT_6 (i := 36) (by decide +kernel) rfl)
theorem lX2_85 : zlk RX2 85 yX2_orderFrom := Or.inl (zT_6 (i := 40) (by decide +kernel) rfl)
theorem lL_130 : zlk RL 130 yX11_shut := Or.inl (zT_6 (i := 44) (by decide +kernel) rfl)
theorem lX11_279 : zlk RX11 279 yX2_fewestToShut := Or.inl (zT_6 (i := 48) (by decide +kernel) rfl)
theorem lL_134 : zlk RL 134 yX11_game := Or.inl (zT_6 (i := 52) (by decide +kernel) rfl)
theorem lX11_282 : zlk RX11 282 yX2_winningStart := Or.inl (zT_6 (i := 56) (by decide +kernel) rfl)
theorem lX2_89 : zlk RX2 89 yX2_winsFrom := Or.inl (zT_6 (i := 60) (by decide +kernel) rfl)
theorem lX2_93 : zlk RX2 93 yX2_moverWins := Or.inl (zT_6 (i := 64) (by decide +kernel) rfl)
theorem lL_143 : zlk RL 143 yX11_kinds := Or.inl (zT_6 (i := 67) (by decide +kernel) rfl)
theorem lX11_287 : zlk RX11 287 yX9_prepare := Or.inl (zT_6 (i := 72) (by decide +kernel) rfl)
theorem lX9_28 : zlk RX9 28 yJ7_fill_53178 := Or.inl (zT_6 (i := 76) (by decide +kernel) rfl)
theorem lX9_34 : zlk RX9 34 yX9_clear := Or.inl (zT_6 (i := 77) (by decide +kernel) rfl)
theorem lX9_46 : zlk RX9 46 yX9_placeOf := Or.inl (zT_6 (i := 81) (by decide +kernel) rfl)
theorem lX9_38 : zlk RX9 38 yX9_countLeaves := Or.inl (zT_6 (i := 84) (by decide +kernel) rfl)
theorem lX9_42 : zlk RX9 42 yX9_join := Or.inl (zT_6 (i := 88) (by decide +kernel) rfl)
theorem lX9_50 : zlk RX9 50 yX9_joinValue := Or.inl (zT_6 (i := 92) (by decide +kernel) rfl)
theorem lX11_291 : zlk RX11 291 yX9_countOf := Or.inl (zT_6 (i := 96) (by decide +kernel) rfl)
theorem lX9_54 : zlk RX9 54 yX11_within := Or.inr ⟨"AnswersFirst", zN_6 (i := 100) (by decide +kernel) rfl⟩
theorem lL_148 : zlk RL 148 yX11_fewest := Or.inl (zT_6 (i := 101) (by decide +kernel) rfl)
theorem lX11_294 : zlk RX11 294 yX9_fewestLeaves := Or.inl (zT_6 (i := 105) (by decide +kernel) rfl)
theorem lX9_58 : zlk RX9 58 yX9_prepare := Or.inl (zT_6 (i := 109) (by decide +kernel) rfl)
theorem lX9_62 : zlk RX9 62 yX9_countOf := Or.inl (zT_6 (i := 110) (by decide +kernel) rfl)
theorem lL_152 : zlk RL 152 yX11_shortest := Or.inl (zT_6 (i := 111) (by decide +kernel) rfl)
theorem lX11_298 : zlk RX11 298 yX11_fewest := Or.inl (zT_6 (i := 115) (by decide +kernel) rfl)
theorem lX11_301 : zlk RX11 301 yX9_signAt := Or.inl (zT_6 (i := 116) (by decide +kernel) rfl)
theorem lX9_69 : zlk RX9 69 yX9_write := Or.inl (zT_6 (i := 120) (by decide +kernel) rfl)
theorem lX9_73 : zlk RX9 73 yX9_leafOf := Or.inl (zT_6 (i := 124) (by decide +kernel) rfl)
theorem lX9_77 : zlk RX9 77 yX9_put := Or.inl (zT_6 (i := 128) (by decide +kernel) rfl)
theorem lX9_80 : zlk RX9 80 yX9_partnerOf := Or.inl (zT_6 (i := 132) (by decide +kernel) rfl)
theorem lX9_84 : zlk RX9 84 yX9_leastOf := Or.inl (zT_6 (i := 136) (by decide +kernel) rfl)
theorem lL_156 : zlk RL 156 yX11_rarest := Or.inl (zT_6 (i := 140) (by decide +kernel) rfl)
theorem lX11_305 : zlk RX11 305 yX11_areValues := Or.inl (zT_6 (i := 144) (by decide +kernel) rfl)
theorem lX11_308 : zlk RX11 308 yX9_rarestOf := Or.inl (zT_6 (i := 147) (by decide +kernel) rfl)
theorem lL_161 : zlk RL 161 yX11_fair := Or.inl (zT_6 (i := 151) (by decide +kernel) rfl)
theorem lX11_312 : zlk RX11 312 yJ9_min_7cf53 := Or.inl (zT_6 (i := 155) (by decide +kernel) rfl)
theorem lX11_318 : zlk RX11 318 yX9_longestOf := Or.inl (zT_6 (i := 156) (by decide +kernel) rfl)
theorem lX9_65 : zlk RX9 65 yX9_fewestLeaves := Or.inl (zT_6 (i := 160) (by decide +kernel) rfl)
theorem lL_165 : zlk RL 165 yX11_unasked := Or.inl (zT_6 (i := 161) (by decide +kernel) rfl)
theorem lL_169 : zlk RL 169 yX11_hear := Or.inl (zT_6 (i := 165) (by decide +kernel) rfl)
theorem lX11_322 : zlk RX11 322 yX0_forgetHeard := Or.inl (zT_6 (i := 169) (by decide +kernel) rfl)
theorem lX11_325 : zlk RX11 325 yX0_addHeard := Or.inl (zT_6 (i := 173) (by decide +kernel) rfl)
theorem lL_173 : zlk RL 173 yX11_worlds := Or.inl (zT_6 (i := 177) (by decide +kernel) rfl)
theorem lX11_328 : zlk RX11 328 yX0_countWorlds := Or.inl (zT_6 (i := 181) (by decide +kernel) rfl)
theorem lX0_84 : zlk RX0 84 yX0_addUnlike := Or.inl (zT_6 (i := 185) (by decide +kernel) rfl)
theorem lX0_88 : zlk RX0 88 yX0_allAnswerAlike := Or.inl (zT_6 (i := 189) (by decide +kernel) rfl)
theorem lL_177 : zlk RL 177 yX11_knew := Or.inl (zT_6 (i := 193) (by decide +kernel) rfl)
theorem lX11_335 : zlk RX11 335 yX0_wordsHeard := Or.inl (zT_6 (i := 197) (by decide +kernel) rfl)
theorem lL_181 : zlk RL 181 yX11_tell := Or.inl (zT_6 (i := 201) (by decide +kernel) rfl)
theorem lX11_341 : zlk RX11 341 yX0_addTold := Or.inl (zT_6 (i := 205) (by decide +kernel) rfl)
theorem lL_185 : zlk RL 185 yX11_lies := Or.inl (zT_6 (i := 209) (by decide +kernel) rfl)
theorem lX11_344 : zlk RX11 344 yX0_liesIn := Or.inl (zT_6 (i := 213) (by decide +kernel) rfl)
theorem lL_189 : zlk RL 189 yX11_clash := Or.inl (zT_6 (i := 217) (by decide +kernel) rfl)
theorem lX11_347 : zlk RX11 347 yX0_firstClash := Or.inl (zT_6 (i := 221) (by decide +kernel) rfl)
theorem lX0_52 : zlk RX0 52 yX3_areAlike := Or.inl (zT_6 (i := 225) (by decide +kernel) rfl)
theorem lL_193 : zlk RL 193 yX11_image := Or.inl (zT_6 (i := 226) (by decide +kernel) rfl)
theorem lX11_350 : zlk RX11 350 yX11_saveAll := Or.inl (zT_6 (i := 230) (by decide +kernel) rfl)
theorem lX11_353 : zlk RX11 353 yX5_rewind := Or.inl (zT_6 (i := 234) (by decide +kernel) rfl)
theorem lX11_366 : zlk RX11 366 yX5_put := Or.inl (zT_6 (i := 238) (by decide +kernel) rfl)
theorem lX11_369 : zlk RX11 369 yX10_save := Or.inl (zT_7 (i := 2) (by decide +kernel) rfl)
theorem lX10_137 : zlk RX10 137 yX5_putAll := Or.inl (zT_7 (i := 6) (by decide +kernel) rfl)
theorem lX5_17 : zlk RX5 17 yX5_put := Or.inl (zT_7 (i := 10) (by decide +kernel) rfl)
theorem lX10_143 : zlk RX10 143 yX5_put := Or.inl (zT_7 (i := 11) (by decide +kernel) rfl)
theorem lX11_372 : zlk RX11 372 yX3_save := Or.inl (zT_7 (i := 12) (by decide +kernel) rfl)
theorem lX3_103 : zlk RX3 103 yX5_put := Or.inl (zT_7 (i := 16) (by decide +kernel) rfl)
theorem lX11_373 : zlk RX11 373 yX6_save := Or.inl (zT_7 (i := 17) (by decide +kernel) rfl)
theorem lX6_111 : zlk RX6 111 yX5_put := Or.inl (zT_7 (i := 21) (by decide +kernel) rfl)
theorem lX6_117 : zlk RX6 117 yX5_putAll := Or.inl (zT_7 (i := 22) (by decide +kernel) rfl)
theorem lX11_374 : zlk RX11 374 yX0_save := Or.inl (zT_7 (i := 23) (by decide +kernel) rfl)
theorem lX0_92 : zlk RX0 92 yX5_put := Or.inl (zT_7 (i := 27) (by decide +kernel) rfl)
theorem lX0_97 : zlk RX0 97 yX5_putAll := Or.inl (zT_7 (i := 28) (by decide +kernel) rfl)
theorem lL_197 : zlk RL 197 yX11_back := Or.inl (zT_7 (i := 29) (by decide +kernel) rfl)
theorem lX11_356 : zlk RX11 356 yX5_take := Or.inl (zT_7 (i := 33) (by decide +kernel) rfl)
theorem lX11_359 : zlk RX11 359 yX10_restore := Or.inl (zT_7 (i := 37) (by decide +kernel) rfl)
theorem lX10_147 : zlk RX10 147 yX5_takeAll := Or.inl (zT_7 (i := 41) (by decide +kernel) rfl)
theorem lX5_21 : zlk RX5 21 yX5_take := Or.inl (zT_7 (i := 45) (by decide +kernel) rfl)
theorem lX10_150 : zlk RX10 150 yX5_take := Or.inl (zT_7 (i := 46) (by decide +kernel) rfl)
theorem lX11_363 : zlk RX11 363 yX3_restore := Or.inl (zT_7 (i := 47) (by decide +kernel) rfl)
theorem lX3_109 : zlk RX3 109 yX5_take := Or.inl (zT_7 (i := 51) (by decide +kernel) rfl)
theorem lX3_113 : zlk RX3 113 yJ9_min_7cf53 := Or.inl (zT_7 (i := 52) (by decide +kernel) rfl)
theorem lX3_118 : zlk RX3 118 yJ9_max_7cf53 := Or.inl (zT_7 (i := 53) (by decide +kernel) rfl)
theorem lX3_121 : zlk RX3 121 yX3_setEqualities := Or.inl (zT_7 (i := 54) (by decide +kernel) rfl)
theorem lX11_364 : zlk RX11 364 yX6_restore := Or.inl (zT_7 (i := 55) (by decide +kernel) rfl)
theorem lX6_121 : zlk RX6 121 yX5_take := Or.inl (zT_7 (i := 59) (by decide +kernel) rfl)
theorem lX6_124 : zlk RX6 124 yJ9_min_7cf53 := Or.inl (zT_7 (i := 60) (by decide +kernel) rfl)
theorem lX6_127 : zlk RX6 127 yX5_takeAll := Or.inl (zT_7 (i := 61) (by decide +kernel) rfl)
theorem lX11_365 : zlk RX11 365 yX0_restore := Or.inl (zT_7 (i := 62) (by decide +kernel) rfl)
theorem lX0_101 : zlk RX0 101 yX5_take := Or.inl (zT_7 (i := 66) (by decide +kernel) rfl)
theorem lX0_105 : zlk RX0 105 yJ9_min_7cf53 := Or.inl (zT_7 (i := 67) (by decide +kernel) rfl)
theorem lX0_111 : zlk RX0 111 yJ9_max_7cf53 := Or.inl (zT_7 (i := 68) (by decide +kernel) rfl)
theorem lX0_114 : zlk RX0 114 yX5_takeAll := Or.inl (zT_7 (i := 69) (by decide +kernel) rfl)
theorem lL_201 : zlk RL 201 yX11_about := Or.inl (zT_7 (i := 70) (by decide +kernel) rfl)
theorem lX11_375 : zlk RX11 375 yX11_amountOf := Or.inl (zT_7 (i := 74) (by decide +kernel) rfl)
theorem lL_12 : zlk RL 12 yX12_init := Or.inl (zT_7 (i := 80) (by decide +kernel) rfl)
theorem lX12_118 : zlk RX12 118 yX12_copy := Or.inl (zT_7 (i := 84) (by decide +kernel) rfl)
theorem lL_17 : zlk RL 17 yX12_thing := Or.inl (zT_8 (i := 8) (by decide +kernel) rfl)
theorem lX12_126 : zlk RX12 126 yX12_isIn := Or.inl (zT_8 (i := 12) (by decide +kernel) rfl)
theorem lL_22 : zlk RL 22 yX12_person := Or.inl (zT_8 (i := 15) (by decide +kernel) rfl)
theorem lX12_134 : zlk RX12 134 yX12_isParent := Or.inl (zT_8 (i := 19) (by decide +kernel) rfl)
theorem lX12_130 : zlk RX12 130 yX12_isPerson := Or.inl (zT_8 (i := 23) (by decide +kernel) rfl)
theorem lL_27 : zlk RL 27 yX12_road := Or.inl (zT_8 (i := 27) (by decide +kernel) rfl)
theorem lL_32 : zlk RL 32 yX12_kin := Or.inl (zT_8 (i := 31) (by decide +kernel) rfl)
theorem lX12_146 : zlk RX12 146 yX12_findKin := Or.inl (zT_8 (i := 35) (by decide +kernel) rfl)
theorem lX12_137 : zlk RX12 137 yX12_isChild := Or.inl (zT_8 (i := 39) (by decide +kernel) rfl)
theorem lX12_142 : zlk RX12 142 yX12_close := Or.inl (zT_8 (i := 44) (by decide +kernel) rfl)
theorem lX12_149 : zlk RX12 149 yX12_known := Or.inl (zT_8 (i := 47) (by decide +kernel) rfl)
theorem lL_36 : zlk RL 36 yX12_way := Or.inl (zT_8 (i := 50) (by decide +kernel) rfl)
theorem lL_41 : zlk RL 41 yX12_feed := Or.inl (zT_8 (i := 54) (by decide +kernel) rfl)
theorem lX12_156 : zlk RX12 156 yX12_four := Or.inl (zT_8 (i := 58) (by decide +kernel) rfl)
theorem lL_46 : zlk RL 46 yX12_end := Or.inl (zT_8 (i := 62) (by decide +kernel) rfl)
theorem lL_51 : zlk RL 51 yX12_text := Or.inl (zT_8 (i := 66) (by decide +kernel) rfl)
theorem lX12_333 : zlk RX12 333 yX12_readText := Or.inl (zT_8 (i := 70) (by decide +kernel) rfl)
theorem lX12_230 : zlk RX12 230 yX12_nextToken := Or.inl (zT_8 (i := 74) (by decide +kernel) rfl)
theorem lX12_163 : zlk RX12 163 yX12_byteAt := Or.inl (zT_8 (i := 78) (by decide +kernel) rfl)
theorem lX12_172 : zlk RX12 172 yX12_isFigure := Or.inl (zT_8 (i := 82) (by decide +kernel) rfl)
theorem lX12_179 : zlk RX12 179 yX12_isLetterByte := Or.inl (zT_8 (i := 86) (by decide +kernel) rfl)
theorem lX12_188 : zlk RX12 188 yX12_isSign := Or.inl (zT_8 (i := 90) (by decide +kernel) rfl)
theorem lX12_330 : zlk RX12 330 yX12_clause := Or.inl (zT_8 (i := 93) (by decide +kernel) rfl)
theorem lX12_324 : zlk RX12 324 yX12_sortAt := Or.inl (zT_8 (i := 97) (by decide +kernel) rfl)
theorem lX12_191 : zlk RX12 191 yX12_w3 := Or.inl (zT_8 (i := 101) (by decide +kernel) rfl)
theorem lX12_219 : zlk RX12 219 yX12_isWord := Or.inl (zT_8 (i := 104) (by decide +kernel) rfl)
theorem lX12_195 : zlk RX12 195 yX12_w4 := Or.inl (zT_8 (i := 108) (by decide +kernel) rfl)
theorem lX12_199 : zlk RX12 199 yX12_w5 := Or.inl (zT_8 (i := 111) (by decide +kernel) rfl)
theorem lX12_305 : zlk RX12 305 yX12_w6 := Or.inl (zT_8 (i := 114) (by decide +kernel) rfl)
theorem lX12_327 : zlk RX12 327 yX12_body := Or.inl (zT_8 (i := 117) (by decide +kernel) rfl)
theorem lX12_309 : zlk RX12 309 yX12_summed := Or.inl (zT_8 (i := 121) (by decide +kernel) rfl)
theorem lX12_226 : zlk RX12 226 yX12_begin := Or.inl (zT_8 (i := 125) (by decide +kernel) rfl)
theorem lX12_212 : zlk RX12 212 yX12_startSum := Or.inl (zT_8 (i := 129) (by decide +kernel) rfl)
theorem lX12_282 : zlk RX12 282 yX12_behindOne := Or.inl (zT_8 (i := 133) (by decide +kernel) rfl)
theorem lX12_265 : zlk RX12 265 yX12_endTerm := Or.inl (zT_8 (i := 137) (by decide +kernel) rfl)
theorem lX12_236 : zlk RX12 236 yX12_write := Or.inl (zT_8 (i := 141) (by decide +kernel) rfl)
theorem lX12_268 : zlk RX12 268 yX12_endSum := Or.inl (zT_8 (i := 145) (by decide +kernel) rfl)
theorem lX12_271 : zlk RX12 271 yX12_closed := Or.inl (zT_8 (i := 149) (by decide +kernel) rfl)
theorem lX12_275 : zlk RX12 275 yX12_goesOn := Or.inl (zT_8 (i := 153) (by decide +kernel) rfl)
theorem lX12_279 : zlk RX12 279 yX12_compareAt := Or.inl (zT_8 (i := 157) (by decide +kernel) rfl)
theorem lX12_285 : zlk RX12 285 yX12_beginOne := Or.inl (zT_8 (i := 161) (by decide +kernel) rfl)
theorem lX12_249 : zlk RX12 249 yX12_leaf := Or.inl (zT_8 (i := 165) (by decide +kernel) rfl)
theorem lX12_253 : zlk RX12 253 yX12_thingAt := Or.inl (zT_8 (i := 169) (by decide +kernel) rfl)
theorem lX12_257 : zlk RX12 257 yX12_opened := Or.inl (zT_8 (i := 175) (by decide +kernel) rfl)
theorem lX12_262 : zlk RX12 262 yX12_wordStep := Or.inl (zT_8 (i := 180) (by decide +kernel) rfl)
theorem lX12_312 : zlk RX12 312 yX12_let := Or.inl (zT_8 (i := 184) (by decide +kernel) rfl)
theorem lX12_297 : zlk RX12 297 yX12_worded := Or.inl (zT_8 (i := 189) (by decide +kernel) rfl)
theorem lX12_291 : zlk RX12 291 yX12_figure := Or.inl (zT_8 (i := 193) (by decide +kernel) rfl)
theorem lX12_315 : zlk RX12 315 yX12_born := Or.inl (zT_8 (i := 197) (by decide +kernel) rfl)
theorem lX12_318 : zlk RX12 318 yX12_path := Or.inl (zT_8 (i := 202) (by decide +kernel) rfl)
theorem lX12_321 : zlk RX12 321 yX12_pupilClause := Or.inl (zT_8 (i := 207) (by decide +kernel) rfl)
theorem lL_55 : zlk RL 55 yX12_fault := Or.inl (zT_8 (i := 211) (by decide +kernel) rfl)
theorem lL_59 : zlk RL 59 yX12_played := Or.inl (zT_8 (i := 215) (by decide +kernel) rfl)
theorem lX12_364 : zlk RX12 364 yX12_isPlayed := Or.inl (zT_8 (i := 219) (by decide +kernel) rfl)
theorem lX12_336 : zlk RX12 336 yX12_askMore := Or.inl (zT_8 (i := 223) (by decide +kernel) rfl)
theorem lX12_339 : zlk RX12 339 yX12_thing := Or.inl (zT_8 (i := 227) (by decide +kernel) rfl)
theorem lX12_342 : zlk RX12 342 yX12_person := Or.inl (zT_8 (i := 228) (by decide +kernel) rfl)
theorem lX12_345 : zlk RX12 345 yX12_road := Or.inl (zT_8 (i := 229) (by decide +kernel) rfl)
theorem lX12_348 : zlk RX12 348 yX12_equalities := Or.inl (zT_8 (i := 230) (by decide +kernel) rfl)
theorem lX12_351 : zlk RX12 351 yX12_pupil := Or.inl (zT_8 (i := 234) (by decide +kernel) rfl)
theorem lX12_355 : zlk RX12 355 yX12_answer := Or.inl (zT_8 (i := 238) (by decide +kernel) rfl)
theorem lX12_358 : zlk RX12 358 yX12_ask := Or.inl (zT_9 (i := 4) (by decide +kernel) rfl)
theorem lX12_501 : zlk RX12 501 yX12_why := Or.inl (zT_9 (i := 8) (by decide +kernel) rfl)
theorem lX12_480 : zlk RX12 480 yX12_isPupil := Or.inl (zT_9 (i := 12) (by decide +kernel) rfl)
theorem lX12_392 : zlk RX12 392 yX12_isQuestion := Or.inl (zT_9 (i := 16) (by decide +kernel) rfl)
theorem lX12_495 : zlk RX12 495 yX12_hasAsked := Or.inl (zT_9 (i := 20) (by decide +kernel) rfl)
theorem lX12_498 : zlk RX12 498 yX12_can := Or.inl (zT_9 (i := 24) (by decide +kernel) rfl)
theorem lX12_489 : zlk RX12 489 yX12_lacks := Or.inl (zT_9 (i := 28) (by decide +kernel) rfl)
theorem lX12_483 : zlk RX12 483 yX12_pupilOf := Or.inl (zT_9 (i := 32) (by decide +kernel) rfl)
theorem lX12_396 : zlk RX12 396 yX12_worldNow := Or.inl (zT_9 (i := 39) (by decide +kernel) rfl)
theorem lX12_399 : zlk RX12 399 yX12_answerOf := Or.inl (zT_9 (i := 43) (by decide +kernel) rfl)
theorem lX12_373 : zlk RX12 373 yX12_has := Or.inl (zT_9 (i := 47) (by decide +kernel) rfl)
theorem lX12_376 : zlk RX12 376 yX12_held := Or.inl (zT_9 (i := 50) (by decide +kernel) rfl)
theorem lX12_380 : zlk RX12 380 yX12_ofOne := Or.inl (zT_9 (i := 55) (by decide +kernel) rfl)
theorem lX12_384 : zlk RX12 384 yX12_isSo := Or.inl (zT_9 (i := 60) (by decide +kernel) rfl)
theorem lX12_388 : zlk RX12 388 yX12_ofTwo := Or.inl (zT_9 (i := 63) (by decide +kernel) rfl)
theorem lX12_492 : zlk RX12 492 yX12_barring := Or.inl (zT_9 (i := 68) (by decide +kernel) rfl)
theorem lX12_471 : zlk RX12 471 yX12_isAlike := Or.inl (zT_9 (i := 72) (by decide +kernel) rfl)
theorem lX12_468 : zlk RX12 468 yX12_say := Or.inl (zT_9 (i := 76) (by decide +kernel) rfl)
theorem lX12_458 : zlk RX12 458 yX12_saySum := Or.inl (zT_9 (i := 80) (by decide +kernel) rfl)
theorem lX12_432 : zlk RX12 432 yX12_findTerms := Or.inl (zT_9 (i := 84) (by decide +kernel) rfl)
theorem lX12_409 : zlk RX12 409 yX12_addTerm := Or.inl (zT_9 (i := 88) (by decide +kernel) rfl)
theorem lX12_413 : zlk RX12 413 yX12_behind := Or.inl (zT_9 (i := 92) (by decide +kernel) rfl)
theorem lX12_436 : zlk RX12 436 yX12_leaveOut := Or.inl (zT_9 (i := 96) (by decide +kernel) rfl)
theorem lX12_416 : zlk RX12 416 yX12_isNumber := Or.inl (zT_9 (i := 100) (by decide +kernel) rfl)
theorem lX12_439 : zlk RX12 439 yX12_areNumbers := Or.inl (zT_9 (i := 104) (by decide +kernel) rfl)
theorem lX12_443 : zlk RX12 443 yX12_worked := Or.inl (zT_9 (i := 108) (by decide +kernel) rfl)
theorem lX12_446 : zlk RX12 446 yX12_putNumber := Or.inl (zT_9 (i := 112) (by decide +kernel) rfl)
theorem lX12_429 : zlk RX12 429 yX12_put := Or.inl (zT_9 (i := 116) (by decide +kernel) rfl)
theorem lX12_449 : zlk RX12 449 yX12_setInOrder := Or.inl (zT_9 (i := 120) (by decide +kernel) rfl)
theorem lX12_423 : zlk RX12 423 yX12_isAhead := Or.inl (zT_9 (i := 124) (by decide +kernel) rfl)
theorem lX12_419 : zlk RX12 419 yX12_compared := Or.inl (zT_9 (i := 128) (by decide +kernel) rfl)
theorem lX12_426 : zlk RX12 426 yX12_exchange := Or.inl (zT_9 (i := 132) (by decide +kernel) rfl)
theorem lX12_462 : zlk RX12 462 yX12_sayIf := Or.inl (zT_9 (i := 136) (by decide +kernel) rfl)
theorem lX12_452 : zlk RX12 452 yX12_areAlike := Or.inl (zT_9 (i := 140) (by decide +kernel) rfl)
theorem lX12_455 : zlk RX12 455 yX12_lay := Or.inl (zT_9 (i := 144) (by decide +kernel) rfl)
theorem lX12_465 : zlk RX12 465 yX12_sayWord := Or.inl (zT_9 (i := 148) (by decide +kernel) rfl)
theorem lX12_361 : zlk RX12 361 yX12_morning := Or.inl (zT_9 (i := 152) (by decide +kernel) rfl)
theorem lX12_504 : zlk RX12 504 yX12_waiting := Or.inl (zT_9 (i := 156) (by decide +kernel) rfl)
theorem lX12_507 : zlk RX12 507 yX12_youngest := Or.inl (zT_9 (i := 160) (by decide +kernel) rfl)
theorem lX12_510 : zlk RX12 510 yX12_bits := Or.inl (zT_9 (i := 164) (by decide +kernel) rfl)
theorem lX12_513 : zlk RX12 513 yX12_nth := Or.inl (zT_9 (i := 167) (by decide +kernel) rfl)
theorem lX12_516 : zlk RX12 516 yX12_asksLowest := Or.inl (zT_9 (i := 171) (by decide +kernel) rfl)
theorem lL_64 : zlk RL 64 yX12_equalities := Or.inl (zT_9 (i := 175) (by decide +kernel) rfl)
theorem lL_68 : zlk RL 68 yX12_pupil := Or.inl (zT_9 (i := 176) (by decide +kernel) rfl)
theorem lL_72 : zlk RL 72 yX12_answer := Or.inl (zT_9 (i := 177) (by decide +kernel) rfl)
theorem lL_76 : zlk RL 76 yX12_of := Or.inl (zT_9 (i := 178) (by decide +kernel) rfl)
theorem lL_80 : zlk RL 80 yX12_alike := Or.inl (zT_9 (i := 183) (by decide +kernel) rfl)
theorem lL_84 : zlk RL 84 yX12_nearly := Or.inl (zT_9 (i := 187) (by decide +kernel) rfl)
theorem lL_88 : zlk RL 88 yX12_parted := Or.inl (zT_9 (i := 191) (by decide +kernel) rfl)
theorem lX12_474 : zlk RX12 474 yX12_firstWorld := Or.inl (zT_9 (i := 195) (by decide +kernel) rfl)
theorem lX12_477 : zlk RX12 477 yX12_nextWorld := Or.inl (zT_9 (i := 199) (by decide +kernel) rfl)
theorem lL_96 : zlk RL 96 yX12_lacks := Or.inl (zT_9 (i := 203) (by decide +kernel) rfl)
theorem lL_92 : zlk RL 92 yX12_can := Or.inl (zT_9 (i := 204) (by decide +kernel) rfl)
theorem lL_108 : zlk RL 108 yX12_barred := Or.inl (zT_9 (i := 205) (by decide +kernel) rfl)
theorem lL_104 : zlk RL 104 yX12_why := Or.inl (zT_9 (i := 209) (by decide +kernel) rfl)
theorem lL_100 : zlk RL 100 yX12_ask := Or.inl (zT_9 (i := 210) (by decide +kernel) rfl)
theorem lL_120 : zlk RL 120 yX12_undo := Or.inl (zT_9 (i := 211) (by decide +kernel) rfl)
theorem lL_125 : zlk RL 125 yX12_asked := Or.inl (zT_9 (i := 215) (by decide +kernel) rfl)
theorem lL_112 : zlk RL 112 yX12_morning := Or.inl (zT_9 (i := 219) (by decide +kernel) rfl)
theorem lL_116 : zlk RL 116 yX12_stuck := Or.inl (zT_9 (i := 220) (by decide +kernel) rfl)
theorem lL_129 : zlk RL 129 yX12_order := Or.inl (zT_9 (i := 224) (by decide +kernel) rfl)
theorem lX12_531 : zlk RX12 531 yX12_findLike := Or.inl (zT_9 (i := 228) (by decide +kernel) rfl)
theorem lX12_534 : zlk RX12 534 yX12_mostOf := Or.inl (zT_9 (i := 232) (by decide +kernel) rfl)
theorem lX12_522 : zlk RX12 522 yX12_firstOrder := Or.inl (zT_9 (i := 236) (by decide +kernel) rfl)
theorem lX12_525 : zlk RX12 525 yX12_canAsk := Or.inl (zT_10 (i := 0) (by decide +kernel) rfl)
theorem lX12_528 : zlk RX12 528 yX12_nextOrder := Or.inl (zT_10 (i := 4) (by decide +kernel) rfl)
theorem lX12_519 : zlk RX12 519 yX12_change := Or.inl (zT_10 (i := 8) (by decide +kernel) rfl)
theorem lL_133 : zlk RL 133 yX12_shut := Or.inl (zT_10 (i := 12) (by decide +kernel) rfl)
theorem lL_138 : zlk RL 138 yX12_game := Or.inl (zT_10 (i := 16) (by decide +kernel) rfl)
theorem lX12_541 : zlk RX12 541 yX12_wins := Or.inl (zT_10 (i := 20) (by decide +kernel) rfl)
theorem lX12_537 : zlk RX12 537 yX12_isGood := Or.inl (zT_10 (i := 24) (by decide +kernel) rfl)
theorem lL_142 : zlk RL 142 yX12_left := Or.inl (zT_10 (i := 28) (by decide +kernel) rfl)
theorem lL_147 : zlk RL 147 yX12_kinds := Or.inl (zT_10 (i := 32) (by decide +kernel) rfl)
theorem lX12_554 : zlk RX12 554 yX12_findKinds := Or.inl (zT_10 (i := 36) (by decide +kernel) rfl)
theorem lX12_545 : zlk RX12 545 yX12_cell := Or.inl (zT_10 (i := 40) (by decide +kernel) rfl)
theorem lX12_551 : zlk RX12 551 yX12_join := Or.inl (zT_10 (i := 43) (by decide +kernel) rfl)
theorem lX12_548 : zlk RX12 548 yX12_two := Or.inl (zT_10 (i := 47) (by decide +kernel) rfl)
theorem lL_151 : zlk RL 151 yX12_fewest := Or.inl (zT_10 (i := 50) (by decide +kernel) rfl)
theorem lX12_557 : zlk RX12 557 yX12_fewestOf := Or.inl (zT_10 (i := 54) (by decide +kernel) rfl)
theorem lL_155 : zlk RL 155 yX12_shortest := Or.inl (zT_10 (i := 58) (by decide +kernel) rfl)
theorem lX12_563 : zlk RX12 563 yX12_await0 := Or.inl (zT_10 (i := 62) (by decide +kernel) rfl)
theorem lX12_566 : zlk RX12 566 yX12_leafOf := Or.inl (zT_10 (i := 66) (by decide +kernel) rfl)
theorem lX12_569 : zlk RX12 569 yX12_split := Or.inl (zT_10 (i := 70) (by decide +kernel) rfl)
theorem lL_160 : zlk RL 160 yX12_rarest := Or.inl (zT_10 (i := 74) (by decide +kernel) rfl)
theorem lX12_572 : zlk RX12 572 yX12_areValues := Or.inl (zT_10 (i := 78) (by decide +kernel) rfl)
theorem lL_164 : zlk RL 164 yX12_fair := Or.inl (zT_10 (i := 81) (by decide +kernel) rfl)
theorem lL_168 : zlk RL 168 yX12_unasked := Or.inl (zT_10 (i := 85) (by decide +kernel) rfl)
theorem lL_172 : zlk RL 172 yX12_hear := Or.inl (zT_10 (i := 89) (by decide +kernel) rfl)
theorem lL_176 : zlk RL 176 yX12_worlds := Or.inl (zT_10 (i := 93) (by decide +kernel) rfl)
theorem lX12_575 : zlk RX12 575 yX12_isOneAnswer := Or.inl (zT_10 (i := 97) (by decide +kernel) rfl)
theorem lL_180 : zlk RL 180 yX12_knew := Or.inl (zT_10 (i := 101) (by decide +kernel) rfl)
theorem lL_184 : zlk RL 184 yX12_tell := Or.inl (zT_10 (i := 105) (by decide +kernel) rfl)
theorem lL_188 : zlk RL 188 yX12_lies := Or.inl (zT_10 (i := 109) (by decide +kernel) rfl)
theorem lL_192 : zlk RL 192 yX12_clash := Or.inl (zT_10 (i := 113) (by decide +kernel) rfl)
theorem lL_196 : zlk RL 196 yX12_image := Or.inl (zT_10 (i := 117) (by decide +kernel) rfl)
theorem lL_200 : zlk RL 200 yX12_back := Or.inl (zT_10 (i := 121) (by decide +kernel) rfl)
theorem lL_204 : zlk RL 204 yX12_about := Or.inl (zT_10 (i := 125) (by decide +kernel) rfl)
theorem inX0 : ∀ w ∈ u_ws RX0 TX0 13, w ∈ zTs := by decide +kernel
theorem inX1 : ∀ w ∈ u_ws RX1 TX1 9, w ∈ zTs := by decide +kernel
theorem inX2 : ∀ w ∈ u_ws RX2 TX2 6, w ∈ zTs := by decide +kernel
theorem inX3 : ∀ w ∈ u_ws RX3 TX3 16, w ∈ zTs := by decide +kernel
theorem inX4 : ∀ w ∈ u_ws RX4 TX4 8, w ∈ zTs := by decide +kernel
theorem inX5 : ∀ w ∈ u_ws RX5 TX5 2, w ∈ zTs := by decide +kernel
theorem inX6 : ∀ w ∈ u_ws RX6 TX6 10, w ∈ zTs := by decide +kernel
theorem inX7 : ∀ w ∈ u_ws RX7 TX7 5, w ∈ zTs := by decide +kernel
theorem inX8 : ∀ w ∈ u_ws RX8 TX8 10, w ∈ zTs := by decide +kernel
theorem inX9 : ∀ w ∈ u_ws RX9 TX9 5, w ∈ zTs := by decide +kernel
theorem inX10 : ∀ w ∈ u_ws RX10 TX10 11, w ∈ zTs := by decide +kernel
theorem inX11 : ∀ w ∈ u_ws RX11 TX11 10, w ∈ zTs := by decide +kernel
theorem inX12 : ∀ w ∈ u_ws RX12 TX12 53, w ∈ zTs := by decide +kernel
theorem fX10_9 : zgf RX10 9 10 0 := ⟨RX10, TX10, 11, rfl, by decide, Or.inl (zT_1 (i := 57) (by decide +kernel) rfl), inX10⟩
theorem fX11_76 : zgf RX11 76 10 0 := ⟨RX10, TX10, 11, rfl, by decide, Or.inl (zT_1 (i := 58) (by decide +kernel) rfl), inX10⟩
theorem fX3_81 : zgf RX3 81 10 0 := ⟨RX10, TX10, 11, rfl, by decide, Or.inl (zT_1 (i := 59) (by decide +kernel) rfl), inX10⟩
theorem fX10_15 : zgf RX10 15 10 1 := ⟨RX10, TX10, 11, rfl, by decide, Or.inl (zT_1 (i := 60) (by decide +kernel) rfl), inX10⟩
theorem fX11_381 : zgf RX11 381 10 1 := ⟨RX10, TX10, 11, rfl, by decide, Or.inl (zT_1 (i := 61) (by decide +kernel) rfl), inX10⟩
theorem fX10_18 : zgf RX10 18 10 2 := ⟨RX10, TX10, 11, rfl, by decide, Or.inl (zT_1 (i := 62) (by decide +kernel) rfl), inX10⟩
theorem fX10_21 : zgf RX10 21 10 3 := ⟨RX10, TX10, 11, rfl, by decide, Or.inl (zT_1 (i := 63) (by decide +kernel) rfl), inX10⟩
theorem fX10_49 : zgf RX10 49 10 4 := ⟨RX10, TX10, 11, rfl, by decide, Or.inl (zT_1 (i := 64) (by decide +kernel) rfl), inX10⟩
theorem fX11_87 : zgf RX11 87 10 4 := ⟨RX10, TX10, 11, rfl, by decide, Or.inl (zT_1 (i := 65) (by decide +kernel) rfl), inX10⟩
theorem fX10_24 : zgf RX10 24 10 5 := ⟨RX10, TX10, 11, rfl, by decide, Or.inl (zT_1 (i := 66) (by decide +kernel) rfl), inX10⟩
theorem fX10_27 : zgf RX10 27 10 6 := ⟨RX10, TX10, 11, rfl, by decide, Or.inl (zT_1 (i := 67) (by decide +kernel) rfl), inX10⟩
theorem fX10_30 : zgf RX10 30 10 7 := ⟨RX10, TX10, 11, rfl, by decide, Or.inl (zT_1 (i := 68) (by decide +kernel) rfl), inX10⟩
theorem fX10_33 : zgf RX10 33 10 8 := ⟨RX10, TX10, 11, rfl, by decide, Or.inl (zT_1 (i := 69) (by decide +kernel) rfl), inX10⟩
theorem fX10_36 : zgf RX10 36 10 9 := ⟨RX10, TX10, 11, rfl, by decide, Or.inl (zT_1 (i := 70) (by decide +kernel) rfl), inX10⟩
theorem fX10_66 : zgf RX10 66 10 10 := ⟨RX10, TX10, 11, rfl, by decide, Or.inl (zT_1 (i := 71) (by decide +kernel) rfl), inX10⟩
theorem fX0_73 : zgf RX0 73 10 10 := ⟨RX10, TX10, 11, rfl, by decide, Or.inl (zT_1 (i := 72) (by decide +kernel) rfl), inX10⟩
theorem fX8_9 : zgf RX8 9 8 0 := ⟨RX8, TX8, 10, rfl, by decide, Or.inl (zT_1 (i := 109) (by decide +kernel) rfl), inX8⟩
theorem fX8_24 : zgf RX8 24 8 1 := ⟨RX8, TX8, 10, rfl, by decide, Or.inl (zT_1 (i := 110) (by decide +kernel) rfl), inX8⟩
theorem fX11_102 : zgf RX11 102 8 1 := ⟨RX8, TX8, 10, rfl, by decide, Or.inl (zT_1 (i := 111) (by decide +kernel) rfl), inX8⟩
theorem fX8_15 : zgf RX8 15 8 2 := ⟨RX8, TX8, 10, rfl, by decide, Or.inl (zT_1 (i := 112) (by decide +kernel) rfl), inX8⟩
theorem fX8_18 : zgf RX8 18 8 3 := ⟨RX8, TX8, 10, rfl, by decide, Or.inl (zT_1 (i := 113) (by decide +kernel) rfl), inX8⟩
theorem fX8_21 : zgf RX8 21 8 4 := ⟨RX8, TX8, 10, rfl, by decide, Or.inl (zT_1 (i := 114) (by decide +kernel) rfl), inX8⟩
theorem fX8_28 : zgf RX8 28 8 5 := ⟨RX8, TX8, 10, rfl, by decide, Or.inl (zT_1 (i := 115) (by decide +kernel) rfl), inX8⟩
theorem fX8_42 : zgf RX8 42 8 6 := ⟨RX8, TX8, 10, rfl, by decide, Or.inl (zT_1 (i := 116) (by decide +kernel) rfl), inX8⟩
theorem fX4_37 : zgf RX4 37 8 7 := ⟨RX8, TX8, 10, rfl, by decide, Or.inl (zT_1 (i := 117) (by decide +kernel) rfl), inX8⟩
theorem fX8_48 : zgf RX8 48 8 7 := ⟨RX8, TX8, 10, rfl, by decide, Or.inl (zT_1 (i := 118) (by decide +kernel) rfl), inX8⟩
theorem fX4_55 : zgf RX4 55 8 8 := ⟨RX8, TX8, 10, rfl, by decide, Or.inl (zT_1 (i := 119) (by decide +kernel) rfl), inX8⟩
theorem fX8_51 : zgf RX8 51 8 8 := ⟨RX8, TX8, 10, rfl, by decide, Or.inl (zT_1 (i := 120) (by decide +kernel) rfl), inX8⟩
theorem fX8_54 : zgf RX8 54 8 9 := ⟨RX8, TX8, 10, rfl, by decide, Or.inl (zT_1 (i := 121) (by decide +kernel) rfl), inX8⟩
theorem fX4_110 : zgf RX4 110 8 9 := ⟨RX8, TX8, 10, rfl, by decide, Or.inl (zT_1 (i := 122) (by decide +kernel) rfl), inX8⟩
theorem fX4_12 : zgf RX4 12 4 0 := ⟨RX4, TX4, 8, rfl, by decide, Or.inl (zT_1 (i := 144) (by decide +kernel) rfl), inX4⟩
theorem fX11_98 : zgf RX11 98 4 0 := ⟨RX4, TX4, 8, rfl, by decide, Or.inl (zT_1 (i := 145) (by decide +kernel) rfl), inX4⟩
theorem fX4_18 : zgf RX4 18 4 1 := ⟨RX4, TX4, 8, rfl, by decide, Or.inl (zT_1 (i := 146) (by decide +kernel) rfl), inX4⟩
theorem fX11_118 : zgf RX11 118 4 1 := ⟨RX4, TX4, 8, rfl, by decide, Or.inl (zT_1 (i := 147) (by decide +kernel) rfl), inX4⟩
theorem fX4_22 : zgf RX4 22 4 2 := ⟨RX4, TX4, 8, rfl, by decide, Or.inl (zT_1 (i := 148) (by decide +kernel) rfl), inX4⟩
theorem fX11_122 : zgf RX11 122 4 2 := ⟨RX4, TX4, 8, rfl, by decide, Or.inl (zT_1 (i := 149) (by decide +kernel) rfl), inX4⟩
theorem fX4_26 : zgf RX4 26 4 3 := ⟨RX4, TX4, 8, rfl, by decide, Or.inl (zT_1 (i := 150) (by decide +kernel) rfl), inX4⟩
theorem fX11_125 : zgf RX11 125 4 3 := ⟨RX4, TX4, 8, rfl, by decide, Or.inl (zT_1 (i := 151) (by decide +kernel) rfl), inX4⟩
theorem fX4_116 : zgf RX4 116 4 4 := ⟨RX4, TX4, 8, rfl, by decide, Or.inl (zT_1 (i := 152) (by decide +kernel) rfl), inX4⟩
theorem fX4_119 : zgf RX4 119 4 5 := ⟨RX4, TX4, 8, rfl, by decide, Or.inl (zT_1 (i := 153) (by decide +kernel) rfl), inX4⟩
theorem fX4_122 : zgf RX4 122 4 6 := ⟨RX4, TX4, 8, rfl, by decide, Or.inl (zT_1 (i := 154) (by decide +kernel) rfl), inX4⟩
theorem fX4_125 : zgf RX4 125 4 7 := ⟨RX4, TX4, 8, rfl, by decide, Or.inl (zT_1 (i := 155) (by decide +kernel) rfl), inX4⟩
theorem fX1_9 : zgf RX1 9 1 0 := ⟨RX1, TX1, 9, rfl, by decide, Or.inl (zT_1 (i := 188) (by decide +kernel) rfl), inX1⟩
theorem fX10_77 : zgf RX10 77 1 0 := ⟨RX1, TX1, 9, rfl, by decide, Or.inl (zT_1 (i := 189) (by decide +kernel) rfl), inX1⟩
theorem fX1_15 : zgf RX1 15 1 1 := ⟨RX1, TX1, 9, rfl, by decide, Or.inl (zT_1 (i := 190) (by decide +kernel) rfl), inX1⟩
theorem fX10_74 : zgf RX10 74 1 1 := ⟨RX1, TX1, 9, rfl, by decide, Or.inl (zT_1 (i := 191) (by decide +kernel) rfl), inX1⟩
theorem fX1_18 : zgf RX1 18 1 2 := ⟨RX1, TX1, 9, rfl, by decide, Or.inl (zT_1 (i := 192) (by decide +kernel) rfl), inX1⟩
theorem fX10_96 : zgf RX10 96 1 2 := ⟨RX1, TX1, 9, rfl, by decide, Or.inr ⟨"AnswersFirst", zN_1 (i := 193) (by decide +kernel) rfl⟩, inX1⟩
theorem fX1_21 : zgf RX1 21 1 3 := ⟨RX1, TX1, 9, rfl, by decide, Or.inl (zT_1 (i := 194) (by decide +kernel) rfl), inX1⟩
theorem fX10_93 : zgf RX10 93 1 3 := ⟨RX1, TX1, 9, rfl, by decide, Or.inr ⟨"AnswersFirst", zN_1 (i := 195) (by decide +kernel) rfl⟩, inX1⟩
theorem fX1_24 : zgf RX1 24 1 4 := ⟨RX1, TX1, 9, rfl, by decide, Or.inl (zT_1 (i := 196) (by decide +kernel) rfl), inX1⟩
theorem fX10_90 : zgf RX10 90 1 4 := ⟨RX1, TX1, 9, rfl, by decide, Or.inr ⟨"AnswersFirst", zN_1 (i := 197) (by decide +kernel) rfl⟩, inX1⟩
theorem fX1_27 : zgf RX1 27 1 5 := ⟨RX1, TX1, 9, rfl, by decide, Or.inl (zT_1 (i := 198) (by decide +kernel) rfl), inX1⟩
theorem fX1_30 : zgf RX1 30 1 6 := ⟨RX1, TX1, 9, rfl, by decide, Or.inl (zT_1 (i := 199) (by decide +kernel) rfl), inX1⟩
theorem fX10_105 : zgf RX10 105 1 6 := ⟨RX1, TX1, 9, rfl, by decide, Or.inr ⟨"AnswersFirst", zN_1 (i := 200) (by decide +kernel) rfl⟩, inX1⟩
theorem fX1_33 : zgf RX1 33 1 7 := ⟨RX1, TX1, 9, rfl, by decide, Or.inl (zT_1 (i := 201) (by decide +kernel) rfl), inX1⟩
theorem fX1_36 : zgf RX1 36 1 8 := ⟨RX1, TX1, 9, rfl, by decide, Or.inl (zT_1 (i := 202) (by decide +kernel) rfl), inX1⟩
theorem fX7_32 : zgf RX7 32 1 8 := ⟨RX1, TX1, 9, rfl, by decide, Or.inl (zT_1 (i := 203) (by decide +kernel) rfl), inX1⟩
theorem fX3_92 : zgf RX3 92 1 8 := ⟨RX1, TX1, 9, rfl, by decide, Or.inl (zT_1 (i := 204) (by decide +kernel) rfl), inX1⟩
theorem fX4_132 : zgf RX4 132 1 8 := ⟨RX1, TX1, 9, rfl, by decide, Or.inl (zT_1 (i := 205) (by decide +kernel) rfl), inX1⟩
theorem fX10_69 : zgf RX10 69 1 8 := ⟨RX1, TX1, 9, rfl, by decide, Or.inl (zT_1 (i := 206) (by decide +kernel) rfl), inX1⟩
theorem fX3_11 : zgf RX3 11 3 0 := ⟨RX3, TX3, 16, rfl, by decide, Or.inl (zT_1 (i := 226) (by decide +kernel) rfl), inX3⟩
theorem fX3_17 : zgf RX3 17 3 1 := ⟨RX3, TX3, 16, rfl, by decide, Or.inl (zT_1 (i := 227) (by decide +kernel) rfl), inX3⟩
theorem fX3_21 : zgf RX3 21 3 2 := ⟨RX3, TX3, 16, rfl, by decide, Or.inl (zT_1 (i := 228) (by decide +kernel) rfl), inX3⟩
theorem fX3_24 : zgf RX3 24 3 3 := ⟨RX3, TX3, 16, rfl, by decide, Or.inl (zT_1 (i := 229) (by decide +kernel) rfl), inX3⟩
theorem fX6_46 : zgf RX6 46 3 3 := ⟨RX3, TX3, 16, rfl, by decide, Or.inl (zT_1 (i := 230) (by decide +kernel) rfl), inX3⟩
theorem fX11_187 : zgf RX11 187 3 3 := ⟨RX3, TX3, 16, rfl, by decide, Or.inl (zT_1 (i := 231) (by decide +kernel) rfl), inX3⟩
theorem fX3_27 : zgf RX3 27 3 4 := ⟨RX3, TX3, 16, rfl, by decide, Or.inl (zT_1 (i := 232) (by decide +kernel) rfl), inX3⟩
theorem fX6_44 : zgf RX6 44 3 4 := ⟨RX3, TX3, 16, rfl, by decide, Or.inl (zT_1 (i := 233) (by decide +kernel) rfl), inX3⟩
theorem fX11_190 : zgf RX11 190 3 4 := ⟨RX3, TX3, 16, rfl, by decide, Or.inl (zT_1 (i := 234) (by decide +kernel) rfl), inX3⟩
theorem fX3_30 : zgf RX3 30 3 5 := ⟨RX3, TX3, 16, rfl, by decide, Or.inl (zT_1 (i := 235) (by decide +kernel) rfl), inX3⟩
theorem fX6_37 : zgf RX6 37 3 5 := ⟨RX3, TX3, 16, rfl, by decide, Or.inl (zT_1 (i := 236) (by decide +kernel) rfl), inX3⟩
theorem fX0_44 : zgf RX0 44 3 5 := ⟨RX3, TX3, 16, rfl, by decide, Or.inl (zT_1 (i := 237) (by decide +kernel) rfl), inX3⟩
theorem fX11_193 : zgf RX11 193 3 5 := ⟨RX3, TX3, 16, rfl, by decide, Or.inl (zT_1 (i := 238) (by decide +kernel) rfl), inX3⟩
theorem fX3_33 : zgf RX3 33 3 6 := ⟨RX3, TX3, 16, rfl, by decide, Or.inl (zT_1 (i := 239) (by decide +kernel) rfl), inX3⟩
theorem fX6_40 : zgf RX6 40 3 6 := ⟨RX3, TX3, 16, rfl, by decide, Or.inl (zT_2 (i := 0) (by decide +kernel) rfl), inX3⟩
theorem fX11_196 : zgf RX11 196 3 6 := ⟨RX3, TX3, 16, rfl, by decide, Or.inl (zT_2 (i := 1) (by decide +kernel) rfl), inX3⟩
theorem fX3_36 : zgf RX3 36 3 7 := ⟨RX3, TX3, 16, rfl, by decide, Or.inl (zT_2 (i := 2) (by decide +kernel) rfl), inX3⟩
theorem fX2_50 : zgf RX2 50 3 7 := ⟨RX3, TX3, 16, rfl, by decide, Or.inl (zT_2 (i := 3) (by decide +kernel) rfl), inX3⟩
theorem fX0_49 : zgf RX0 49 3 7 := ⟨RX3, TX3, 16, rfl, by decide, Or.inl (zT_2 (i := 4) (by decide +kernel) rfl), inX3⟩
theorem fX6_63 : zgf RX6 63 3 7 := ⟨RX3, TX3, 16, rfl, by decide, Or.inl (zT_2 (i := 5) (by decide +kernel) rfl), inX3⟩
theorem fX3_56 : zgf RX3 56 3 8 := ⟨RX3, TX3, 16, rfl, by decide, Or.inl (zT_2 (i := 6) (by decide +kernel) rfl), inX3⟩
theorem fX2_32 : zgf RX2 32 3 8 := ⟨RX3, TX3, 16, rfl, by decide, Or.inl (zT_2 (i := 7) (by decide +kernel) rfl), inX3⟩
theorem fX6_73 : zgf RX6 73 3 8 := ⟨RX3, TX3, 16, rfl, by decide, Or.inl (zT_2 (i := 8) (by decide +kernel) rfl), inX3⟩
theorem fX11_383 : zgf RX11 383 3 8 := ⟨RX3, TX3, 16, rfl, by decide, Or.inl (zT_2 (i := 9) (by decide +kernel) rfl), inX3⟩
theorem fX3_69 : zgf RX3 69 3 9 := ⟨RX3, TX3, 16, rfl, by decide, Or.inl (zT_2 (i := 10) (by decide +kernel) rfl), inX3⟩
theorem fX11_386 : zgf RX11 386 3 9 := ⟨RX3, TX3, 16, rfl, by decide, Or.inl (zT_2 (i := 11) (by decide +kernel) rfl), inX3⟩
theorem fX3_39 : zgf RX3 39 3 10 := ⟨RX3, TX3, 16, rfl, by decide, Or.inl (zT_2 (i := 12) (by decide +kernel) rfl), inX3⟩
theorem fX3_42 : zgf RX3 42 3 11 := ⟨RX3, TX3, 16, rfl, by decide, Or.inl (zT_2 (i := 13) (by decide +kernel) rfl), inX3⟩
theorem fX3_45 : zgf RX3 45 3 12 := ⟨RX3, TX3, 16, rfl, by decide, Or.inl (zT_2 (i := 14) (by decide +kernel) rfl), inX3⟩
theorem fX3_72 : zgf RX3 72 3 13 := ⟨RX3, TX3, 16, rfl, by decide, Or.inl (zT_2 (i := 15) (by decide +kernel) rfl), inX3⟩
theorem fX3_49 : zgf RX3 49 3 14 := ⟨RX3, TX3, 16, rfl, by decide, Or.inl (zT_2 (i := 16) (by decide +kernel) rfl), inX3⟩
theorem fX3_53 : zgf RX3 53 3 15 := ⟨RX3, TX3, 16, rfl, by decide, Or.inl (zT_2 (i := 17) (by decide +kernel) rfl), inX3⟩
theorem fX6_9 : zgf RX6 9 6 0 := ⟨RX6, TX6, 10, rfl, by decide, Or.inl (zT_2 (i := 57) (by decide +kernel) rfl), inX6⟩
theorem fX11_378 : zgf RX11 378 6 0 := ⟨RX6, TX6, 10, rfl, by decide, Or.inl (zT_2 (i := 58) (by decide +kernel) rfl), inX6⟩
theorem fX6_15 : zgf RX6 15 6 1 := ⟨RX6, TX6, 10, rfl, by decide, Or.inl (zT_2 (i := 59) (by decide +kernel) rfl), inX6⟩
theorem fX11_382 : zgf RX11 382 6 1 := ⟨RX6, TX6, 10, rfl, by decide, Or.inl (zT_2 (i := 60) (by decide +kernel) rfl), inX6⟩
theorem fX6_18 : zgf RX6 18 6 2 := ⟨RX6, TX6, 10, rfl, by decide, Or.inl (zT_2 (i := 61) (by decide +kernel) rfl), inX6⟩
theorem fX11_311 : zgf RX11 311 6 2 := ⟨RX6, TX6, 10, rfl, by decide, Or.inl (zT_2 (i := 62) (by decide +kernel) rfl), inX6⟩
theorem fX6_21 : zgf RX6 21 6 3 := ⟨RX6, TX6, 10, rfl, by decide, Or.inl (zT_2 (i := 63) (by decide +kernel) rfl), inX6⟩
theorem fX6_24 : zgf RX6 24 6 4 := ⟨RX6, TX6, 10, rfl, by decide, Or.inl (zT_2 (i := 64) (by decide +kernel) rfl), inX6⟩
theorem fX11_317 : zgf RX11 317 6 4 := ⟨RX6, TX6, 10, rfl, by decide, Or.inl (zT_2 (i := 65) (by decide +kernel) rfl), inX6⟩
theorem fX6_33 : zgf RX6 33 6 5 := ⟨RX6, TX6, 10, rfl, by decide, Or.inl (zT_2 (i := 66) (by decide +kernel) rfl), inX6⟩
theorem fX2_25 : zgf RX2 25 6 5 := ⟨RX6, TX6, 10, rfl, by decide, Or.inl (zT_2 (i := 67) (by decide +kernel) rfl), inX6⟩
theorem fX11_261 : zgf RX11 261 6 5 := ⟨RX6, TX6, 10, rfl, by decide, Or.inl (zT_2 (i := 68) (by decide +kernel) rfl), inX6⟩
theorem fX2_53 : zgf RX2 53 6 6 := ⟨RX6, TX6, 10, rfl, by decide, Or.inl (zT_2 (i := 69) (by decide +kernel) rfl), inX6⟩
theorem fX6_66 : zgf RX6 66 6 6 := ⟨RX6, TX6, 10, rfl, by decide, Or.inl (zT_2 (i := 70) (by decide +kernel) rfl), inX6⟩
theorem fX11_215 : zgf RX11 215 6 6 := ⟨RX6, TX6, 10, rfl, by decide, Or.inl (zT_2 (i := 71) (by decide +kernel) rfl), inX6⟩
theorem fX6_27 : zgf RX6 27 6 7 := ⟨RX6, TX6, 10, rfl, by decide, Or.inl (zT_2 (i := 72) (by decide +kernel) rfl), inX6⟩
theorem fX11_255 : zgf RX11 255 6 7 := ⟨RX6, TX6, 10, rfl, by decide, Or.inl (zT_2 (i := 73) (by decide +kernel) rfl), inX6⟩
theorem fX6_30 : zgf RX6 30 6 8 := ⟨RX6, TX6, 10, rfl, by decide, Or.inl (zT_2 (i := 74) (by decide +kernel) rfl), inX6⟩
theorem fX11_252 : zgf RX11 252 6 8 := ⟨RX6, TX6, 10, rfl, by decide, Or.inl (zT_2 (i := 75) (by decide +kernel) rfl), inX6⟩
theorem fX6_48 : zgf RX6 48 6 9 := ⟨RX6, TX6, 10, rfl, by decide, Or.inl (zT_2 (i := 76) (by decide +kernel) rfl), inX6⟩
theorem fX11_235 : zgf RX11 235 6 9 := ⟨RX6, TX6, 10, rfl, by decide, Or.inl (zT_2 (i := 77) (by decide +kernel) rfl), inX6⟩
theorem fX2_9 : zgf RX2 9 2 0 := ⟨RX2, TX2, 6, rfl, by decide, Or.inl (zT_2 (i := 105) (by decide +kernel) rfl), inX2⟩
theorem fX2_15 : zgf RX2 15 2 1 := ⟨RX2, TX2, 6, rfl, by decide, Or.inl (zT_2 (i := 106) (by decide +kernel) rfl), inX2⟩
theorem fX2_18 : zgf RX2 18 2 2 := ⟨RX2, TX2, 6, rfl, by decide, Or.inl (zT_2 (i := 107) (by decide +kernel) rfl), inX2⟩
theorem fX2_22 : zgf RX2 22 2 3 := ⟨RX2, TX2, 6, rfl, by decide, Or.inl (zT_2 (i := 108) (by decide +kernel) rfl), inX2⟩
theorem fX11_276 : zgf RX11 276 2 3 := ⟨RX2, TX2, 6, rfl, by decide, Or.inl (zT_2 (i := 109) (by decide +kernel) rfl), inX2⟩
theorem fX2_31 : zgf RX2 31 2 4 := ⟨RX2, TX2, 6, rfl, by decide, Or.inl (zT_2 (i := 110) (by decide +kernel) rfl), inX2⟩
theorem fX2_37 : zgf RX2 37 2 5 := ⟨RX2, TX2, 6, rfl, by decide, Or.inl (zT_2 (i := 111) (by decide +kernel) rfl), inX2⟩
theorem fX9_10 : zgf RX9 10 9 0 := ⟨RX9, TX9, 5, rfl, by decide, Or.inl (zT_2 (i := 133) (by decide +kernel) rfl), inX9⟩
theorem fX9_16 : zgf RX9 16 9 1 := ⟨RX9, TX9, 5, rfl, by decide, Or.inl (zT_2 (i := 134) (by decide +kernel) rfl), inX9⟩
theorem fX9_19 : zgf RX9 19 9 2 := ⟨RX9, TX9, 5, rfl, by decide, Or.inl (zT_2 (i := 135) (by decide +kernel) rfl), inX9⟩
theorem fX9_22 : zgf RX9 22 9 3 := ⟨RX9, TX9, 5, rfl, by decide, Or.inl (zT_2 (i := 136) (by decide +kernel) rfl), inX9⟩
theorem fX9_25 : zgf RX9 25 9 4 := ⟨RX9, TX9, 5, rfl, by decide, Or.inl (zT_2 (i := 137) (by decide +kernel) rfl), inX9⟩
theorem fX0_9 : zgf RX0 9 0 0 := ⟨RX0, TX0, 13, rfl, by decide, Or.inl (zT_2 (i := 155) (by decide +kernel) rfl), inX0⟩
theorem fX0_15 : zgf RX0 15 0 1 := ⟨RX0, TX0, 13, rfl, by decide, Or.inl (zT_2 (i := 156) (by decide +kernel) rfl), inX0⟩
theorem fX0_33 : zgf RX0 33 0 2 := ⟨RX0, TX0, 13, rfl, by decide, Or.inl (zT_2 (i := 157) (by decide +kernel) rfl), inX0⟩
theorem fX11_389 : zgf RX11 389 0 2 := ⟨RX0, TX0, 13, rfl, by decide, Or.inl (zT_2 (i := 158) (by decide +kernel) rfl), inX0⟩
theorem fX0_18 : zgf RX0 18 0 3 := ⟨RX0, TX0, 13, rfl, by decide, Or.inl (zT_2 (i := 159) (by decide +kernel) rfl), inX0⟩
theorem fX0_81 : zgf RX0 81 0 4 := ⟨RX0, TX0, 13, rfl, by decide, Or.inl (zT_2 (i := 160) (by decide +kernel) rfl), inX0⟩
theorem fX0_21 : zgf RX0 21 0 5 := ⟨RX0, TX0, 13, rfl, by decide, Or.inl (zT_2 (i := 161) (by decide +kernel) rfl), inX0⟩
theorem fX0_24 : zgf RX0 24 0 6 := ⟨RX0, TX0, 13, rfl, by decide, Or.inl (zT_2 (i := 162) (by decide +kernel) rfl), inX0⟩
theorem fX0_41 : zgf RX0 41 0 7 := ⟨RX0, TX0, 13, rfl, by decide, Or.inl (zT_2 (i := 163) (by decide +kernel) rfl), inX0⟩
theorem fX11_338 : zgf RX11 338 0 7 := ⟨RX0, TX0, 13, rfl, by decide, Or.inl (zT_2 (i := 164) (by decide +kernel) rfl), inX0⟩
theorem fX0_27 : zgf RX0 27 0 8 := ⟨RX0, TX0, 13, rfl, by decide, Or.inl (zT_2 (i := 165) (by decide +kernel) rfl), inX0⟩
theorem fX11_209 : zgf RX11 209 0 8 := ⟨RX0, TX0, 13, rfl, by decide, Or.inl (zT_2 (i := 166) (by decide +kernel) rfl), inX0⟩
theorem fX0_30 : zgf RX0 30 0 9 := ⟨RX0, TX0, 13, rfl, by decide, Or.inl (zT_2 (i := 167) (by decide +kernel) rfl), inX0⟩
theorem fX11_332 : zgf RX11 332 0 9 := ⟨RX0, TX0, 13, rfl, by decide, Or.inl (zT_2 (i := 168) (by decide +kernel) rfl), inX0⟩
theorem fX0_78 : zgf RX0 78 0 10 := ⟨RX0, TX0, 13, rfl, by decide, Or.inl (zT_2 (i := 169) (by decide +kernel) rfl), inX0⟩
theorem fX0_37 : zgf RX0 37 0 11 := ⟨RX0, TX0, 13, rfl, by decide, Or.inl (zT_2 (i := 170) (by decide +kernel) rfl), inX0⟩
theorem fX0_70 : zgf RX0 70 0 12 := ⟨RX0, TX0, 13, rfl, by decide, Or.inl (zT_2 (i := 171) (by decide +kernel) rfl), inX0⟩
theorem fX5_7 : zgf RX5 7 5 0 := ⟨RX5, TX5, 2, rfl, by decide, Or.inl (zT_2 (i := 205) (by decide +kernel) rfl), inX5⟩
theorem fX5_13 : zgf RX5 13 5 1 := ⟨RX5, TX5, 2, rfl, by decide, Or.inl (zT_2 (i := 206) (by decide +kernel) rfl), inX5⟩
theorem fX7_9 : zgf RX7 9 7 0 := ⟨RX7, TX7, 5, rfl, by decide, Or.inl (zT_2 (i := 219) (by decide +kernel) rfl), inX7⟩
theorem fX7_15 : zgf RX7 15 7 1 := ⟨RX7, TX7, 5, rfl, by decide, Or.inl (zT_2 (i := 220) (by decide +kernel) rfl), inX7⟩
theorem fX7_29 : zgf RX7 29 7 2 := ⟨RX7, TX7, 5, rfl, by decide, Or.inl (zT_2 (i := 221) (by decide +kernel) rfl), inX7⟩
theorem fX7_25 : zgf RX7 25 7 3 := ⟨RX7, TX7, 5, rfl, by decide, Or.inl (zT_2 (i := 222) (by decide +kernel) rfl), inX7⟩
theorem fX4_52 : zgf RX4 52 7 3 := ⟨RX7, TX7, 5, rfl, by decide, Or.inl (zT_2 (i := 223) (by decide +kernel) rfl), inX7⟩
theorem fX11_128 : zgf RX11 128 7 3 := ⟨RX7, TX7, 5, rfl, by decide, Or.inl (zT_2 (i := 224) (by decide +kernel) rfl), inX7⟩
theorem fX7_21 : zgf RX7 21 7 4 := ⟨RX7, TX7, 5, rfl, by decide, Or.inl (zT_2 (i := 225) (by decide +kernel) rfl), inX7⟩
theorem fX3_60 : zgf RX3 60 7 4 := ⟨RX7, TX7, 5, rfl, by decide, Or.inl (zT_2 (i := 226) (by decide +kernel) rfl), inX7⟩
theorem fX4_128 : zgf RX4 128 7 4 := ⟨RX7, TX7, 5, rfl, by decide, Or.inl (zT_2 (i := 227) (by decide +kernel) rfl), inX7⟩
theorem fX11_10 : zgf RX11 10 11 0 := ⟨RX11, TX11, 10, rfl, by decide, Or.inl (zT_2 (i := 239) (by decide +kernel) rfl), inX11⟩
theorem fX11_19 : zgf RX11 19 11 1 := ⟨RX11, TX11, 10, rfl, by decide, Or.inl (zT_3 (i := 0) (by decide +kernel) rfl), inX11⟩
theorem fX11_25 : zgf RX11 25 11 2 := ⟨RX11, TX11, 10, rfl, by decide, Or.inl (zT_3 (i := 1) (by decide +kernel) rfl), inX11⟩
theorem fX11_111 : zgf RX11 111 11 3 := ⟨RX11, TX11, 10, rfl, by decide, Or.inl (zT_3 (i := 2) (by decide +kernel) rfl), inX11⟩
theorem fX11_32 : zgf RX11 32 11 4 := ⟨RX11, TX11, 10, rfl, by decide, Or.inl (zT_3 (i := 3) (by decide +kernel) rfl), inX11⟩
theorem fX11_39 : zgf RX11 39 11 5 := ⟨RX11, TX11, 10, rfl, by decide, Or.inl (zT_3 (i := 4) (by decide +kernel) rfl), inX11⟩
theorem fX11_46 : zgf RX11 46 11 6 := ⟨RX11, TX11, 10, rfl, by decide, Or.inl (zT_3 (i := 5) (by decide +kernel) rfl), inX11⟩
theorem fX11_53 : zgf RX11 53 11 7 := ⟨RX11, TX11, 10, rfl, by decide, Or.inl (zT_3 (i := 6) (by decide +kernel) rfl), inX11⟩
theorem fX11_60 : zgf RX11 60 11 8 := ⟨RX11, TX11, 10, rfl, by decide, Or.inl (zT_3 (i := 7) (by decide +kernel) rfl), inX11⟩
theorem fX11_67 : zgf RX11 67 11 9 := ⟨RX11, TX11, 10, rfl, by decide, Or.inl (zT_3 (i := 8) (by decide +kernel) rfl), inX11⟩
theorem fX12_7 : zgf RX12 7 12 0 := ⟨RX12, TX12, 53, rfl, by decide, Or.inl (zT_7 (i := 87) (by decide +kernel) rfl), inX12⟩
theorem fX12_13 : zgf RX12 13 12 1 := ⟨RX12, TX12, 53, rfl, by decide, Or.inl (zT_7 (i := 88) (by decide +kernel) rfl), inX12⟩
theorem fX12_16 : zgf RX12 16 12 2 := ⟨RX12, TX12, 53, rfl, by decide, Or.inl (zT_7 (i := 89) (by decide +kernel) rfl), inX12⟩
theorem fX12_19 : zgf RX12 19 12 3 := ⟨RX12, TX12, 53, rfl, by decide, Or.inl (zT_7 (i := 90) (by decide +kernel) rfl), inX12⟩
theorem fX12_22 : zgf RX12 22 12 4 := ⟨RX12, TX12, 53, rfl, by decide, Or.inl (zT_7 (i := 91) (by decide +kernel) rfl), inX12⟩
theorem fX12_153 : zgf RX12 153 12 5 := ⟨RX12, TX12, 53, rfl, by decide, Or.inl (zT_7 (i := 92) (by decide +kernel) rfl), inX12⟩
theorem fX12_25 : zgf RX12 25 12 6 := ⟨RX12, TX12, 53, rfl, by decide, Or.inl (zT_7 (i := 93) (by decide +kernel) rfl), inX12⟩
theorem fX12_29 : zgf RX12 29 12 7 := ⟨RX12, TX12, 53, rfl, by decide, Or.inl (zT_7 (i := 94) (by decide +kernel) rfl), inX12⟩
theorem fX12_160 : zgf RX12 160 12 8 := ⟨RX12, TX12, 53, rfl, by decide, Or.inl (zT_7 (i := 95) (by decide +kernel) rfl), inX12⟩
theorem fX12_166 : zgf RX12 166 12 9 := ⟨RX12, TX12, 53, rfl, by decide, Or.inl (zT_7 (i := 96) (by decide +kernel) rfl), inX12⟩
theorem fX12_169 : zgf RX12 169 12 10 := ⟨RX12, TX12, 53, rfl, by decide, Or.inl (zT_7 (i := 97) (by decide +kernel) rfl), inX12⟩
theorem fX12_175 : zgf RX12 175 12 11 := ⟨RX12, TX12, 53, rfl, by decide, Or.inl (zT_7 (i := 98) (by decide +kernel) rfl), inX12⟩
theorem fX12_182 : zgf RX12 182 12 12 := ⟨RX12, TX12, 53, rfl, by decide, Or.inl (zT_7 (i := 99) (by decide +kernel) rfl), inX12⟩
theorem fX12_32 : zgf RX12 32 12 13 := ⟨RX12, TX12, 53, rfl, by decide, Or.inl (zT_7 (i := 100) (by decide +kernel) rfl), inX12⟩
theorem fX12_203 : zgf RX12 203 12 14 := ⟨RX12, TX12, 53, rfl, by decide, Or.inl (zT_7 (i := 101) (by decide +kernel) rfl), inX12⟩
theorem fX12_206 : zgf RX12 206 12 15 := ⟨RX12, TX12, 53, rfl, by decide, Or.inl (zT_7 (i := 102) (by decide +kernel) rfl), inX12⟩
theorem fX12_288 : zgf RX12 288 12 16 := ⟨RX12, TX12, 53, rfl, by decide, Or.inl (zT_7 (i := 103) (by decide +kernel) rfl), inX12⟩
theorem fX12_35 : zgf RX12 35 12 17 := ⟨RX12, TX12, 53, rfl, by decide, Or.inl (zT_7 (i := 104) (by decide +kernel) rfl), inX12⟩
theorem fX12_38 : zgf RX12 38 12 18 := ⟨RX12, TX12, 53, rfl, by decide, Or.inl (zT_7 (i := 105) (by decide +kernel) rfl), inX12⟩
theorem fX12_41 : zgf RX12 41 12 19 := ⟨RX12, TX12, 53, rfl, by decide, Or.inl (zT_7 (i := 106) (by decide +kernel) rfl), inX12⟩
theorem fX12_44 : zgf RX12 44 12 20 := ⟨RX12, TX12, 53, rfl, by decide, Or.inl (zT_7 (i := 107) (by decide +kernel) rfl), inX12⟩
theorem fX12_47 : zgf RX12 47 12 21 := ⟨RX12, TX12, 53, rfl, by decide, Or.inl (zT_7 (i := 108) (by decide +kernel) rfl), inX12⟩
theorem fX12_209 : zgf RX12 209 12 22 := ⟨RX12, TX12, 53, rfl, by decide, Or.inl (zT_7 (i := 109) (by decide +kernel) rfl), inX12⟩
theorem fX12_239 : zgf RX12 239 12 23 := ⟨RX12, TX12, 53, rfl, by decide, Or.inl (zT_7 (i := 110) (by decide +kernel) rfl), inX12⟩
theorem fX12_223 : zgf RX12 223 12 24 := ⟨RX12, TX12, 53, rfl, by decide, Or.inl (zT_7 (i := 111) (by decide +kernel) rfl), inX12⟩
theorem fX12_233 : zgf RX12 233 12 25 := ⟨RX12, TX12, 53, rfl, by decide, Or.inl (zT_7 (i := 112) (by decide +kernel) rfl), inX12⟩
theorem fX12_242 : zgf RX12 242 12 26 := ⟨RX12, TX12, 53, rfl, by decide, Or.inl (zT_7 (i := 113) (by decide +kernel) rfl), inX12⟩
theorem fX12_245 : zgf RX12 245 12 27 := ⟨RX12, TX12, 53, rfl, by decide, Or.inl (zT_7 (i := 114) (by decide +kernel) rfl), inX12⟩
theorem fX12_50 : zgf RX12 50 12 28 := ⟨RX12, TX12, 53, rfl, by decide, Or.inl (zT_7 (i := 115) (by decide +kernel) rfl), inX12⟩
theorem fX12_53 : zgf RX12 53 12 29 := ⟨RX12, TX12, 53, rfl, by decide, Or.inl (zT_7 (i := 116) (by decide +kernel) rfl), inX12⟩
theorem fX12_56 : zgf RX12 56 12 30 := ⟨RX12, TX12, 53, rfl, by decide, Or.inl (zT_7 (i := 117) (by decide +kernel) rfl), inX12⟩
theorem fX12_59 : zgf RX12 59 12 31 := ⟨RX12, TX12, 53, rfl, by decide, Or.inl (zT_7 (i := 118) (by decide +kernel) rfl), inX12⟩
theorem fX12_62 : zgf RX12 62 12 32 := ⟨RX12, TX12, 53, rfl, by decide, Or.inl (zT_7 (i := 119) (by decide +kernel) rfl), inX12⟩
theorem fX12_66 : zgf RX12 66 12 33 := ⟨RX12, TX12, 53, rfl, by decide, Or.inl (zT_7 (i := 120) (by decide +kernel) rfl), inX12⟩
theorem fX12_69 : zgf RX12 69 12 34 := ⟨RX12, TX12, 53, rfl, by decide, Or.inl (zT_7 (i := 121) (by decide +kernel) rfl), inX12⟩
theorem fX12_72 : zgf RX12 72 12 35 := ⟨RX12, TX12, 53, rfl, by decide, Or.inl (zT_7 (i := 122) (by decide +kernel) rfl), inX12⟩
theorem fX12_406 : zgf RX12 406 12 36 := ⟨RX12, TX12, 53, rfl, by decide, Or.inl (zT_7 (i := 123) (by decide +kernel) rfl), inX12⟩
theorem fX12_75 : zgf RX12 75 12 37 := ⟨RX12, TX12, 53, rfl, by decide, Or.inl (zT_7 (i := 124) (by decide +kernel) rfl), inX12⟩
theorem fX12_78 : zgf RX12 78 12 38 := ⟨RX12, TX12, 53, rfl, by decide, Or.inl (zT_7 (i := 125) (by decide +kernel) rfl), inX12⟩
theorem fX12_81 : zgf RX12 81 12 39 := ⟨RX12, TX12, 53, rfl, by decide, Or.inl (zT_7 (i := 126) (by decide +kernel) rfl), inX12⟩
theorem fX12_403 : zgf RX12 403 12 40 := ⟨RX12, TX12, 53, rfl, by decide, Or.inl (zT_7 (i := 127) (by decide +kernel) rfl), inX12⟩
theorem fX12_84 : zgf RX12 84 12 41 := ⟨RX12, TX12, 53, rfl, by decide, Or.inl (zT_7 (i := 128) (by decide +kernel) rfl), inX12⟩
theorem fX12_87 : zgf RX12 87 12 42 := ⟨RX12, TX12, 53, rfl, by decide, Or.inl (zT_7 (i := 129) (by decide +kernel) rfl), inX12⟩
theorem fX12_91 : zgf RX12 91 12 43 := ⟨RX12, TX12, 53, rfl, by decide, Or.inl (zT_7 (i := 130) (by decide +kernel) rfl), inX12⟩
theorem fX12_94 : zgf RX12 94 12 44 := ⟨RX12, TX12, 53, rfl, by decide, Or.inl (zT_7 (i := 131) (by decide +kernel) rfl), inX12⟩
theorem fX12_97 : zgf RX12 97 12 45 := ⟨RX12, TX12, 53, rfl, by decide, Or.inl (zT_7 (i := 132) (by decide +kernel) rfl), inX12⟩
theorem fX12_100 : zgf RX12 100 12 46 := ⟨RX12, TX12, 53, rfl, by decide, Or.inl (zT_7 (i := 133) (by decide +kernel) rfl), inX12⟩
theorem fX12_103 : zgf RX12 103 12 47 := ⟨RX12, TX12, 53, rfl, by decide, Or.inl (zT_7 (i := 134) (by decide +kernel) rfl), inX12⟩
theorem fX12_106 : zgf RX12 106 12 48 := ⟨RX12, TX12, 53, rfl, by decide, Or.inl (zT_7 (i := 135) (by decide +kernel) rfl), inX12⟩
theorem fX12_109 : zgf RX12 109 12 49 := ⟨RX12, TX12, 53, rfl, by decide, Or.inl (zT_7 (i := 136) (by decide +kernel) rfl), inX12⟩
theorem fX12_112 : zgf RX12 112 12 50 := ⟨RX12, TX12, 53, rfl, by decide, Or.inl (zT_7 (i := 137) (by decide +kernel) rfl), inX12⟩
theorem fX12_115 : zgf RX12 115 12 51 := ⟨RX12, TX12, 53, rfl, by decide, Or.inl (zT_7 (i := 138) (by decide +kernel) rfl), inX12⟩
theorem fX12_560 : zgf RX12 560 12 52 := ⟨RX12, TX12, 53, rfl, by decide, Or.inl (zT_7 (i := 139) (by decide +kernel) rfl), inX12⟩
theorem r0_0 : zpr RX0 0 0 := ⟨RX0, TX0, 13, tyX0, rfl, by decide, inX0, nmX0, tyX0_ok, rfl, rfl, Or.inr ⟨_, rfl⟩⟩
theorem r0_1 : zpr RX0 0 1 := ⟨RX0, TX0, 13, tyX0, rfl, by decide, inX0, nmX0, tyX0_ok, rfl, rfl, Or.inr ⟨_, rfl⟩⟩
theorem p0_2 : zpf 0 2 0 := ⟨RX0, TX0, 13, tyX0, rfl, by decide, inX0, nmX0, tyX0_ok, rfl, tyX0_ok 2 (by decide), Or.inl ⟨rfl, rfl⟩⟩
theorem r0_3 : zpr RX0 0 3 := ⟨RX0, TX0, 13, tyX0, rfl, by decide, inX0, nmX0, tyX0_ok, rfl, rfl, Or.inr ⟨_, rfl⟩⟩
theorem p0_4 : zpf 0 4 0 := ⟨RX0, TX0, 13, tyX0, rfl, by decide, inX0, nmX0, tyX0_ok, rfl, tyX0_ok 4 (by decide), Or.inl ⟨rfl, rfl⟩⟩
theorem r0_5 : zpr RX0 0 5 := ⟨RX0, TX0, 13, tyX0, rfl, by decide, inX0, nmX0, tyX0_ok, rfl, rfl, Or.inr ⟨_, rfl⟩⟩
theorem r0_6 : zpr RX0 0 6 := ⟨RX0, TX0, 13, tyX0, rfl, by decide, inX0, nmX0, tyX0_ok, rfl, rfl, Or.inr ⟨_, rfl⟩⟩
theorem p0_7 : zpf 0 7 0 := ⟨RX0, TX0, 13, tyX0, rfl, by decide, inX0, nmX0, tyX0_ok, rfl, tyX0_ok 7 (by decide), Or.inl ⟨rfl, rfl⟩⟩
theorem r0_8 : zpr RX0 0 8 := ⟨RX0, TX0, 13, tyX0, rfl, by decide, inX0, nmX0, tyX0_ok, rfl, rfl, Or.inr ⟨_, rfl⟩⟩
theorem r0_9 : zpr RX0 0 9 := ⟨RX0, TX0, 13, tyX0, rfl, by decide, inX0, nmX0, tyX0_ok, rfl, rfl, Or.inr ⟨_, rfl⟩⟩
theorem p0_10 : zpf 0 10 0 := ⟨RX0, TX0, 13, tyX0, rfl, by decide, inX0, nmX0, tyX0_ok, rfl, tyX0_ok 10 (by decide), Or.inl ⟨rfl, rfl⟩⟩
theorem p0_11 : zpf 0 11 3 := ⟨RX0, TX0, 13, tyX0, rfl, by decide, inX0, nmX0, tyX0_ok, rfl, tyX0_ok 11 (by decide), Or.inr (Or.inr ⟨rfl, rfl⟩)⟩
theorem p0_12 : zpf 0 12 0 := ⟨RX0, TX0, 13, tyX0, rfl, by decide, inX0, nmX0, tyX0_ok, rfl, tyX0_ok 12 (by decide), Or.inl ⟨rfl, rfl⟩⟩
theorem r1_0 : zpr RX1 1 0 := ⟨RX1, TX1, 9, tyX1, rfl, by decide, inX1, nmX1, tyX1_ok, rfl, rfl, Or.inr ⟨_, rfl⟩⟩
theorem r1_1 : zpr RX1 1 1 := ⟨RX1, TX1, 9, tyX1, rfl, by decide, inX1, nmX1, tyX1_ok, rfl, rfl, Or.inr ⟨_, rfl⟩⟩
theorem r1_2 : zpr RX1 1 2 := ⟨RX1, TX1, 9, tyX1, rfl, by decide, inX1, nmX1, tyX1_ok, rfl, rfl, Or.inr ⟨_, rfl⟩⟩
theorem r1_3 : zpr RX1 1 3 := ⟨RX1, TX1, 9, tyX1, rfl, by decide, inX1, nmX1, tyX1_ok, rfl, rfl, Or.inr ⟨_, rfl⟩⟩
theorem r1_4 : zpr RX1 1 4 := ⟨RX1, TX1, 9, tyX1, rfl, by decide, inX1, nmX1, tyX1_ok, rfl, rfl, Or.inr ⟨_, rfl⟩⟩
theorem r1_5 : zpr RX1 1 5 := ⟨RX1, TX1, 9, tyX1, rfl, by decide, inX1, nmX1, tyX1_ok, rfl, rfl, Or.inr ⟨_, rfl⟩⟩
theorem r1_6 : zpr RX1 1 6 := ⟨RX1, TX1, 9, tyX1, rfl, by decide, inX1, nmX1, tyX1_ok, rfl, rfl, Or.inr ⟨_, rfl⟩⟩
theorem r1_7 : zpr RX1 1 7 := ⟨RX1, TX1, 9, tyX1, rfl, by decide, inX1, nmX1, tyX1_ok, rfl, rfl, Or.inr ⟨_, rfl⟩⟩
theorem p1_8 : zpf 1 8 0 := ⟨RX1, TX1, 9, tyX1, rfl, by decide, inX1, nmX1, tyX1_ok, rfl, tyX1_ok 8 (by decide), Or.inl ⟨rfl, rfl⟩⟩
theorem r2_0 : zpr RX2 2 0 := ⟨RX2, TX2, 6, tyX2, rfl, by decide, inX2, nmX2, tyX2_ok, rfl, rfl, Or.inr ⟨_, rfl⟩⟩
theorem r2_1 : zpr RX2 2 1 := ⟨RX2, TX2, 6, tyX2, rfl, by decide, inX2, nmX2, tyX2_ok, rfl, rfl, Or.inr ⟨_, rfl⟩⟩
theorem r2_2 : zpr RX2 2 2 := ⟨RX2, TX2, 6, tyX2, rfl, by decide, inX2, nmX2, tyX2_ok, rfl, rfl, Or.inr ⟨_, rfl⟩⟩
theorem r2_3 : zpr RX2 2 3 := ⟨RX2, TX2, 6, tyX2, rfl, by decide, inX2, nmX2, tyX2_ok, rfl, rfl, Or.inr ⟨_, rfl⟩⟩
theorem p2_4 : zpf 2 4 0 := ⟨RX2, TX2, 6, tyX2, rfl, by decide, inX2, nmX2, tyX2_ok, rfl, tyX2_ok 4 (by decide), Or.inl ⟨rfl, rfl⟩⟩
theorem p2_5 : zpf 2 5 0 := ⟨RX2, TX2, 6, tyX2, rfl, by decide, inX2, nmX2, tyX2_ok, rfl, tyX2_ok 5 (by decide), Or.inl ⟨rfl, rfl⟩⟩
theorem r3_0 : zpr RX3 3 0 := ⟨RX3, TX3, 16, tyX3, rfl, by decide, inX3, nmX3, tyX3_ok, rfl, rfl, Or.inr ⟨_, rfl⟩⟩
theorem r3_1 : zpr RX3 3 1 := ⟨RX3, TX3, 16, tyX3, rfl, by decide, inX3, nmX3, tyX3_ok, rfl, rfl, Or.inr ⟨_, rfl⟩⟩
theorem r3_2 : zpr RX3 3 2 := ⟨RX3, TX3, 16, tyX3, rfl, by decide, inX3, nmX3, tyX3_ok, rfl, rfl, Or.inr ⟨_, rfl⟩⟩
theorem r3_3 : zpr RX3 3 3 := ⟨RX3, TX3, 16, tyX3, rfl, by decide, inX3, nmX3, tyX3_ok, rfl, rfl, Or.inr ⟨_, rfl⟩⟩
theorem r3_4 : zpr RX3 3 4 := ⟨RX3, TX3, 16, tyX3, rfl, by decide, inX3, nmX3, tyX3_ok, rfl, rfl, Or.inr ⟨_, rfl⟩⟩
theorem r3_5 : zpr RX3 3 5 := ⟨RX3, TX3, 16, tyX3, rfl, by decide, inX3, nmX3, tyX3_ok, rfl, rfl, Or.inr ⟨_, rfl⟩⟩
theorem r3_6 : zpr RX3 3 6 := ⟨RX3, TX3, 16, tyX3, rfl, by decide, inX3, nmX3, tyX3_ok, rfl, rfl, Or.inr ⟨_, rfl⟩⟩
theorem r3_7 : zpr RX3 3 7 := ⟨RX3, TX3, 16, tyX3, rfl, by decide, inX3, nmX3, tyX3_ok, rfl, rfl, Or.inr ⟨_, rfl⟩⟩
theorem p3_8 : zpf 3 8 0 := ⟨RX3, TX3, 16, tyX3, rfl, by decide, inX3, nmX3, tyX3_ok, rfl, tyX3_ok 8 (by decide), Or.inl ⟨rfl, rfl⟩⟩
theorem p3_9 : zpf 3 9 0 := ⟨RX3, TX3, 16, tyX3, rfl, by decide, inX3, nmX3, tyX3_ok, rfl, tyX3_ok 9 (by decide), Or.inl ⟨rfl, rfl⟩⟩
theorem r3_10 : zpr RX3 3 10 := ⟨RX3, TX3, 16, tyX3, rfl, by decide, inX3, nmX3, tyX3_ok, rfl, rfl, Or.inr ⟨_, rfl⟩⟩
theorem r3_11 : zpr RX3 3 11 := ⟨RX3, TX3, 16, tyX3, rfl, by decide, inX3, nmX3, tyX3_ok, rfl, rfl, Or.inr ⟨_, rfl⟩⟩
theorem r3_12 : zpr RX3 3 12 := ⟨RX3, TX3, 16, tyX3, rfl, by decide, inX3, nmX3, tyX3_ok, rfl, rfl, Or.inr ⟨_, rfl⟩⟩
theorem p3_13 : zpf 3 13 0 := ⟨RX3, TX3, 16, tyX3, rfl, by decide, inX3, nmX3, tyX3_ok, rfl, tyX3_ok 13 (by decide), Or.inl ⟨rfl, rfl⟩⟩
theorem r3_14 : zpr RX3 3 14 := ⟨RX3, TX3, 16, tyX3, rfl, by decide, inX3, nmX3, tyX3_ok, rfl, rfl, Or.inl ⟨_, rfl⟩⟩
theorem r3_15 : zpr RX3 3 15 := ⟨RX3, TX3, 16, tyX3, rfl, by decide, inX3, nmX3, tyX3_ok, rfl, rfl, Or.inl ⟨_, rfl⟩⟩
theorem r4_0 : zpr RX4 4 0 := ⟨RX4, TX4, 8, tyX4, rfl, by decide, inX4, nmX4, tyX4_ok, rfl, rfl, Or.inl ⟨_, rfl⟩⟩
theorem p4_1 : zpf 4 1 3 := ⟨RX4, TX4, 8, tyX4, rfl, by decide, inX4, nmX4, tyX4_ok, rfl, tyX4_ok 1 (by decide), Or.inr (Or.inr ⟨rfl, rfl⟩)⟩
theorem p4_2 : zpf 4 2 0 := ⟨RX4, TX4, 8, tyX4, rfl, by decide, inX4, nmX4, tyX4_ok, rfl, tyX4_ok 2 (by decide), Or.inl ⟨rfl, rfl⟩⟩
theorem p4_3 : zpf 4 3 0 := ⟨RX4, TX4, 8, tyX4, rfl, by decide, inX4, nmX4, tyX4_ok, rfl, tyX4_ok 3 (by decide), Or.inl ⟨rfl, rfl⟩⟩
theorem p4_4 : zpf 4 4 0 := ⟨RX4, TX4, 8, tyX4, rfl, by decide, inX4, nmX4, tyX4_ok, rfl, tyX4_ok 4 (by decide), Or.inl ⟨rfl, rfl⟩⟩
theorem p4_5 : zpf 4 5 0 := ⟨RX4, TX4, 8, tyX4, rfl, by decide, inX4, nmX4, tyX4_ok, rfl, tyX4_ok 5 (by decide), Or.inl ⟨rfl, rfl⟩⟩
theorem p4_6 : zpf 4 6 0 := ⟨RX4, TX4, 8, tyX4, rfl, by decide, inX4, nmX4, tyX4_ok, rfl, tyX4_ok 6 (by decide), Or.inl ⟨rfl, rfl⟩⟩
theorem p4_7 : zpf 4 7 0 := ⟨RX4, TX4, 8, tyX4, rfl, by decide, inX4, nmX4, tyX4_ok, rfl, tyX4_ok 7 (by decide), Or.inl ⟨rfl, rfl⟩⟩
theorem r5_0 : zpr RX5 5 0 := ⟨RX5, TX5, 2, tyX5, rfl, by decide, inX5, nmX5, tyX5_ok, rfl, rfl, Or.inr ⟨_, rfl⟩⟩
theorem p5_1 : zpf 5 1 0 := ⟨RX5, TX5, 2, tyX5, rfl, by decide, inX5, nmX5, tyX5_ok, rfl, tyX5_ok 1 (by decide), Or.inl ⟨rfl, rfl⟩⟩
theorem r6_0 : zpr RX6 6 0 := ⟨RX6, TX6, 10, tyX6, rfl, by decide, inX6, nmX6, tyX6_ok, rfl, rfl, Or.inr ⟨_, rfl⟩⟩
theorem r6_1 : zpr RX6 6 1 := ⟨RX6, TX6, 10, tyX6, rfl, by decide, inX6, nmX6, tyX6_ok, rfl, rfl, Or.inr ⟨_, rfl⟩⟩
theorem r6_2 : zpr RX6 6 2 := ⟨RX6, TX6, 10, tyX6, rfl, by decide, inX6, nmX6, tyX6_ok, rfl, rfl, Or.inr ⟨_, rfl⟩⟩
theorem r6_3 : zpr RX6 6 3 := ⟨RX6, TX6, 10, tyX6, rfl, by decide, inX6, nmX6, tyX6_ok, rfl, rfl, Or.inr ⟨_, rfl⟩⟩
theorem r6_4 : zpr RX6 6 4 := ⟨RX6, TX6, 10, tyX6, rfl, by decide, inX6, nmX6, tyX6_ok, rfl, rfl, Or.inr ⟨_, rfl⟩⟩
theorem p6_5 : zpf 6 5 0 := ⟨RX6, TX6, 10, tyX6, rfl, by decide, inX6, nmX6, tyX6_ok, rfl, tyX6_ok 5 (by decide), Or.inl ⟨rfl, rfl⟩⟩
theorem p6_6 : zpf 6 6 0 := ⟨RX6, TX6, 10, tyX6, rfl, by decide, inX6, nmX6, tyX6_ok, rfl, tyX6_ok 6 (by decide), Or.inl ⟨rfl, rfl⟩⟩
theorem r6_7 : zpr RX6 6 7 := ⟨RX6, TX6, 10, tyX6, rfl, by decide, inX6, nmX6, tyX6_ok, rfl, rfl, Or.inr ⟨_, rfl⟩⟩
theorem r6_8 : zpr RX6 6 8 := ⟨RX6, TX6, 10, tyX6, rfl, by decide, inX6, nmX6, tyX6_ok, rfl, rfl, Or.inr ⟨_, rfl⟩⟩
theorem p6_9 : zpf 6 9 0 := ⟨RX6, TX6, 10, tyX6, rfl, by decide, inX6, nmX6, tyX6_ok, rfl, tyX6_ok 9 (by decide), Or.inl ⟨rfl, rfl⟩⟩
theorem r7_0 : zpr RX7 7 0 := ⟨RX7, TX7, 5, tyX7, rfl, by decide, inX7, nmX7, tyX7_ok, rfl, rfl, Or.inr ⟨_, rfl⟩⟩
theorem r7_1 : zpr RX7 7 1 := ⟨RX7, TX7, 5, tyX7, rfl, by decide, inX7, nmX7, tyX7_ok, rfl, rfl, Or.inr ⟨_, rfl⟩⟩
theorem p7_2 : zpf 7 2 0 := ⟨RX7, TX7, 5, tyX7, rfl, by decide, inX7, nmX7, tyX7_ok, rfl, tyX7_ok 2 (by decide), Or.inl ⟨rfl, rfl⟩⟩
theorem p7_3 : zpf 7 3 0 := ⟨RX7, TX7, 5, tyX7, rfl, by decide, inX7, nmX7, tyX7_ok, rfl, tyX7_ok 3 (by decide), Or.inl ⟨rfl, rfl⟩⟩
theorem r7_4 : zpr RX7 7 4 := ⟨RX7, TX7, 5, tyX7, rfl, by decide, inX7, nmX7, tyX7_ok, rfl, rfl, Or.inl ⟨_, rfl⟩⟩
theorem r8_0 : zpr RX8 8 0 := ⟨RX8, TX8, 10, tyX8, rfl, by decide, inX8, nmX8, tyX8_ok, rfl, rfl, Or.inr ⟨_, rfl⟩⟩
theorem p8_1 : zpf 8 1 0 := ⟨RX8, TX8, 10, tyX8, rfl, by decide, inX8, nmX8, tyX8_ok, rfl, tyX8_ok 1 (by decide), Or.inl ⟨rfl, rfl⟩⟩
theorem r8_2 : zpr RX8 8 2 := ⟨RX8, TX8, 10, tyX8, rfl, by decide, inX8, nmX8, tyX8_ok, rfl, rfl, Or.inr ⟨_, rfl⟩⟩
theorem r8_3 : zpr RX8 8 3 := ⟨RX8, TX8, 10, tyX8, rfl, by decide, inX8, nmX8, tyX8_ok, rfl, rfl, Or.inr ⟨_, rfl⟩⟩
theorem r8_4 : zpr RX8 8 4 := ⟨RX8, TX8, 10, tyX8, rfl, by decide, inX8, nmX8, tyX8_ok, rfl, rfl, Or.inr ⟨_, rfl⟩⟩
theorem p8_5 : zpf 8 5 0 := ⟨RX8, TX8, 10, tyX8, rfl, by decide, inX8, nmX8, tyX8_ok, rfl, tyX8_ok 5 (by decide), Or.inl ⟨rfl, rfl⟩⟩
theorem p8_6 : zpf 8 6 0 := ⟨RX8, TX8, 10, tyX8, rfl, by decide, inX8, nmX8, tyX8_ok, rfl, tyX8_ok 6 (by decide), Or.inl ⟨rfl, rfl⟩⟩
theorem p8_7 : zpf 8 7 0 := ⟨RX8, TX8, 10, tyX8, rfl, by decide, inX8, nmX8, tyX8_ok, rfl, tyX8_ok 7 (by decide), Or.inl ⟨rfl, rfl⟩⟩
theorem p8_8 : zpf 8 8 0 := ⟨RX8, TX8, 10, tyX8, rfl, by decide, inX8, nmX8, tyX8_ok, rfl, tyX8_ok 8 (by decide), Or.inl ⟨rfl, rfl⟩⟩
theorem p8_9 : zpf 8 9 0 := ⟨RX8, TX8, 10, tyX8, rfl, by decide, inX8, nmX8, tyX8_ok, rfl, tyX8_ok 9 (by decide), Or.inl ⟨rfl, rfl⟩⟩
theorem r9_0 : zpr RX9 9 0 := ⟨RX9, TX9, 5, tyX9, rfl, by decide, inX9, nmX9, tyX9_ok, rfl, rfl, Or.inr ⟨_, rfl⟩⟩
theorem r9_1 : zpr RX9 9 1 := ⟨RX9, TX9, 5, tyX9, rfl, by decide, inX9, nmX9, tyX9_ok, rfl, rfl, Or.inr ⟨_, rfl⟩⟩
theorem r9_2 : zpr RX9 9 2 := ⟨RX9, TX9, 5, tyX9, rfl, by decide, inX9, nmX9, tyX9_ok, rfl, rfl, Or.inr ⟨_, rfl⟩⟩
theorem r9_3 : zpr RX9 9 3 := ⟨RX9, TX9, 5, tyX9, rfl, by decide, inX9, nmX9, tyX9_ok, rfl, rfl, Or.inr ⟨_, rfl⟩⟩
theorem r9_4 : zpr RX9 9 4 := ⟨RX9, TX9, 5, tyX9, rfl, by decide, inX9, nmX9, tyX9_ok, rfl, rfl, Or.inr ⟨_, rfl⟩⟩
theorem r10_0 : zpr RX10 10 0 := ⟨RX10, TX10, 11, tyX10, rfl, by decide, inX10, nmX10, tyX10_ok, rfl, rfl, Or.inr ⟨_, rfl⟩⟩
theorem r10_1 : zpr RX10 10 1 := ⟨RX10, TX10, 11, tyX10, rfl, by decide, inX10, nmX10, tyX10_ok, rfl, rfl, Or.inr ⟨_, rfl⟩⟩
theorem r10_2 : zpr RX10 10 2 := ⟨RX10, TX10, 11, tyX10, rfl, by decide, inX10, nmX10, tyX10_ok, rfl, rfl, Or.inr ⟨_, rfl⟩⟩
theorem r10_3 : zpr RX10 10 3 := ⟨RX10, TX10, 11, tyX10, rfl, by decide, inX10, nmX10, tyX10_ok, rfl, rfl, Or.inr ⟨_, rfl⟩⟩
theorem p10_4 : zpf 10 4 0 := ⟨RX10, TX10, 11, tyX10, rfl, by decide, inX10, nmX10, tyX10_ok, rfl, tyX10_ok 4 (by decide), Or.inl ⟨rfl, rfl⟩⟩
theorem r10_5 : zpr RX10 10 5 := ⟨RX10, TX10, 11, tyX10, rfl, by decide, inX10, nmX10, tyX10_ok, rfl, rfl, Or.inr ⟨_, rfl⟩⟩
theorem r10_6 : zpr RX10 10 6 := ⟨RX10, TX10, 11, tyX10, rfl, by decide, inX10, nmX10, tyX10_ok, rfl, rfl, Or.inr ⟨_, rfl⟩⟩
theorem r10_7 : zpr RX10 10 7 := ⟨RX10, TX10, 11, tyX10, rfl, by decide, inX10, nmX10, tyX10_ok, rfl, rfl, Or.inr ⟨_, rfl⟩⟩
theorem r10_8 : zpr RX10 10 8 := ⟨RX10, TX10, 11, tyX10, rfl, by decide, inX10, nmX10, tyX10_ok, rfl, rfl, Or.inr ⟨_, rfl⟩⟩
theorem r10_9 : zpr RX10 10 9 := ⟨RX10, TX10, 11, tyX10, rfl, by decide, inX10, nmX10, tyX10_ok, rfl, rfl, Or.inr ⟨_, rfl⟩⟩
theorem p10_10 : zpf 10 10 0 := ⟨RX10, TX10, 11, tyX10, rfl, by decide, inX10, nmX10, tyX10_ok, rfl, tyX10_ok 10 (by decide), Or.inl ⟨rfl, rfl⟩⟩
theorem r11_0 : zpr RX11 11 0 := ⟨RX11, TX11, 10, tyX11, rfl, by decide, inX11, nmX11, tyX11_ok, rfl, rfl, Or.inl ⟨_, rfl⟩⟩
theorem r11_1 : zpr RX11 11 1 := ⟨RX11, TX11, 10, tyX11, rfl, by decide, inX11, nmX11, tyX11_ok, rfl, rfl, Or.inl ⟨_, rfl⟩⟩
theorem r11_2 : zpr RX11 11 2 := ⟨RX11, TX11, 10, tyX11, rfl, by decide, inX11, nmX11, tyX11_ok, rfl, rfl, Or.inr ⟨_, rfl⟩⟩
theorem p11_3 : zpf 11 3 0 := ⟨RX11, TX11, 10, tyX11, rfl, by decide, inX11, nmX11, tyX11_ok, rfl, tyX11_ok 3 (by decide), Or.inl ⟨rfl, rfl⟩⟩
theorem r11_4 : zpr RX11 11 4 := ⟨RX11, TX11, 10, tyX11, rfl, by decide, inX11, nmX11, tyX11_ok, rfl, rfl, Or.inl ⟨_, rfl⟩⟩
theorem r11_5 : zpr RX11 11 5 := ⟨RX11, TX11, 10, tyX11, rfl, by decide, inX11, nmX11, tyX11_ok, rfl, rfl, Or.inl ⟨_, rfl⟩⟩
theorem r11_6 : zpr RX11 11 6 := ⟨RX11, TX11, 10, tyX11, rfl, by decide, inX11, nmX11, tyX11_ok, rfl, rfl, Or.inl ⟨_, rfl⟩⟩
theorem r11_7 : zpr RX11 11 7 := ⟨RX11, TX11, 10, tyX11, rfl, by decide, inX11, nmX11, tyX11_ok, rfl, rfl, Or.inl ⟨_, rfl⟩⟩
theorem r11_8 : zpr RX11 11 8 := ⟨RX11, TX11, 10, tyX11, rfl, by decide, inX11, nmX11, tyX11_ok, rfl, rfl, Or.inl ⟨_, rfl⟩⟩
theorem r11_9 : zpr RX11 11 9 := ⟨RX11, TX11, 10, tyX11, rfl, by decide, inX11, nmX11, tyX11_ok, rfl, rfl, Or.inl ⟨_, rfl⟩⟩
theorem r12_0 : zpr RX12 12 0 := ⟨RX12, TX12, 53, tyX12, rfl, by decide, inX12, nmX12, tyX12_ok, rfl, rfl, Or.inr ⟨_, rfl⟩⟩
theorem r12_1 : zpr RX12 12 1 := ⟨RX12, TX12, 53, tyX12, rfl, by decide, inX12, nmX12, tyX12_ok, rfl, rfl, Or.inr ⟨_, rfl⟩⟩
theorem r12_2 : zpr RX12 12 2 := ⟨RX12, TX12, 53, tyX12, rfl, by decide, inX12, nmX12, tyX12_ok, rfl, rfl, Or.inr ⟨_, rfl⟩⟩
theorem r12_3 : zpr RX12 12 3 := ⟨RX12, TX12, 53, tyX12, rfl, by decide, inX12, nmX12, tyX12_ok, rfl, rfl, Or.inr ⟨_, rfl⟩⟩
theorem r12_4 : zpr RX12 12 4 := ⟨RX12, TX12, 53, tyX12, rfl, by decide, inX12, nmX12, tyX12_ok, rfl, rfl, Or.inr ⟨_, rfl⟩⟩
theorem p12_5 : zpf 12 5 0 := ⟨RX12, TX12, 53, tyX12, rfl, by decide, inX12, nmX12, tyX12_ok, rfl, tyX12_ok 5 (by decide), Or.inl ⟨rfl, rfl⟩⟩
theorem p12_6 : zpf 12 6 0 := ⟨RX12, TX12, 53, tyX12, rfl, by decide, inX12, nmX12, tyX12_ok, rfl, tyX12_ok 6 (by decide), Or.inl ⟨rfl, rfl⟩⟩
theorem p12_7 : zpf 12 7 0 := ⟨RX12, TX12, 53, tyX12, rfl, by decide, inX12, nmX12, tyX12_ok, rfl, tyX12_ok 7 (by decide), Or.inl ⟨rfl, rfl⟩⟩
theorem p12_8 : zpf 12 8 0 := ⟨RX12, TX12, 53, tyX12, rfl, by decide, inX12, nmX12, tyX12_ok, rfl, tyX12_ok 8 (by decide), Or.inl ⟨rfl, rfl⟩⟩
theorem p12_9 : zpf 12 9 0 := ⟨RX12, TX12, 53, tyX12, rfl, by decide, inX12, nmX12, tyX12_ok, rfl, tyX12_ok 9 (by decide), Or.inl ⟨rfl, rfl⟩⟩
theorem p12_10 : zpf 12 10 0 := ⟨RX12, TX12, 53, tyX12, rfl, by decide, inX12, nmX12, tyX12_ok, rfl, tyX12_ok 10 (by decide), Or.inl ⟨rfl, rfl⟩⟩
theorem p12_11 : zpf 12 11 0 := ⟨RX12, TX12, 53, tyX12, rfl, by decide, inX12, nmX12, tyX12_ok, rfl, tyX12_ok 11 (by decide), Or.inl ⟨rfl, rfl⟩⟩
theorem p12_12 : zpf 12 12 1 := ⟨RX12, TX12, 53, tyX12, rfl, by decide, inX12, nmX12, tyX12_ok, rfl, tyX12_ok 12 (by decide), Or.inr (Or.inl ⟨rfl, rfl⟩)⟩
theorem r12_13 : zpr RX12 12 13 := ⟨RX12, TX12, 53, tyX12, rfl, by decide, inX12, nmX12, tyX12_ok, rfl, rfl, Or.inr ⟨_, rfl⟩⟩
theorem p12_14 : zpf 12 14 0 := ⟨RX12, TX12, 53, tyX12, rfl, by decide, inX12, nmX12, tyX12_ok, rfl, tyX12_ok 14 (by decide), Or.inl ⟨rfl, rfl⟩⟩
theorem p12_15 : zpf 12 15 0 := ⟨RX12, TX12, 53, tyX12, rfl, by decide, inX12, nmX12, tyX12_ok, rfl, tyX12_ok 15 (by decide), Or.inl ⟨rfl, rfl⟩⟩
theorem p12_16 : zpf 12 16 0 := ⟨RX12, TX12, 53, tyX12, rfl, by decide, inX12, nmX12, tyX12_ok, rfl, tyX12_ok 16 (by decide), Or.inl ⟨rfl, rfl⟩⟩
theorem r12_17 : zpr RX12 12 17 := ⟨RX12, TX12, 53, tyX12, rfl, by decide, inX12, nmX12, tyX12_ok, rfl, rfl, Or.inr ⟨_, rfl⟩⟩
theorem r12_18 : zpr RX12 12 18 := ⟨RX12, TX12, 53, tyX12, rfl, by decide, inX12, nmX12, tyX12_ok, rfl, rfl, Or.inr ⟨_, rfl⟩⟩
theorem r12_19 : zpr RX12 12 19 := ⟨RX12, TX12, 53, tyX12, rfl, by decide, inX12, nmX12, tyX12_ok, rfl, rfl, Or.inr ⟨_, rfl⟩⟩
theorem r12_20 : zpr RX12 12 20 := ⟨RX12, TX12, 53, tyX12, rfl, by decide, inX12, nmX12, tyX12_ok, rfl, rfl, Or.inr ⟨_, rfl⟩⟩
theorem r12_21 : zpr RX12 12 21 := ⟨RX12, TX12, 53, tyX12, rfl, by decide, inX12, nmX12, tyX12_ok, rfl, rfl, Or.inr ⟨_, rfl⟩⟩
theorem p12_22 : zpf 12 22 0 := ⟨RX12, TX12, 53, tyX12, rfl, by decide, inX12, nmX12, tyX12_ok, rfl, tyX12_ok 22 (by decide), Or.inl ⟨rfl, rfl⟩⟩
theorem p12_23 : zpf 12 23 0 := ⟨RX12, TX12, 53, tyX12, rfl, by decide, inX12, nmX12, tyX12_ok, rfl, tyX12_ok 23 (by decide), Or.inl ⟨rfl, rfl⟩⟩
theorem p12_24 : zpf 12 24 0 := ⟨RX12, TX12, 53, tyX12, rfl, by decide, inX12, nmX12, tyX12_ok, rfl, tyX12_ok 24 (by decide), Or.inl ⟨rfl, rfl⟩⟩
theorem p12_25 : zpf 12 25 0 := ⟨RX12, TX12, 53, tyX12, rfl, by decide, inX12, nmX12, tyX12_ok, rfl, tyX12_ok 25 (by decide), Or.inl ⟨rfl, rfl⟩⟩
theorem p12_26 : zpf 12 26 0 := ⟨RX12, TX12, 53, tyX12, rfl, by decide, inX12, nmX12, tyX12_ok, rfl, tyX12_ok 26 (by decide), Or.inl ⟨rfl, rfl⟩⟩
theorem p12_27 : zpf 12 27 3 := ⟨RX12, TX12, 53, tyX12, rfl, by decide, inX12, nmX12, tyX12_ok, rfl, tyX12_ok 27 (by decide), Or.inr (Or.inr ⟨rfl, rfl⟩)⟩
theorem r12_28 : zpr RX12 12 28 := ⟨RX12, TX12, 53, tyX12, rfl, by decide, inX12, nmX12, tyX12_ok, rfl, rfl, Or.inr ⟨_, rfl⟩⟩
theorem r12_29 : zpr RX12 12 29 := ⟨RX12, TX12, 53, tyX12, rfl, by decide, inX12, nmX12, tyX12_ok, rfl, rfl, Or.inr ⟨_, rfl⟩⟩
theorem r12_30 : zpr RX12 12 30 := ⟨RX12, TX12, 53, tyX12, rfl, by decide, inX12, nmX12, tyX12_ok, rfl, rfl, Or.inr ⟨_, rfl⟩⟩
theorem r12_31 : zpr RX12 12 31 := ⟨RX12, TX12, 53, tyX12, rfl, by decide, inX12, nmX12, tyX12_ok, rfl, rfl, Or.inr ⟨_, rfl⟩⟩
theorem r12_32 : zpr RX12 12 32 := ⟨RX12, TX12, 53, tyX12, rfl, by decide, inX12, nmX12, tyX12_ok, rfl, rfl, Or.inr ⟨_, rfl⟩⟩
theorem r12_33 : zpr RX12 12 33 := ⟨RX12, TX12, 53, tyX12, rfl, by decide, inX12, nmX12, tyX12_ok, rfl, rfl, Or.inr ⟨_, rfl⟩⟩
theorem r12_34 : zpr RX12 12 34 := ⟨RX12, TX12, 53, tyX12, rfl, by decide, inX12, nmX12, tyX12_ok, rfl, rfl, Or.inr ⟨_, rfl⟩⟩
theorem r12_35 : zpr RX12 12 35 := ⟨RX12, TX12, 53, tyX12, rfl, by decide, inX12, nmX12, tyX12_ok, rfl, rfl, Or.inr ⟨_, rfl⟩⟩
theorem p12_36 : zpf 12 36 0 := ⟨RX12, TX12, 53, tyX12, rfl, by decide, inX12, nmX12, tyX12_ok, rfl, tyX12_ok 36 (by decide), Or.inl ⟨rfl, rfl⟩⟩
theorem r12_37 : zpr RX12 12 37 := ⟨RX12, TX12, 53, tyX12, rfl, by decide, inX12, nmX12, tyX12_ok, rfl, rfl, Or.inr ⟨_, rfl⟩⟩
theorem r12_38 : zpr RX12 12 38 := ⟨RX12, TX12, 53, tyX12, rfl, by decide, inX12, nmX12, tyX12_ok, rfl, rfl, Or.inr ⟨_, rfl⟩⟩
theorem r12_39 : zpr RX12 12 39 := ⟨RX12, TX12, 53, tyX12, rfl, by decide, inX12, nmX12, tyX12_ok, rfl, rfl, Or.inr ⟨_, rfl⟩⟩
theorem p12_40 : zpf 12 40 0 := ⟨RX12, TX12, 53, tyX12, rfl, by decide, inX12, nmX12, tyX12_ok, rfl, tyX12_ok 40 (by decide), Or.inl ⟨rfl, rfl⟩⟩
theorem r12_41 : zpr RX12 12 41 := ⟨RX12, TX12, 53, tyX12, rfl, by decide, inX12, nmX12, tyX12_ok, rfl, rfl, Or.inr ⟨_, rfl⟩⟩
theorem r12_42 : zpr RX12 12 42 := ⟨RX12, TX12, 53, tyX12, rfl, by decide, inX12, nmX12, tyX12_ok, rfl, rfl, Or.inr ⟨_, rfl⟩⟩
theorem r12_43 : zpr RX12 12 43 := ⟨RX12, TX12, 53, tyX12, rfl, by decide, inX12, nmX12, tyX12_ok, rfl, rfl, Or.inr ⟨_, rfl⟩⟩
theorem r12_44 : zpr RX12 12 44 := ⟨RX12, TX12, 53, tyX12, rfl, by decide, inX12, nmX12, tyX12_ok, rfl, rfl, Or.inr ⟨_, rfl⟩⟩
theorem r12_45 : zpr RX12 12 45 := ⟨RX12, TX12, 53, tyX12, rfl, by decide, inX12, nmX12, tyX12_ok, rfl, rfl, Or.inr ⟨_, rfl⟩⟩
theorem r12_46 : zpr RX12 12 46 := ⟨RX12, TX12, 53, tyX12, rfl, by decide, inX12, nmX12, tyX12_ok, rfl, rfl, Or.inr ⟨_, rfl⟩⟩
theorem r12_47 : zpr RX12 12 47 := ⟨RX12, TX12, 53, tyX12, rfl, by decide, inX12, nmX12, tyX12_ok, rfl, rfl, Or.inr ⟨_, rfl⟩⟩
theorem r12_48 : zpr RX12 12 48 := ⟨RX12, TX12, 53, tyX12, rfl, by decide, inX12, nmX12, tyX12_ok, rfl, rfl, Or.inr ⟨_, rfl⟩⟩
theorem r12_49 : zpr RX12 12 49 := ⟨RX12, TX12, 53, tyX12, rfl, by decide, inX12, nmX12, tyX12_ok, rfl, rfl, Or.inr ⟨_, rfl⟩⟩
theorem r12_50 : zpr RX12 12 50 := ⟨RX12, TX12, 53, tyX12, rfl, by decide, inX12, nmX12, tyX12_ok, rfl, rfl, Or.inr ⟨_, rfl⟩⟩
theorem r12_51 : zpr RX12 12 51 := ⟨RX12, TX12, 53, tyX12, rfl, by decide, inX12, nmX12, tyX12_ok, rfl, rfl, Or.inr ⟨_, rfl⟩⟩
theorem p12_52 : zpf 12 52 0 := ⟨RX12, TX12, 53, tyX12, rfl, by decide, inX12, nmX12, tyX12_ok, rfl, tyX12_ok 52 (by decide), Or.inl ⟨rfl, rfl⟩⟩
theorem qX9_9 : Cond.constant RX9 9 (50050) ∈ zTs := zT_2 (i := 132) (by decide +kernel) rfl
theorem qX8_73 : Cond.constant RX8 73 (32768) ∈ zTs := zT_3 (i := 110) (by decide +kernel) rfl
theorem qlX11_392 : Cond.constantLong RX11 392 (1000000) ∈ zTs := zT_4 (i := 200) (by decide +kernel) rfl
theorem qX11_214 : Cond.constant RX11 214 (1000000) ∈ zTs := zT_4 (i := 201) (by decide +kernel) rfl
theorem qlX11_394 : Cond.constantLong RX11 394 (-1000000) ∈ zTs := zT_4 (i := 202) (by decide +kernel) rfl
theorem qX11_213 : Cond.constant RX11 213 (-1000000) ∈ zTs := zT_4 (i := 203) (by decide +kernel) rfl
theorem qX10_99 : Cond.constant RX10 99 (1000000) ∈ zTs := zT_5 (i := 20) (by decide +kernel) rfl
theorem qX10_100 : Cond.constant RX10 100 (-1000000) ∈ zTs := zT_5 (i := 21) (by decide +kernel) rfl
theorem qlX10_108 : Cond.constantLong RX10 108 (1000000) ∈ zTs := zT_5 (i := 27) (by decide +kernel) rfl
theorem qlX10_110 : Cond.constantLong RX10 110 (-1000000) ∈ zTs := zT_5 (i := 28) (by decide +kernel) rfl
theorem qX6_43 : Cond.constant RX6 43 (32768) ∈ zTs := zT_5 (i := 105) (by decide +kernel) rfl
theorem qX6_45 : Cond.constant RX6 45 (65536) ∈ zTs := zT_5 (i := 106) (by decide +kernel) rfl
theorem qX6_47 : Cond.constant RX6 47 (131072) ∈ zTs := zT_5 (i := 107) (by decide +kernel) rfl
theorem qX11_182 : Cond.constant RX11 182 (-2000000) ∈ zTs := zT_5 (i := 157) (by decide +kernel) rfl
theorem qlX11_285 : Cond.constantLong RX11 285 (-1) ∈ zTs := zT_6 (i := 71) (by decide +kernel) rfl
theorem qX12_141 : Cond.constant RX12 141 (100000) ∈ zTs := zT_8 (i := 43) (by decide +kernel) rfl
theorem qX12_178 : Cond.constant RX12 178 (99999) ∈ zTs := zT_8 (i := 85) (by decide +kernel) rfl
theorem qlX12_186 : Cond.constantLong RX12 186 (1152921504606846976) ∈ zTs := zT_8 (i := 89) (by decide +kernel) rfl
theorem qlX12_215 : Cond.constantLong RX12 215 (112) ∈ zTs := zT_8 (i := 173) (by decide +kernel) rfl
theorem qlX12_217 : Cond.constantLong RX12 217 (115) ∈ zTs := zT_8 (i := 174) (by decide +kernel) rfl
theorem qlX12_260 : Cond.constantLong RX12 260 (26982) ∈ zTs := zT_8 (i := 179) (by decide +kernel) rfl
theorem qlX12_295 : Cond.constantLong RX12 295 (25189) ∈ zTs := zT_8 (i := 188) (by decide +kernel) rfl
theorem qlX12_301 : Cond.constantLong RX12 301 (28518) ∈ zTs := zT_8 (i := 201) (by decide +kernel) rfl
theorem qlX12_303 : Cond.constantLong RX12 303 (29807) ∈ zTs := zT_8 (i := 206) (by decide +kernel) rfl
theorem qX12_367 : Cond.constant RX12 367 (-1000000) ∈ zTs := zT_9 (i := 2) (by decide +kernel) rfl
theorem qX12_368 : Cond.constant RX12 368 (1000000) ∈ zTs := zT_9 (i := 3) (by decide +kernel) rfl
theorem qX12_486 : Cond.constant RX12 486 (32768) ∈ zTs := zT_9 (i := 36) (by decide +kernel) rfl
theorem qX12_487 : Cond.constant RX12 487 (65536) ∈ zTs := zT_9 (i := 37) (by decide +kernel) rfl
theorem qX12_488 : Cond.constant RX12 488 (131072) ∈ zTs := zT_9 (i := 38) (by decide +kernel) rfl
theorem qlX12_122 : Cond.constantLong RX12 122 (1000000) ∈ zTs := zT_9 (i := 53) (by decide +kernel) rfl
theorem qlX12_124 : Cond.constantLong RX12 124 (-1000000) ∈ zTs := zT_9 (i := 54) (by decide +kernel) rfl
theorem qlX12_369 : Cond.constantLong RX12 369 (-1) ∈ zTs := zT_9 (i := 59) (by decide +kernel) rfl
theorem qlX12_371 : Cond.constantLong RX12 371 (5) ∈ zTs := zT_9 (i := 67) (by decide +kernel) rfl
theorem qX12_395 : Cond.constant RX12 395 (-2000000) ∈ zTs := zT_9 (i := 182) (by decide +kernel) rfl
theorem clL_7 : Cond.classLink RL 7 RX11 ∈ zTs := zT_1 (i := 22) (by decide +kernel) rfl
theorem nL_7 : znw RL 7 11 10 := ⟨RX11, TX11, tyX11, rfl, clL_7, zT_1 (i := 23) (by decide +kernel) rfl, zT_1 (i := 1) (by decide +kernel) rfl, inX11, tyX11_ok, by decide +kernel⟩
theorem clX11_7 : Cond.classLink RX11 7 RX10 ∈ zTs := zT_1 (i := 30) (by decide +kernel) rfl
theorem nX11_7 : znw RX11 7 10 11 := ⟨RX10, TX10, tyX10, rfl, clX11_7, zT_1 (i := 31) (by decide +kernel) rfl, zT_1 (i := 2) (by decide +kernel) rfl, inX10, tyX10_ok, by decide +kernel⟩
theorem clX11_16 : Cond.classLink RX11 16 RX4 ∈ zTs := zT_1 (i := 97) (by decide +kernel) rfl
theorem nX11_16 : znw RX11 16 4 8 := ⟨RX4, TX4, tyX4, rfl, clX11_16, zT_1 (i := 98) (by decide +kernel) rfl, zT_1 (i := 4) (by decide +kernel) rfl, inX4, tyX4_ok, by decide +kernel⟩
theorem clX4_9 : Cond.classLink RX4 9 RX8 ∈ zTs := zT_1 (i := 103) (by decide +kernel) rfl
theorem nX4_9 : znw RX4 9 8 10 := ⟨RX8, TX8, tyX8, rfl, clX4_9, zT_1 (i := 104) (by decide +kernel) rfl, zT_1 (i := 5) (by decide +kernel) rfl, inX8, tyX8_ok, by decide +kernel⟩
theorem clX11_23 : Cond.classLink RX11 23 RX7 ∈ zTs := zT_1 (i := 173) (by decide +kernel) rfl
theorem nX11_23 : znw RX11 23 7 5 := ⟨RX7, TX7, tyX7, rfl, clX11_23, zT_2 (i := 212) (by decide +kernel) rfl, zT_1 (i := 13) (by decide +kernel) rfl, inX7, tyX7_ok, by decide +kernel⟩
theorem clX11_29 : Cond.classLink RX11 29 RX3 ∈ zTs := zT_1 (i := 175) (by decide +kernel) rfl
theorem nX11_29 : znw RX11 29 3 16 := ⟨RX3, TX3, tyX3, rfl, clX11_29, zT_1 (i := 176) (by decide +kernel) rfl, zT_1 (i := 6) (by decide +kernel) rfl, inX3, tyX3_ok, by decide +kernel⟩
theorem clX3_9 : Cond.classLink RX3 9 RX1 ∈ zTs := zT_1 (i := 181) (by decide +kernel) rfl
theorem nX3_9 : znw RX3 9 1 9 := ⟨RX1, TX1, tyX1, rfl, clX3_9, zT_1 (i := 183) (by decide +kernel) rfl, zT_1 (i := 7) (by decide +kernel) rfl, inX1, tyX1_ok, by decide +kernel⟩
theorem clX11_36 : Cond.classLink RX11 36 RX6 ∈ zTs := zT_2 (i := 51) (by decide +kernel) rfl
theorem nX11_36 : znw RX11 36 6 10 := ⟨RX6, TX6, tyX6, rfl, clX11_36, zT_2 (i := 52) (by decide +kernel) rfl, zT_1 (i := 8) (by decide +kernel) rfl, inX6, tyX6_ok, by decide +kernel⟩
theorem clX11_43 : Cond.classLink RX11 43 RX2 ∈ zTs := zT_2 (i := 99) (by decide +kernel) rfl
theorem nX11_43 : znw RX11 43 2 6 := ⟨RX2, TX2, tyX2, rfl, clX11_43, zT_2 (i := 100) (by decide +kernel) rfl, zT_1 (i := 9) (by decide +kernel) rfl, inX2, tyX2_ok, by decide +kernel⟩
theorem clX11_50 : Cond.classLink RX11 50 RX9 ∈ zTs := zT_2 (i := 126) (by decide +kernel) rfl
theorem nX11_50 : znw RX11 50 9 5 := ⟨RX9, TX9, tyX9, rfl, clX11_50, zT_2 (i := 127) (by decide +kernel) rfl, zT_1 (i := 10) (by decide +kernel) rfl, inX9, tyX9_ok, by decide +kernel⟩
theorem clX11_57 : Cond.classLink RX11 57 RX0 ∈ zTs := zT_2 (i := 149) (by decide +kernel) rfl
theorem nX11_57 : znw RX11 57 0 13 := ⟨RX0, TX0, tyX0, rfl, clX11_57, zT_2 (i := 150) (by decide +kernel) rfl, zT_1 (i := 11) (by decide +kernel) rfl, inX0, tyX0_ok, by decide +kernel⟩
theorem clX11_64 : Cond.classLink RX11 64 RX5 ∈ zTs := zT_2 (i := 199) (by decide +kernel) rfl
theorem nX11_64 : znw RX11 64 5 2 := ⟨RX5, TX5, tyX5, rfl, clX11_64, zT_2 (i := 200) (by decide +kernel) rfl, zT_1 (i := 12) (by decide +kernel) rfl, inX5, tyX5_ok, by decide +kernel⟩
theorem clX7_18 : Cond.classLink RX7 18 RX1 ∈ zTs := zT_2 (i := 217) (by decide +kernel) rfl
theorem nX7_18 : znw RX7 18 1 9 := ⟨RX1, TX1, tyX1, rfl, clX7_18, zT_1 (i := 183) (by decide +kernel) rfl, zT_1 (i := 7) (by decide +kernel) rfl, inX1, tyX1_ok, by decide +kernel⟩
theorem clL_10 : Cond.classLink RL 10 RX12 ∈ zTs := zT_7 (i := 78) (by decide +kernel) rfl
theorem nL_10 : znw RL 10 12 53 := ⟨RX12, TX12, tyX12, rfl, clL_10, zT_7 (i := 79) (by decide +kernel) rfl, zT_1 (i := 14) (by decide +kernel) rfl, inX12, tyX12_ok, by decide +kernel⟩
theorem ac_int : Cond.arrayClass .int ∈ zTs := zT_1 (i := 96) (by decide +kernel) rfl
theorem ac_long : Cond.arrayClass .long ∈ zTs := zT_8 (i := 7) (by decide +kernel) rfl
theorem ac_boolean : Cond.arrayClass .boolean ∈ zTs := zT_2 (i := 125) (by decide +kernel) rfl
theorem oi_i : Cond.instanceMethod Lib.objectInit ∈ zTs ∧ Cond.code Lib.objectInit ⟨#[0xb1]⟩ 1 none ∈ zTs := ⟨zT_1 (i := 28) (by decide +kernel) rfl, zT_1 (i := 29) (by decide +kernel) rfl⟩
theorem loX11_1 : Cond.methodLink RX11 1 Lib.objectInit ∈ zTs := zT_1 (i := 27) (by decide +kernel) rfl
theorem loX10_3 : Cond.methodLink RX10 3 Lib.objectInit ∈ zTs := zT_1 (i := 35) (by decide +kernel) rfl
theorem loX4_3 : Cond.methodLink RX4 3 Lib.objectInit ∈ zTs := zT_1 (i := 102) (by decide +kernel) rfl
theorem loX8_3 : Cond.methodLink RX8 3 Lib.objectInit ∈ zTs := zT_1 (i := 108) (by decide +kernel) rfl
theorem loX3_3 : Cond.methodLink RX3 3 Lib.objectInit ∈ zTs := zT_1 (i := 180) (by decide +kernel) rfl
theorem loX1_3 : Cond.methodLink RX1 3 Lib.objectInit ∈ zTs := zT_1 (i := 187) (by decide +kernel) rfl
theorem loX6_3 : Cond.methodLink RX6 3 Lib.objectInit ∈ zTs := zT_2 (i := 56) (by decide +kernel) rfl
theorem loX2_3 : Cond.methodLink RX2 3 Lib.objectInit ∈ zTs := zT_2 (i := 104) (by decide +kernel) rfl
theorem loX9_3 : Cond.methodLink RX9 3 Lib.objectInit ∈ zTs := zT_2 (i := 131) (by decide +kernel) rfl
theorem loX0_3 : Cond.methodLink RX0 3 Lib.objectInit ∈ zTs := zT_2 (i := 154) (by decide +kernel) rfl
theorem loX5_1 : Cond.methodLink RX5 1 Lib.objectInit ∈ zTs := zT_2 (i := 204) (by decide +kernel) rfl
theorem loX7_3 : Cond.methodLink RX7 3 Lib.objectInit ∈ zTs := zT_2 (i := 216) (by decide +kernel) rfl
theorem loX12_1 : Cond.methodLink RX12 1 Lib.objectInit ∈ zTs := zT_7 (i := 83) (by decide +kernel) rfl
