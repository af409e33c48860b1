theorem kb_m2 : (Int8.ofInt (-2)).toInt32 = Int32.ofInt (-2) ∧ zin 0 (-2) := ⟨by decide, ⟨by decide, by decide⟩⟩
theorem kb_6 : (Int8.ofInt 6).toInt32 = Int32.ofInt 6 ∧ zin 0 6 := ⟨by decide, ⟨by decide, by decide⟩⟩
theorem kb_7 : (Int8.ofInt 7).toInt32 = Int32.ofInt 7 ∧ zin 0 7 := ⟨by decide, ⟨by decide, by decide⟩⟩
theorem kb_8 : (Int8.ofInt 8).toInt32 = Int32.ofInt 8 ∧ zin 0 8 := ⟨by decide, ⟨by decide, by decide⟩⟩
theorem kb_9 : (Int8.ofInt 9).toInt32 = Int32.ofInt 9 ∧ zin 0 9 := ⟨by decide, ⟨by decide, by decide⟩⟩
theorem kb_10 : (Int8.ofInt 10).toInt32 = Int32.ofInt 10 ∧ zin 0 10 := ⟨by decide, ⟨by decide, by decide⟩⟩
theorem kb_11 : (Int8.ofInt 11).toInt32 = Int32.ofInt 11 ∧ zin 0 11 := ⟨by decide, ⟨by decide, by decide⟩⟩
theorem kb_12 : (Int8.ofInt 12).toInt32 = Int32.ofInt 12 ∧ zin 0 12 := ⟨by decide, ⟨by decide, by decide⟩⟩
theorem kb_13 : (Int8.ofInt 13).toInt32 = Int32.ofInt 13 ∧ zin 0 13 := ⟨by decide, ⟨by decide, by decide⟩⟩
theorem kb_14 : (Int8.ofInt 14).toInt32 = Int32.ofInt 14 ∧ zin 0 14 := ⟨by decide, ⟨by decide, by decide⟩⟩
theorem kb_15 : (Int8.ofInt 15).toInt32 = Int32.ofInt 15 ∧ zin 0 15 := ⟨by decide, ⟨by decide, by decide⟩⟩
theorem kb_16 : (Int8.ofInt 16).toInt32 = Int32.ofInt 16 ∧ zin 0 16 := ⟨by decide, ⟨by decide, by decide⟩⟩
theorem kb_19 : (Int8.ofInt 19).toInt32 = Int32.ofInt 19 ∧ zin 0 19 := ⟨by decide, ⟨by decide, by decide⟩⟩
theorem kb_20 : (Int8.ofInt 20).toInt32 = Int32.ofInt 20 ∧ zin 0 20 := ⟨by decide, ⟨by decide, by decide⟩⟩
theorem kb_24 : (Int8.ofInt 24).toInt32 = Int32.ofInt 24 ∧ zin 0 24 := ⟨by decide, ⟨by decide, by decide⟩⟩
theorem kb_27 : (Int8.ofInt 27).toInt32 = Int32.ofInt 27 ∧ zin 0 27 := ⟨by decide, ⟨by decide, by decide⟩⟩
theorem kb_28 : (Int8.ofInt 28).toInt32 = Int32.ofInt 28 ∧ zin 0 28 := ⟨by decide, ⟨by decide, by decide⟩⟩
theorem kb_29 : (Int8.ofInt 29).toInt32 = Int32.ofInt 29 ∧ zin 0 29 := ⟨by decide, ⟨by decide, by decide⟩⟩
theorem kb_30 : (Int8.ofInt 30).toInt32 = Int32.ofInt 30 ∧ zin 0 30 := ⟨by decide, ⟨by decide, by decide⟩⟩
theorem kb_32 : (Int8.ofInt 32).toInt32 = Int32.ofInt 32 ∧ zin 0 32 := ⟨by decide, ⟨by decide, by decide⟩⟩
theorem kb_35 : (Int8.ofInt 35).toInt32 = Int32.ofInt 35 ∧ zin 0 35 := ⟨by decide, ⟨by decide, by decide⟩⟩
theorem kb_36 : (Int8.ofInt 36).toInt32 = Int32.ofInt 36 ∧ zin 0 36 := ⟨by decide, ⟨by decide, by decide⟩⟩
theorem kb_38 : (Int8.ofInt 38).toInt32 = Int32.ofInt 38 ∧ zin 0 38 := ⟨by decide, ⟨by decide, by decide⟩⟩
theorem kb_39 : (Int8.ofInt 39).toInt32 = Int32.ofInt 39 ∧ zin 0 39 := ⟨by decide, ⟨by decide, by decide⟩⟩
theorem kb_40 : (Int8.ofInt 40).toInt32 = Int32.ofInt 40 ∧ zin 0 40 := ⟨by decide, ⟨by decide, by decide⟩⟩
theorem kb_41 : (Int8.ofInt 41).toInt32 = Int32.ofInt 41 ∧ zin 0 41 := ⟨by decide, ⟨by decide, by decide⟩⟩
theorem kb_42 : (Int8.ofInt 42).toInt32 = Int32.ofInt 42 ∧ zin 0 42 := ⟨by decide, ⟨by decide, by decide⟩⟩
theorem kb_43 : (Int8.ofInt 43).toInt32 = Int32.ofInt 43 ∧ zin 0 43 := ⟨by decide, ⟨by decide, by decide⟩⟩
theorem kb_44 : (Int8.ofInt 44).toInt32 = Int32.ofInt 44 ∧ zin 0 44 := ⟨by decide, ⟨by decide, by decide⟩⟩
theorem kb_45 : (Int8.ofInt 45).toInt32 = Int32.ofInt 45 ∧ zin 0 45 := ⟨by decide, ⟨by decide, by decide⟩⟩
theorem kb_47 : (Int8.ofInt 47).toInt32 = Int32.ofInt 47 ∧ zin 0 47 := ⟨by decide, ⟨by decide, by decide⟩⟩
theorem kb_48 : (Int8.ofInt 48).toInt32 = Int32.ofInt 48 ∧ zin 0 48 := ⟨by decide, ⟨by decide, by decide⟩⟩
theorem kb_57 : (Int8.ofInt 57).toInt32 = Int32.ofInt 57 ∧ zin 0 57 := ⟨by decide, ⟨by decide, by decide⟩⟩
theorem kb_58 : (Int8.ofInt 58).toInt32 = Int32.ofInt 58 ∧ zin 0 58 := ⟨by decide, ⟨by decide, by decide⟩⟩
theorem kb_59 : (Int8.ofInt 59).toInt32 = Int32.ofInt 59 ∧ zin 0 59 := ⟨by decide, ⟨by decide, by decide⟩⟩
theorem kb_60 : (Int8.ofInt 60).toInt32 = Int32.ofInt 60 ∧ zin 0 60 := ⟨by decide, ⟨by decide, by decide⟩⟩
theorem kb_61 : (Int8.ofInt 61).toInt32 = Int32.ofInt 61 ∧ zin 0 61 := ⟨by decide, ⟨by decide, by decide⟩⟩
theorem kb_62 : (Int8.ofInt 62).toInt32 = Int32.ofInt 62 ∧ zin 0 62 := ⟨by decide, ⟨by decide, by decide⟩⟩
theorem kb_63 : (Int8.ofInt 63).toInt32 = Int32.ofInt 63 ∧ zin 0 63 := ⟨by decide, ⟨by decide, by decide⟩⟩
theorem kb_64 : (Int8.ofInt 64).toInt32 = Int32.ofInt 64 ∧ zin 0 64 := ⟨by decide, ⟨by decide, by decide⟩⟩
theorem kb_65 : (Int8.ofInt 65).toInt32 = Int32.ofInt 65 ∧ zin 0 65 := ⟨by decide, ⟨by decide, by decide⟩⟩
theorem kb_74 : (Int8.ofInt 74).toInt32 = Int32.ofInt 74 ∧ zin 0 74 := ⟨by decide, ⟨by decide, by decide⟩⟩
theorem kb_89 : (Int8.ofInt 89).toInt32 = Int32.ofInt 89 ∧ zin 0 89 := ⟨by decide, ⟨by decide, by decide⟩⟩
theorem kb_90 : (Int8.ofInt 90).toInt32 = Int32.ofInt 90 ∧ zin 0 90 := ⟨by decide, ⟨by decide, by decide⟩⟩
theorem kb_97 : (Int8.ofInt 97).toInt32 = Int32.ofInt 97 ∧ zin 0 97 := ⟨by decide, ⟨by decide, by decide⟩⟩
theorem kb_98 : (Int8.ofInt 98).toInt32 = Int32.ofInt 98 ∧ zin 0 98 := ⟨by decide, ⟨by decide, by decide⟩⟩
theorem kb_99 : (Int8.ofInt 99).toInt32 = Int32.ofInt 99 ∧ zin 0 99 := ⟨by decide, ⟨by decide, by decide⟩⟩
theorem kb_100 : (Int8.ofInt 100).toInt32 = Int32.ofInt 100 ∧ zin 0 100 := ⟨by decide, ⟨by decide, by decide⟩⟩
theorem kb_101 : (Int8.ofInt 101).toInt32 = Int32.ofInt 101 ∧ zin 0 101 := ⟨by decide, ⟨by decide, by decide⟩⟩
theorem kb_103 : (Int8.ofInt 103).toInt32 = Int32.ofInt 103 ∧ zin 0 103 := ⟨by decide, ⟨by decide, by decide⟩⟩
theorem kb_104 : (Int8.ofInt 104).toInt32 = Int32.ofInt 104 ∧ zin 0 104 := ⟨by decide, ⟨by decide, by decide⟩⟩
theorem kb_105 : (Int8.ofInt 105).toInt32 = Int32.ofInt 105 ∧ zin 0 105 := ⟨by decide, ⟨by decide, by decide⟩⟩
theorem kb_107 : (Int8.ofInt 107).toInt32 = Int32.ofInt 107 ∧ zin 0 107 := ⟨by decide, ⟨by decide, by decide⟩⟩
theorem kb_108 : (Int8.ofInt 108).toInt32 = Int32.ofInt 108 ∧ zin 0 108 := ⟨by decide, ⟨by decide, by decide⟩⟩
theorem kb_109 : (Int8.ofInt 109).toInt32 = Int32.ofInt 109 ∧ zin 0 109 := ⟨by decide, ⟨by decide, by decide⟩⟩
theorem kb_110 : (Int8.ofInt 110).toInt32 = Int32.ofInt 110 ∧ zin 0 110 := ⟨by decide, ⟨by decide, by decide⟩⟩
theorem kb_111 : (Int8.ofInt 111).toInt32 = Int32.ofInt 111 ∧ zin 0 111 := ⟨by decide, ⟨by decide, by decide⟩⟩
theorem kb_112 : (Int8.ofInt 112).toInt32 = Int32.ofInt 112 ∧ zin 0 112 := ⟨by decide, ⟨by decide, by decide⟩⟩
theorem kb_114 : (Int8.ofInt 114).toInt32 = Int32.ofInt 114 ∧ zin 0 114 := ⟨by decide, ⟨by decide, by decide⟩⟩
theorem kb_115 : (Int8.ofInt 115).toInt32 = Int32.ofInt 115 ∧ zin 0 115 := ⟨by decide, ⟨by decide, by decide⟩⟩
theorem kb_116 : (Int8.ofInt 116).toInt32 = Int32.ofInt 116 ∧ zin 0 116 := ⟨by decide, ⟨by decide, by decide⟩⟩
theorem kb_117 : (Int8.ofInt 117).toInt32 = Int32.ofInt 117 ∧ zin 0 117 := ⟨by decide, ⟨by decide, by decide⟩⟩
theorem kb_119 : (Int8.ofInt 119).toInt32 = Int32.ofInt 119 ∧ zin 0 119 := ⟨by decide, ⟨by decide, by decide⟩⟩
theorem kb_121 : (Int8.ofInt 121).toInt32 = Int32.ofInt 121 ∧ zin 0 121 := ⟨by decide, ⟨by decide, by decide⟩⟩
theorem kb_122 : (Int8.ofInt 122).toInt32 = Int32.ofInt 122 ∧ zin 0 122 := ⟨by decide, ⟨by decide, by decide⟩⟩
theorem ki_m1 : zin 0 (-1) := ⟨by decide, by decide⟩
theorem ki_0 : zin 0 0 := ⟨by decide, by decide⟩
theorem ki_1 : zin 0 1 := ⟨by decide, by decide⟩
theorem ki_2 : zin 0 2 := ⟨by decide, by decide⟩
theorem ki_3 : zin 0 3 := ⟨by decide, by decide⟩
theorem ki_4 : zin 0 4 := ⟨by decide, by decide⟩
theorem ki_5 : zin 0 5 := ⟨by decide, by decide⟩
theorem ks_m1000 : (Int16.ofInt (-1000)).toInt32 = Int32.ofInt (-1000) ∧ zin 0 (-1000) := ⟨by decide, ⟨by decide, by decide⟩⟩
theorem ks_m500 : (Int16.ofInt (-500)).toInt32 = Int32.ofInt (-500) ∧ zin 0 (-500) := ⟨by decide, ⟨by decide, by decide⟩⟩
theorem ks_128 : (Int16.ofInt 128).toInt32 = Int32.ofInt 128 ∧ zin 0 128 := ⟨by decide, ⟨by decide, by decide⟩⟩
theorem ks_131 : (Int16.ofInt 131).toInt32 = Int32.ofInt 131 ∧ zin 0 131 := ⟨by decide, ⟨by decide, by decide⟩⟩
theorem ks_132 : (Int16.ofInt 132).toInt32 = Int32.ofInt 132 ∧ zin 0 132 := ⟨by decide, ⟨by decide, by decide⟩⟩
theorem ks_156 : (Int16.ofInt 156).toInt32 = Int32.ofInt 156 ∧ zin 0 156 := ⟨by decide, ⟨by decide, by decide⟩⟩
theorem ks_240 : (Int16.ofInt 240).toInt32 = Int32.ofInt 240 ∧ zin 0 240 := ⟨by decide, ⟨by decide, by decide⟩⟩
theorem ks_255 : (Int16.ofInt 255).toInt32 = Int32.ofInt 255 ∧ zin 0 255 := ⟨by decide, ⟨by decide, by decide⟩⟩
theorem ks_256 : (Int16.ofInt 256).toInt32 = Int32.ofInt 256 ∧ zin 0 256 := ⟨by decide, ⟨by decide, by decide⟩⟩
theorem ks_289 : (Int16.ofInt 289).toInt32 = Int32.ofInt 289 ∧ zin 0 289 := ⟨by decide, ⟨by decide, by decide⟩⟩
theorem ks_300 : (Int16.ofInt 300).toInt32 = Int32.ofInt 300 ∧ zin 0 300 := ⟨by decide, ⟨by decide, by decide⟩⟩
theorem ks_500 : (Int16.ofInt 500).toInt32 = Int32.ofInt 500 ∧ zin 0 500 := ⟨by decide, ⟨by decide, by decide⟩⟩
theorem ks_889 : (Int16.ofInt 889).toInt32 = Int32.ofInt 889 ∧ zin 0 889 := ⟨by decide, ⟨by decide, by decide⟩⟩
theorem ks_1000 : (Int16.ofInt 1000).toInt32 = Int32.ofInt 1000 ∧ zin 0 1000 := ⟨by decide, ⟨by decide, by decide⟩⟩
theorem ks_1001 : (Int16.ofInt 1001).toInt32 = Int32.ofInt 1001 ∧ zin 0 1001 := ⟨by decide, ⟨by decide, by decide⟩⟩
theorem ks_2000 : (Int16.ofInt 2000).toInt32 = Int32.ofInt 2000 ∧ zin 0 2000 := ⟨by decide, ⟨by decide, by decide⟩⟩
theorem ks_6006 : (Int16.ofInt 6006).toInt32 = Int32.ofInt 6006 ∧ zin 0 6006 := ⟨by decide, ⟨by decide, by decide⟩⟩
theorem ks_9999 : (Int16.ofInt 9999).toInt32 = Int32.ofInt 9999 ∧ zin 0 9999 := ⟨by decide, ⟨by decide, by decide⟩⟩
theorem ks_10000 : (Int16.ofInt 10000).toInt32 = Int32.ofInt 10000 ∧ zin 0 10000 := ⟨by decide, ⟨by decide, by decide⟩⟩
theorem ks_16384 : (Int16.ofInt 16384).toInt32 = Int32.ofInt 16384 ∧ zin 0 16384 := ⟨by decide, ⟨by decide, by decide⟩⟩
theorem ks_30011 : (Int16.ofInt 30011).toInt32 = Int32.ofInt 30011 ∧ zin 0 30011 := ⟨by decide, ⟨by decide, by decide⟩⟩
theorem ks_32767 : (Int16.ofInt 32767).toInt32 = Int32.ofInt 32767 ∧ zin 0 32767 := ⟨by decide, ⟨by decide, by decide⟩⟩
theorem mwX8_74 : zMw RX8 74 Lib.Math.min.name Lib.Math.min.code 2 (some .int) := ⟨zT_3 (i := 111) (by decide +kernel) rfl, zT_3 (i := 112) (by decide +kernel) rfl, zT_1 (i := 15) (by decide +kernel) rfl, zT_3 (i := 113) (by decide +kernel) rfl⟩
theorem mwX4_168 : zMw RX4 168 Lib.Math.max.name Lib.Math.max.code 2 (some .int) := ⟨zT_4 (i := 42) (by decide +kernel) rfl, zT_3 (i := 199) (by decide +kernel) rfl, zT_1 (i := 15) (by decide +kernel) rfl, zT_3 (i := 200) (by decide +kernel) rfl⟩
theorem mwX1_107 : zMw RX1 107 Lib.Math.min.name Lib.Math.min.code 2 (some .int) := ⟨zT_4 (i := 181) (by decide +kernel) rfl, zT_3 (i := 112) (by decide +kernel) rfl, zT_1 (i := 15) (by decide +kernel) rfl, zT_3 (i := 113) (by decide +kernel) rfl⟩
theorem mwX1_120 : zMw RX1 120 Lib.MathLoose.max_long.x Lib.MathLoose.max_long.code 4 (some .long) := ⟨zT_4 (i := 204) (by decide +kernel) rfl, zT_4 (i := 205) (by decide +kernel) rfl, zT_1 (i := 15) (by decide +kernel) rfl, zT_4 (i := 206) (by decide +kernel) rfl⟩
theorem mwX1_124 : zMw RX1 124 Lib.MathLoose.min_long.x Lib.MathLoose.min_long.code 4 (some .long) := ⟨zT_4 (i := 207) (by decide +kernel) rfl, zT_4 (i := 208) (by decide +kernel) rfl, zT_1 (i := 15) (by decide +kernel) rfl, zT_4 (i := 209) (by decide +kernel) rfl⟩
theorem mwX10_126 : zMw RX10 126 Lib.Math.max.name Lib.Math.max.code 2 (some .int) := ⟨zT_5 (i := 40) (by decide +kernel) rfl, zT_3 (i := 199) (by decide +kernel) rfl, zT_1 (i := 15) (by decide +kernel) rfl, zT_3 (i := 200) (by decide +kernel) rfl⟩
theorem mwX10_131 : zMw RX10 131 Lib.Math.min.name Lib.Math.min.code 2 (some .int) := ⟨zT_5 (i := 41) (by decide +kernel) rfl, zT_3 (i := 112) (by decide +kernel) rfl, zT_1 (i := 15) (by decide +kernel) rfl, zT_3 (i := 113) (by decide +kernel) rfl⟩
theorem mwX6_85 : zMw RX6 85 Lib.Math.max.name Lib.Math.max.code 2 (some .int) := ⟨zT_5 (i := 142) (by decide +kernel) rfl, zT_3 (i := 199) (by decide +kernel) rfl, zT_1 (i := 15) (by decide +kernel) rfl, zT_3 (i := 200) (by decide +kernel) rfl⟩
theorem mwX2_79 : zMw RX2 79 Lib.Math.max.name Lib.Math.max.code 2 (some .int) := ⟨zT_6 (i := 35) (by decide +kernel) rfl, zT_3 (i := 199) (by decide +kernel) rfl, zT_1 (i := 15) (by decide +kernel) rfl, zT_3 (i := 200) (by decide +kernel) rfl⟩
theorem mwX11_312 : zMw RX11 312 Lib.Math.min.name Lib.Math.min.code 2 (some .int) := ⟨zT_6 (i := 155) (by decide +kernel) rfl, zT_3 (i := 112) (by decide +kernel) rfl, zT_1 (i := 15) (by decide +kernel) rfl, zT_3 (i := 113) (by decide +kernel) rfl⟩
theorem mwX3_113 : zMw RX3 113 Lib.Math.min.name Lib.Math.min.code 2 (some .int) := ⟨zT_7 (i := 52) (by decide +kernel) rfl, zT_3 (i := 112) (by decide +kernel) rfl, zT_1 (i := 15) (by decide +kernel) rfl, zT_3 (i := 113) (by decide +kernel) rfl⟩
theorem mwX3_118 : zMw RX3 118 Lib.Math.max.name Lib.Math.max.code 2 (some .int) := ⟨zT_7 (i := 53) (by decide +kernel) rfl, zT_3 (i := 199) (by decide +kernel) rfl, zT_1 (i := 15) (by decide +kernel) rfl, zT_3 (i := 200) (by decide +kernel) rfl⟩
theorem mwX6_124 : zMw RX6 124 Lib.Math.min.name Lib.Math.min.code 2 (some .int) := ⟨zT_7 (i := 60) (by decide +kernel) rfl, zT_3 (i := 112) (by decide +kernel) rfl, zT_1 (i := 15) (by decide +kernel) rfl, zT_3 (i := 113) (by decide +kernel) rfl⟩
theorem mwX0_105 : zMw RX0 105 Lib.Math.min.name Lib.Math.min.code 2 (some .int) := ⟨zT_7 (i := 67) (by decide +kernel) rfl, zT_3 (i := 112) (by decide +kernel) rfl, zT_1 (i := 15) (by decide +kernel) rfl, zT_3 (i := 113) (by decide +kernel) rfl⟩
theorem mwX0_111 : zMw RX0 111 Lib.Math.max.name Lib.Math.max.code 2 (some .int) := ⟨zT_7 (i := 68) (by decide +kernel) rfl, zT_3 (i := 199) (by decide +kernel) rfl, zT_1 (i := 15) (by decide +kernel) rfl, zT_3 (i := 200) (by decide +kernel) rfl⟩
theorem gsX4_78 : Cond.fieldLinkNest RX4 78 "AnswersFirst" (zforms.getD 7 "") "[I" "AnswersFirst" ∈ zNs := zN_4 (i := 91) (by decide +kernel) rfl
theorem gsX4_86 : Cond.fieldLinkNest RX4 86 "AnswersFirst" (zforms.getD 0 "") "[I" "AnswersFirst" ∈ zNs := zN_4 (i := 97) (by decide +kernel) rfl
theorem gsX4_89 : Cond.fieldLinkNest RX4 89 "AnswersFirst" (zforms.getD 1 "") "[I" "AnswersFirst" ∈ zNs := zN_4 (i := 99) (by decide +kernel) rfl
theorem gsX4_92 : Cond.fieldLinkNest RX4 92 "AnswersFirst" (zforms.getD 2 "") "[I" "AnswersFirst" ∈ zNs := zN_4 (i := 101) (by decide +kernel) rfl
theorem gsX4_95 : Cond.fieldLinkNest RX4 95 "AnswersFirst" (zforms.getD 3 "") "[I" "AnswersFirst" ∈ zNs := zN_4 (i := 103) (by decide +kernel) rfl
theorem gsX4_98 : Cond.fieldLinkNest RX4 98 "AnswersFirst" (zforms.getD 4 "") "[I" "AnswersFirst" ∈ zNs := zN_4 (i := 105) (by decide +kernel) rfl
theorem gsX4_101 : Cond.fieldLinkNest RX4 101 "AnswersFirst" (zforms.getD 5 "") "[I" "AnswersFirst" ∈ zNs := zN_4 (i := 107) (by decide +kernel) rfl
theorem gsX4_104 : Cond.fieldLinkNest RX4 104 "AnswersFirst" (zforms.getD 6 "") "[I" "AnswersFirst" ∈ zNs := zN_4 (i := 109) (by decide +kernel) rfl
theorem gsX4_107 : Cond.fieldLinkNest RX4 107 "AnswersFirst" (zforms.getD 8 "") "[I" "AnswersFirst" ∈ zNs := zN_4 (i := 111) (by decide +kernel) rfl
theorem qJ6_265 : Cond.constant RJ6 265 (1431655765) ∈ zTs := zT_5 (i := 139) (by decide +kernel) rfl
theorem qJ6_266 : Cond.constant RJ6 266 (858993459) ∈ zTs := zT_5 (i := 140) (by decide +kernel) rfl
theorem qJ6_267 : Cond.constant RJ6 267 (252645135) ∈ zTs := zT_5 (i := 141) (by decide +kernel) rfl
