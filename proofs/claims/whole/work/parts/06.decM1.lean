theorem dX12_fault_4 : decode cX12_fault 4 = .ok (.aload_n 0, 1) := by decide +kernel
theorem dX12_fault_5 : decode cX12_fault 5 = .ok (.getfield 25, 3) := by decide +kernel
theorem dX12_fault_8 : decode cX12_fault 8 = .ok (.goto 16, 3) := by decide +kernel
theorem dX12_fault_11 : decode cX12_fault 11 = .ok (.iload_n 1, 1) := by decide +kernel
theorem dX12_fault_12 : decode cX12_fault 12 = .ok (.iconst 1, 1) := by decide +kernel
theorem dX12_fault_13 : decode cX12_fault 13 = .ok (.if_icmp .ne 10, 3) := by decide +kernel
theorem dX12_fault_16 : decode cX12_fault 16 = .ok (.aload_n 0, 1) := by decide +kernel
theorem dX12_fault_17 : decode cX12_fault 17 = .ok (.getfield 29, 3) := by decide +kernel
theorem dX12_fault_20 : decode cX12_fault 20 = .ok (.goto 4, 3) := by decide +kernel
theorem dX12_fault_23 : decode cX12_fault 23 = .ok (.iconst (-1), 1) := by decide +kernel
theorem dX12_fault_24 : decode cX12_fault 24 = .ok (.ireturn, 1) := by decide +kernel
theorem dX12_askMore_0 : decode cX12_askMore 0 = .ok (.aload_n 0, 1) := by decide +kernel
theorem dX12_askMore_1 : decode cX12_askMore 1 = .ok (.getfield 7, 3) := by decide +kernel
theorem dX12_askMore_4 : decode cX12_askMore 4 = .ok (.iconst 0, 1) := by decide +kernel
theorem dX12_askMore_5 : decode cX12_askMore 5 = .ok (.iaload, 1) := by decide +kernel
theorem dX12_askMore_6 : decode cX12_askMore 6 = .ok (.bipush 12, 2) := by decide +kernel
theorem dX12_askMore_8 : decode cX12_askMore 8 = .ok (.if_icmp .ne 5, 3) := by decide +kernel
theorem dX12_askMore_11 : decode cX12_askMore 11 = .ok (.iconst 0, 1) := by decide +kernel
theorem dX12_askMore_12 : decode cX12_askMore 12 = .ok (.ireturn, 1) := by decide +kernel
theorem dX12_askMore_13 : decode cX12_askMore 13 = .ok (.aload_n 0, 1) := by decide +kernel
theorem dX12_askMore_14 : decode cX12_askMore 14 = .ok (.getfield 7, 3) := by decide +kernel
theorem dX12_askMore_17 : decode cX12_askMore 17 = .ok (.iconst 0, 1) := by decide +kernel
theorem dX12_askMore_18 : decode cX12_askMore 18 = .ok (.iaload, 1) := by decide +kernel
theorem dX12_askMore_19 : decode cX12_askMore 19 = .ok (.istore_n 3, 1) := by decide +kernel
theorem dX12_askMore_20 : decode cX12_askMore 20 = .ok (.aload_n 0, 1) := by decide +kernel
theorem dX12_askMore_21 : decode cX12_askMore 21 = .ok (.getfield 50, 3) := by decide +kernel
theorem dX12_askMore_24 : decode cX12_askMore 24 = .ok (.iload_n 3, 1) := by decide +kernel
theorem dX12_askMore_25 : decode cX12_askMore 25 = .ok (.aload_n 0, 1) := by decide +kernel
theorem dX12_askMore_26 : decode cX12_askMore 26 = .ok (.getfield 32, 3) := by decide +kernel
theorem dX12_askMore_29 : decode cX12_askMore 29 = .ok (.iload_n 2, 1) := by decide +kernel
theorem dX12_askMore_30 : decode cX12_askMore 30 = .ok (.bipush 7, 2) := by decide +kernel
theorem dX12_askMore_32 : decode cX12_askMore 32 = .ok (.iadd, 1) := by decide +kernel
theorem dX12_askMore_33 : decode cX12_askMore 33 = .ok (.iaload, 1) := by decide +kernel
theorem dX12_askMore_34 : decode cX12_askMore 34 = .ok (.aload_n 0, 1) := by decide +kernel
theorem dX12_askMore_35 : decode cX12_askMore 35 = .ok (.getfield 32, 3) := by decide +kernel
theorem dX12_askMore_38 : decode cX12_askMore 38 = .ok (.iload_n 2, 1) := by decide +kernel
theorem dX12_askMore_39 : decode cX12_askMore 39 = .ok (.bipush 6, 2) := by decide +kernel
theorem dX12_askMore_41 : decode cX12_askMore 41 = .ok (.iadd, 1) := by decide +kernel
theorem dX12_askMore_42 : decode cX12_askMore 42 = .ok (.iaload, 1) := by decide +kernel
theorem dX12_askMore_43 : decode cX12_askMore 43 = .ok (.isub, 1) := by decide +kernel
theorem dX12_askMore_44 : decode cX12_askMore 44 = .ok (.iastore, 1) := by decide +kernel
theorem dX12_askMore_45 : decode cX12_askMore 45 = .ok (.sipush 889, 3) := by decide +kernel
theorem dX12_askMore_48 : decode cX12_askMore 48 = .ok (.iload_n 1, 1) := by decide +kernel
theorem dX12_askMore_49 : decode cX12_askMore 49 = .ok (.imul, 1) := by decide +kernel
theorem dX12_askMore_50 : decode cX12_askMore 50 = .ok (.sipush 289, 3) := by decide +kernel
theorem dX12_askMore_53 : decode cX12_askMore 53 = .ok (.iadd, 1) := by decide +kernel
theorem dX12_askMore_54 : decode cX12_askMore 54 = .ok (.iconst 2, 1) := by decide +kernel
theorem dX12_askMore_55 : decode cX12_askMore 55 = .ok (.aload_n 0, 1) := by decide +kernel
theorem dX12_askMore_56 : decode cX12_askMore 56 = .ok (.getfield 32, 3) := by decide +kernel
theorem dX12_askMore_59 : decode cX12_askMore 59 = .ok (.iload_n 2, 1) := by decide +kernel
theorem dX12_askMore_60 : decode cX12_askMore 60 = .ok (.bipush 6, 2) := by decide +kernel
theorem dX12_askMore_62 : decode cX12_askMore 62 = .ok (.iadd, 1) := by decide +kernel
theorem dX12_askMore_63 : decode cX12_askMore 63 = .ok (.iaload, 1) := by decide +kernel
theorem dX12_askMore_64 : decode cX12_askMore 64 = .ok (.imul, 1) := by decide +kernel
theorem dX12_askMore_65 : decode cX12_askMore 65 = .ok (.iadd, 1) := by decide +kernel
theorem dX12_askMore_66 : decode cX12_askMore 66 = .ok (.istore 4, 2) := by decide +kernel
theorem dX12_askMore_68 : decode cX12_askMore 68 = .ok (.iconst 0, 1) := by decide +kernel
theorem dX12_askMore_69 : decode cX12_askMore 69 = .ok (.istore 5, 2) := by decide +kernel
theorem dX12_askMore_71 : decode cX12_askMore 71 = .ok (.iload 5, 2) := by decide +kernel
theorem dX12_askMore_73 : decode cX12_askMore 73 = .ok (.iconst 2, 1) := by decide +kernel
theorem dX12_askMore_74 : decode cX12_askMore 74 = .ok (.aload_n 0, 1) := by decide +kernel
theorem dX12_askMore_75 : decode cX12_askMore 75 = .ok (.getfield 50, 3) := by decide +kernel
theorem dX12_askMore_78 : decode cX12_askMore 78 = .ok (.iload_n 3, 1) := by decide +kernel
theorem dX12_askMore_79 : decode cX12_askMore 79 = .ok (.iaload, 1) := by decide +kernel
theorem dX12_askMore_80 : decode cX12_askMore 80 = .ok (.imul, 1) := by decide +kernel
theorem dX12_askMore_81 : decode cX12_askMore 81 = .ok (.if_icmp .ge 32, 3) := by decide +kernel
theorem dX12_askMore_84 : decode cX12_askMore 84 = .ok (.aload_n 0, 1) := by decide +kernel
theorem dX12_askMore_85 : decode cX12_askMore 85 = .ok (.getfield 53, 3) := by decide +kernel
theorem dX12_askMore_88 : decode cX12_askMore 88 = .ok (.sipush 240, 3) := by decide +kernel
theorem dX12_askMore_91 : decode cX12_askMore 91 = .ok (.iload_n 3, 1) := by decide +kernel
theorem dX12_askMore_92 : decode cX12_askMore 92 = .ok (.imul, 1) := by decide +kernel
theorem dX12_askMore_93 : decode cX12_askMore 93 = .ok (.iload 5, 2) := by decide +kernel
theorem dX12_askMore_95 : decode cX12_askMore 95 = .ok (.iadd, 1) := by decide +kernel
theorem dX12_askMore_96 : decode cX12_askMore 96 = .ok (.aload_n 0, 1) := by decide +kernel
theorem dX12_askMore_97 : decode cX12_askMore 97 = .ok (.getfield 32, 3) := by decide +kernel
theorem dX12_askMore_100 : decode cX12_askMore 100 = .ok (.iload 4, 2) := by decide +kernel
theorem dX12_askMore_102 : decode cX12_askMore 102 = .ok (.iload 5, 2) := by decide +kernel
theorem dX12_askMore_104 : decode cX12_askMore 104 = .ok (.iadd, 1) := by decide +kernel
theorem dX12_askMore_105 : decode cX12_askMore 105 = .ok (.iaload, 1) := by decide +kernel
theorem dX12_askMore_106 : decode cX12_askMore 106 = .ok (.iastore, 1) := by decide +kernel
theorem dX12_askMore_107 : decode cX12_askMore 107 = .ok (.iinc 5 1, 3) := by decide +kernel
theorem dX12_askMore_110 : decode cX12_askMore 110 = .ok (.goto (-39), 3) := by decide +kernel
theorem dX12_askMore_113 : decode cX12_askMore 113 = .ok (.iconst 0, 1) := by decide +kernel
theorem dX12_askMore_114 : decode cX12_askMore 114 = .ok (.istore 5, 2) := by decide +kernel
theorem dX12_askMore_116 : decode cX12_askMore 116 = .ok (.iload 5, 2) := by decide +kernel
theorem dX12_askMore_118 : decode cX12_askMore 118 = .ok (.iconst 4, 1) := by decide +kernel
theorem dX12_askMore_119 : decode cX12_askMore 119 = .ok (.if_icmp .ge 32, 3) := by decide +kernel
theorem dX12_askMore_122 : decode cX12_askMore 122 = .ok (.aload_n 0, 1) := by decide +kernel
theorem dX12_askMore_123 : decode cX12_askMore 123 = .ok (.getfield 56, 3) := by decide +kernel
theorem dX12_askMore_126 : decode cX12_askMore 126 = .ok (.iconst 4, 1) := by decide +kernel
theorem dX12_askMore_127 : decode cX12_askMore 127 = .ok (.iload_n 3, 1) := by decide +kernel
theorem dX12_askMore_128 : decode cX12_askMore 128 = .ok (.imul, 1) := by decide +kernel
theorem dX12_askMore_129 : decode cX12_askMore 129 = .ok (.iload 5, 2) := by decide +kernel
theorem dX12_askMore_131 : decode cX12_askMore 131 = .ok (.iadd, 1) := by decide +kernel
theorem dX12_askMore_132 : decode cX12_askMore 132 = .ok (.aload_n 0, 1) := by decide +kernel
theorem dX12_askMore_133 : decode cX12_askMore 133 = .ok (.getfield 32, 3) := by decide +kernel
theorem dX12_askMore_136 : decode cX12_askMore 136 = .ok (.iload_n 2, 1) := by decide +kernel
theorem dX12_askMore_137 : decode cX12_askMore 137 = .ok (.bipush 8, 2) := by decide +kernel
theorem dX12_askMore_139 : decode cX12_askMore 139 = .ok (.iadd, 1) := by decide +kernel
theorem dX12_askMore_140 : decode cX12_askMore 140 = .ok (.iload 5, 2) := by decide +kernel
theorem dX12_askMore_142 : decode cX12_askMore 142 = .ok (.iadd, 1) := by decide +kernel
theorem dX12_askMore_143 : decode cX12_askMore 143 = .ok (.iaload, 1) := by decide +kernel
theorem dX12_askMore_144 : decode cX12_askMore 144 = .ok (.iastore, 1) := by decide +kernel
theorem dX12_askMore_145 : decode cX12_askMore 145 = .ok (.iinc 5 1, 3) := by decide +kernel
theorem dX12_askMore_148 : decode cX12_askMore 148 = .ok (.goto (-32), 3) := by decide +kernel
theorem dX12_askMore_151 : decode cX12_askMore 151 = .ok (.aload_n 0, 1) := by decide +kernel
theorem dX12_askMore_152 : decode cX12_askMore 152 = .ok (.getfield 7, 3) := by decide +kernel
theorem dX12_askMore_155 : decode cX12_askMore 155 = .ok (.iconst 0, 1) := by decide +kernel
theorem dX12_askMore_156 : decode cX12_askMore 156 = .ok (.dup2, 1) := by decide +kernel
theorem dX12_askMore_157 : decode cX12_askMore 157 = .ok (.iaload, 1) := by decide +kernel
theorem dX12_askMore_158 : decode cX12_askMore 158 = .ok (.iconst 1, 1) := by decide +kernel
theorem dX12_askMore_159 : decode cX12_askMore 159 = .ok (.iadd, 1) := by decide +kernel
theorem dX12_askMore_160 : decode cX12_askMore 160 = .ok (.iastore, 1) := by decide +kernel
theorem dX12_askMore_161 : decode cX12_askMore 161 = .ok (.iconst 1, 1) := by decide +kernel
theorem dX12_askMore_162 : decode cX12_askMore 162 = .ok (.ireturn, 1) := by decide +kernel
theorem dX12_isPlayed_0 : decode cX12_isPlayed 0 = .ok (.aload_n 0, 1) := by decide +kernel
theorem dX12_isPlayed_1 : decode cX12_isPlayed 1 = .ok (.getfield 32, 3) := by decide +kernel
theorem dX12_isPlayed_4 : decode cX12_isPlayed 4 = .ok (.iload_n 2, 1) := by decide +kernel
theorem dX12_isPlayed_5 : decode cX12_isPlayed 5 = .ok (.iaload, 1) := by decide +kernel
theorem dX12_isPlayed_6 : decode cX12_isPlayed 6 = .ok (.tableswitch 248 0 7 #[46, 53, 74, 111, 140, 153, 206, 219], 46) := by decide +kernel
theorem dX12_isPlayed_52 : decode cX12_isPlayed 52 = .ok (.aload_n 0, 1) := by decide +kernel
theorem dX12_isPlayed_53 : decode cX12_isPlayed 53 = .ok (.iload_n 1, 1) := by decide +kernel
theorem dX12_isPlayed_54 : decode cX12_isPlayed 54 = .ok (.iload_n 2, 1) := by decide +kernel
theorem dX12_isPlayed_55 : decode cX12_isPlayed 55 = .ok (.invokevirtual 336, 3) := by decide +kernel
theorem dX12_isPlayed_58 : decode cX12_isPlayed 58 = .ok (.ireturn, 1) := by decide +kernel
theorem dX12_isPlayed_59 : decode cX12_isPlayed 59 = .ok (.aload_n 0, 1) := by decide +kernel
theorem dX12_isPlayed_60 : decode cX12_isPlayed 60 = .ok (.aload_n 0, 1) := by decide +kernel
theorem dX12_isPlayed_61 : decode cX12_isPlayed 61 = .ok (.getfield 32, 3) := by decide +kernel
theorem dX12_isPlayed_64 : decode cX12_isPlayed 64 = .ok (.iload_n 2, 1) := by decide +kernel
theorem dX12_isPlayed_65 : decode cX12_isPlayed 65 = .ok (.iconst 1, 1) := by decide +kernel
theorem dX12_isPlayed_66 : decode cX12_isPlayed 66 = .ok (.iadd, 1) := by decide +kernel
theorem dX12_isPlayed_67 : decode cX12_isPlayed 67 = .ok (.iaload, 1) := by decide +kernel
theorem dX12_isPlayed_68 : decode cX12_isPlayed 68 = .ok (.aload_n 0, 1) := by decide +kernel
theorem dX12_isPlayed_69 : decode cX12_isPlayed 69 = .ok (.getfield 32, 3) := by decide +kernel
theorem dX12_isPlayed_72 : decode cX12_isPlayed 72 = .ok (.iload_n 2, 1) := by decide +kernel
theorem dX12_isPlayed_73 : decode cX12_isPlayed 73 = .ok (.iconst 2, 1) := by decide +kernel
theorem dX12_isPlayed_74 : decode cX12_isPlayed 74 = .ok (.iadd, 1) := by decide +kernel
theorem dX12_isPlayed_75 : decode cX12_isPlayed 75 = .ok (.iaload, 1) := by decide +kernel
theorem dX12_isPlayed_76 : decode cX12_isPlayed 76 = .ok (.invokevirtual 339, 3) := by decide +kernel
theorem dX12_isPlayed_79 : decode cX12_isPlayed 79 = .ok (.ireturn, 1) := by decide +kernel
theorem dX12_isPlayed_80 : decode cX12_isPlayed 80 = .ok (.aload_n 0, 1) := by decide +kernel
theorem dX12_isPlayed_81 : decode cX12_isPlayed 81 = .ok (.aload_n 0, 1) := by decide +kernel
theorem dX12_isPlayed_82 : decode cX12_isPlayed 82 = .ok (.getfield 32, 3) := by decide +kernel
theorem dX12_isPlayed_85 : decode cX12_isPlayed 85 = .ok (.iload_n 2, 1) := by decide +kernel
theorem dX12_isPlayed_86 : decode cX12_isPlayed 86 = .ok (.iconst 1, 1) := by decide +kernel
theorem dX12_isPlayed_87 : decode cX12_isPlayed 87 = .ok (.iadd, 1) := by decide +kernel
theorem dX12_isPlayed_88 : decode cX12_isPlayed 88 = .ok (.iaload, 1) := by decide +kernel
theorem dX12_isPlayed_89 : decode cX12_isPlayed 89 = .ok (.aload_n 0, 1) := by decide +kernel
theorem dX12_isPlayed_90 : decode cX12_isPlayed 90 = .ok (.getfield 32, 3) := by decide +kernel
theorem dX12_isPlayed_93 : decode cX12_isPlayed 93 = .ok (.iload_n 2, 1) := by decide +kernel
theorem dX12_isPlayed_94 : decode cX12_isPlayed 94 = .ok (.iconst 2, 1) := by decide +kernel
theorem dX12_isPlayed_95 : decode cX12_isPlayed 95 = .ok (.iadd, 1) := by decide +kernel
theorem dX12_isPlayed_96 : decode cX12_isPlayed 96 = .ok (.iaload, 1) := by decide +kernel
theorem dX12_isPlayed_97 : decode cX12_isPlayed 97 = .ok (.aload_n 0, 1) := by decide +kernel
theorem dX12_isPlayed_98 : decode cX12_isPlayed 98 = .ok (.getfield 32, 3) := by decide +kernel
theorem dX12_isPlayed_101 : decode cX12_isPlayed 101 = .ok (.iload_n 2, 1) := by decide +kernel
theorem dX12_isPlayed_102 : decode cX12_isPlayed 102 = .ok (.iconst 3, 1) := by decide +kernel
theorem dX12_isPlayed_103 : decode cX12_isPlayed 103 = .ok (.iadd, 1) := by decide +kernel
theorem dX12_isPlayed_104 : decode cX12_isPlayed 104 = .ok (.iaload, 1) := by decide +kernel
theorem dX12_isPlayed_105 : decode cX12_isPlayed 105 = .ok (.invokevirtual 342, 3) := by decide +kernel
theorem dX12_isPlayed_108 : decode cX12_isPlayed 108 = .ok (.ifCond .lt 7, 3) := by decide +kernel
theorem dX12_isPlayed_111 : decode cX12_isPlayed 111 = .ok (.iconst 1, 1) := by decide +kernel
theorem dX12_isPlayed_112 : decode cX12_isPlayed 112 = .ok (.goto 4, 3) := by decide +kernel
theorem dX12_isPlayed_115 : decode cX12_isPlayed 115 = .ok (.iconst 0, 1) := by decide +kernel
theorem dX12_isPlayed_116 : decode cX12_isPlayed 116 = .ok (.ireturn, 1) := by decide +kernel
theorem dX12_isPlayed_117 : decode cX12_isPlayed 117 = .ok (.aload_n 0, 1) := by decide +kernel
theorem dX12_isPlayed_118 : decode cX12_isPlayed 118 = .ok (.aload_n 0, 1) := by decide +kernel
theorem dX12_isPlayed_119 : decode cX12_isPlayed 119 = .ok (.getfield 32, 3) := by decide +kernel
theorem dX12_isPlayed_122 : decode cX12_isPlayed 122 = .ok (.iload_n 2, 1) := by decide +kernel
theorem dX12_isPlayed_123 : decode cX12_isPlayed 123 = .ok (.iconst 1, 1) := by decide +kernel
theorem dX12_isPlayed_124 : decode cX12_isPlayed 124 = .ok (.iadd, 1) := by decide +kernel
theorem dX12_isPlayed_125 : decode cX12_isPlayed 125 = .ok (.iaload, 1) := by decide +kernel
theorem dX12_isPlayed_126 : decode cX12_isPlayed 126 = .ok (.aload_n 0, 1) := by decide +kernel
theorem dX12_isPlayed_127 : decode cX12_isPlayed 127 = .ok (.getfield 32, 3) := by decide +kernel
theorem dX12_isPlayed_130 : decode cX12_isPlayed 130 = .ok (.iload_n 2, 1) := by decide +kernel
theorem dX12_isPlayed_131 : decode cX12_isPlayed 131 = .ok (.iconst 2, 1) := by decide +kernel
theorem dX12_isPlayed_132 : decode cX12_isPlayed 132 = .ok (.iadd, 1) := by decide +kernel
theorem dX12_isPlayed_133 : decode cX12_isPlayed 133 = .ok (.iaload, 1) := by decide +kernel
theorem dX12_isPlayed_134 : decode cX12_isPlayed 134 = .ok (.aload_n 0, 1) := by decide +kernel
theorem dX12_isPlayed_135 : decode cX12_isPlayed 135 = .ok (.getfield 32, 3) := by decide +kernel
theorem dX12_isPlayed_138 : decode cX12_isPlayed 138 = .ok (.iload_n 2, 1) := by decide +kernel
theorem dX12_isPlayed_139 : decode cX12_isPlayed 139 = .ok (.iconst 3, 1) := by decide +kernel
theorem dX12_isPlayed_140 : decode cX12_isPlayed 140 = .ok (.iadd, 1) := by decide +kernel
theorem dX12_isPlayed_141 : decode cX12_isPlayed 141 = .ok (.iaload, 1) := by decide +kernel
theorem dX12_isPlayed_142 : decode cX12_isPlayed 142 = .ok (.invokevirtual 345, 3) := by decide +kernel
theorem dX12_isPlayed_145 : decode cX12_isPlayed 145 = .ok (.ireturn, 1) := by decide +kernel
theorem dX12_isPlayed_146 : decode cX12_isPlayed 146 = .ok (.aload_n 0, 1) := by decide +kernel
theorem dX12_isPlayed_147 : decode cX12_isPlayed 147 = .ok (.aload_n 0, 1) := by decide +kernel
theorem dX12_isPlayed_148 : decode cX12_isPlayed 148 = .ok (.getfield 32, 3) := by decide +kernel
theorem dX12_isPlayed_151 : decode cX12_isPlayed 151 = .ok (.iload_n 2, 1) := by decide +kernel
theorem dX12_isPlayed_152 : decode cX12_isPlayed 152 = .ok (.iconst 1, 1) := by decide +kernel
theorem dX12_isPlayed_153 : decode cX12_isPlayed 153 = .ok (.iadd, 1) := by decide +kernel
theorem dX12_isPlayed_154 : decode cX12_isPlayed 154 = .ok (.iaload, 1) := by decide +kernel
theorem dX12_isPlayed_155 : decode cX12_isPlayed 155 = .ok (.invokevirtual 348, 3) := by decide +kernel
theorem dX12_isPlayed_158 : decode cX12_isPlayed 158 = .ok (.ireturn, 1) := by decide +kernel
theorem dX12_isPlayed_159 : decode cX12_isPlayed 159 = .ok (.aload_n 0, 1) := by decide +kernel
theorem dX12_isPlayed_160 : decode cX12_isPlayed 160 = .ok (.aload_n 0, 1) := by decide +kernel
theorem dX12_isPlayed_161 : decode cX12_isPlayed 161 = .ok (.getfield 32, 3) := by decide +kernel
theorem dX12_isPlayed_164 : decode cX12_isPlayed 164 = .ok (.iload_n 2, 1) := by decide +kernel
theorem dX12_isPlayed_165 : decode cX12_isPlayed 165 = .ok (.iconst 1, 1) := by decide +kernel
theorem dX12_isPlayed_166 : decode cX12_isPlayed 166 = .ok (.iadd, 1) := by decide +kernel
theorem dX12_isPlayed_167 : decode cX12_isPlayed 167 = .ok (.iaload, 1) := by decide +kernel
theorem dX12_isPlayed_168 : decode cX12_isPlayed 168 = .ok (.aload_n 0, 1) := by decide +kernel
theorem dX12_isPlayed_169 : decode cX12_isPlayed 169 = .ok (.getfield 32, 3) := by decide +kernel
theorem dX12_isPlayed_172 : decode cX12_isPlayed 172 = .ok (.iload_n 2, 1) := by decide +kernel
theorem dX12_isPlayed_173 : decode cX12_isPlayed 173 = .ok (.iconst 2, 1) := by decide +kernel
theorem dX12_isPlayed_174 : decode cX12_isPlayed 174 = .ok (.iadd, 1) := by decide +kernel
theorem dX12_isPlayed_175 : decode cX12_isPlayed 175 = .ok (.iaload, 1) := by decide +kernel
theorem dX12_isPlayed_176 : decode cX12_isPlayed 176 = .ok (.aload_n 0, 1) := by decide +kernel
theorem dX12_isPlayed_177 : decode cX12_isPlayed 177 = .ok (.getfield 32, 3) := by decide +kernel
theorem dX12_isPlayed_180 : decode cX12_isPlayed 180 = .ok (.iload_n 2, 1) := by decide +kernel
theorem dX12_isPlayed_181 : decode cX12_isPlayed 181 = .ok (.iconst 3, 1) := by decide +kernel
theorem dX12_isPlayed_182 : decode cX12_isPlayed 182 = .ok (.iadd, 1) := by decide +kernel
theorem dX12_isPlayed_183 : decode cX12_isPlayed 183 = .ok (.iaload, 1) := by decide +kernel
theorem dX12_isPlayed_184 : decode cX12_isPlayed 184 = .ok (.aload_n 0, 1) := by decide +kernel
theorem dX12_isPlayed_185 : decode cX12_isPlayed 185 = .ok (.getfield 32, 3) := by decide +kernel
theorem dX12_isPlayed_188 : decode cX12_isPlayed 188 = .ok (.iload_n 2, 1) := by decide +kernel
theorem dX12_isPlayed_189 : decode cX12_isPlayed 189 = .ok (.iconst 4, 1) := by decide +kernel
theorem dX12_isPlayed_190 : decode cX12_isPlayed 190 = .ok (.iadd, 1) := by decide +kernel
theorem dX12_isPlayed_191 : decode cX12_isPlayed 191 = .ok (.iaload, 1) := by decide +kernel
theorem dX12_isPlayed_192 : decode cX12_isPlayed 192 = .ok (.aload_n 0, 1) := by decide +kernel
theorem dX12_isPlayed_193 : decode cX12_isPlayed 193 = .ok (.getfield 32, 3) := by decide +kernel
theorem dX12_isPlayed_196 : decode cX12_isPlayed 196 = .ok (.iload_n 2, 1) := by decide +kernel
theorem dX12_isPlayed_197 : decode cX12_isPlayed 197 = .ok (.iconst 5, 1) := by decide +kernel
theorem dX12_isPlayed_198 : decode cX12_isPlayed 198 = .ok (.iadd, 1) := by decide +kernel
theorem dX12_isPlayed_199 : decode cX12_isPlayed 199 = .ok (.iaload, 1) := by decide +kernel
theorem dX12_isPlayed_200 : decode cX12_isPlayed 200 = .ok (.invokevirtual 351, 3) := by decide +kernel
theorem dX12_isPlayed_203 : decode cX12_isPlayed 203 = .ok (.ifCond .lt 7, 3) := by decide +kernel
theorem dX12_isPlayed_206 : decode cX12_isPlayed 206 = .ok (.iconst 1, 1) := by decide +kernel
theorem dX12_isPlayed_207 : decode cX12_isPlayed 207 = .ok (.goto 4, 3) := by decide +kernel
theorem dX12_isPlayed_210 : decode cX12_isPlayed 210 = .ok (.iconst 0, 1) := by decide +kernel
theorem dX12_isPlayed_211 : decode cX12_isPlayed 211 = .ok (.ireturn, 1) := by decide +kernel
theorem dX12_isPlayed_212 : decode cX12_isPlayed 212 = .ok (.aload_n 0, 1) := by decide +kernel
theorem dX12_isPlayed_213 : decode cX12_isPlayed 213 = .ok (.aload_n 0, 1) := by decide +kernel
theorem dX12_isPlayed_214 : decode cX12_isPlayed 214 = .ok (.getfield 32, 3) := by decide +kernel
theorem dX12_isPlayed_217 : decode cX12_isPlayed 217 = .ok (.iload_n 2, 1) := by decide +kernel
theorem dX12_isPlayed_218 : decode cX12_isPlayed 218 = .ok (.iconst 1, 1) := by decide +kernel
theorem dX12_isPlayed_219 : decode cX12_isPlayed 219 = .ok (.iadd, 1) := by decide +kernel
theorem dX12_isPlayed_220 : decode cX12_isPlayed 220 = .ok (.iaload, 1) := by decide +kernel
theorem dX12_isPlayed_221 : decode cX12_isPlayed 221 = .ok (.invokevirtual 355, 3) := by decide +kernel
theorem dX12_isPlayed_224 : decode cX12_isPlayed 224 = .ok (.ireturn, 1) := by decide +kernel
theorem dX12_isPlayed_225 : decode cX12_isPlayed 225 = .ok (.aload_n 0, 1) := by decide +kernel
theorem dX12_isPlayed_226 : decode cX12_isPlayed 226 = .ok (.aload_n 0, 1) := by decide +kernel
theorem dX12_isPlayed_227 : decode cX12_isPlayed 227 = .ok (.getfield 32, 3) := by decide +kernel
theorem dX12_isPlayed_230 : decode cX12_isPlayed 230 = .ok (.iload_n 2, 1) := by decide +kernel
theorem dX12_isPlayed_231 : decode cX12_isPlayed 231 = .ok (.iconst 1, 1) := by decide +kernel
theorem dX12_isPlayed_232 : decode cX12_isPlayed 232 = .ok (.iadd, 1) := by decide +kernel
theorem dX12_isPlayed_233 : decode cX12_isPlayed 233 = .ok (.iaload, 1) := by decide +kernel
theorem dX12_isPlayed_234 : decode cX12_isPlayed 234 = .ok (.aload_n 0, 1) := by decide +kernel
theorem dX12_isPlayed_235 : decode cX12_isPlayed 235 = .ok (.getfield 32, 3) := by decide +kernel
theorem dX12_isPlayed_238 : decode cX12_isPlayed 238 = .ok (.iload_n 2, 1) := by decide +kernel
theorem dX12_isPlayed_239 : decode cX12_isPlayed 239 = .ok (.iconst 2, 1) := by decide +kernel
theorem dX12_isPlayed_240 : decode cX12_isPlayed 240 = .ok (.iadd, 1) := by decide +kernel
theorem dX12_isPlayed_241 : decode cX12_isPlayed 241 = .ok (.iaload, 1) := by decide +kernel
theorem dX12_isPlayed_242 : decode cX12_isPlayed 242 = .ok (.invokevirtual 358, 3) := by decide +kernel
theorem dX12_isPlayed_245 : decode cX12_isPlayed 245 = .ok (.ifCond .lt 7, 3) := by decide +kernel
theorem dX12_isPlayed_248 : decode cX12_isPlayed 248 = .ok (.iconst 1, 1) := by decide +kernel
theorem dX12_isPlayed_249 : decode cX12_isPlayed 249 = .ok (.goto 4, 3) := by decide +kernel
theorem dX12_isPlayed_252 : decode cX12_isPlayed 252 = .ok (.iconst 0, 1) := by decide +kernel
theorem dX12_isPlayed_253 : decode cX12_isPlayed 253 = .ok (.ireturn, 1) := by decide +kernel
theorem dX12_isPlayed_254 : decode cX12_isPlayed 254 = .ok (.aload_n 0, 1) := by decide +kernel
theorem dX12_isPlayed_255 : decode cX12_isPlayed 255 = .ok (.iconst (-1), 1) := by decide +kernel
theorem dX12_isPlayed_256 : decode cX12_isPlayed 256 = .ok (.invokevirtual 361, 3) := by decide +kernel
theorem dX12_isPlayed_259 : decode cX12_isPlayed 259 = .ok (.ifCond .lt 7, 3) := by decide +kernel
theorem dX12_isPlayed_262 : decode cX12_isPlayed 262 = .ok (.iconst 1, 1) := by decide +kernel
theorem dX12_isPlayed_263 : decode cX12_isPlayed 263 = .ok (.goto 4, 3) := by decide +kernel
theorem dX12_isPlayed_266 : decode cX12_isPlayed 266 = .ok (.iconst 0, 1) := by decide +kernel
theorem dX12_isPlayed_267 : decode cX12_isPlayed 267 = .ok (.ireturn, 1) := by decide +kernel
theorem dX12_played_0 : decode cX12_played 0 = .ok (.iload_n 1, 1) := by decide +kernel
theorem dX12_played_1 : decode cX12_played 1 = .ok (.iconst 0, 1) := by decide +kernel
theorem dX12_played_2 : decode cX12_played 2 = .ok (.aload_n 0, 1) := by decide +kernel
theorem dX12_played_3 : decode cX12_played 3 = .ok (.getfield 7, 3) := by decide +kernel
theorem dX12_played_6 : decode cX12_played 6 = .ok (.bipush 6, 2) := by decide +kernel
theorem dX12_played_8 : decode cX12_played 8 = .ok (.iaload, 1) := by decide +kernel
theorem dX12_played_9 : decode cX12_played 9 = .ok (.iconst 1, 1) := by decide +kernel
theorem dX12_played_10 : decode cX12_played 10 = .ok (.isub, 1) := by decide +kernel
theorem dX12_played_11 : decode cX12_played 11 = .ok (.invokestatic 126, 3) := by decide +kernel
theorem dX12_played_14 : decode cX12_played 14 = .ok (.ifCond .ne 6, 3) := by decide +kernel
theorem dX12_played_17 : decode cX12_played 17 = .ok (.bipush (-2), 2) := by decide +kernel
theorem dX12_played_19 : decode cX12_played 19 = .ok (.ireturn, 1) := by decide +kernel
theorem dX12_played_20 : decode cX12_played 20 = .ok (.iconst 0, 1) := by decide +kernel
theorem dX12_played_21 : decode cX12_played 21 = .ok (.istore_n 2, 1) := by decide +kernel
theorem dX12_played_22 : decode cX12_played 22 = .ok (.iload_n 2, 1) := by decide +kernel
theorem dX12_played_23 : decode cX12_played 23 = .ok (.aload_n 0, 1) := by decide +kernel
theorem dX12_played_24 : decode cX12_played 24 = .ok (.getfield 32, 3) := by decide +kernel
theorem dX12_played_27 : decode cX12_played 27 = .ok (.sipush 889, 3) := by decide +kernel
theorem dX12_played_30 : decode cX12_played 30 = .ok (.iload_n 1, 1) := by decide +kernel
theorem dX12_played_31 : decode cX12_played 31 = .ok (.imul, 1) := by decide +kernel
theorem dX12_played_32 : decode cX12_played 32 = .ok (.iaload, 1) := by decide +kernel
theorem dX12_played_33 : decode cX12_played 33 = .ok (.if_icmp .ge 31, 3) := by decide +kernel
theorem dX12_played_36 : decode cX12_played 36 = .ok (.aload_n 0, 1) := by decide +kernel
theorem dX12_played_37 : decode cX12_played 37 = .ok (.iload_n 1, 1) := by decide +kernel
theorem dX12_played_38 : decode cX12_played 38 = .ok (.sipush 889, 3) := by decide +kernel
theorem dX12_played_41 : decode cX12_played 41 = .ok (.iload_n 1, 1) := by decide +kernel
theorem dX12_played_42 : decode cX12_played 42 = .ok (.imul, 1) := by decide +kernel
theorem dX12_played_43 : decode cX12_played 43 = .ok (.iconst 1, 1) := by decide +kernel
theorem dX12_played_44 : decode cX12_played 44 = .ok (.iadd, 1) := by decide +kernel
theorem dX12_played_45 : decode cX12_played 45 = .ok (.bipush 12, 2) := by decide +kernel
theorem dX12_played_47 : decode cX12_played 47 = .ok (.iload_n 2, 1) := by decide +kernel
theorem dX12_played_48 : decode cX12_played 48 = .ok (.imul, 1) := by decide +kernel
theorem dX12_played_49 : decode cX12_played 49 = .ok (.iadd, 1) := by decide +kernel
theorem dX12_played_50 : decode cX12_played 50 = .ok (.invokevirtual 364, 3) := by decide +kernel
theorem dX12_played_53 : decode cX12_played 53 = .ok (.ifCond .ne 5, 3) := by decide +kernel
theorem dX12_played_56 : decode cX12_played 56 = .ok (.iload_n 2, 1) := by decide +kernel
theorem dX12_played_57 : decode cX12_played 57 = .ok (.ireturn, 1) := by decide +kernel
theorem dX12_played_58 : decode cX12_played 58 = .ok (.iinc 2 1, 3) := by decide +kernel
theorem dX12_played_61 : decode cX12_played 61 = .ok (.goto (-39), 3) := by decide +kernel
theorem dX12_played_64 : decode cX12_played 64 = .ok (.iconst (-1), 1) := by decide +kernel
theorem dX12_played_65 : decode cX12_played 65 = .ok (.ireturn, 1) := by decide +kernel
theorem dX12_equalities_0 : decode cX12_equalities 0 = .ok (.iload_n 1, 1) := by decide +kernel
theorem dX12_equalities_1 : decode cX12_equalities 1 = .ok (.iconst 0, 1) := by decide +kernel
theorem dX12_equalities_2 : decode cX12_equalities 2 = .ok (.sipush 255, 3) := by decide +kernel
theorem dX12_equalities_5 : decode cX12_equalities 5 = .ok (.invokestatic 126, 3) := by decide +kernel
theorem dX12_equalities_8 : decode cX12_equalities 8 = .ok (.ifCond .ne 5, 3) := by decide +kernel
theorem dX12_equalities_11 : decode cX12_equalities 11 = .ok (.iconst 0, 1) := by decide +kernel
theorem dX12_equalities_12 : decode cX12_equalities 12 = .ok (.ireturn, 1) := by decide +kernel
theorem dX12_equalities_13 : decode cX12_equalities 13 = .ok (.aload_n 0, 1) := by decide +kernel
theorem dX12_equalities_14 : decode cX12_equalities 14 = .ok (.getfield 7, 3) := by decide +kernel
theorem dX12_equalities_17 : decode cX12_equalities 17 = .ok (.iconst 4, 1) := by decide +kernel
theorem dX12_equalities_18 : decode cX12_equalities 18 = .ok (.iload_n 1, 1) := by decide +kernel
theorem dX12_equalities_19 : decode cX12_equalities 19 = .ok (.iastore, 1) := by decide +kernel
theorem dX12_equalities_20 : decode cX12_equalities 20 = .ok (.iconst 1, 1) := by decide +kernel
theorem dX12_equalities_21 : decode cX12_equalities 21 = .ok (.ireturn, 1) := by decide +kernel
theorem dX12_pupil_0 : decode cX12_pupil 0 = .ok (.iload_n 1, 1) := by decide +kernel
theorem dX12_pupil_1 : decode cX12_pupil 1 = .ok (.iconst 1, 1) := by decide +kernel
theorem dX12_pupil_2 : decode cX12_pupil 2 = .ok (.bipush 99, 2) := by decide +kernel
theorem dX12_pupil_4 : decode cX12_pupil 4 = .ok (.invokestatic 126, 3) := by decide +kernel
theorem dX12_pupil_7 : decode cX12_pupil 7 = .ok (.ifCond .eq 57, 3) := by decide +kernel
theorem dX12_pupil_10 : decode cX12_pupil 10 = .ok (.iload_n 2, 1) := by decide +kernel
theorem dX12_pupil_11 : decode cX12_pupil 11 = .ok (.iconst 0, 1) := by decide +kernel
theorem dX12_pupil_12 : decode cX12_pupil 12 = .ok (.sipush 32767, 3) := by decide +kernel
theorem dX12_pupil_15 : decode cX12_pupil 15 = .ok (.invokestatic 126, 3) := by decide +kernel
theorem dX12_pupil_18 : decode cX12_pupil 18 = .ok (.ifCond .eq 46, 3) := by decide +kernel
theorem dX12_pupil_21 : decode cX12_pupil 21 = .ok (.iload_n 3, 1) := by decide +kernel
theorem dX12_pupil_22 : decode cX12_pupil 22 = .ok (.iconst 0, 1) := by decide +kernel
theorem dX12_pupil_23 : decode cX12_pupil 23 = .ok (.bipush 99, 2) := by decide +kernel
theorem dX12_pupil_25 : decode cX12_pupil 25 = .ok (.invokestatic 126, 3) := by decide +kernel
theorem dX12_pupil_28 : decode cX12_pupil 28 = .ok (.ifCond .eq 36, 3) := by decide +kernel
theorem dX12_pupil_31 : decode cX12_pupil 31 = .ok (.iload 4, 2) := by decide +kernel
theorem dX12_pupil_33 : decode cX12_pupil 33 = .ok (.iconst 0, 1) := by decide +kernel
theorem dX12_pupil_34 : decode cX12_pupil 34 = .ok (.bipush 8, 2) := by decide +kernel
theorem dX12_pupil_36 : decode cX12_pupil 36 = .ok (.invokestatic 126, 3) := by decide +kernel
theorem dX12_pupil_39 : decode cX12_pupil 39 = .ok (.ifCond .eq 25, 3) := by decide +kernel
theorem dX12_pupil_42 : decode cX12_pupil 42 = .ok (.iload 5, 2) := by decide +kernel
theorem dX12_pupil_44 : decode cX12_pupil 44 = .ok (.iconst 1, 1) := by decide +kernel
theorem dX12_pupil_45 : decode cX12_pupil 45 = .ok (.bipush 16, 2) := by decide +kernel
theorem dX12_pupil_47 : decode cX12_pupil 47 = .ok (.invokestatic 126, 3) := by decide +kernel
theorem dX12_pupil_50 : decode cX12_pupil 50 = .ok (.ifCond .eq 14, 3) := by decide +kernel
theorem dX12_pupil_53 : decode cX12_pupil 53 = .ok (.aload_n 0, 1) := by decide +kernel
theorem dX12_pupil_54 : decode cX12_pupil 54 = .ok (.getfield 7, 3) := by decide +kernel
theorem dX12_pupil_57 : decode cX12_pupil 57 = .ok (.iconst 2, 1) := by decide +kernel
theorem dX12_pupil_58 : decode cX12_pupil 58 = .ok (.iaload, 1) := by decide +kernel
theorem dX12_pupil_59 : decode cX12_pupil 59 = .ok (.bipush 6, 2) := by decide +kernel
theorem dX12_pupil_61 : decode cX12_pupil 61 = .ok (.if_icmp .ne 5, 3) := by decide +kernel
theorem dX12_pupil_64 : decode cX12_pupil 64 = .ok (.iconst (-1), 1) := by decide +kernel
theorem dX12_pupil_65 : decode cX12_pupil 65 = .ok (.ireturn, 1) := by decide +kernel
theorem dX12_pupil_66 : decode cX12_pupil 66 = .ok (.bipush 74, 2) := by decide +kernel
theorem dX12_pupil_68 : decode cX12_pupil 68 = .ok (.iconst 5, 1) := by decide +kernel
theorem dX12_pupil_69 : decode cX12_pupil 69 = .ok (.aload_n 0, 1) := by decide +kernel
theorem dX12_pupil_70 : decode cX12_pupil 70 = .ok (.getfield 7, 3) := by decide +kernel
theorem dX12_pupil_73 : decode cX12_pupil 73 = .ok (.iconst 2, 1) := by decide +kernel
theorem dX12_pupil_74 : decode cX12_pupil 74 = .ok (.iaload, 1) := by decide +kernel
theorem dX12_pupil_75 : decode cX12_pupil 75 = .ok (.imul, 1) := by decide +kernel
theorem dX12_pupil_76 : decode cX12_pupil 76 = .ok (.iadd, 1) := by decide +kernel
theorem dX12_pupil_77 : decode cX12_pupil 77 = .ok (.istore 6, 2) := by decide +kernel
theorem dX12_pupil_79 : decode cX12_pupil 79 = .ok (.aload_n 0, 1) := by decide +kernel
theorem dX12_pupil_80 : decode cX12_pupil 80 = .ok (.getfield 7, 3) := by decide +kernel
theorem dX12_pupil_83 : decode cX12_pupil 83 = .ok (.iload 6, 2) := by decide +kernel
theorem dX12_pupil_85 : decode cX12_pupil 85 = .ok (.iload_n 1, 1) := by decide +kernel
theorem dX12_pupil_86 : decode cX12_pupil 86 = .ok (.iastore, 1) := by decide +kernel
theorem dX12_pupil_87 : decode cX12_pupil 87 = .ok (.aload_n 0, 1) := by decide +kernel
theorem dX12_pupil_88 : decode cX12_pupil 88 = .ok (.getfield 7, 3) := by decide +kernel
theorem dX12_pupil_91 : decode cX12_pupil 91 = .ok (.iload 6, 2) := by decide +kernel
theorem dX12_pupil_93 : decode cX12_pupil 93 = .ok (.iconst 1, 1) := by decide +kernel
theorem dX12_pupil_94 : decode cX12_pupil 94 = .ok (.iadd, 1) := by decide +kernel
theorem dX12_pupil_95 : decode cX12_pupil 95 = .ok (.iload_n 2, 1) := by decide +kernel
theorem dX12_pupil_96 : decode cX12_pupil 96 = .ok (.iastore, 1) := by decide +kernel
theorem dX12_pupil_97 : decode cX12_pupil 97 = .ok (.aload_n 0, 1) := by decide +kernel
theorem dX12_pupil_98 : decode cX12_pupil 98 = .ok (.getfield 7, 3) := by decide +kernel
theorem dX12_pupil_101 : decode cX12_pupil 101 = .ok (.iload 6, 2) := by decide +kernel
theorem dX12_pupil_103 : decode cX12_pupil 103 = .ok (.iconst 2, 1) := by decide +kernel
theorem dX12_pupil_104 : decode cX12_pupil 104 = .ok (.iadd, 1) := by decide +kernel
theorem dX12_pupil_105 : decode cX12_pupil 105 = .ok (.iload_n 3, 1) := by decide +kernel
theorem dX12_pupil_106 : decode cX12_pupil 106 = .ok (.iastore, 1) := by decide +kernel
theorem dX12_pupil_107 : decode cX12_pupil 107 = .ok (.aload_n 0, 1) := by decide +kernel
theorem dX12_pupil_108 : decode cX12_pupil 108 = .ok (.getfield 7, 3) := by decide +kernel
theorem dX12_pupil_111 : decode cX12_pupil 111 = .ok (.iload 6, 2) := by decide +kernel
theorem dX12_pupil_113 : decode cX12_pupil 113 = .ok (.iconst 3, 1) := by decide +kernel
theorem dX12_pupil_114 : decode cX12_pupil 114 = .ok (.iadd, 1) := by decide +kernel
theorem dX12_pupil_115 : decode cX12_pupil 115 = .ok (.iload 4, 2) := by decide +kernel
theorem dX12_pupil_117 : decode cX12_pupil 117 = .ok (.iastore, 1) := by decide +kernel
theorem dX12_pupil_118 : decode cX12_pupil 118 = .ok (.aload_n 0, 1) := by decide +kernel
theorem dX12_pupil_119 : decode cX12_pupil 119 = .ok (.getfield 7, 3) := by decide +kernel
theorem dX12_pupil_122 : decode cX12_pupil 122 = .ok (.iload 6, 2) := by decide +kernel
theorem dX12_pupil_124 : decode cX12_pupil 124 = .ok (.iconst 4, 1) := by decide +kernel
theorem dX12_pupil_125 : decode cX12_pupil 125 = .ok (.iadd, 1) := by decide +kernel
theorem dX12_pupil_126 : decode cX12_pupil 126 = .ok (.iload 5, 2) := by decide +kernel
theorem dX12_pupil_128 : decode cX12_pupil 128 = .ok (.iastore, 1) := by decide +kernel
theorem dX12_pupil_129 : decode cX12_pupil 129 = .ok (.aload_n 0, 1) := by decide +kernel
theorem dX12_pupil_130 : decode cX12_pupil 130 = .ok (.getfield 7, 3) := by decide +kernel
theorem dX12_pupil_133 : decode cX12_pupil 133 = .ok (.iconst 2, 1) := by decide +kernel
theorem dX12_pupil_134 : decode cX12_pupil 134 = .ok (.dup2, 1) := by decide +kernel
theorem dX12_pupil_135 : decode cX12_pupil 135 = .ok (.iaload, 1) := by decide +kernel
theorem dX12_pupil_136 : decode cX12_pupil 136 = .ok (.iconst 1, 1) := by decide +kernel
theorem dX12_pupil_137 : decode cX12_pupil 137 = .ok (.iadd, 1) := by decide +kernel
theorem dX12_pupil_138 : decode cX12_pupil 138 = .ok (.iastore, 1) := by decide +kernel
theorem dX12_pupil_139 : decode cX12_pupil 139 = .ok (.aload_n 0, 1) := by decide +kernel
theorem dX12_pupil_140 : decode cX12_pupil 140 = .ok (.getfield 7, 3) := by decide +kernel
theorem dX12_pupil_143 : decode cX12_pupil 143 = .ok (.iconst 2, 1) := by decide +kernel
theorem dX12_pupil_144 : decode cX12_pupil 144 = .ok (.iaload, 1) := by decide +kernel
theorem dX12_pupil_145 : decode cX12_pupil 145 = .ok (.iconst 1, 1) := by decide +kernel
theorem dX12_pupil_146 : decode cX12_pupil 146 = .ok (.isub, 1) := by decide +kernel
theorem dX12_pupil_147 : decode cX12_pupil 147 = .ok (.ireturn, 1) := by decide +kernel
theorem dX12_answer_0 : decode cX12_answer 0 = .ok (.iload_n 1, 1) := by decide +kernel
theorem dX12_answer_1 : decode cX12_answer 1 = .ok (.ldc_w 367, 3) := by decide +kernel
theorem dX12_answer_4 : decode cX12_answer 4 = .ok (.ldc_w 368, 3) := by decide +kernel
theorem dX12_answer_7 : decode cX12_answer 7 = .ok (.invokestatic 126, 3) := by decide +kernel
theorem dX12_answer_10 : decode cX12_answer 10 = .ok (.ifCond .ne 5, 3) := by decide +kernel
theorem dX12_answer_13 : decode cX12_answer 13 = .ok (.iconst 0, 1) := by decide +kernel
theorem dX12_answer_14 : decode cX12_answer 14 = .ok (.ireturn, 1) := by decide +kernel
theorem dX12_answer_15 : decode cX12_answer 15 = .ok (.aload_n 0, 1) := by decide +kernel
theorem dX12_answer_16 : decode cX12_answer 16 = .ok (.getfield 7, 3) := by decide +kernel
theorem dX12_answer_19 : decode cX12_answer 19 = .ok (.iconst 3, 1) := by decide +kernel
theorem dX12_answer_20 : decode cX12_answer 20 = .ok (.iload_n 1, 1) := by decide +kernel
theorem dX12_answer_21 : decode cX12_answer 21 = .ok (.iastore, 1) := by decide +kernel
theorem dX12_answer_22 : decode cX12_answer 22 = .ok (.iconst 1, 1) := by decide +kernel
theorem dX12_answer_23 : decode cX12_answer 23 = .ok (.ireturn, 1) := by decide +kernel
theorem dX12_worldNow_0 : decode cX12_worldNow 0 = .ok (.iconst 0, 1) := by decide +kernel
theorem dX12_worldNow_1 : decode cX12_worldNow 1 = .ok (.istore_n 1, 1) := by decide +kernel
theorem dX12_worldNow_2 : decode cX12_worldNow 2 = .ok (.iload_n 1, 1) := by decide +kernel
theorem dX12_worldNow_3 : decode cX12_worldNow 3 = .ok (.iconst 4, 1) := by decide +kernel
theorem dX12_worldNow_4 : decode cX12_worldNow 4 = .ok (.if_icmp .ge 24, 3) := by decide +kernel
theorem dX12_worldNow_7 : decode cX12_worldNow 7 = .ok (.aload_n 0, 1) := by decide +kernel
theorem dX12_worldNow_8 : decode cX12_worldNow 8 = .ok (.getfield 59, 3) := by decide +kernel
theorem dX12_worldNow_11 : decode cX12_worldNow 11 = .ok (.iload_n 1, 1) := by decide +kernel
theorem dX12_worldNow_12 : decode cX12_worldNow 12 = .ok (.aload_n 0, 1) := by decide +kernel
theorem dX12_worldNow_13 : decode cX12_worldNow 13 = .ok (.getfield 7, 3) := by decide +kernel
theorem dX12_worldNow_16 : decode cX12_worldNow 16 = .ok (.bipush 10, 2) := by decide +kernel
theorem dX12_worldNow_18 : decode cX12_worldNow 18 = .ok (.iload_n 1, 1) := by decide +kernel
theorem dX12_worldNow_19 : decode cX12_worldNow 19 = .ok (.iadd, 1) := by decide +kernel
theorem dX12_worldNow_20 : decode cX12_worldNow 20 = .ok (.iaload, 1) := by decide +kernel
theorem dX12_worldNow_21 : decode cX12_worldNow 21 = .ok (.iastore, 1) := by decide +kernel
theorem dX12_worldNow_22 : decode cX12_worldNow 22 = .ok (.iinc 1 1, 3) := by decide +kernel
theorem dX12_worldNow_25 : decode cX12_worldNow 25 = .ok (.goto (-23), 3) := by decide +kernel
theorem dX12_worldNow_28 : decode cX12_worldNow 28 = .ok (.aload_n 0, 1) := by decide +kernel
theorem dX12_worldNow_29 : decode cX12_worldNow 29 = .ok (.invokevirtual 146, 3) := by decide +kernel
theorem dX12_worldNow_32 : decode cX12_worldNow 32 = .ok (.return_, 1) := by decide +kernel
theorem dX12_ofOne_0 : decode cX12_ofOne 0 = .ok (.lload_n 2, 1) := by decide +kernel
theorem dX12_ofOne_1 : decode cX12_ofOne 1 = .ok (.lconst 0, 1) := by decide +kernel
theorem dX12_ofOne_2 : decode cX12_ofOne 2 = .ok (.lcmp, 1) := by decide +kernel
theorem dX12_ofOne_3 : decode cX12_ofOne 3 = .ok (.ifCond .lt 15, 3) := by decide +kernel
theorem dX12_ofOne_6 : decode cX12_ofOne 6 = .ok (.lload_n 2, 1) := by decide +kernel
theorem dX12_ofOne_7 : decode cX12_ofOne 7 = .ok (.aload_n 0, 1) := by decide +kernel
theorem dX12_ofOne_8 : decode cX12_ofOne 8 = .ok (.getfield 7, 3) := by decide +kernel
theorem dX12_ofOne_11 : decode cX12_ofOne 11 = .ok (.iconst 1, 1) := by decide +kernel
theorem dX12_ofOne_12 : decode cX12_ofOne 12 = .ok (.iaload, 1) := by decide +kernel
theorem dX12_ofOne_13 : decode cX12_ofOne 13 = .ok (.i2l, 1) := by decide +kernel
theorem dX12_ofOne_14 : decode cX12_ofOne 14 = .ok (.lcmp, 1) := by decide +kernel
theorem dX12_ofOne_15 : decode cX12_ofOne 15 = .ok (.ifCond .lt 7, 3) := by decide +kernel
theorem dX12_ofOne_18 : decode cX12_ofOne 18 = .ok (.ldc2_w 369, 3) := by decide +kernel
theorem dX12_ofOne_21 : decode cX12_ofOne 21 = .ok (.lreturn, 1) := by decide +kernel
theorem dX12_ofOne_22 : decode cX12_ofOne 22 = .ok (.lload_n 2, 1) := by decide +kernel
theorem dX12_ofOne_23 : decode cX12_ofOne 23 = .ok (.l2i, 1) := by decide +kernel
theorem dX12_ofOne_24 : decode cX12_ofOne 24 = .ok (.istore 4, 2) := by decide +kernel
theorem dX12_ofOne_26 : decode cX12_ofOne 26 = .ok (.iload_n 1, 1) := by decide +kernel
theorem dX12_ofOne_27 : decode cX12_ofOne 27 = .ok (.iconst 4, 1) := by decide +kernel
theorem dX12_ofOne_28 : decode cX12_ofOne 28 = .ok (.if_icmp .ne 17, 3) := by decide +kernel
theorem dX12_ofOne_31 : decode cX12_ofOne 31 = .ok (.aload_n 0, 1) := by decide +kernel
theorem dX12_ofOne_32 : decode cX12_ofOne 32 = .ok (.getfield 7, 3) := by decide +kernel
theorem dX12_ofOne_35 : decode cX12_ofOne 35 = .ok (.bipush 14, 2) := by decide +kernel
theorem dX12_ofOne_37 : decode cX12_ofOne 37 = .ok (.iconst 3, 1) := by decide +kernel
theorem dX12_ofOne_38 : decode cX12_ofOne 38 = .ok (.iload 4, 2) := by decide +kernel
theorem dX12_ofOne_40 : decode cX12_ofOne 40 = .ok (.imul, 1) := by decide +kernel
theorem dX12_ofOne_41 : decode cX12_ofOne 41 = .ok (.iadd, 1) := by decide +kernel
theorem dX12_ofOne_42 : decode cX12_ofOne 42 = .ok (.iaload, 1) := by decide +kernel
theorem dX12_ofOne_43 : decode cX12_ofOne 43 = .ok (.i2l, 1) := by decide +kernel
theorem dX12_ofOne_44 : decode cX12_ofOne 44 = .ok (.lreturn, 1) := by decide +kernel
theorem dX12_ofOne_45 : decode cX12_ofOne 45 = .ok (.iconst 0, 1) := by decide +kernel
theorem dX12_ofOne_46 : decode cX12_ofOne 46 = .ok (.istore 5, 2) := by decide +kernel
theorem dX12_ofOne_48 : decode cX12_ofOne 48 = .ok (.iconst 0, 1) := by decide +kernel
theorem dX12_ofOne_49 : decode cX12_ofOne 49 = .ok (.istore 6, 2) := by decide +kernel
theorem dX12_ofOne_51 : decode cX12_ofOne 51 = .ok (.iload 6, 2) := by decide +kernel
theorem dX12_ofOne_53 : decode cX12_ofOne 53 = .ok (.aload_n 0, 1) := by decide +kernel
theorem dX12_ofOne_54 : decode cX12_ofOne 54 = .ok (.getfield 7, 3) := by decide +kernel
theorem dX12_ofOne_57 : decode cX12_ofOne 57 = .ok (.iconst 1, 1) := by decide +kernel
theorem dX12_ofOne_58 : decode cX12_ofOne 58 = .ok (.iaload, 1) := by decide +kernel
theorem dX12_ofOne_59 : decode cX12_ofOne 59 = .ok (.if_icmp .ge 30, 3) := by decide +kernel
theorem dX12_ofOne_62 : decode cX12_ofOne 62 = .ok (.iload 5, 2) := by decide +kernel
theorem dX12_ofOne_64 : decode cX12_ofOne 64 = .ok (.aload_n 0, 1) := by decide +kernel
theorem dX12_ofOne_65 : decode cX12_ofOne 65 = .ok (.iload 6, 2) := by decide +kernel
theorem dX12_ofOne_67 : decode cX12_ofOne 67 = .ok (.iload 4, 2) := by decide +kernel
theorem dX12_ofOne_69 : decode cX12_ofOne 69 = .ok (.invokevirtual 137, 3) := by decide +kernel
theorem dX12_ofOne_72 : decode cX12_ofOne 72 = .ok (.ifCond .eq 7, 3) := by decide +kernel
theorem dX12_ofOne_75 : decode cX12_ofOne 75 = .ok (.iconst 1, 1) := by decide +kernel
theorem dX12_ofOne_76 : decode cX12_ofOne 76 = .ok (.goto 4, 3) := by decide +kernel
theorem dX12_ofOne_79 : decode cX12_ofOne 79 = .ok (.iconst 0, 1) := by decide +kernel
theorem dX12_ofOne_80 : decode cX12_ofOne 80 = .ok (.iadd, 1) := by decide +kernel
theorem dX12_ofOne_81 : decode cX12_ofOne 81 = .ok (.istore 5, 2) := by decide +kernel
theorem dX12_ofOne_83 : decode cX12_ofOne 83 = .ok (.iinc 6 1, 3) := by decide +kernel
theorem dX12_ofOne_86 : decode cX12_ofOne 86 = .ok (.goto (-35), 3) := by decide +kernel
theorem dX12_ofOne_89 : decode cX12_ofOne 89 = .ok (.iload 5, 2) := by decide +kernel
theorem dX12_ofOne_91 : decode cX12_ofOne 91 = .ok (.i2l, 1) := by decide +kernel
theorem dX12_ofOne_92 : decode cX12_ofOne 92 = .ok (.lreturn, 1) := by decide +kernel
theorem dX12_ofTwo_0 : decode cX12_ofTwo 0 = .ok (.iload_n 1, 1) := by decide +kernel
theorem dX12_ofTwo_1 : decode cX12_ofTwo 1 = .ok (.tableswitch 159 6 8 #[27, 90, 145], 27) := by decide +kernel
theorem dX12_ofTwo_28 : decode cX12_ofTwo 28 = .ok (.lload_n 2, 1) := by decide +kernel
theorem dX12_ofTwo_29 : decode cX12_ofTwo 29 = .ok (.lconst 0, 1) := by decide +kernel
theorem dX12_ofTwo_30 : decode cX12_ofTwo 30 = .ok (.lcmp, 1) := by decide +kernel
theorem dX12_ofTwo_31 : decode cX12_ofTwo 31 = .ok (.ifCond .lt 35, 3) := by decide +kernel
theorem dX12_ofTwo_34 : decode cX12_ofTwo 34 = .ok (.lload 4, 2) := by decide +kernel
theorem dX12_ofTwo_36 : decode cX12_ofTwo 36 = .ok (.lconst 0, 1) := by decide +kernel
theorem dX12_ofTwo_37 : decode cX12_ofTwo 37 = .ok (.lcmp, 1) := by decide +kernel
theorem dX12_ofTwo_38 : decode cX12_ofTwo 38 = .ok (.ifCond .lt 28, 3) := by decide +kernel
theorem dX12_ofTwo_41 : decode cX12_ofTwo 41 = .ok (.lload_n 2, 1) := by decide +kernel
theorem dX12_ofTwo_42 : decode cX12_ofTwo 42 = .ok (.aload_n 0, 1) := by decide +kernel
theorem dX12_ofTwo_43 : decode cX12_ofTwo 43 = .ok (.getfield 7, 3) := by decide +kernel
theorem dX12_ofTwo_46 : decode cX12_ofTwo 46 = .ok (.iconst 1, 1) := by decide +kernel
theorem dX12_ofTwo_47 : decode cX12_ofTwo 47 = .ok (.iaload, 1) := by decide +kernel
theorem dX12_ofTwo_48 : decode cX12_ofTwo 48 = .ok (.i2l, 1) := by decide +kernel
theorem dX12_ofTwo_49 : decode cX12_ofTwo 49 = .ok (.lcmp, 1) := by decide +kernel
theorem dX12_ofTwo_50 : decode cX12_ofTwo 50 = .ok (.ifCond .ge 16, 3) := by decide +kernel
theorem dX12_ofTwo_53 : decode cX12_ofTwo 53 = .ok (.lload 4, 2) := by decide +kernel
theorem dX12_ofTwo_55 : decode cX12_ofTwo 55 = .ok (.aload_n 0, 1) := by decide +kernel
theorem dX12_ofTwo_56 : decode cX12_ofTwo 56 = .ok (.getfield 7, 3) := by decide +kernel
theorem dX12_ofTwo_59 : decode cX12_ofTwo 59 = .ok (.iconst 1, 1) := by decide +kernel
theorem dX12_ofTwo_60 : decode cX12_ofTwo 60 = .ok (.iaload, 1) := by decide +kernel
theorem dX12_ofTwo_61 : decode cX12_ofTwo 61 = .ok (.i2l, 1) := by decide +kernel
theorem dX12_ofTwo_62 : decode cX12_ofTwo 62 = .ok (.lcmp, 1) := by decide +kernel
theorem dX12_ofTwo_63 : decode cX12_ofTwo 63 = .ok (.ifCond .lt 9, 3) := by decide +kernel
theorem dX12_ofTwo_66 : decode cX12_ofTwo 66 = .ok (.ldc2_w 369, 3) := by decide +kernel
theorem dX12_ofTwo_69 : decode cX12_ofTwo 69 = .ok (.goto 21, 3) := by decide +kernel
theorem dX12_ofTwo_72 : decode cX12_ofTwo 72 = .ok (.aload_n 0, 1) := by decide +kernel
theorem dX12_ofTwo_73 : decode cX12_ofTwo 73 = .ok (.getfield 16, 3) := by decide +kernel
theorem dX12_ofTwo_76 : decode cX12_ofTwo 76 = .ok (.bipush 8, 2) := by decide +kernel
theorem dX12_ofTwo_78 : decode cX12_ofTwo 78 = .ok (.lload_n 2, 1) := by decide +kernel
theorem dX12_ofTwo_79 : decode cX12_ofTwo 79 = .ok (.l2i, 1) := by decide +kernel
theorem dX12_ofTwo_80 : decode cX12_ofTwo 80 = .ok (.imul, 1) := by decide +kernel
theorem dX12_ofTwo_81 : decode cX12_ofTwo 81 = .ok (.lload 4, 2) := by decide +kernel
theorem dX12_ofTwo_83 : decode cX12_ofTwo 83 = .ok (.l2i, 1) := by decide +kernel
theorem dX12_ofTwo_84 : decode cX12_ofTwo 84 = .ok (.iadd, 1) := by decide +kernel
theorem dX12_ofTwo_85 : decode cX12_ofTwo 85 = .ok (.iaload, 1) := by decide +kernel
theorem dX12_ofTwo_86 : decode cX12_ofTwo 86 = .ok (.invokestatic 149, 3) := by decide +kernel
theorem dX12_ofTwo_89 : decode cX12_ofTwo 89 = .ok (.i2l, 1) := by decide +kernel
theorem dX12_ofTwo_90 : decode cX12_ofTwo 90 = .ok (.lreturn, 1) := by decide +kernel
theorem dX12_ofTwo_91 : decode cX12_ofTwo 91 = .ok (.lload_n 2, 1) := by decide +kernel
theorem dX12_ofTwo_92 : decode cX12_ofTwo 92 = .ok (.lconst 0, 1) := by decide +kernel
theorem dX12_ofTwo_93 : decode cX12_ofTwo 93 = .ok (.lcmp, 1) := by decide +kernel
theorem dX12_ofTwo_94 : decode cX12_ofTwo 94 = .ok (.ifCond .lt 27, 3) := by decide +kernel
theorem dX12_ofTwo_97 : decode cX12_ofTwo 97 = .ok (.lload 4, 2) := by decide +kernel
theorem dX12_ofTwo_99 : decode cX12_ofTwo 99 = .ok (.lconst 0, 1) := by decide +kernel
theorem dX12_ofTwo_100 : decode cX12_ofTwo 100 = .ok (.lcmp, 1) := by decide +kernel
theorem dX12_ofTwo_101 : decode cX12_ofTwo 101 = .ok (.ifCond .lt 20, 3) := by decide +kernel
theorem dX12_ofTwo_104 : decode cX12_ofTwo 104 = .ok (.lload_n 2, 1) := by decide +kernel
theorem dX12_ofTwo_105 : decode cX12_ofTwo 105 = .ok (.ldc2_w 371, 3) := by decide +kernel
theorem dX12_ofTwo_108 : decode cX12_ofTwo 108 = .ok (.lcmp, 1) := by decide +kernel
theorem dX12_ofTwo_109 : decode cX12_ofTwo 109 = .ok (.ifCond .gt 12, 3) := by decide +kernel
theorem dX12_ofTwo_112 : decode cX12_ofTwo 112 = .ok (.lload 4, 2) := by decide +kernel
theorem dX12_ofTwo_114 : decode cX12_ofTwo 114 = .ok (.ldc2_w 371, 3) := by decide +kernel
theorem dX12_ofTwo_117 : decode cX12_ofTwo 117 = .ok (.lcmp, 1) := by decide +kernel
theorem dX12_ofTwo_118 : decode cX12_ofTwo 118 = .ok (.ifCond .le 9, 3) := by decide +kernel
theorem dX12_ofTwo_121 : decode cX12_ofTwo 121 = .ok (.ldc2_w 369, 3) := by decide +kernel
theorem dX12_ofTwo_124 : decode cX12_ofTwo 124 = .ok (.goto 21, 3) := by decide +kernel
theorem dX12_ofTwo_127 : decode cX12_ofTwo 127 = .ok (.aload_n 0, 1) := by decide +kernel
theorem dX12_ofTwo_128 : decode cX12_ofTwo 128 = .ok (.getfield 19, 3) := by decide +kernel
theorem dX12_ofTwo_131 : decode cX12_ofTwo 131 = .ok (.bipush 6, 2) := by decide +kernel
theorem dX12_ofTwo_133 : decode cX12_ofTwo 133 = .ok (.lload_n 2, 1) := by decide +kernel
theorem dX12_ofTwo_134 : decode cX12_ofTwo 134 = .ok (.l2i, 1) := by decide +kernel
theorem dX12_ofTwo_135 : decode cX12_ofTwo 135 = .ok (.imul, 1) := by decide +kernel
theorem dX12_ofTwo_136 : decode cX12_ofTwo 136 = .ok (.lload 4, 2) := by decide +kernel
theorem dX12_ofTwo_138 : decode cX12_ofTwo 138 = .ok (.l2i, 1) := by decide +kernel
theorem dX12_ofTwo_139 : decode cX12_ofTwo 139 = .ok (.iadd, 1) := by decide +kernel
theorem dX12_ofTwo_140 : decode cX12_ofTwo 140 = .ok (.iaload, 1) := by decide +kernel
theorem dX12_ofTwo_141 : decode cX12_ofTwo 141 = .ok (.invokestatic 149, 3) := by decide +kernel
theorem dX12_ofTwo_144 : decode cX12_ofTwo 144 = .ok (.i2l, 1) := by decide +kernel
theorem dX12_ofTwo_145 : decode cX12_ofTwo 145 = .ok (.lreturn, 1) := by decide +kernel
theorem dX12_ofTwo_146 : decode cX12_ofTwo 146 = .ok (.lload_n 2, 1) := by decide +kernel
theorem dX12_ofTwo_147 : decode cX12_ofTwo 147 = .ok (.lload 4, 2) := by decide +kernel
theorem dX12_ofTwo_149 : decode cX12_ofTwo 149 = .ok (.lcmp, 1) := by decide +kernel
theorem dX12_ofTwo_150 : decode cX12_ofTwo 150 = .ok (.ifCond .le 7, 3) := by decide +kernel
theorem dX12_ofTwo_153 : decode cX12_ofTwo 153 = .ok (.lload_n 2, 1) := by decide +kernel
theorem dX12_ofTwo_154 : decode cX12_ofTwo 154 = .ok (.goto 5, 3) := by decide +kernel
theorem dX12_ofTwo_157 : decode cX12_ofTwo 157 = .ok (.lload 4, 2) := by decide +kernel
theorem dX12_ofTwo_159 : decode cX12_ofTwo 159 = .ok (.lreturn, 1) := by decide +kernel
theorem dX12_ofTwo_160 : decode cX12_ofTwo 160 = .ok (.lload_n 2, 1) := by decide +kernel
theorem dX12_ofTwo_161 : decode cX12_ofTwo 161 = .ok (.lload 4, 2) := by decide +kernel
theorem dX12_ofTwo_163 : decode cX12_ofTwo 163 = .ok (.lcmp, 1) := by decide +kernel
theorem dX12_ofTwo_164 : decode cX12_ofTwo 164 = .ok (.ifCond .ge 7, 3) := by decide +kernel
theorem dX12_ofTwo_167 : decode cX12_ofTwo 167 = .ok (.lload_n 2, 1) := by decide +kernel
theorem dX12_ofTwo_168 : decode cX12_ofTwo 168 = .ok (.goto 5, 3) := by decide +kernel
theorem dX12_ofTwo_171 : decode cX12_ofTwo 171 = .ok (.lload 4, 2) := by decide +kernel
theorem dX12_ofTwo_173 : decode cX12_ofTwo 173 = .ok (.lreturn, 1) := by decide +kernel
theorem dX12_isSo_0 : decode cX12_isSo 0 = .ok (.iload_n 0, 1) := by decide +kernel
theorem dX12_isSo_1 : decode cX12_isSo 1 = .ok (.tableswitch 95 0 4 #[35, 47, 59, 71, 83], 35) := by decide +kernel
theorem dX12_isSo_36 : decode cX12_isSo 36 = .ok (.lload_n 1, 1) := by decide +kernel
theorem dX12_isSo_37 : decode cX12_isSo 37 = .ok (.lload_n 3, 1) := by decide +kernel
theorem dX12_isSo_38 : decode cX12_isSo 38 = .ok (.lcmp, 1) := by decide +kernel
theorem dX12_isSo_39 : decode cX12_isSo 39 = .ok (.ifCond .ge 7, 3) := by decide +kernel
theorem dX12_isSo_42 : decode cX12_isSo 42 = .ok (.iconst 1, 1) := by decide +kernel
theorem dX12_isSo_43 : decode cX12_isSo 43 = .ok (.goto 4, 3) := by decide +kernel
theorem dX12_isSo_46 : decode cX12_isSo 46 = .ok (.iconst 0, 1) := by decide +kernel
theorem dX12_isSo_47 : decode cX12_isSo 47 = .ok (.ireturn, 1) := by decide +kernel
theorem dX12_isSo_48 : decode cX12_isSo 48 = .ok (.lload_n 1, 1) := by decide +kernel
theorem dX12_isSo_49 : decode cX12_isSo 49 = .ok (.lload_n 3, 1) := by decide +kernel
theorem dX12_isSo_50 : decode cX12_isSo 50 = .ok (.lcmp, 1) := by decide +kernel
theorem dX12_isSo_51 : decode cX12_isSo 51 = .ok (.ifCond .gt 7, 3) := by decide +kernel
theorem dX12_isSo_54 : decode cX12_isSo 54 = .ok (.iconst 1, 1) := by decide +kernel
theorem dX12_isSo_55 : decode cX12_isSo 55 = .ok (.goto 4, 3) := by decide +kernel
theorem dX12_isSo_58 : decode cX12_isSo 58 = .ok (.iconst 0, 1) := by decide +kernel
theorem dX12_isSo_59 : decode cX12_isSo 59 = .ok (.ireturn, 1) := by decide +kernel
theorem dX12_isSo_60 : decode cX12_isSo 60 = .ok (.lload_n 1, 1) := by decide +kernel
theorem dX12_isSo_61 : decode cX12_isSo 61 = .ok (.lload_n 3, 1) := by decide +kernel
theorem dX12_isSo_62 : decode cX12_isSo 62 = .ok (.lcmp, 1) := by decide +kernel
theorem dX12_isSo_63 : decode cX12_isSo 63 = .ok (.ifCond .le 7, 3) := by decide +kernel
theorem dX12_isSo_66 : decode cX12_isSo 66 = .ok (.iconst 1, 1) := by decide +kernel
theorem dX12_isSo_67 : decode cX12_isSo 67 = .ok (.goto 4, 3) := by decide +kernel
theorem dX12_isSo_70 : decode cX12_isSo 70 = .ok (.iconst 0, 1) := by decide +kernel
theorem dX12_isSo_71 : decode cX12_isSo 71 = .ok (.ireturn, 1) := by decide +kernel
theorem dX12_isSo_72 : decode cX12_isSo 72 = .ok (.lload_n 1, 1) := by decide +kernel
theorem dX12_isSo_73 : decode cX12_isSo 73 = .ok (.lload_n 3, 1) := by decide +kernel
theorem dX12_isSo_74 : decode cX12_isSo 74 = .ok (.lcmp, 1) := by decide +kernel
theorem dX12_isSo_75 : decode cX12_isSo 75 = .ok (.ifCond .lt 7, 3) := by decide +kernel
theorem dX12_isSo_78 : decode cX12_isSo 78 = .ok (.iconst 1, 1) := by decide +kernel
theorem dX12_isSo_79 : decode cX12_isSo 79 = .ok (.goto 4, 3) := by decide +kernel
theorem dX12_isSo_82 : decode cX12_isSo 82 = .ok (.iconst 0, 1) := by decide +kernel
theorem dX12_isSo_83 : decode cX12_isSo 83 = .ok (.ireturn, 1) := by decide +kernel
theorem dX12_isSo_84 : decode cX12_isSo 84 = .ok (.lload_n 1, 1) := by decide +kernel
theorem dX12_isSo_85 : decode cX12_isSo 85 = .ok (.lload_n 3, 1) := by decide +kernel
theorem dX12_isSo_86 : decode cX12_isSo 86 = .ok (.lcmp, 1) := by decide +kernel
theorem dX12_isSo_87 : decode cX12_isSo 87 = .ok (.ifCond .ne 7, 3) := by decide +kernel
theorem dX12_isSo_90 : decode cX12_isSo 90 = .ok (.iconst 1, 1) := by decide +kernel
theorem dX12_isSo_91 : decode cX12_isSo 91 = .ok (.goto 4, 3) := by decide +kernel
theorem dX12_isSo_94 : decode cX12_isSo 94 = .ok (.iconst 0, 1) := by decide +kernel
theorem dX12_isSo_95 : decode cX12_isSo 95 = .ok (.ireturn, 1) := by decide +kernel
theorem dX12_isSo_96 : decode cX12_isSo 96 = .ok (.lload_n 1, 1) := by decide +kernel
theorem dX12_isSo_97 : decode cX12_isSo 97 = .ok (.lload_n 3, 1) := by decide +kernel
theorem dX12_isSo_98 : decode cX12_isSo 98 = .ok (.lcmp, 1) := by decide +kernel
theorem dX12_isSo_99 : decode cX12_isSo 99 = .ok (.ifCond .eq 7, 3) := by decide +kernel
theorem dX12_isSo_102 : decode cX12_isSo 102 = .ok (.iconst 1, 1) := by decide +kernel
theorem dX12_isSo_103 : decode cX12_isSo 103 = .ok (.goto 4, 3) := by decide +kernel
theorem dX12_isSo_106 : decode cX12_isSo 106 = .ok (.iconst 0, 1) := by decide +kernel
theorem dX12_isSo_107 : decode cX12_isSo 107 = .ok (.ireturn, 1) := by decide +kernel
theorem dX12_answerOf_0 : decode cX12_answerOf 0 = .ok (.iconst 0, 1) := by decide +kernel
theorem dX12_answerOf_1 : decode cX12_answerOf 1 = .ok (.istore_n 2, 1) := by decide +kernel
theorem dX12_answerOf_2 : decode cX12_answerOf 2 = .ok (.iconst 0, 1) := by decide +kernel
theorem dX12_answerOf_3 : decode cX12_answerOf 3 = .ok (.istore_n 3, 1) := by decide +kernel
theorem dX12_answerOf_4 : decode cX12_answerOf 4 = .ok (.iload_n 3, 1) := by decide +kernel
theorem dX12_answerOf_5 : decode cX12_answerOf 5 = .ok (.aload_n 0, 1) := by decide +kernel
theorem dX12_answerOf_6 : decode cX12_answerOf 6 = .ok (.getfield 50, 3) := by decide +kernel
theorem dX12_answerOf_9 : decode cX12_answerOf 9 = .ok (.iload_n 1, 1) := by decide +kernel
theorem dX12_answerOf_10 : decode cX12_answerOf 10 = .ok (.iaload, 1) := by decide +kernel
theorem dX12_answerOf_11 : decode cX12_answerOf 11 = .ok (.if_icmp .ge 351, 3) := by decide +kernel
theorem dX12_answerOf_14 : decode cX12_answerOf 14 = .ok (.aload_n 0, 1) := by decide +kernel
theorem dX12_answerOf_15 : decode cX12_answerOf 15 = .ok (.getfield 53, 3) := by decide +kernel
theorem dX12_answerOf_18 : decode cX12_answerOf 18 = .ok (.sipush 240, 3) := by decide +kernel
theorem dX12_answerOf_21 : decode cX12_answerOf 21 = .ok (.iload_n 1, 1) := by decide +kernel
theorem dX12_answerOf_22 : decode cX12_answerOf 22 = .ok (.imul, 1) := by decide +kernel
theorem dX12_answerOf_23 : decode cX12_answerOf 23 = .ok (.iconst 2, 1) := by decide +kernel
theorem dX12_answerOf_24 : decode cX12_answerOf 24 = .ok (.iload_n 3, 1) := by decide +kernel
theorem dX12_answerOf_25 : decode cX12_answerOf 25 = .ok (.imul, 1) := by decide +kernel
theorem dX12_answerOf_26 : decode cX12_answerOf 26 = .ok (.iadd, 1) := by decide +kernel
theorem dX12_answerOf_27 : decode cX12_answerOf 27 = .ok (.iaload, 1) := by decide +kernel
theorem dX12_answerOf_28 : decode cX12_answerOf 28 = .ok (.istore 4, 2) := by decide +kernel
theorem dX12_answerOf_30 : decode cX12_answerOf 30 = .ok (.aload_n 0, 1) := by decide +kernel
theorem dX12_answerOf_31 : decode cX12_answerOf 31 = .ok (.getfield 53, 3) := by decide +kernel
theorem dX12_answerOf_34 : decode cX12_answerOf 34 = .ok (.sipush 240, 3) := by decide +kernel
theorem dX12_answerOf_37 : decode cX12_answerOf 37 = .ok (.iload_n 1, 1) := by decide +kernel
theorem dX12_answerOf_38 : decode cX12_answerOf 38 = .ok (.imul, 1) := by decide +kernel
theorem dX12_answerOf_39 : decode cX12_answerOf 39 = .ok (.iconst 2, 1) := by decide +kernel
theorem dX12_answerOf_40 : decode cX12_answerOf 40 = .ok (.iload_n 3, 1) := by decide +kernel
theorem dX12_answerOf_41 : decode cX12_answerOf 41 = .ok (.imul, 1) := by decide +kernel
theorem dX12_answerOf_42 : decode cX12_answerOf 42 = .ok (.iadd, 1) := by decide +kernel
theorem dX12_answerOf_43 : decode cX12_answerOf 43 = .ok (.iconst 1, 1) := by decide +kernel
theorem dX12_answerOf_44 : decode cX12_answerOf 44 = .ok (.iadd, 1) := by decide +kernel
theorem dX12_answerOf_45 : decode cX12_answerOf 45 = .ok (.iaload, 1) := by decide +kernel
theorem dX12_answerOf_46 : decode cX12_answerOf 46 = .ok (.istore 5, 2) := by decide +kernel
theorem dX12_answerOf_48 : decode cX12_answerOf 48 = .ok (.iload 4, 2) := by decide +kernel
theorem dX12_answerOf_50 : decode cX12_answerOf 50 = .ok (.iconst 2, 1) := by decide +kernel
theorem dX12_answerOf_51 : decode cX12_answerOf 51 = .ok (.if_icmp .ge 7, 3) := by decide +kernel
theorem dX12_answerOf_54 : decode cX12_answerOf 54 = .ok (.iconst 0, 1) := by decide +kernel
theorem dX12_answerOf_55 : decode cX12_answerOf 55 = .ok (.goto 52, 3) := by decide +kernel
theorem dX12_answerOf_58 : decode cX12_answerOf 58 = .ok (.iload 4, 2) := by decide +kernel
theorem dX12_answerOf_60 : decode cX12_answerOf 60 = .ok (.iconst 2, 1) := by decide +kernel
theorem dX12_answerOf_61 : decode cX12_answerOf 61 = .ok (.if_icmp .ne 12, 3) := by decide +kernel
theorem dX12_answerOf_64 : decode cX12_answerOf 64 = .ok (.iload 5, 2) := by decide +kernel
theorem dX12_answerOf_66 : decode cX12_answerOf 66 = .ok (.sipush 255, 3) := by decide +kernel
theorem dX12_answerOf_69 : decode cX12_answerOf 69 = .ok (.iand, 1) := by decide +kernel
theorem dX12_answerOf_70 : decode cX12_answerOf 70 = .ok (.goto 37, 3) := by decide +kernel
theorem dX12_answerOf_73 : decode cX12_answerOf 73 = .ok (.iload 4, 2) := by decide +kernel
theorem dX12_answerOf_75 : decode cX12_answerOf 75 = .ok (.iconst 3, 1) := by decide +kernel
theorem dX12_answerOf_76 : decode cX12_answerOf 76 = .ok (.if_icmp .ne 8, 3) := by decide +kernel
theorem dX12_answerOf_79 : decode cX12_answerOf 79 = .ok (.iload 5, 2) := by decide +kernel
theorem dX12_answerOf_81 : decode cX12_answerOf 81 = .ok (.goto 26, 3) := by decide +kernel
theorem dX12_answerOf_84 : decode cX12_answerOf 84 = .ok (.iload 4, 2) := by decide +kernel
theorem dX12_answerOf_86 : decode cX12_answerOf 86 = .ok (.bipush 6, 2) := by decide +kernel
theorem dX12_answerOf_88 : decode cX12_answerOf 88 = .ok (.if_icmp .ge 7, 3) := by decide +kernel
theorem dX12_answerOf_91 : decode cX12_answerOf 91 = .ok (.iconst 1, 1) := by decide +kernel
theorem dX12_answerOf_92 : decode cX12_answerOf 92 = .ok (.goto 15, 3) := by decide +kernel
theorem dX12_answerOf_95 : decode cX12_answerOf 95 = .ok (.iload 4, 2) := by decide +kernel
theorem dX12_answerOf_97 : decode cX12_answerOf 97 = .ok (.bipush 10, 2) := by decide +kernel
theorem dX12_answerOf_99 : decode cX12_answerOf 99 = .ok (.if_icmp .ge 7, 3) := by decide +kernel
theorem dX12_answerOf_102 : decode cX12_answerOf 102 = .ok (.iconst 2, 1) := by decide +kernel
theorem dX12_answerOf_103 : decode cX12_answerOf 103 = .ok (.goto 4, 3) := by decide +kernel
theorem dX12_answerOf_106 : decode cX12_answerOf 106 = .ok (.iconst 4, 1) := by decide +kernel
theorem dX12_answerOf_107 : decode cX12_answerOf 107 = .ok (.istore 6, 2) := by decide +kernel
theorem dX12_answerOf_109 : decode cX12_answerOf 109 = .ok (.iload_n 2, 1) := by decide +kernel
theorem dX12_answerOf_110 : decode cX12_answerOf 110 = .ok (.iload 6, 2) := by decide +kernel
theorem dX12_answerOf_112 : decode cX12_answerOf 112 = .ok (.isub, 1) := by decide +kernel
theorem dX12_answerOf_113 : decode cX12_answerOf 113 = .ok (.istore_n 2, 1) := by decide +kernel
theorem dX12_answerOf_114 : decode cX12_answerOf 114 = .ok (.iload 4, 2) := by decide +kernel
theorem dX12_answerOf_116 : decode cX12_answerOf 116 = .ok (.ifCond .ne 9, 3) := by decide +kernel
theorem dX12_answerOf_119 : decode cX12_answerOf 119 = .ok (.iload 5, 2) := by decide +kernel
theorem dX12_answerOf_121 : decode cX12_answerOf 121 = .ok (.i2l, 1) := by decide +kernel
theorem dX12_answerOf_122 : decode cX12_answerOf 122 = .ok (.goto 26, 3) := by decide +kernel
theorem dX12_answerOf_125 : decode cX12_answerOf 125 = .ok (.iload 4, 2) := by decide +kernel
theorem dX12_answerOf_127 : decode cX12_answerOf 127 = .ok (.iconst 1, 1) := by decide +kernel
theorem dX12_answerOf_128 : decode cX12_answerOf 128 = .ok (.if_icmp .ne 14, 3) := by decide +kernel
theorem dX12_answerOf_131 : decode cX12_answerOf 131 = .ok (.aload_n 0, 1) := by decide +kernel
theorem dX12_answerOf_132 : decode cX12_answerOf 132 = .ok (.getfield 59, 3) := by decide +kernel
theorem dX12_answerOf_135 : decode cX12_answerOf 135 = .ok (.iload 5, 2) := by decide +kernel
theorem dX12_answerOf_137 : decode cX12_answerOf 137 = .ok (.iaload, 1) := by decide +kernel
theorem dX12_answerOf_138 : decode cX12_answerOf 138 = .ok (.i2l, 1) := by decide +kernel
theorem dX12_answerOf_139 : decode cX12_answerOf 139 = .ok (.goto 9, 3) := by decide +kernel
theorem dX12_answerOf_142 : decode cX12_answerOf 142 = .ok (.aload_n 0, 1) := by decide +kernel
theorem dX12_answerOf_143 : decode cX12_answerOf 143 = .ok (.getfield 62, 3) := by decide +kernel
theorem dX12_answerOf_146 : decode cX12_answerOf 146 = .ok (.iload_n 2, 1) := by decide +kernel
theorem dX12_answerOf_147 : decode cX12_answerOf 147 = .ok (.laload, 1) := by decide +kernel
theorem dX12_answerOf_148 : decode cX12_answerOf 148 = .ok (.lstore 7, 2) := by decide +kernel
theorem dX12_answerOf_150 : decode cX12_answerOf 150 = .ok (.iload 4, 2) := by decide +kernel
theorem dX12_answerOf_152 : decode cX12_answerOf 152 = .ok (.iconst 2, 1) := by decide +kernel
theorem dX12_answerOf_153 : decode cX12_answerOf 153 = .ok (.if_icmp .eq 9, 3) := by decide +kernel
theorem dX12_answerOf_156 : decode cX12_answerOf 156 = .ok (.iload 4, 2) := by decide +kernel
theorem dX12_answerOf_158 : decode cX12_answerOf 158 = .ok (.iconst 3, 1) := by decide +kernel
theorem dX12_answerOf_159 : decode cX12_answerOf 159 = .ok (.if_icmp .ne 88, 3) := by decide +kernel
theorem dX12_answerOf_162 : decode cX12_answerOf 162 = .ok (.iconst 1, 1) := by decide +kernel
theorem dX12_answerOf_163 : decode cX12_answerOf 163 = .ok (.istore 9, 2) := by decide +kernel
theorem dX12_answerOf_165 : decode cX12_answerOf 165 = .ok (.iload 9, 2) := by decide +kernel
theorem dX12_answerOf_167 : decode cX12_answerOf 167 = .ok (.iload 6, 2) := by decide +kernel
theorem dX12_answerOf_169 : decode cX12_answerOf 169 = .ok (.if_icmp .ge 75, 3) := by decide +kernel
theorem dX12_answerOf_172 : decode cX12_answerOf 172 = .ok (.iload 4, 2) := by decide +kernel
theorem dX12_answerOf_174 : decode cX12_answerOf 174 = .ok (.iconst 3, 1) := by decide +kernel
theorem dX12_answerOf_175 : decode cX12_answerOf 175 = .ok (.if_icmp .ne 18, 3) := by decide +kernel
theorem dX12_answerOf_178 : decode cX12_answerOf 178 = .ok (.lload 7, 2) := by decide +kernel
theorem dX12_answerOf_180 : decode cX12_answerOf 180 = .ok (.aload_n 0, 1) := by decide +kernel
theorem dX12_answerOf_181 : decode cX12_answerOf 181 = .ok (.getfield 62, 3) := by decide +kernel
theorem dX12_answerOf_184 : decode cX12_answerOf 184 = .ok (.iload_n 2, 1) := by decide +kernel
theorem dX12_answerOf_185 : decode cX12_answerOf 185 = .ok (.iload 9, 2) := by decide +kernel
theorem dX12_answerOf_187 : decode cX12_answerOf 187 = .ok (.iadd, 1) := by decide +kernel
theorem dX12_answerOf_188 : decode cX12_answerOf 188 = .ok (.laload, 1) := by decide +kernel
theorem dX12_answerOf_189 : decode cX12_answerOf 189 = .ok (.lmul, 1) := by decide +kernel
theorem dX12_answerOf_190 : decode cX12_answerOf 190 = .ok (.goto 43, 3) := by decide +kernel
theorem dX12_answerOf_193 : decode cX12_answerOf 193 = .ok (.iload 5, 2) := by decide +kernel
theorem dX12_answerOf_195 : decode cX12_answerOf 195 = .ok (.bipush 8, 2) := by decide +kernel
theorem dX12_answerOf_197 : decode cX12_answerOf 197 = .ok (.ishr, 1) := by decide +kernel
theorem dX12_answerOf_198 : decode cX12_answerOf 198 = .ok (.iload 9, 2) := by decide +kernel
theorem dX12_answerOf_200 : decode cX12_answerOf 200 = .ok (.invokestatic 373, 3) := by decide +kernel
theorem dX12_answerOf_203 : decode cX12_answerOf 203 = .ok (.ifCond .eq 18, 3) := by decide +kernel
theorem dX12_answerOf_206 : decode cX12_answerOf 206 = .ok (.lload 7, 2) := by decide +kernel
theorem dX12_answerOf_208 : decode cX12_answerOf 208 = .ok (.aload_n 0, 1) := by decide +kernel
theorem dX12_answerOf_209 : decode cX12_answerOf 209 = .ok (.getfield 62, 3) := by decide +kernel
theorem dX12_answerOf_212 : decode cX12_answerOf 212 = .ok (.iload_n 2, 1) := by decide +kernel
theorem dX12_answerOf_213 : decode cX12_answerOf 213 = .ok (.iload 9, 2) := by decide +kernel
theorem dX12_answerOf_215 : decode cX12_answerOf 215 = .ok (.iadd, 1) := by decide +kernel
theorem dX12_answerOf_216 : decode cX12_answerOf 216 = .ok (.laload, 1) := by decide +kernel
theorem dX12_answerOf_217 : decode cX12_answerOf 217 = .ok (.lsub, 1) := by decide +kernel
theorem dX12_answerOf_218 : decode cX12_answerOf 218 = .ok (.goto 15, 3) := by decide +kernel
theorem dX12_answerOf_221 : decode cX12_answerOf 221 = .ok (.lload 7, 2) := by decide +kernel
theorem dX12_answerOf_223 : decode cX12_answerOf 223 = .ok (.aload_n 0, 1) := by decide +kernel
theorem dX12_answerOf_224 : decode cX12_answerOf 224 = .ok (.getfield 62, 3) := by decide +kernel
theorem dX12_answerOf_227 : decode cX12_answerOf 227 = .ok (.iload_n 2, 1) := by decide +kernel
theorem dX12_answerOf_228 : decode cX12_answerOf 228 = .ok (.iload 9, 2) := by decide +kernel
theorem dX12_answerOf_230 : decode cX12_answerOf 230 = .ok (.iadd, 1) := by decide +kernel
theorem dX12_answerOf_231 : decode cX12_answerOf 231 = .ok (.laload, 1) := by decide +kernel
theorem dX12_answerOf_232 : decode cX12_answerOf 232 = .ok (.ladd, 1) := by decide +kernel
theorem dX12_answerOf_233 : decode cX12_answerOf 233 = .ok (.invokestatic 376, 3) := by decide +kernel
theorem dX12_answerOf_236 : decode cX12_answerOf 236 = .ok (.lstore 7, 2) := by decide +kernel
theorem dX12_answerOf_238 : decode cX12_answerOf 238 = .ok (.iinc 9 1, 3) := by decide +kernel
theorem dX12_answerOf_241 : decode cX12_answerOf 241 = .ok (.goto (-76), 3) := by decide +kernel
theorem dX12_answerOf_244 : decode cX12_answerOf 244 = .ok (.goto 101, 3) := by decide +kernel
theorem dX12_answerOf_247 : decode cX12_answerOf 247 = .ok (.iload 4, 2) := by decide +kernel
theorem dX12_answerOf_249 : decode cX12_answerOf 249 = .ok (.iconst 4, 1) := by decide +kernel
theorem dX12_answerOf_250 : decode cX12_answerOf 250 = .ok (.if_icmp .eq 9, 3) := by decide +kernel
theorem dX12_answerOf_253 : decode cX12_answerOf 253 = .ok (.iload 4, 2) := by decide +kernel
theorem dX12_answerOf_255 : decode cX12_answerOf 255 = .ok (.iconst 5, 1) := by decide +kernel
theorem dX12_answerOf_256 : decode cX12_answerOf 256 = .ok (.if_icmp .ne 16, 3) := by decide +kernel
theorem dX12_answerOf_259 : decode cX12_answerOf 259 = .ok (.aload_n 0, 1) := by decide +kernel
theorem dX12_answerOf_260 : decode cX12_answerOf 260 = .ok (.iload 4, 2) := by decide +kernel
theorem dX12_answerOf_262 : decode cX12_answerOf 262 = .ok (.lload 7, 2) := by decide +kernel
theorem dX12_answerOf_264 : decode cX12_answerOf 264 = .ok (.invokevirtual 380, 3) := by decide +kernel
theorem dX12_answerOf_267 : decode cX12_answerOf 267 = .ok (.lstore 7, 2) := by decide +kernel
theorem dX12_answerOf_269 : decode cX12_answerOf 269 = .ok (.goto 76, 3) := by decide +kernel
theorem dX12_answerOf_272 : decode cX12_answerOf 272 = .ok (.iload 4, 2) := by decide +kernel
theorem dX12_answerOf_274 : decode cX12_answerOf 274 = .ok (.bipush 10, 2) := by decide +kernel
theorem dX12_answerOf_276 : decode cX12_answerOf 276 = .ok (.if_icmp .ne 45, 3) := by decide +kernel
theorem dX12_answerOf_279 : decode cX12_answerOf 279 = .ok (.iload 5, 2) := by decide +kernel
theorem dX12_answerOf_281 : decode cX12_answerOf 281 = .ok (.lload 7, 2) := by decide +kernel
theorem dX12_answerOf_283 : decode cX12_answerOf 283 = .ok (.aload_n 0, 1) := by decide +kernel
theorem dX12_answerOf_284 : decode cX12_answerOf 284 = .ok (.getfield 62, 3) := by decide +kernel
theorem dX12_answerOf_287 : decode cX12_answerOf 287 = .ok (.iload_n 2, 1) := by decide +kernel
theorem dX12_answerOf_288 : decode cX12_answerOf 288 = .ok (.iconst 1, 1) := by decide +kernel
theorem dX12_answerOf_289 : decode cX12_answerOf 289 = .ok (.iadd, 1) := by decide +kernel
theorem dX12_answerOf_290 : decode cX12_answerOf 290 = .ok (.laload, 1) := by decide +kernel
theorem dX12_answerOf_291 : decode cX12_answerOf 291 = .ok (.invokestatic 384, 3) := by decide +kernel
theorem dX12_answerOf_294 : decode cX12_answerOf 294 = .ok (.ifCond .eq 14, 3) := by decide +kernel
theorem dX12_answerOf_297 : decode cX12_answerOf 297 = .ok (.aload_n 0, 1) := by decide +kernel
theorem dX12_answerOf_298 : decode cX12_answerOf 298 = .ok (.getfield 62, 3) := by decide +kernel
theorem dX12_answerOf_301 : decode cX12_answerOf 301 = .ok (.iload_n 2, 1) := by decide +kernel
theorem dX12_answerOf_302 : decode cX12_answerOf 302 = .ok (.iconst 2, 1) := by decide +kernel
theorem dX12_answerOf_303 : decode cX12_answerOf 303 = .ok (.iadd, 1) := by decide +kernel
theorem dX12_answerOf_304 : decode cX12_answerOf 304 = .ok (.laload, 1) := by decide +kernel
theorem dX12_answerOf_305 : decode cX12_answerOf 305 = .ok (.goto 11, 3) := by decide +kernel
theorem dX12_answerOf_308 : decode cX12_answerOf 308 = .ok (.aload_n 0, 1) := by decide +kernel
theorem dX12_answerOf_309 : decode cX12_answerOf 309 = .ok (.getfield 62, 3) := by decide +kernel
theorem dX12_answerOf_312 : decode cX12_answerOf 312 = .ok (.iload_n 2, 1) := by decide +kernel
theorem dX12_answerOf_313 : decode cX12_answerOf 313 = .ok (.iconst 3, 1) := by decide +kernel
theorem dX12_answerOf_314 : decode cX12_answerOf 314 = .ok (.iadd, 1) := by decide +kernel
theorem dX12_answerOf_315 : decode cX12_answerOf 315 = .ok (.laload, 1) := by decide +kernel
theorem dX12_answerOf_316 : decode cX12_answerOf 316 = .ok (.lstore 7, 2) := by decide +kernel
theorem dX12_answerOf_318 : decode cX12_answerOf 318 = .ok (.goto 27, 3) := by decide +kernel
theorem dX12_answerOf_321 : decode cX12_answerOf 321 = .ok (.iload 4, 2) := by decide +kernel
theorem dX12_answerOf_323 : decode cX12_answerOf 323 = .ok (.iconst 5, 1) := by decide +kernel
theorem dX12_answerOf_324 : decode cX12_answerOf 324 = .ok (.if_icmp .le 21, 3) := by decide +kernel
theorem dX12_answerOf_327 : decode cX12_answerOf 327 = .ok (.aload_n 0, 1) := by decide +kernel
theorem dX12_answerOf_328 : decode cX12_answerOf 328 = .ok (.iload 4, 2) := by decide +kernel
theorem dX12_answerOf_330 : decode cX12_answerOf 330 = .ok (.lload 7, 2) := by decide +kernel
theorem dX12_answerOf_332 : decode cX12_answerOf 332 = .ok (.aload_n 0, 1) := by decide +kernel
theorem dX12_answerOf_333 : decode cX12_answerOf 333 = .ok (.getfield 62, 3) := by decide +kernel
theorem dX12_answerOf_336 : decode cX12_answerOf 336 = .ok (.iload_n 2, 1) := by decide +kernel
theorem dX12_answerOf_337 : decode cX12_answerOf 337 = .ok (.iconst 1, 1) := by decide +kernel
theorem dX12_answerOf_338 : decode cX12_answerOf 338 = .ok (.iadd, 1) := by decide +kernel
theorem dX12_answerOf_339 : decode cX12_answerOf 339 = .ok (.laload, 1) := by decide +kernel
theorem dX12_answerOf_340 : decode cX12_answerOf 340 = .ok (.invokevirtual 388, 3) := by decide +kernel
theorem dX12_answerOf_343 : decode cX12_answerOf 343 = .ok (.lstore 7, 2) := by decide +kernel
theorem dX12_answerOf_345 : decode cX12_answerOf 345 = .ok (.aload_n 0, 1) := by decide +kernel
theorem dX12_answerOf_346 : decode cX12_answerOf 346 = .ok (.getfield 62, 3) := by decide +kernel
theorem dX12_answerOf_349 : decode cX12_answerOf 349 = .ok (.iload_n 2, 1) := by decide +kernel
theorem dX12_answerOf_350 : decode cX12_answerOf 350 = .ok (.lload 7, 2) := by decide +kernel
theorem dX12_answerOf_352 : decode cX12_answerOf 352 = .ok (.lastore, 1) := by decide +kernel
theorem dX12_answerOf_353 : decode cX12_answerOf 353 = .ok (.iinc 2 1, 3) := by decide +kernel
theorem dX12_answerOf_356 : decode cX12_answerOf 356 = .ok (.iinc 3 1, 3) := by decide +kernel
theorem dX12_answerOf_359 : decode cX12_answerOf 359 = .ok (.goto (-355), 3) := by decide +kernel
theorem dX12_answerOf_362 : decode cX12_answerOf 362 = .ok (.aload_n 0, 1) := by decide +kernel
theorem dX12_answerOf_363 : decode cX12_answerOf 363 = .ok (.getfield 62, 3) := by decide +kernel
theorem dX12_answerOf_366 : decode cX12_answerOf 366 = .ok (.iconst 0, 1) := by decide +kernel
theorem dX12_answerOf_367 : decode cX12_answerOf 367 = .ok (.laload, 1) := by decide +kernel
theorem dX12_answerOf_368 : decode cX12_answerOf 368 = .ok (.lreturn, 1) := by decide +kernel
theorem dX12_of_0 : decode cX12_of 0 = .ok (.aload_n 0, 1) := by decide +kernel
theorem dX12_of_1 : decode cX12_of 1 = .ok (.iload_n 1, 1) := by decide +kernel
theorem dX12_of_2 : decode cX12_of 2 = .ok (.invokevirtual 392, 3) := by decide +kernel
theorem dX12_of_5 : decode cX12_of 5 = .ok (.ifCond .eq 12, 3) := by decide +kernel
theorem dX12_of_8 : decode cX12_of 8 = .ok (.iload_n 2, 1) := by decide +kernel
theorem dX12_of_9 : decode cX12_of 9 = .ok (.iconst 0, 1) := by decide +kernel
theorem dX12_of_10 : decode cX12_of 10 = .ok (.iconst 4, 1) := by decide +kernel
theorem dX12_of_11 : decode cX12_of 11 = .ok (.invokestatic 126, 3) := by decide +kernel
theorem dX12_of_14 : decode cX12_of 14 = .ok (.ifCond .ne 7, 3) := by decide +kernel
theorem dX12_of_17 : decode cX12_of 17 = .ok (.ldc_w 395, 3) := by decide +kernel
theorem dX12_of_20 : decode cX12_of 20 = .ok (.ireturn, 1) := by decide +kernel
theorem dX12_of_21 : decode cX12_of 21 = .ok (.aload_n 0, 1) := by decide +kernel
theorem dX12_of_22 : decode cX12_of 22 = .ok (.invokevirtual 396, 3) := by decide +kernel
theorem dX12_of_25 : decode cX12_of 25 = .ok (.iload_n 2, 1) := by decide +kernel
theorem dX12_of_26 : decode cX12_of 26 = .ok (.tableswitch 68 0 3 #[30, 37, 48, 59], 30) := by decide +kernel
theorem dX12_of_56 : decode cX12_of 56 = .ok (.aload_n 0, 1) := by decide +kernel
theorem dX12_of_57 : decode cX12_of 57 = .ok (.iload_n 1, 1) := by decide +kernel
theorem dX12_of_58 : decode cX12_of 58 = .ok (.invokevirtual 399, 3) := by decide +kernel
theorem dX12_of_61 : decode cX12_of 61 = .ok (.l2i, 1) := by decide +kernel
theorem dX12_of_62 : decode cX12_of 62 = .ok (.ireturn, 1) := by decide +kernel
theorem dX12_of_63 : decode cX12_of 63 = .ok (.aload_n 0, 1) := by decide +kernel
theorem dX12_of_64 : decode cX12_of 64 = .ok (.getfield 56, 3) := by decide +kernel
theorem dX12_of_67 : decode cX12_of 67 = .ok (.iconst 4, 1) := by decide +kernel
theorem dX12_of_68 : decode cX12_of 68 = .ok (.iload_n 1, 1) := by decide +kernel
theorem dX12_of_69 : decode cX12_of 69 = .ok (.imul, 1) := by decide +kernel
theorem dX12_of_70 : decode cX12_of 70 = .ok (.iconst 2, 1) := by decide +kernel
theorem dX12_of_71 : decode cX12_of 71 = .ok (.iadd, 1) := by decide +kernel
theorem dX12_of_72 : decode cX12_of 72 = .ok (.iaload, 1) := by decide +kernel
theorem dX12_of_73 : decode cX12_of 73 = .ok (.ireturn, 1) := by decide +kernel
theorem dX12_of_74 : decode cX12_of 74 = .ok (.aload_n 0, 1) := by decide +kernel
theorem dX12_of_75 : decode cX12_of 75 = .ok (.getfield 56, 3) := by decide +kernel
theorem dX12_of_78 : decode cX12_of 78 = .ok (.iconst 4, 1) := by decide +kernel
theorem dX12_of_79 : decode cX12_of 79 = .ok (.iload_n 1, 1) := by decide +kernel
theorem dX12_of_80 : decode cX12_of 80 = .ok (.imul, 1) := by decide +kernel
theorem dX12_of_81 : decode cX12_of 81 = .ok (.iconst 1, 1) := by decide +kernel
theorem dX12_of_82 : decode cX12_of 82 = .ok (.iadd, 1) := by decide +kernel
theorem dX12_of_83 : decode cX12_of 83 = .ok (.iaload, 1) := by decide +kernel
theorem dX12_of_84 : decode cX12_of 84 = .ok (.ireturn, 1) := by decide +kernel
theorem dX12_of_85 : decode cX12_of 85 = .ok (.aload_n 0, 1) := by decide +kernel
theorem dX12_of_86 : decode cX12_of 86 = .ok (.getfield 56, 3) := by decide +kernel
theorem dX12_of_89 : decode cX12_of 89 = .ok (.iconst 4, 1) := by decide +kernel
theorem dX12_of_90 : decode cX12_of 90 = .ok (.iload_n 1, 1) := by decide +kernel
theorem dX12_of_91 : decode cX12_of 91 = .ok (.imul, 1) := by decide +kernel
theorem dX12_of_92 : decode cX12_of 92 = .ok (.iaload, 1) := by decide +kernel
theorem dX12_of_93 : decode cX12_of 93 = .ok (.ireturn, 1) := by decide +kernel
theorem dX12_of_94 : decode cX12_of 94 = .ok (.aload_n 0, 1) := by decide +kernel
theorem dX12_of_95 : decode cX12_of 95 = .ok (.getfield 56, 3) := by decide +kernel
theorem dX12_of_98 : decode cX12_of 98 = .ok (.iconst 4, 1) := by decide +kernel
theorem dX12_of_99 : decode cX12_of 99 = .ok (.iload_n 1, 1) := by decide +kernel
theorem dX12_of_100 : decode cX12_of 100 = .ok (.imul, 1) := by decide +kernel
theorem dX12_of_101 : decode cX12_of 101 = .ok (.iconst 3, 1) := by decide +kernel
theorem dX12_of_102 : decode cX12_of 102 = .ok (.iadd, 1) := by decide +kernel
theorem dX12_of_103 : decode cX12_of 103 = .ok (.iaload, 1) := by decide +kernel
theorem dX12_of_104 : decode cX12_of 104 = .ok (.ireturn, 1) := by decide +kernel
theorem dX12_behind_0 : decode cX12_behind 0 = .ok (.iload_n 1, 1) := by decide +kernel
theorem dX12_behind_1 : decode cX12_behind 1 = .ok (.istore_n 2, 1) := by decide +kernel
theorem dX12_behind_2 : decode cX12_behind 2 = .ok (.iconst 1, 1) := by decide +kernel
theorem dX12_behind_3 : decode cX12_behind 3 = .ok (.istore_n 3, 1) := by decide +kernel
theorem dX12_behind_4 : decode cX12_behind 4 = .ok (.iload_n 3, 1) := by decide +kernel
theorem dX12_behind_5 : decode cX12_behind 5 = .ok (.ifCond .le 118, 3) := by decide +kernel
theorem dX12_behind_8 : decode cX12_behind 8 = .ok (.aload_n 0, 1) := by decide +kernel
theorem dX12_behind_9 : decode cX12_behind 9 = .ok (.getfield 66, 3) := by decide +kernel
theorem dX12_behind_12 : decode cX12_behind 12 = .ok (.iload_n 2, 1) := by decide +kernel
theorem dX12_behind_13 : decode cX12_behind 13 = .ok (.iaload, 1) := by decide +kernel
theorem dX12_behind_14 : decode cX12_behind 14 = .ok (.istore 4, 2) := by decide +kernel
theorem dX12_behind_16 : decode cX12_behind 16 = .ok (.iinc 3 (-1), 3) := by decide +kernel
theorem dX12_behind_19 : decode cX12_behind 19 = .ok (.iload 4, 2) := by decide +kernel
theorem dX12_behind_21 : decode cX12_behind 21 = .ok (.iconst 2, 1) := by decide +kernel
theorem dX12_behind_22 : decode cX12_behind 22 = .ok (.if_icmp .eq 9, 3) := by decide +kernel
theorem dX12_behind_25 : decode cX12_behind 25 = .ok (.iload 4, 2) := by decide +kernel
theorem dX12_behind_27 : decode cX12_behind 27 = .ok (.iconst 3, 1) := by decide +kernel
theorem dX12_behind_28 : decode cX12_behind 28 = .ok (.if_icmp .ne 17, 3) := by decide +kernel
theorem dX12_behind_31 : decode cX12_behind 31 = .ok (.iload_n 3, 1) := by decide +kernel
theorem dX12_behind_32 : decode cX12_behind 32 = .ok (.aload_n 0, 1) := by decide +kernel
theorem dX12_behind_33 : decode cX12_behind 33 = .ok (.getfield 66, 3) := by decide +kernel
theorem dX12_behind_36 : decode cX12_behind 36 = .ok (.iload_n 2, 1) := by decide +kernel
theorem dX12_behind_37 : decode cX12_behind 37 = .ok (.iconst 1, 1) := by decide +kernel
theorem dX12_behind_38 : decode cX12_behind 38 = .ok (.iadd, 1) := by decide +kernel
theorem dX12_behind_39 : decode cX12_behind 39 = .ok (.iaload, 1) := by decide +kernel
theorem dX12_behind_40 : decode cX12_behind 40 = .ok (.iadd, 1) := by decide +kernel
theorem dX12_behind_41 : decode cX12_behind 41 = .ok (.istore_n 3, 1) := by decide +kernel
theorem dX12_behind_42 : decode cX12_behind 42 = .ok (.goto 57, 3) := by decide +kernel
theorem dX12_behind_45 : decode cX12_behind 45 = .ok (.iload 4, 2) := by decide +kernel
theorem dX12_behind_47 : decode cX12_behind 47 = .ok (.iconst 4, 1) := by decide +kernel
theorem dX12_behind_48 : decode cX12_behind 48 = .ok (.if_icmp .eq 16, 3) := by decide +kernel
theorem dX12_behind_51 : decode cX12_behind 51 = .ok (.iload 4, 2) := by decide +kernel
theorem dX12_behind_53 : decode cX12_behind 53 = .ok (.iconst 5, 1) := by decide +kernel
theorem dX12_behind_54 : decode cX12_behind 54 = .ok (.if_icmp .eq 10, 3) := by decide +kernel
theorem dX12_behind_57 : decode cX12_behind 57 = .ok (.iload 4, 2) := by decide +kernel
theorem dX12_behind_59 : decode cX12_behind 59 = .ok (.bipush 100, 2) := by decide +kernel
theorem dX12_behind_61 : decode cX12_behind 61 = .ok (.if_icmp .lt 9, 3) := by decide +kernel
theorem dX12_behind_64 : decode cX12_behind 64 = .ok (.iinc 3 1, 3) := by decide +kernel
theorem dX12_behind_67 : decode cX12_behind 67 = .ok (.goto 32, 3) := by decide +kernel
theorem dX12_behind_70 : decode cX12_behind 70 = .ok (.iload 4, 2) := by decide +kernel
theorem dX12_behind_72 : decode cX12_behind 72 = .ok (.iconst 5, 1) := by decide +kernel
theorem dX12_behind_73 : decode cX12_behind 73 = .ok (.if_icmp .le 16, 3) := by decide +kernel
theorem dX12_behind_76 : decode cX12_behind 76 = .ok (.iload 4, 2) := by decide +kernel
theorem dX12_behind_78 : decode cX12_behind 78 = .ok (.bipush 10, 2) := by decide +kernel
theorem dX12_behind_80 : decode cX12_behind 80 = .ok (.if_icmp .ge 9, 3) := by decide +kernel
theorem dX12_behind_83 : decode cX12_behind 83 = .ok (.iinc 3 2, 3) := by decide +kernel
theorem dX12_behind_86 : decode cX12_behind 86 = .ok (.goto 13, 3) := by decide +kernel
theorem dX12_behind_89 : decode cX12_behind 89 = .ok (.iload 4, 2) := by decide +kernel
theorem dX12_behind_91 : decode cX12_behind 91 = .ok (.bipush 10, 2) := by decide +kernel
theorem dX12_behind_93 : decode cX12_behind 93 = .ok (.if_icmp .ne 6, 3) := by decide +kernel
theorem dX12_behind_96 : decode cX12_behind 96 = .ok (.iinc 3 4, 3) := by decide +kernel
theorem dX12_behind_99 : decode cX12_behind 99 = .ok (.iload_n 2, 1) := by decide +kernel
theorem dX12_behind_100 : decode cX12_behind 100 = .ok (.iload 4, 2) := by decide +kernel
theorem dX12_behind_102 : decode cX12_behind 102 = .ok (.iconst 4, 1) := by decide +kernel
theorem dX12_behind_103 : decode cX12_behind 103 = .ok (.if_icmp .lt 10, 3) := by decide +kernel
theorem dX12_behind_106 : decode cX12_behind 106 = .ok (.iload 4, 2) := by decide +kernel
theorem dX12_behind_108 : decode cX12_behind 108 = .ok (.bipush 10, 2) := by decide +kernel
theorem dX12_behind_110 : decode cX12_behind 110 = .ok (.if_icmp .ne 7, 3) := by decide +kernel
theorem dX12_behind_113 : decode cX12_behind 113 = .ok (.iconst 2, 1) := by decide +kernel
theorem dX12_behind_114 : decode cX12_behind 114 = .ok (.goto 4, 3) := by decide +kernel
theorem dX12_behind_117 : decode cX12_behind 117 = .ok (.iconst 1, 1) := by decide +kernel
theorem dX12_behind_118 : decode cX12_behind 118 = .ok (.iadd, 1) := by decide +kernel
theorem dX12_behind_119 : decode cX12_behind 119 = .ok (.istore_n 2, 1) := by decide +kernel
theorem dX12_behind_120 : decode cX12_behind 120 = .ok (.goto (-116), 3) := by decide +kernel
theorem dX12_behind_123 : decode cX12_behind 123 = .ok (.iload_n 2, 1) := by decide +kernel
theorem dX12_behind_124 : decode cX12_behind 124 = .ok (.ireturn, 1) := by decide +kernel
theorem dX12_compared_0 : decode cX12_compared 0 = .ok (.iconst 0, 1) := by decide +kernel
theorem dX12_compared_1 : decode cX12_compared 1 = .ok (.istore 5, 2) := by decide +kernel
theorem dX12_compared_3 : decode cX12_compared 3 = .ok (.iload 5, 2) := by decide +kernel
theorem dX12_compared_5 : decode cX12_compared 5 = .ok (.iload_n 2, 1) := by decide +kernel
theorem dX12_compared_6 : decode cX12_compared 6 = .ok (.if_icmp .ge 64, 3) := by decide +kernel
theorem dX12_compared_9 : decode cX12_compared 9 = .ok (.iload 5, 2) := by decide +kernel
theorem dX12_compared_11 : decode cX12_compared 11 = .ok (.iload 4, 2) := by decide +kernel
theorem dX12_compared_13 : decode cX12_compared 13 = .ok (.if_icmp .ge 57, 3) := by decide +kernel
theorem dX12_compared_16 : decode cX12_compared 16 = .ok (.aload_n 0, 1) := by decide +kernel
theorem dX12_compared_17 : decode cX12_compared 17 = .ok (.getfield 66, 3) := by decide +kernel
theorem dX12_compared_20 : decode cX12_compared 20 = .ok (.iload_n 1, 1) := by decide +kernel
theorem dX12_compared_21 : decode cX12_compared 21 = .ok (.iload 5, 2) := by decide +kernel
theorem dX12_compared_23 : decode cX12_compared 23 = .ok (.iadd, 1) := by decide +kernel
theorem dX12_compared_24 : decode cX12_compared 24 = .ok (.iaload, 1) := by decide +kernel
theorem dX12_compared_25 : decode cX12_compared 25 = .ok (.aload_n 0, 1) := by decide +kernel
theorem dX12_compared_26 : decode cX12_compared 26 = .ok (.getfield 66, 3) := by decide +kernel
theorem dX12_compared_29 : decode cX12_compared 29 = .ok (.iload_n 3, 1) := by decide +kernel
theorem dX12_compared_30 : decode cX12_compared 30 = .ok (.iload 5, 2) := by decide +kernel
theorem dX12_compared_32 : decode cX12_compared 32 = .ok (.iadd, 1) := by decide +kernel
theorem dX12_compared_33 : decode cX12_compared 33 = .ok (.iaload, 1) := by decide +kernel
theorem dX12_compared_34 : decode cX12_compared 34 = .ok (.if_icmp .eq 30, 3) := by decide +kernel
theorem dX12_compared_37 : decode cX12_compared 37 = .ok (.aload_n 0, 1) := by decide +kernel
theorem dX12_compared_38 : decode cX12_compared 38 = .ok (.getfield 66, 3) := by decide +kernel
theorem dX12_compared_41 : decode cX12_compared 41 = .ok (.iload_n 1, 1) := by decide +kernel
theorem dX12_compared_42 : decode cX12_compared 42 = .ok (.iload 5, 2) := by decide +kernel
theorem dX12_compared_44 : decode cX12_compared 44 = .ok (.iadd, 1) := by decide +kernel
theorem dX12_compared_45 : decode cX12_compared 45 = .ok (.iaload, 1) := by decide +kernel
theorem dX12_compared_46 : decode cX12_compared 46 = .ok (.aload_n 0, 1) := by decide +kernel
theorem dX12_compared_47 : decode cX12_compared 47 = .ok (.getfield 66, 3) := by decide +kernel
theorem dX12_compared_50 : decode cX12_compared 50 = .ok (.iload_n 3, 1) := by decide +kernel
theorem dX12_compared_51 : decode cX12_compared 51 = .ok (.iload 5, 2) := by decide +kernel
theorem dX12_compared_53 : decode cX12_compared 53 = .ok (.iadd, 1) := by decide +kernel
theorem dX12_compared_54 : decode cX12_compared 54 = .ok (.iaload, 1) := by decide +kernel
theorem dX12_compared_55 : decode cX12_compared 55 = .ok (.if_icmp .ge 7, 3) := by decide +kernel
theorem dX12_compared_58 : decode cX12_compared 58 = .ok (.iconst (-1), 1) := by decide +kernel
theorem dX12_compared_59 : decode cX12_compared 59 = .ok (.goto 4, 3) := by decide +kernel
theorem dX12_compared_62 : decode cX12_compared 62 = .ok (.iconst 1, 1) := by decide +kernel
theorem dX12_compared_63 : decode cX12_compared 63 = .ok (.ireturn, 1) := by decide +kernel
theorem dX12_compared_64 : decode cX12_compared 64 = .ok (.iinc 5 1, 3) := by decide +kernel
theorem dX12_compared_67 : decode cX12_compared 67 = .ok (.goto (-64), 3) := by decide +kernel
theorem dX12_compared_70 : decode cX12_compared 70 = .ok (.iload_n 2, 1) := by decide +kernel
theorem dX12_compared_71 : decode cX12_compared 71 = .ok (.iload 4, 2) := by decide +kernel
theorem dX12_compared_73 : decode cX12_compared 73 = .ok (.isub, 1) := by decide +kernel
theorem dX12_compared_74 : decode cX12_compared 74 = .ok (.ireturn, 1) := by decide +kernel
theorem dX12_addTerm_0 : decode cX12_addTerm 0 = .ok (.aload_n 0, 1) := by decide +kernel
theorem dX12_addTerm_1 : decode cX12_addTerm 1 = .ok (.getfield 75, 3) := by decide +kernel
theorem dX12_addTerm_4 : decode cX12_addTerm 4 = .ok (.aload_n 0, 1) := by decide +kernel
theorem dX12_addTerm_5 : decode cX12_addTerm 5 = .ok (.getfield 403, 3) := by decide +kernel
theorem dX12_addTerm_8 : decode cX12_addTerm 8 = .ok (.iload_n 1, 1) := by decide +kernel
theorem dX12_addTerm_9 : decode cX12_addTerm 9 = .ok (.iastore, 1) := by decide +kernel
theorem dX12_addTerm_10 : decode cX12_addTerm 10 = .ok (.aload_n 0, 1) := by decide +kernel
theorem dX12_addTerm_11 : decode cX12_addTerm 11 = .ok (.getfield 78, 3) := by decide +kernel
theorem dX12_addTerm_14 : decode cX12_addTerm 14 = .ok (.aload_n 0, 1) := by decide +kernel
theorem dX12_addTerm_15 : decode cX12_addTerm 15 = .ok (.getfield 403, 3) := by decide +kernel
theorem dX12_addTerm_18 : decode cX12_addTerm 18 = .ok (.iload_n 2, 1) := by decide +kernel
theorem dX12_addTerm_19 : decode cX12_addTerm 19 = .ok (.iastore, 1) := by decide +kernel
theorem dX12_addTerm_20 : decode cX12_addTerm 20 = .ok (.aload_n 0, 1) := by decide +kernel
theorem dX12_addTerm_21 : decode cX12_addTerm 21 = .ok (.getfield 81, 3) := by decide +kernel
theorem dX12_addTerm_24 : decode cX12_addTerm 24 = .ok (.aload_n 0, 1) := by decide +kernel
theorem dX12_addTerm_25 : decode cX12_addTerm 25 = .ok (.getfield 403, 3) := by decide +kernel
theorem dX12_addTerm_28 : decode cX12_addTerm 28 = .ok (.iload_n 3, 1) := by decide +kernel
theorem dX12_addTerm_29 : decode cX12_addTerm 29 = .ok (.iload_n 2, 1) := by decide +kernel
theorem dX12_addTerm_30 : decode cX12_addTerm 30 = .ok (.isub, 1) := by decide +kernel
theorem dX12_addTerm_31 : decode cX12_addTerm 31 = .ok (.iastore, 1) := by decide +kernel
theorem dX12_addTerm_32 : decode cX12_addTerm 32 = .ok (.aload_n 0, 1) := by decide +kernel
theorem dX12_addTerm_33 : decode cX12_addTerm 33 = .ok (.dup, 1) := by decide +kernel
theorem dX12_addTerm_34 : decode cX12_addTerm 34 = .ok (.getfield 403, 3) := by decide +kernel
theorem dX12_addTerm_37 : decode cX12_addTerm 37 = .ok (.iconst 1, 1) := by decide +kernel
theorem dX12_addTerm_38 : decode cX12_addTerm 38 = .ok (.iadd, 1) := by decide +kernel
theorem dX12_addTerm_39 : decode cX12_addTerm 39 = .ok (.putfield 403, 3) := by decide +kernel
theorem dX12_addTerm_42 : decode cX12_addTerm 42 = .ok (.return_, 1) := by decide +kernel
theorem dX12_findTerms_0 : decode cX12_findTerms 0 = .ok (.aload_n 0, 1) := by decide +kernel
theorem dX12_findTerms_1 : decode cX12_findTerms 1 = .ok (.iconst 0, 1) := by decide +kernel
theorem dX12_findTerms_2 : decode cX12_findTerms 2 = .ok (.putfield 403, 3) := by decide +kernel
theorem dX12_findTerms_5 : decode cX12_findTerms 5 = .ok (.iconst 0, 1) := by decide +kernel
theorem dX12_findTerms_6 : decode cX12_findTerms 6 = .ok (.istore 5, 2) := by decide +kernel
theorem dX12_findTerms_8 : decode cX12_findTerms 8 = .ok (.iload 5, 2) := by decide +kernel
theorem dX12_findTerms_10 : decode cX12_findTerms 10 = .ok (.iload_n 2, 1) := by decide +kernel
theorem dX12_findTerms_11 : decode cX12_findTerms 11 = .ok (.if_icmp .ge 187, 3) := by decide +kernel
theorem dX12_findTerms_14 : decode cX12_findTerms 14 = .ok (.aload_n 0, 1) := by decide +kernel
theorem dX12_findTerms_15 : decode cX12_findTerms 15 = .ok (.getfield 69, 3) := by decide +kernel
theorem dX12_findTerms_18 : decode cX12_findTerms 18 = .ok (.aload_n 0, 1) := by decide +kernel
theorem dX12_findTerms_19 : decode cX12_findTerms 19 = .ok (.getfield 406, 3) := by decide +kernel
theorem dX12_findTerms_22 : decode cX12_findTerms 22 = .ok (.iload_n 2, 1) := by decide +kernel
theorem dX12_findTerms_23 : decode cX12_findTerms 23 = .ok (.isub, 1) := by decide +kernel
theorem dX12_findTerms_24 : decode cX12_findTerms 24 = .ok (.iload 5, 2) := by decide +kernel
theorem dX12_findTerms_26 : decode cX12_findTerms 26 = .ok (.iadd, 1) := by decide +kernel
theorem dX12_findTerms_27 : decode cX12_findTerms 27 = .ok (.iaload, 1) := by decide +kernel
theorem dX12_findTerms_28 : decode cX12_findTerms 28 = .ok (.istore 6, 2) := by decide +kernel
theorem dX12_findTerms_30 : decode cX12_findTerms 30 = .ok (.iload 5, 2) := by decide +kernel
theorem dX12_findTerms_32 : decode cX12_findTerms 32 = .ok (.iload_n 2, 1) := by decide +kernel
theorem dX12_findTerms_33 : decode cX12_findTerms 33 = .ok (.iconst 1, 1) := by decide +kernel
theorem dX12_findTerms_34 : decode cX12_findTerms 34 = .ok (.isub, 1) := by decide +kernel
theorem dX12_findTerms_35 : decode cX12_findTerms 35 = .ok (.if_icmp .ne 15, 3) := by decide +kernel
theorem dX12_findTerms_38 : decode cX12_findTerms 38 = .ok (.aload_n 0, 1) := by decide +kernel
theorem dX12_findTerms_39 : decode cX12_findTerms 39 = .ok (.getfield 69, 3) := by decide +kernel
theorem dX12_findTerms_42 : decode cX12_findTerms 42 = .ok (.aload_n 0, 1) := by decide +kernel
theorem dX12_findTerms_43 : decode cX12_findTerms 43 = .ok (.getfield 406, 3) := by decide +kernel
theorem dX12_findTerms_46 : decode cX12_findTerms 46 = .ok (.iaload, 1) := by decide +kernel
theorem dX12_findTerms_47 : decode cX12_findTerms 47 = .ok (.goto 19, 3) := by decide +kernel
theorem dX12_findTerms_50 : decode cX12_findTerms 50 = .ok (.aload_n 0, 1) := by decide +kernel
theorem dX12_findTerms_51 : decode cX12_findTerms 51 = .ok (.getfield 69, 3) := by decide +kernel
theorem dX12_findTerms_54 : decode cX12_findTerms 54 = .ok (.aload_n 0, 1) := by decide +kernel
theorem dX12_findTerms_55 : decode cX12_findTerms 55 = .ok (.getfield 406, 3) := by decide +kernel
theorem dX12_findTerms_58 : decode cX12_findTerms 58 = .ok (.iload_n 2, 1) := by decide +kernel
theorem dX12_findTerms_59 : decode cX12_findTerms 59 = .ok (.isub, 1) := by decide +kernel
theorem dX12_findTerms_60 : decode cX12_findTerms 60 = .ok (.iload 5, 2) := by decide +kernel
theorem dX12_findTerms_62 : decode cX12_findTerms 62 = .ok (.iadd, 1) := by decide +kernel
theorem dX12_findTerms_63 : decode cX12_findTerms 63 = .ok (.iconst 1, 1) := by decide +kernel
theorem dX12_findTerms_64 : decode cX12_findTerms 64 = .ok (.iadd, 1) := by decide +kernel
theorem dX12_findTerms_65 : decode cX12_findTerms 65 = .ok (.iaload, 1) := by decide +kernel
theorem dX12_findTerms_66 : decode cX12_findTerms 66 = .ok (.istore 7, 2) := by decide +kernel
theorem dX12_findTerms_68 : decode cX12_findTerms 68 = .ok (.iload_n 3, 1) := by decide +kernel
theorem dX12_findTerms_69 : decode cX12_findTerms 69 = .ok (.iload 5, 2) := by decide +kernel
theorem dX12_findTerms_71 : decode cX12_findTerms 71 = .ok (.ishr, 1) := by decide +kernel
theorem dX12_findTerms_72 : decode cX12_findTerms 72 = .ok (.iconst 1, 1) := by decide +kernel
theorem dX12_findTerms_73 : decode cX12_findTerms 73 = .ok (.iand, 1) := by decide +kernel
theorem dX12_findTerms_74 : decode cX12_findTerms 74 = .ok (.istore 8, 2) := by decide +kernel
theorem dX12_findTerms_76 : decode cX12_findTerms 76 = .ok (.iload 4, 2) := by decide +kernel
theorem dX12_findTerms_78 : decode cX12_findTerms 78 = .ok (.ifCond .eq 14, 3) := by decide +kernel
theorem dX12_findTerms_81 : decode cX12_findTerms 81 = .ok (.aload_n 0, 1) := by decide +kernel
theorem dX12_findTerms_82 : decode cX12_findTerms 82 = .ok (.getfield 66, 3) := by decide +kernel
theorem dX12_findTerms_85 : decode cX12_findTerms 85 = .ok (.iload 6, 2) := by decide +kernel
theorem dX12_findTerms_87 : decode cX12_findTerms 87 = .ok (.iaload, 1) := by decide +kernel
theorem dX12_findTerms_88 : decode cX12_findTerms 88 = .ok (.iload_n 1, 1) := by decide +kernel
theorem dX12_findTerms_89 : decode cX12_findTerms 89 = .ok (.if_icmp .eq 16, 3) := by decide +kernel
theorem dX12_findTerms_92 : decode cX12_findTerms 92 = .ok (.aload_n 0, 1) := by decide +kernel
theorem dX12_findTerms_93 : decode cX12_findTerms 93 = .ok (.iload 8, 2) := by decide +kernel
theorem dX12_findTerms_95 : decode cX12_findTerms 95 = .ok (.iload 6, 2) := by decide +kernel
theorem dX12_findTerms_97 : decode cX12_findTerms 97 = .ok (.iload 7, 2) := by decide +kernel
theorem dX12_findTerms_99 : decode cX12_findTerms 99 = .ok (.invokevirtual 409, 3) := by decide +kernel
theorem dX12_findTerms_102 : decode cX12_findTerms 102 = .ok (.goto 90, 3) := by decide +kernel
theorem dX12_findTerms_105 : decode cX12_findTerms 105 = .ok (.iload 6, 2) := by decide +kernel
theorem dX12_findTerms_107 : decode cX12_findTerms 107 = .ok (.iconst 2, 1) := by decide +kernel
theorem dX12_findTerms_108 : decode cX12_findTerms 108 = .ok (.iadd, 1) := by decide +kernel
theorem dX12_findTerms_109 : decode cX12_findTerms 109 = .ok (.istore 9, 2) := by decide +kernel
theorem dX12_findTerms_111 : decode cX12_findTerms 111 = .ok (.iconst 0, 1) := by decide +kernel
theorem dX12_findTerms_112 : decode cX12_findTerms 112 = .ok (.istore 10, 2) := by decide +kernel
theorem dX12_findTerms_114 : decode cX12_findTerms 114 = .ok (.iload 10, 2) := by decide +kernel
theorem dX12_findTerms_116 : decode cX12_findTerms 116 = .ok (.aload_n 0, 1) := by decide +kernel
theorem dX12_findTerms_117 : decode cX12_findTerms 117 = .ok (.getfield 66, 3) := by decide +kernel
theorem dX12_findTerms_120 : decode cX12_findTerms 120 = .ok (.iload 6, 2) := by decide +kernel
theorem dX12_findTerms_122 : decode cX12_findTerms 122 = .ok (.iconst 1, 1) := by decide +kernel
theorem dX12_findTerms_123 : decode cX12_findTerms 123 = .ok (.iadd, 1) := by decide +kernel
theorem dX12_findTerms_124 : decode cX12_findTerms 124 = .ok (.iaload, 1) := by decide +kernel
theorem dX12_findTerms_125 : decode cX12_findTerms 125 = .ok (.if_icmp .ge 67, 3) := by decide +kernel
theorem dX12_findTerms_128 : decode cX12_findTerms 128 = .ok (.iload_n 1, 1) := by decide +kernel
theorem dX12_findTerms_129 : decode cX12_findTerms 129 = .ok (.iconst 2, 1) := by decide +kernel
theorem dX12_findTerms_130 : decode cX12_findTerms 130 = .ok (.if_icmp .ne 16, 3) := by decide +kernel
theorem dX12_findTerms_133 : decode cX12_findTerms 133 = .ok (.aload_n 0, 1) := by decide +kernel
theorem dX12_findTerms_134 : decode cX12_findTerms 134 = .ok (.getfield 66, 3) := by decide +kernel
theorem dX12_findTerms_137 : decode cX12_findTerms 137 = .ok (.iload 9, 2) := by decide +kernel
theorem dX12_findTerms_139 : decode cX12_findTerms 139 = .ok (.iaload, 1) := by decide +kernel
theorem dX12_findTerms_140 : decode cX12_findTerms 140 = .ok (.bipush 100, 2) := by decide +kernel
theorem dX12_findTerms_142 : decode cX12_findTerms 142 = .ok (.isub, 1) := by decide +kernel
theorem dX12_findTerms_143 : decode cX12_findTerms 143 = .ok (.goto 4, 3) := by decide +kernel
theorem dX12_findTerms_146 : decode cX12_findTerms 146 = .ok (.iconst 0, 1) := by decide +kernel
theorem dX12_findTerms_147 : decode cX12_findTerms 147 = .ok (.istore 11, 2) := by decide +kernel
theorem dX12_findTerms_149 : decode cX12_findTerms 149 = .ok (.iload_n 1, 1) := by decide +kernel
theorem dX12_findTerms_150 : decode cX12_findTerms 150 = .ok (.iconst 2, 1) := by decide +kernel
theorem dX12_findTerms_151 : decode cX12_findTerms 151 = .ok (.if_icmp .ne 10, 3) := by decide +kernel
theorem dX12_findTerms_154 : decode cX12_findTerms 154 = .ok (.iload 9, 2) := by decide +kernel
theorem dX12_findTerms_156 : decode cX12_findTerms 156 = .ok (.iconst 1, 1) := by decide +kernel
theorem dX12_findTerms_157 : decode cX12_findTerms 157 = .ok (.iadd, 1) := by decide +kernel
theorem dX12_findTerms_158 : decode cX12_findTerms 158 = .ok (.goto 5, 3) := by decide +kernel
theorem dX12_findTerms_161 : decode cX12_findTerms 161 = .ok (.iload 9, 2) := by decide +kernel
theorem dX12_findTerms_163 : decode cX12_findTerms 163 = .ok (.istore 12, 2) := by decide +kernel
theorem dX12_findTerms_165 : decode cX12_findTerms 165 = .ok (.aload_n 0, 1) := by decide +kernel
theorem dX12_findTerms_166 : decode cX12_findTerms 166 = .ok (.iload 12, 2) := by decide +kernel
theorem dX12_findTerms_168 : decode cX12_findTerms 168 = .ok (.invokevirtual 413, 3) := by decide +kernel
theorem dX12_findTerms_171 : decode cX12_findTerms 171 = .ok (.istore 9, 2) := by decide +kernel
theorem dX12_findTerms_173 : decode cX12_findTerms 173 = .ok (.aload_n 0, 1) := by decide +kernel
theorem dX12_findTerms_174 : decode cX12_findTerms 174 = .ok (.iload 8, 2) := by decide +kernel
theorem dX12_findTerms_176 : decode cX12_findTerms 176 = .ok (.iload 11, 2) := by decide +kernel
theorem dX12_findTerms_178 : decode cX12_findTerms 178 = .ok (.ixor, 1) := by decide +kernel
theorem dX12_findTerms_179 : decode cX12_findTerms 179 = .ok (.iload 12, 2) := by decide +kernel
theorem dX12_findTerms_181 : decode cX12_findTerms 181 = .ok (.iload 9, 2) := by decide +kernel
theorem dX12_findTerms_183 : decode cX12_findTerms 183 = .ok (.invokevirtual 409, 3) := by decide +kernel
theorem dX12_findTerms_186 : decode cX12_findTerms 186 = .ok (.iinc 10 1, 3) := by decide +kernel
theorem dX12_findTerms_189 : decode cX12_findTerms 189 = .ok (.goto (-75), 3) := by decide +kernel
theorem dX12_findTerms_192 : decode cX12_findTerms 192 = .ok (.iinc 5 1, 3) := by decide +kernel
theorem dX12_findTerms_195 : decode cX12_findTerms 195 = .ok (.goto (-187), 3) := by decide +kernel
theorem dX12_findTerms_198 : decode cX12_findTerms 198 = .ok (.return_, 1) := by decide +kernel
theorem dX12_isNumber_0 : decode cX12_isNumber 0 = .ok (.aload_n 0, 1) := by decide +kernel
theorem dX12_isNumber_1 : decode cX12_isNumber 1 = .ok (.getfield 66, 3) := by decide +kernel
theorem dX12_isNumber_4 : decode cX12_isNumber 4 = .ok (.iload_n 1, 1) := by decide +kernel
theorem dX12_isNumber_5 : decode cX12_isNumber 5 = .ok (.iaload, 1) := by decide +kernel
theorem dX12_isNumber_6 : decode cX12_isNumber 6 = .ok (.ifCond .ne 7, 3) := by decide +kernel
theorem dX12_isNumber_9 : decode cX12_isNumber 9 = .ok (.iconst 1, 1) := by decide +kernel
theorem dX12_isNumber_10 : decode cX12_isNumber 10 = .ok (.goto 4, 3) := by decide +kernel
theorem dX12_isNumber_13 : decode cX12_isNumber 13 = .ok (.iconst 0, 1) := by decide +kernel
theorem dX12_isNumber_14 : decode cX12_isNumber 14 = .ok (.ireturn, 1) := by decide +kernel
theorem dX12_leaveOut_0 : decode cX12_leaveOut 0 = .ok (.iconst 0, 1) := by decide +kernel
theorem dX12_leaveOut_1 : decode cX12_leaveOut 1 = .ok (.istore_n 2, 1) := by decide +kernel
theorem dX12_leaveOut_2 : decode cX12_leaveOut 2 = .ok (.iconst 0, 1) := by decide +kernel
theorem dX12_leaveOut_3 : decode cX12_leaveOut 3 = .ok (.istore_n 3, 1) := by decide +kernel
theorem dX12_leaveOut_4 : decode cX12_leaveOut 4 = .ok (.iload_n 3, 1) := by decide +kernel
theorem dX12_leaveOut_5 : decode cX12_leaveOut 5 = .ok (.aload_n 0, 1) := by decide +kernel
theorem dX12_leaveOut_6 : decode cX12_leaveOut 6 = .ok (.getfield 403, 3) := by decide +kernel
theorem dX12_leaveOut_9 : decode cX12_leaveOut 9 = .ok (.if_icmp .ge 81, 3) := by decide +kernel
theorem dX12_leaveOut_12 : decode cX12_leaveOut 12 = .ok (.aload_n 0, 1) := by decide +kernel
theorem dX12_leaveOut_13 : decode cX12_leaveOut 13 = .ok (.aload_n 0, 1) := by decide +kernel
theorem dX12_leaveOut_14 : decode cX12_leaveOut 14 = .ok (.getfield 78, 3) := by decide +kernel
theorem dX12_leaveOut_17 : decode cX12_leaveOut 17 = .ok (.iload_n 3, 1) := by decide +kernel
theorem dX12_leaveOut_18 : decode cX12_leaveOut 18 = .ok (.iaload, 1) := by decide +kernel
theorem dX12_leaveOut_19 : decode cX12_leaveOut 19 = .ok (.invokevirtual 416, 3) := by decide +kernel
theorem dX12_leaveOut_22 : decode cX12_leaveOut 22 = .ok (.ifCond .eq 23, 3) := by decide +kernel
theorem dX12_leaveOut_25 : decode cX12_leaveOut 25 = .ok (.aload_n 0, 1) := by decide +kernel
theorem dX12_leaveOut_26 : decode cX12_leaveOut 26 = .ok (.getfield 66, 3) := by decide +kernel
theorem dX12_leaveOut_29 : decode cX12_leaveOut 29 = .ok (.aload_n 0, 1) := by decide +kernel
theorem dX12_leaveOut_30 : decode cX12_leaveOut 30 = .ok (.getfield 78, 3) := by decide +kernel
theorem dX12_leaveOut_33 : decode cX12_leaveOut 33 = .ok (.iload_n 3, 1) := by decide +kernel
theorem dX12_leaveOut_34 : decode cX12_leaveOut 34 = .ok (.iaload, 1) := by decide +kernel
theorem dX12_leaveOut_35 : decode cX12_leaveOut 35 = .ok (.iconst 1, 1) := by decide +kernel
theorem dX12_leaveOut_36 : decode cX12_leaveOut 36 = .ok (.iadd, 1) := by decide +kernel
theorem dX12_leaveOut_37 : decode cX12_leaveOut 37 = .ok (.iaload, 1) := by decide +kernel
theorem dX12_leaveOut_38 : decode cX12_leaveOut 38 = .ok (.iload_n 1, 1) := by decide +kernel
theorem dX12_leaveOut_39 : decode cX12_leaveOut 39 = .ok (.if_icmp .ne 6, 3) := by decide +kernel
theorem dX12_leaveOut_42 : decode cX12_leaveOut 42 = .ok (.goto 42, 3) := by decide +kernel
theorem dX12_leaveOut_45 : decode cX12_leaveOut 45 = .ok (.aload_n 0, 1) := by decide +kernel
theorem dX12_leaveOut_46 : decode cX12_leaveOut 46 = .ok (.getfield 75, 3) := by decide +kernel
theorem dX12_leaveOut_49 : decode cX12_leaveOut 49 = .ok (.iload_n 2, 1) := by decide +kernel
theorem dX12_leaveOut_50 : decode cX12_leaveOut 50 = .ok (.aload_n 0, 1) := by decide +kernel
theorem dX12_leaveOut_51 : decode cX12_leaveOut 51 = .ok (.getfield 75, 3) := by decide +kernel
theorem dX12_leaveOut_54 : decode cX12_leaveOut 54 = .ok (.iload_n 3, 1) := by decide +kernel
theorem dX12_leaveOut_55 : decode cX12_leaveOut 55 = .ok (.iaload, 1) := by decide +kernel
theorem dX12_leaveOut_56 : decode cX12_leaveOut 56 = .ok (.iastore, 1) := by decide +kernel
theorem dX12_leaveOut_57 : decode cX12_leaveOut 57 = .ok (.aload_n 0, 1) := by decide +kernel
theorem dX12_leaveOut_58 : decode cX12_leaveOut 58 = .ok (.getfield 78, 3) := by decide +kernel
theorem dX12_leaveOut_61 : decode cX12_leaveOut 61 = .ok (.iload_n 2, 1) := by decide +kernel
theorem dX12_leaveOut_62 : decode cX12_leaveOut 62 = .ok (.aload_n 0, 1) := by decide +kernel
theorem dX12_leaveOut_63 : decode cX12_leaveOut 63 = .ok (.getfield 78, 3) := by decide +kernel
theorem dX12_leaveOut_66 : decode cX12_leaveOut 66 = .ok (.iload_n 3, 1) := by decide +kernel
theorem dX12_leaveOut_67 : decode cX12_leaveOut 67 = .ok (.iaload, 1) := by decide +kernel
theorem dX12_leaveOut_68 : decode cX12_leaveOut 68 = .ok (.iastore, 1) := by decide +kernel
theorem dX12_leaveOut_69 : decode cX12_leaveOut 69 = .ok (.aload_n 0, 1) := by decide +kernel
theorem dX12_leaveOut_70 : decode cX12_leaveOut 70 = .ok (.getfield 81, 3) := by decide +kernel
theorem dX12_leaveOut_73 : decode cX12_leaveOut 73 = .ok (.iload_n 2, 1) := by decide +kernel
theorem dX12_leaveOut_74 : decode cX12_leaveOut 74 = .ok (.aload_n 0, 1) := by decide +kernel
theorem dX12_leaveOut_75 : decode cX12_leaveOut 75 = .ok (.getfield 81, 3) := by decide +kernel
theorem dX12_leaveOut_78 : decode cX12_leaveOut 78 = .ok (.iload_n 3, 1) := by decide +kernel
theorem dX12_leaveOut_79 : decode cX12_leaveOut 79 = .ok (.iaload, 1) := by decide +kernel
theorem dX12_leaveOut_80 : decode cX12_leaveOut 80 = .ok (.iastore, 1) := by decide +kernel
theorem dX12_leaveOut_81 : decode cX12_leaveOut 81 = .ok (.iinc 2 1, 3) := by decide +kernel
theorem dX12_leaveOut_84 : decode cX12_leaveOut 84 = .ok (.iinc 3 1, 3) := by decide +kernel
theorem dX12_leaveOut_87 : decode cX12_leaveOut 87 = .ok (.goto (-83), 3) := by decide +kernel
theorem dX12_leaveOut_90 : decode cX12_leaveOut 90 = .ok (.aload_n 0, 1) := by decide +kernel
theorem dX12_leaveOut_91 : decode cX12_leaveOut 91 = .ok (.iload_n 2, 1) := by decide +kernel
theorem dX12_leaveOut_92 : decode cX12_leaveOut 92 = .ok (.putfield 403, 3) := by decide +kernel
theorem dX12_leaveOut_95 : decode cX12_leaveOut 95 = .ok (.return_, 1) := by decide +kernel
theorem dX12_areNumbers_0 : decode cX12_areNumbers 0 = .ok (.iconst 0, 1) := by decide +kernel
theorem dX12_areNumbers_1 : decode cX12_areNumbers 1 = .ok (.istore_n 1, 1) := by decide +kernel
theorem dX12_areNumbers_2 : decode cX12_areNumbers 2 = .ok (.iload_n 1, 1) := by decide +kernel
theorem dX12_areNumbers_3 : decode cX12_areNumbers 3 = .ok (.aload_n 0, 1) := by decide +kernel
theorem dX12_areNumbers_4 : decode cX12_areNumbers 4 = .ok (.getfield 403, 3) := by decide +kernel
theorem dX12_areNumbers_7 : decode cX12_areNumbers 7 = .ok (.if_icmp .ge 24, 3) := by decide +kernel
theorem dX12_areNumbers_10 : decode cX12_areNumbers 10 = .ok (.aload_n 0, 1) := by decide +kernel
theorem dX12_areNumbers_11 : decode cX12_areNumbers 11 = .ok (.aload_n 0, 1) := by decide +kernel
theorem dX12_areNumbers_12 : decode cX12_areNumbers 12 = .ok (.getfield 78, 3) := by decide +kernel
theorem dX12_areNumbers_15 : decode cX12_areNumbers 15 = .ok (.iload_n 1, 1) := by decide +kernel
theorem dX12_areNumbers_16 : decode cX12_areNumbers 16 = .ok (.iaload, 1) := by decide +kernel
theorem dX12_areNumbers_17 : decode cX12_areNumbers 17 = .ok (.invokevirtual 416, 3) := by decide +kernel
theorem dX12_areNumbers_20 : decode cX12_areNumbers 20 = .ok (.ifCond .ne 5, 3) := by decide +kernel
theorem dX12_areNumbers_23 : decode cX12_areNumbers 23 = .ok (.iconst 0, 1) := by decide +kernel
theorem dX12_areNumbers_24 : decode cX12_areNumbers 24 = .ok (.ireturn, 1) := by decide +kernel
theorem dX12_areNumbers_25 : decode cX12_areNumbers 25 = .ok (.iinc 1 1, 3) := by decide +kernel
theorem dX12_areNumbers_28 : decode cX12_areNumbers 28 = .ok (.goto (-26), 3) := by decide +kernel
theorem dX12_areNumbers_31 : decode cX12_areNumbers 31 = .ok (.iconst 1, 1) := by decide +kernel
theorem dX12_areNumbers_32 : decode cX12_areNumbers 32 = .ok (.ireturn, 1) := by decide +kernel
theorem dX12_worked_0 : decode cX12_worked 0 = .ok (.iload_n 1, 1) := by decide +kernel
theorem dX12_worked_1 : decode cX12_worked 1 = .ok (.iconst 2, 1) := by decide +kernel
theorem dX12_worked_2 : decode cX12_worked 2 = .ok (.if_icmp .ne 7, 3) := by decide +kernel
theorem dX12_worked_5 : decode cX12_worked 5 = .ok (.lconst 0, 1) := by decide +kernel
theorem dX12_worked_6 : decode cX12_worked 6 = .ok (.goto 4, 3) := by decide +kernel
theorem dX12_worked_9 : decode cX12_worked 9 = .ok (.lconst 1, 1) := by decide +kernel
theorem dX12_worked_10 : decode cX12_worked 10 = .ok (.lstore_n 2, 1) := by decide +kernel
theorem dX12_worked_11 : decode cX12_worked 11 = .ok (.iconst 0, 1) := by decide +kernel
theorem dX12_worked_12 : decode cX12_worked 12 = .ok (.istore 4, 2) := by decide +kernel
theorem dX12_worked_14 : decode cX12_worked 14 = .ok (.iload 4, 2) := by decide +kernel
theorem dX12_worked_16 : decode cX12_worked 16 = .ok (.aload_n 0, 1) := by decide +kernel
theorem dX12_worked_17 : decode cX12_worked 17 = .ok (.getfield 403, 3) := by decide +kernel
theorem dX12_worked_20 : decode cX12_worked 20 = .ok (.if_icmp .ge 64, 3) := by decide +kernel
theorem dX12_worked_23 : decode cX12_worked 23 = .ok (.aload_n 0, 1) := by decide +kernel
theorem dX12_worked_24 : decode cX12_worked 24 = .ok (.getfield 66, 3) := by decide +kernel
theorem dX12_worked_27 : decode cX12_worked 27 = .ok (.aload_n 0, 1) := by decide +kernel
theorem dX12_worked_28 : decode cX12_worked 28 = .ok (.getfield 78, 3) := by decide +kernel
theorem dX12_worked_31 : decode cX12_worked 31 = .ok (.iload 4, 2) := by decide +kernel
theorem dX12_worked_33 : decode cX12_worked 33 = .ok (.iaload, 1) := by decide +kernel
theorem dX12_worked_34 : decode cX12_worked 34 = .ok (.iconst 1, 1) := by decide +kernel
theorem dX12_worked_35 : decode cX12_worked 35 = .ok (.iadd, 1) := by decide +kernel
theorem dX12_worked_36 : decode cX12_worked 36 = .ok (.iaload, 1) := by decide +kernel
theorem dX12_worked_37 : decode cX12_worked 37 = .ok (.i2l, 1) := by decide +kernel
theorem dX12_worked_38 : decode cX12_worked 38 = .ok (.lstore 5, 2) := by decide +kernel
theorem dX12_worked_40 : decode cX12_worked 40 = .ok (.iload_n 1, 1) := by decide +kernel
theorem dX12_worked_41 : decode cX12_worked 41 = .ok (.iconst 3, 1) := by decide +kernel
theorem dX12_worked_42 : decode cX12_worked 42 = .ok (.if_icmp .ne 10, 3) := by decide +kernel
theorem dX12_worked_45 : decode cX12_worked 45 = .ok (.lload_n 2, 1) := by decide +kernel
theorem dX12_worked_46 : decode cX12_worked 46 = .ok (.lload 5, 2) := by decide +kernel
theorem dX12_worked_48 : decode cX12_worked 48 = .ok (.lmul, 1) := by decide +kernel
theorem dX12_worked_49 : decode cX12_worked 49 = .ok (.goto 25, 3) := by decide +kernel
theorem dX12_worked_52 : decode cX12_worked 52 = .ok (.aload_n 0, 1) := by decide +kernel
theorem dX12_worked_53 : decode cX12_worked 53 = .ok (.getfield 75, 3) := by decide +kernel
theorem dX12_worked_56 : decode cX12_worked 56 = .ok (.iload 4, 2) := by decide +kernel
theorem dX12_worked_58 : decode cX12_worked 58 = .ok (.iaload, 1) := by decide +kernel
theorem dX12_worked_59 : decode cX12_worked 59 = .ok (.iconst 1, 1) := by decide +kernel
theorem dX12_worked_60 : decode cX12_worked 60 = .ok (.if_icmp .ne 10, 3) := by decide +kernel
theorem dX12_worked_63 : decode cX12_worked 63 = .ok (.lload_n 2, 1) := by decide +kernel
theorem dX12_worked_64 : decode cX12_worked 64 = .ok (.lload 5, 2) := by decide +kernel
theorem dX12_worked_66 : decode cX12_worked 66 = .ok (.lsub, 1) := by decide +kernel
theorem dX12_worked_67 : decode cX12_worked 67 = .ok (.goto 7, 3) := by decide +kernel
theorem dX12_worked_70 : decode cX12_worked 70 = .ok (.lload_n 2, 1) := by decide +kernel
theorem dX12_worked_71 : decode cX12_worked 71 = .ok (.lload 5, 2) := by decide +kernel
theorem dX12_worked_73 : decode cX12_worked 73 = .ok (.ladd, 1) := by decide +kernel
theorem dX12_worked_74 : decode cX12_worked 74 = .ok (.invokestatic 376, 3) := by decide +kernel
theorem dX12_worked_77 : decode cX12_worked 77 = .ok (.lstore_n 2, 1) := by decide +kernel
theorem dX12_worked_78 : decode cX12_worked 78 = .ok (.iinc 4 1, 3) := by decide +kernel
theorem dX12_worked_81 : decode cX12_worked 81 = .ok (.goto (-67), 3) := by decide +kernel
theorem dX12_worked_84 : decode cX12_worked 84 = .ok (.lload_n 2, 1) := by decide +kernel
theorem dX12_worked_85 : decode cX12_worked 85 = .ok (.l2i, 1) := by decide +kernel
theorem dX12_worked_86 : decode cX12_worked 86 = .ok (.ireturn, 1) := by decide +kernel
theorem dX12_exchange_0 : decode cX12_exchange 0 = .ok (.aload_n 0, 1) := by decide +kernel
theorem dX12_exchange_1 : decode cX12_exchange 1 = .ok (.getfield 75, 3) := by decide +kernel
theorem dX12_exchange_4 : decode cX12_exchange 4 = .ok (.iload_n 1, 1) := by decide +kernel
theorem dX12_exchange_5 : decode cX12_exchange 5 = .ok (.iaload, 1) := by decide +kernel
theorem dX12_exchange_6 : decode cX12_exchange 6 = .ok (.istore_n 3, 1) := by decide +kernel
theorem dX12_exchange_7 : decode cX12_exchange 7 = .ok (.aload_n 0, 1) := by decide +kernel
theorem dX12_exchange_8 : decode cX12_exchange 8 = .ok (.getfield 78, 3) := by decide +kernel
theorem dX12_exchange_11 : decode cX12_exchange 11 = .ok (.iload_n 1, 1) := by decide +kernel
theorem dX12_exchange_12 : decode cX12_exchange 12 = .ok (.iaload, 1) := by decide +kernel
theorem dX12_exchange_13 : decode cX12_exchange 13 = .ok (.istore 4, 2) := by decide +kernel
theorem dX12_exchange_15 : decode cX12_exchange 15 = .ok (.aload_n 0, 1) := by decide +kernel
theorem dX12_exchange_16 : decode cX12_exchange 16 = .ok (.getfield 81, 3) := by decide +kernel
theorem dX12_exchange_19 : decode cX12_exchange 19 = .ok (.iload_n 1, 1) := by decide +kernel
theorem dX12_exchange_20 : decode cX12_exchange 20 = .ok (.iaload, 1) := by decide +kernel
theorem dX12_exchange_21 : decode cX12_exchange 21 = .ok (.istore 5, 2) := by decide +kernel
theorem dX12_exchange_23 : decode cX12_exchange 23 = .ok (.aload_n 0, 1) := by decide +kernel
theorem dX12_exchange_24 : decode cX12_exchange 24 = .ok (.getfield 75, 3) := by decide +kernel
theorem dX12_exchange_27 : decode cX12_exchange 27 = .ok (.iload_n 1, 1) := by decide +kernel
theorem dX12_exchange_28 : decode cX12_exchange 28 = .ok (.aload_n 0, 1) := by decide +kernel
theorem dX12_exchange_29 : decode cX12_exchange 29 = .ok (.getfield 75, 3) := by decide +kernel
theorem dX12_exchange_32 : decode cX12_exchange 32 = .ok (.iload_n 2, 1) := by decide +kernel
theorem dX12_exchange_33 : decode cX12_exchange 33 = .ok (.iaload, 1) := by decide +kernel
theorem dX12_exchange_34 : decode cX12_exchange 34 = .ok (.iastore, 1) := by decide +kernel
theorem dX12_exchange_35 : decode cX12_exchange 35 = .ok (.aload_n 0, 1) := by decide +kernel
theorem dX12_exchange_36 : decode cX12_exchange 36 = .ok (.getfield 78, 3) := by decide +kernel
theorem dX12_exchange_39 : decode cX12_exchange 39 = .ok (.iload_n 1, 1) := by decide +kernel
theorem dX12_exchange_40 : decode cX12_exchange 40 = .ok (.aload_n 0, 1) := by decide +kernel
theorem dX12_exchange_41 : decode cX12_exchange 41 = .ok (.getfield 78, 3) := by decide +kernel
theorem dX12_exchange_44 : decode cX12_exchange 44 = .ok (.iload_n 2, 1) := by decide +kernel
theorem dX12_exchange_45 : decode cX12_exchange 45 = .ok (.iaload, 1) := by decide +kernel
theorem dX12_exchange_46 : decode cX12_exchange 46 = .ok (.iastore, 1) := by decide +kernel
theorem dX12_exchange_47 : decode cX12_exchange 47 = .ok (.aload_n 0, 1) := by decide +kernel
theorem dX12_exchange_48 : decode cX12_exchange 48 = .ok (.getfield 81, 3) := by decide +kernel
theorem dX12_exchange_51 : decode cX12_exchange 51 = .ok (.iload_n 1, 1) := by decide +kernel
theorem dX12_exchange_52 : decode cX12_exchange 52 = .ok (.aload_n 0, 1) := by decide +kernel
theorem dX12_exchange_53 : decode cX12_exchange 53 = .ok (.getfield 81, 3) := by decide +kernel
theorem dX12_exchange_56 : decode cX12_exchange 56 = .ok (.iload_n 2, 1) := by decide +kernel
theorem dX12_exchange_57 : decode cX12_exchange 57 = .ok (.iaload, 1) := by decide +kernel
theorem dX12_exchange_58 : decode cX12_exchange 58 = .ok (.iastore, 1) := by decide +kernel
theorem dX12_exchange_59 : decode cX12_exchange 59 = .ok (.aload_n 0, 1) := by decide +kernel
theorem dX12_exchange_60 : decode cX12_exchange 60 = .ok (.getfield 75, 3) := by decide +kernel
theorem dX12_exchange_63 : decode cX12_exchange 63 = .ok (.iload_n 2, 1) := by decide +kernel
theorem dX12_exchange_64 : decode cX12_exchange 64 = .ok (.iload_n 3, 1) := by decide +kernel
theorem dX12_exchange_65 : decode cX12_exchange 65 = .ok (.iastore, 1) := by decide +kernel
theorem dX12_exchange_66 : decode cX12_exchange 66 = .ok (.aload_n 0, 1) := by decide +kernel
theorem dX12_exchange_67 : decode cX12_exchange 67 = .ok (.getfield 78, 3) := by decide +kernel
theorem dX12_exchange_70 : decode cX12_exchange 70 = .ok (.iload_n 2, 1) := by decide +kernel
theorem dX12_exchange_71 : decode cX12_exchange 71 = .ok (.iload 4, 2) := by decide +kernel
theorem dX12_exchange_73 : decode cX12_exchange 73 = .ok (.iastore, 1) := by decide +kernel
theorem dX12_exchange_74 : decode cX12_exchange 74 = .ok (.aload_n 0, 1) := by decide +kernel
theorem dX12_exchange_75 : decode cX12_exchange 75 = .ok (.getfield 81, 3) := by decide +kernel
theorem dX12_exchange_78 : decode cX12_exchange 78 = .ok (.iload_n 2, 1) := by decide +kernel
theorem dX12_exchange_79 : decode cX12_exchange 79 = .ok (.iload 5, 2) := by decide +kernel
theorem dX12_exchange_81 : decode cX12_exchange 81 = .ok (.iastore, 1) := by decide +kernel
theorem dX12_exchange_82 : decode cX12_exchange 82 = .ok (.return_, 1) := by decide +kernel
theorem dX12_isAhead_0 : decode cX12_isAhead 0 = .ok (.aload_n 0, 1) := by decide +kernel
theorem dX12_isAhead_1 : decode cX12_isAhead 1 = .ok (.getfield 75, 3) := by decide +kernel
theorem dX12_isAhead_4 : decode cX12_isAhead 4 = .ok (.iload_n 1, 1) := by decide +kernel
theorem dX12_isAhead_5 : decode cX12_isAhead 5 = .ok (.iaload, 1) := by decide +kernel
theorem dX12_isAhead_6 : decode cX12_isAhead 6 = .ok (.aload_n 0, 1) := by decide +kernel
theorem dX12_isAhead_7 : decode cX12_isAhead 7 = .ok (.getfield 75, 3) := by decide +kernel
theorem dX12_isAhead_10 : decode cX12_isAhead 10 = .ok (.iload_n 2, 1) := by decide +kernel
theorem dX12_isAhead_11 : decode cX12_isAhead 11 = .ok (.iaload, 1) := by decide +kernel
theorem dX12_isAhead_12 : decode cX12_isAhead 12 = .ok (.if_icmp .eq 24, 3) := by decide +kernel
theorem dX12_isAhead_15 : decode cX12_isAhead 15 = .ok (.aload_n 0, 1) := by decide +kernel
theorem dX12_isAhead_16 : decode cX12_isAhead 16 = .ok (.getfield 75, 3) := by decide +kernel
theorem dX12_isAhead_19 : decode cX12_isAhead 19 = .ok (.iload_n 1, 1) := by decide +kernel
theorem dX12_isAhead_20 : decode cX12_isAhead 20 = .ok (.iaload, 1) := by decide +kernel
theorem dX12_isAhead_21 : decode cX12_isAhead 21 = .ok (.aload_n 0, 1) := by decide +kernel
theorem dX12_isAhead_22 : decode cX12_isAhead 22 = .ok (.getfield 75, 3) := by decide +kernel
theorem dX12_isAhead_25 : decode cX12_isAhead 25 = .ok (.iload_n 2, 1) := by decide +kernel
theorem dX12_isAhead_26 : decode cX12_isAhead 26 = .ok (.iaload, 1) := by decide +kernel
theorem dX12_isAhead_27 : decode cX12_isAhead 27 = .ok (.if_icmp .ge 7, 3) := by decide +kernel
theorem dX12_isAhead_30 : decode cX12_isAhead 30 = .ok (.iconst 1, 1) := by decide +kernel
theorem dX12_isAhead_31 : decode cX12_isAhead 31 = .ok (.goto 4, 3) := by decide +kernel
theorem dX12_isAhead_34 : decode cX12_isAhead 34 = .ok (.iconst 0, 1) := by decide +kernel
theorem dX12_isAhead_35 : decode cX12_isAhead 35 = .ok (.ireturn, 1) := by decide +kernel
theorem dX12_isAhead_36 : decode cX12_isAhead 36 = .ok (.aload_n 0, 1) := by decide +kernel
theorem dX12_isAhead_37 : decode cX12_isAhead 37 = .ok (.aload_n 0, 1) := by decide +kernel
theorem dX12_isAhead_38 : decode cX12_isAhead 38 = .ok (.getfield 78, 3) := by decide +kernel
theorem dX12_isAhead_41 : decode cX12_isAhead 41 = .ok (.iload_n 1, 1) := by decide +kernel
theorem dX12_isAhead_42 : decode cX12_isAhead 42 = .ok (.iaload, 1) := by decide +kernel
theorem dX12_isAhead_43 : decode cX12_isAhead 43 = .ok (.aload_n 0, 1) := by decide +kernel
theorem dX12_isAhead_44 : decode cX12_isAhead 44 = .ok (.getfield 81, 3) := by decide +kernel
theorem dX12_isAhead_47 : decode cX12_isAhead 47 = .ok (.iload_n 1, 1) := by decide +kernel
theorem dX12_isAhead_48 : decode cX12_isAhead 48 = .ok (.iaload, 1) := by decide +kernel
theorem dX12_isAhead_49 : decode cX12_isAhead 49 = .ok (.aload_n 0, 1) := by decide +kernel
theorem dX12_isAhead_50 : decode cX12_isAhead 50 = .ok (.getfield 78, 3) := by decide +kernel
theorem dX12_isAhead_53 : decode cX12_isAhead 53 = .ok (.iload_n 2, 1) := by decide +kernel
theorem dX12_isAhead_54 : decode cX12_isAhead 54 = .ok (.iaload, 1) := by decide +kernel
theorem dX12_isAhead_55 : decode cX12_isAhead 55 = .ok (.aload_n 0, 1) := by decide +kernel
theorem dX12_isAhead_56 : decode cX12_isAhead 56 = .ok (.getfield 81, 3) := by decide +kernel
theorem dX12_isAhead_59 : decode cX12_isAhead 59 = .ok (.iload_n 2, 1) := by decide +kernel
theorem dX12_isAhead_60 : decode cX12_isAhead 60 = .ok (.iaload, 1) := by decide +kernel
theorem dX12_isAhead_61 : decode cX12_isAhead 61 = .ok (.invokevirtual 419, 3) := by decide +kernel
theorem dX12_isAhead_64 : decode cX12_isAhead 64 = .ok (.ifCond .ge 7, 3) := by decide +kernel
theorem dX12_isAhead_67 : decode cX12_isAhead 67 = .ok (.iconst 1, 1) := by decide +kernel
theorem dX12_isAhead_68 : decode cX12_isAhead 68 = .ok (.goto 4, 3) := by decide +kernel
theorem dX12_isAhead_71 : decode cX12_isAhead 71 = .ok (.iconst 0, 1) := by decide +kernel
theorem dX12_isAhead_72 : decode cX12_isAhead 72 = .ok (.ireturn, 1) := by decide +kernel
theorem dX12_setInOrder_0 : decode cX12_setInOrder 0 = .ok (.iconst 0, 1) := by decide +kernel
theorem dX12_setInOrder_1 : decode cX12_setInOrder 1 = .ok (.istore_n 1, 1) := by decide +kernel
theorem dX12_setInOrder_2 : decode cX12_setInOrder 2 = .ok (.iload_n 1, 1) := by decide +kernel
theorem dX12_setInOrder_3 : decode cX12_setInOrder 3 = .ok (.aload_n 0, 1) := by decide +kernel
theorem dX12_setInOrder_4 : decode cX12_setInOrder 4 = .ok (.getfield 403, 3) := by decide +kernel
theorem dX12_setInOrder_7 : decode cX12_setInOrder 7 = .ok (.if_icmp .ge 42, 3) := by decide +kernel
theorem dX12_setInOrder_10 : decode cX12_setInOrder 10 = .ok (.iload_n 1, 1) := by decide +kernel
theorem dX12_setInOrder_11 : decode cX12_setInOrder 11 = .ok (.iconst 1, 1) := by decide +kernel
theorem dX12_setInOrder_12 : decode cX12_setInOrder 12 = .ok (.iadd, 1) := by decide +kernel
theorem dX12_setInOrder_13 : decode cX12_setInOrder 13 = .ok (.istore_n 2, 1) := by decide +kernel
theorem dX12_setInOrder_14 : decode cX12_setInOrder 14 = .ok (.iload_n 2, 1) := by decide +kernel
theorem dX12_setInOrder_15 : decode cX12_setInOrder 15 = .ok (.aload_n 0, 1) := by decide +kernel
theorem dX12_setInOrder_16 : decode cX12_setInOrder 16 = .ok (.getfield 403, 3) := by decide +kernel
theorem dX12_setInOrder_19 : decode cX12_setInOrder 19 = .ok (.if_icmp .ge 24, 3) := by decide +kernel
theorem dX12_setInOrder_22 : decode cX12_setInOrder 22 = .ok (.aload_n 0, 1) := by decide +kernel
theorem dX12_setInOrder_23 : decode cX12_setInOrder 23 = .ok (.iload_n 2, 1) := by decide +kernel
theorem dX12_setInOrder_24 : decode cX12_setInOrder 24 = .ok (.iload_n 1, 1) := by decide +kernel
theorem dX12_setInOrder_25 : decode cX12_setInOrder 25 = .ok (.invokevirtual 423, 3) := by decide +kernel
theorem dX12_setInOrder_28 : decode cX12_setInOrder 28 = .ok (.ifCond .eq 9, 3) := by decide +kernel
theorem dX12_setInOrder_31 : decode cX12_setInOrder 31 = .ok (.aload_n 0, 1) := by decide +kernel
theorem dX12_setInOrder_32 : decode cX12_setInOrder 32 = .ok (.iload_n 1, 1) := by decide +kernel
theorem dX12_setInOrder_33 : decode cX12_setInOrder 33 = .ok (.iload_n 2, 1) := by decide +kernel
theorem dX12_setInOrder_34 : decode cX12_setInOrder 34 = .ok (.invokevirtual 426, 3) := by decide +kernel
theorem dX12_setInOrder_37 : decode cX12_setInOrder 37 = .ok (.iinc 2 1, 3) := by decide +kernel
theorem dX12_setInOrder_40 : decode cX12_setInOrder 40 = .ok (.goto (-26), 3) := by decide +kernel
theorem dX12_setInOrder_43 : decode cX12_setInOrder 43 = .ok (.iinc 1 1, 3) := by decide +kernel
theorem dX12_setInOrder_46 : decode cX12_setInOrder 46 = .ok (.goto (-44), 3) := by decide +kernel
theorem dX12_setInOrder_49 : decode cX12_setInOrder 49 = .ok (.return_, 1) := by decide +kernel
theorem dX12_put_0 : decode cX12_put 0 = .ok (.aload_n 0, 1) := by decide +kernel
theorem dX12_put_1 : decode cX12_put 1 = .ok (.dup, 1) := by decide +kernel
theorem dX12_put_2 : decode cX12_put 2 = .ok (.getfield 406, 3) := by decide +kernel
theorem dX12_put_5 : decode cX12_put 5 = .ok (.iload_n 1, 1) := by decide +kernel
theorem dX12_put_6 : decode cX12_put 6 = .ok (.isub, 1) := by decide +kernel
theorem dX12_put_7 : decode cX12_put 7 = .ok (.putfield 406, 3) := by decide +kernel
theorem dX12_put_10 : decode cX12_put 10 = .ok (.aload_n 0, 1) := by decide +kernel
theorem dX12_put_11 : decode cX12_put 11 = .ok (.getfield 69, 3) := by decide +kernel
theorem dX12_put_14 : decode cX12_put 14 = .ok (.aload_n 0, 1) := by decide +kernel
theorem dX12_put_15 : decode cX12_put 15 = .ok (.getfield 406, 3) := by decide +kernel
theorem dX12_put_18 : decode cX12_put 18 = .ok (.iaload, 1) := by decide +kernel
theorem dX12_put_19 : decode cX12_put 19 = .ok (.istore_n 3, 1) := by decide +kernel
theorem dX12_put_20 : decode cX12_put 20 = .ok (.iconst 0, 1) := by decide +kernel
theorem dX12_put_21 : decode cX12_put 21 = .ok (.istore 4, 2) := by decide +kernel
theorem dX12_put_23 : decode cX12_put 23 = .ok (.iload 4, 2) := by decide +kernel
theorem dX12_put_25 : decode cX12_put 25 = .ok (.iload_n 2, 1) := by decide +kernel
theorem dX12_put_26 : decode cX12_put 26 = .ok (.if_icmp .ge 25, 3) := by decide +kernel
theorem dX12_put_29 : decode cX12_put 29 = .ok (.aload_n 0, 1) := by decide +kernel
theorem dX12_put_30 : decode cX12_put 30 = .ok (.getfield 66, 3) := by decide +kernel
theorem dX12_put_33 : decode cX12_put 33 = .ok (.iload_n 3, 1) := by decide +kernel
theorem dX12_put_34 : decode cX12_put 34 = .ok (.iload 4, 2) := by decide +kernel
theorem dX12_put_36 : decode cX12_put 36 = .ok (.iadd, 1) := by decide +kernel
theorem dX12_put_37 : decode cX12_put 37 = .ok (.aload_n 0, 1) := by decide +kernel
theorem dX12_put_38 : decode cX12_put 38 = .ok (.getfield 72, 3) := by decide +kernel
theorem dX12_put_41 : decode cX12_put 41 = .ok (.iload 4, 2) := by decide +kernel
theorem dX12_put_43 : decode cX12_put 43 = .ok (.iaload, 1) := by decide +kernel
theorem dX12_put_44 : decode cX12_put 44 = .ok (.iastore, 1) := by decide +kernel
theorem dX12_put_45 : decode cX12_put 45 = .ok (.iinc 4 1, 3) := by decide +kernel
theorem dX12_put_48 : decode cX12_put 48 = .ok (.goto (-25), 3) := by decide +kernel
theorem dX12_put_51 : decode cX12_put 51 = .ok (.aload_n 0, 1) := by decide +kernel
theorem dX12_put_52 : decode cX12_put 52 = .ok (.dup, 1) := by decide +kernel
theorem dX12_put_53 : decode cX12_put 53 = .ok (.getfield 406, 3) := by decide +kernel
theorem dX12_put_56 : decode cX12_put 56 = .ok (.iconst 1, 1) := by decide +kernel
theorem dX12_put_57 : decode cX12_put 57 = .ok (.iadd, 1) := by decide +kernel
theorem dX12_put_58 : decode cX12_put 58 = .ok (.putfield 406, 3) := by decide +kernel
theorem dX12_put_61 : decode cX12_put 61 = .ok (.aload_n 0, 1) := by decide +kernel
theorem dX12_put_62 : decode cX12_put 62 = .ok (.getfield 69, 3) := by decide +kernel
theorem dX12_put_65 : decode cX12_put 65 = .ok (.aload_n 0, 1) := by decide +kernel
theorem dX12_put_66 : decode cX12_put 66 = .ok (.getfield 406, 3) := by decide +kernel
theorem dX12_put_69 : decode cX12_put 69 = .ok (.iload_n 3, 1) := by decide +kernel
theorem dX12_put_70 : decode cX12_put 70 = .ok (.iload_n 2, 1) := by decide +kernel
theorem dX12_put_71 : decode cX12_put 71 = .ok (.iadd, 1) := by decide +kernel
theorem dX12_put_72 : decode cX12_put 72 = .ok (.iastore, 1) := by decide +kernel
theorem dX12_put_73 : decode cX12_put 73 = .ok (.return_, 1) := by decide +kernel
theorem dX12_putNumber_0 : decode cX12_putNumber 0 = .ok (.aload_n 0, 1) := by decide +kernel
theorem dX12_putNumber_1 : decode cX12_putNumber 1 = .ok (.getfield 72, 3) := by decide +kernel
theorem dX12_putNumber_4 : decode cX12_putNumber 4 = .ok (.iconst 0, 1) := by decide +kernel
theorem dX12_putNumber_5 : decode cX12_putNumber 5 = .ok (.iconst 0, 1) := by decide +kernel
theorem dX12_putNumber_6 : decode cX12_putNumber 6 = .ok (.iastore, 1) := by decide +kernel
theorem dX12_putNumber_7 : decode cX12_putNumber 7 = .ok (.aload_n 0, 1) := by decide +kernel
theorem dX12_putNumber_8 : decode cX12_putNumber 8 = .ok (.getfield 72, 3) := by decide +kernel
theorem dX12_putNumber_11 : decode cX12_putNumber 11 = .ok (.iconst 1, 1) := by decide +kernel
theorem dX12_putNumber_12 : decode cX12_putNumber 12 = .ok (.iload_n 2, 1) := by decide +kernel
theorem dX12_putNumber_13 : decode cX12_putNumber 13 = .ok (.iastore, 1) := by decide +kernel
theorem dX12_putNumber_14 : decode cX12_putNumber 14 = .ok (.aload_n 0, 1) := by decide +kernel
theorem dX12_putNumber_15 : decode cX12_putNumber 15 = .ok (.iload_n 1, 1) := by decide +kernel
theorem dX12_putNumber_16 : decode cX12_putNumber 16 = .ok (.iconst 2, 1) := by decide +kernel
theorem dX12_putNumber_17 : decode cX12_putNumber 17 = .ok (.invokevirtual 429, 3) := by decide +kernel
theorem dX12_putNumber_20 : decode cX12_putNumber 20 = .ok (.return_, 1) := by decide +kernel
theorem dX12_saySum_0 : decode cX12_saySum 0 = .ok (.aload_n 0, 1) := by decide +kernel
theorem dX12_saySum_1 : decode cX12_saySum 1 = .ok (.iload_n 1, 1) := by decide +kernel
theorem dX12_saySum_2 : decode cX12_saySum 2 = .ok (.iload_n 2, 1) := by decide +kernel
theorem dX12_saySum_3 : decode cX12_saySum 3 = .ok (.iload_n 3, 1) := by decide +kernel
theorem dX12_saySum_4 : decode cX12_saySum 4 = .ok (.iload 4, 2) := by decide +kernel
theorem dX12_saySum_6 : decode cX12_saySum 6 = .ok (.iload_n 1, 1) := by decide +kernel
theorem dX12_saySum_7 : decode cX12_saySum 7 = .ok (.iconst 2, 1) := by decide +kernel
theorem dX12_saySum_8 : decode cX12_saySum 8 = .ok (.if_icmp .ne 7, 3) := by decide +kernel
theorem dX12_saySum_11 : decode cX12_saySum 11 = .ok (.iconst 0, 1) := by decide +kernel
theorem dX12_saySum_12 : decode cX12_saySum 12 = .ok (.goto 4, 3) := by decide +kernel
theorem dX12_saySum_15 : decode cX12_saySum 15 = .ok (.iconst 1, 1) := by decide +kernel
theorem dX12_saySum_16 : decode cX12_saySum 16 = .ok (.invokestatic 373, 3) := by decide +kernel
theorem dX12_saySum_19 : decode cX12_saySum 19 = .ok (.invokevirtual 432, 3) := by decide +kernel
theorem dX12_saySum_22 : decode cX12_saySum 22 = .ok (.iload 4, 2) := by decide +kernel
theorem dX12_saySum_24 : decode cX12_saySum 24 = .ok (.iload_n 1, 1) := by decide +kernel
theorem dX12_saySum_25 : decode cX12_saySum 25 = .ok (.iconst 2, 1) := by decide +kernel
theorem dX12_saySum_26 : decode cX12_saySum 26 = .ok (.if_icmp .ne 7, 3) := by decide +kernel
theorem dX12_saySum_29 : decode cX12_saySum 29 = .ok (.iconst 2, 1) := by decide +kernel
theorem dX12_saySum_30 : decode cX12_saySum 30 = .ok (.goto 4, 3) := by decide +kernel
theorem dX12_saySum_33 : decode cX12_saySum 33 = .ok (.iconst 3, 1) := by decide +kernel
theorem dX12_saySum_34 : decode cX12_saySum 34 = .ok (.invokestatic 373, 3) := by decide +kernel
theorem dX12_saySum_37 : decode cX12_saySum 37 = .ok (.ifCond .eq 17, 3) := by decide +kernel
theorem dX12_saySum_40 : decode cX12_saySum 40 = .ok (.aload_n 0, 1) := by decide +kernel
theorem dX12_saySum_41 : decode cX12_saySum 41 = .ok (.iload_n 1, 1) := by decide +kernel
theorem dX12_saySum_42 : decode cX12_saySum 42 = .ok (.iconst 2, 1) := by decide +kernel
theorem dX12_saySum_43 : decode cX12_saySum 43 = .ok (.if_icmp .ne 7, 3) := by decide +kernel
theorem dX12_saySum_46 : decode cX12_saySum 46 = .ok (.iconst 0, 1) := by decide +kernel
theorem dX12_saySum_47 : decode cX12_saySum 47 = .ok (.goto 4, 3) := by decide +kernel
theorem dX12_saySum_50 : decode cX12_saySum 50 = .ok (.iconst 1, 1) := by decide +kernel
theorem dX12_saySum_51 : decode cX12_saySum 51 = .ok (.invokevirtual 436, 3) := by decide +kernel
theorem dX12_saySum_54 : decode cX12_saySum 54 = .ok (.aload_n 0, 1) := by decide +kernel
theorem dX12_saySum_55 : decode cX12_saySum 55 = .ok (.getfield 403, 3) := by decide +kernel
theorem dX12_saySum_58 : decode cX12_saySum 58 = .ok (.ifCond .eq 20, 3) := by decide +kernel
theorem dX12_saySum_61 : decode cX12_saySum 61 = .ok (.iload 4, 2) := by decide +kernel
theorem dX12_saySum_63 : decode cX12_saySum 63 = .ok (.bipush 7, 2) := by decide +kernel
theorem dX12_saySum_65 : decode cX12_saySum 65 = .ok (.invokestatic 373, 3) := by decide +kernel
theorem dX12_saySum_68 : decode cX12_saySum 68 = .ok (.ifCond .eq 21, 3) := by decide +kernel
theorem dX12_saySum_71 : decode cX12_saySum 71 = .ok (.aload_n 0, 1) := by decide +kernel
theorem dX12_saySum_72 : decode cX12_saySum 72 = .ok (.invokevirtual 439, 3) := by decide +kernel
theorem dX12_saySum_75 : decode cX12_saySum 75 = .ok (.ifCond .eq 14, 3) := by decide +kernel
theorem dX12_saySum_78 : decode cX12_saySum 78 = .ok (.aload_n 0, 1) := by decide +kernel
theorem dX12_saySum_79 : decode cX12_saySum 79 = .ok (.iload_n 2, 1) := by decide +kernel
theorem dX12_saySum_80 : decode cX12_saySum 80 = .ok (.aload_n 0, 1) := by decide +kernel
theorem dX12_saySum_81 : decode cX12_saySum 81 = .ok (.iload_n 1, 1) := by decide +kernel
theorem dX12_saySum_82 : decode cX12_saySum 82 = .ok (.invokevirtual 443, 3) := by decide +kernel
theorem dX12_saySum_85 : decode cX12_saySum 85 = .ok (.invokevirtual 446, 3) := by decide +kernel
theorem dX12_saySum_88 : decode cX12_saySum 88 = .ok (.return_, 1) := by decide +kernel
theorem dX12_saySum_89 : decode cX12_saySum 89 = .ok (.iload 4, 2) := by decide +kernel
theorem dX12_saySum_91 : decode cX12_saySum 91 = .ok (.iload_n 1, 1) := by decide +kernel
theorem dX12_saySum_92 : decode cX12_saySum 92 = .ok (.iconst 2, 1) := by decide +kernel
theorem dX12_saySum_93 : decode cX12_saySum 93 = .ok (.if_icmp .ne 7, 3) := by decide +kernel
theorem dX12_saySum_96 : decode cX12_saySum 96 = .ok (.iconst 0, 1) := by decide +kernel
theorem dX12_saySum_97 : decode cX12_saySum 97 = .ok (.goto 4, 3) := by decide +kernel
theorem dX12_saySum_100 : decode cX12_saySum 100 = .ok (.iconst 1, 1) := by decide +kernel
theorem dX12_saySum_101 : decode cX12_saySum 101 = .ok (.invokestatic 373, 3) := by decide +kernel
theorem dX12_saySum_104 : decode cX12_saySum 104 = .ok (.ifCond .eq 7, 3) := by decide +kernel
theorem dX12_saySum_107 : decode cX12_saySum 107 = .ok (.aload_n 0, 1) := by decide +kernel
theorem dX12_saySum_108 : decode cX12_saySum 108 = .ok (.invokevirtual 449, 3) := by decide +kernel
theorem dX12_saySum_111 : decode cX12_saySum 111 = .ok (.aload_n 0, 1) := by decide +kernel
theorem dX12_saySum_112 : decode cX12_saySum 112 = .ok (.getfield 403, 3) := by decide +kernel
theorem dX12_saySum_115 : decode cX12_saySum 115 = .ok (.iconst 1, 1) := by decide +kernel
theorem dX12_saySum_116 : decode cX12_saySum 116 = .ok (.if_icmp .ne 16, 3) := by decide +kernel
theorem dX12_saySum_119 : decode cX12_saySum 119 = .ok (.aload_n 0, 1) := by decide +kernel
theorem dX12_saySum_120 : decode cX12_saySum 120 = .ok (.getfield 75, 3) := by decide +kernel
theorem dX12_saySum_123 : decode cX12_saySum 123 = .ok (.iconst 0, 1) := by decide +kernel
theorem dX12_saySum_124 : decode cX12_saySum 124 = .ok (.iaload, 1) := by decide +kernel
theorem dX12_saySum_125 : decode cX12_saySum 125 = .ok (.ifCond .ne 7, 3) := by decide +kernel
theorem dX12_saySum_128 : decode cX12_saySum 128 = .ok (.iconst 1, 1) := by decide +kernel
theorem dX12_saySum_129 : decode cX12_saySum 129 = .ok (.goto 4, 3) := by decide +kernel
theorem dX12_saySum_132 : decode cX12_saySum 132 = .ok (.iconst 0, 1) := by decide +kernel
theorem dX12_saySum_133 : decode cX12_saySum 133 = .ok (.istore 5, 2) := by decide +kernel
theorem dX12_saySum_135 : decode cX12_saySum 135 = .ok (.iconst 0, 1) := by decide +kernel
theorem dX12_saySum_136 : decode cX12_saySum 136 = .ok (.istore 6, 2) := by decide +kernel
theorem dX12_saySum_138 : decode cX12_saySum 138 = .ok (.iload 5, 2) := by decide +kernel
theorem dX12_saySum_140 : decode cX12_saySum 140 = .ok (.ifCond .ne 23, 3) := by decide +kernel
theorem dX12_saySum_143 : decode cX12_saySum 143 = .ok (.aload_n 0, 1) := by decide +kernel
theorem dX12_saySum_144 : decode cX12_saySum 144 = .ok (.getfield 72, 3) := by decide +kernel
theorem dX12_saySum_147 : decode cX12_saySum 147 = .ok (.iconst 0, 1) := by decide +kernel
theorem dX12_saySum_148 : decode cX12_saySum 148 = .ok (.iload_n 1, 1) := by decide +kernel
theorem dX12_saySum_149 : decode cX12_saySum 149 = .ok (.iastore, 1) := by decide +kernel
theorem dX12_saySum_150 : decode cX12_saySum 150 = .ok (.aload_n 0, 1) := by decide +kernel
theorem dX12_saySum_151 : decode cX12_saySum 151 = .ok (.getfield 72, 3) := by decide +kernel
theorem dX12_saySum_154 : decode cX12_saySum 154 = .ok (.iconst 1, 1) := by decide +kernel
theorem dX12_saySum_155 : decode cX12_saySum 155 = .ok (.aload_n 0, 1) := by decide +kernel
theorem dX12_saySum_156 : decode cX12_saySum 156 = .ok (.getfield 403, 3) := by decide +kernel
theorem dX12_saySum_159 : decode cX12_saySum 159 = .ok (.iastore, 1) := by decide +kernel
theorem dX12_saySum_160 : decode cX12_saySum 160 = .ok (.iconst 2, 1) := by decide +kernel
theorem dX12_saySum_161 : decode cX12_saySum 161 = .ok (.istore 6, 2) := by decide +kernel
theorem dX12_saySum_163 : decode cX12_saySum 163 = .ok (.iconst 0, 1) := by decide +kernel
theorem dX12_saySum_164 : decode cX12_saySum 164 = .ok (.istore 7, 2) := by decide +kernel
theorem dX12_saySum_166 : decode cX12_saySum 166 = .ok (.iload 7, 2) := by decide +kernel
theorem dX12_saySum_168 : decode cX12_saySum 168 = .ok (.aload_n 0, 1) := by decide +kernel
theorem dX12_saySum_169 : decode cX12_saySum 169 = .ok (.getfield 403, 3) := by decide +kernel
theorem dX12_saySum_172 : decode cX12_saySum 172 = .ok (.if_icmp .ge 85, 3) := by decide +kernel
theorem dX12_saySum_175 : decode cX12_saySum 175 = .ok (.iload_n 1, 1) := by decide +kernel
theorem dX12_saySum_176 : decode cX12_saySum 176 = .ok (.iconst 2, 1) := by decide +kernel
theorem dX12_saySum_177 : decode cX12_saySum 177 = .ok (.if_icmp .ne 28, 3) := by decide +kernel
theorem dX12_saySum_180 : decode cX12_saySum 180 = .ok (.iload 5, 2) := by decide +kernel
theorem dX12_saySum_182 : decode cX12_saySum 182 = .ok (.ifCond .ne 23, 3) := by decide +kernel
theorem dX12_saySum_185 : decode cX12_saySum 185 = .ok (.aload_n 0, 1) := by decide +kernel
theorem dX12_saySum_186 : decode cX12_saySum 186 = .ok (.getfield 72, 3) := by decide +kernel
theorem dX12_saySum_189 : decode cX12_saySum 189 = .ok (.iload 6, 2) := by decide +kernel
theorem dX12_saySum_191 : decode cX12_saySum 191 = .ok (.bipush 100, 2) := by decide +kernel
theorem dX12_saySum_193 : decode cX12_saySum 193 = .ok (.aload_n 0, 1) := by decide +kernel
theorem dX12_saySum_194 : decode cX12_saySum 194 = .ok (.getfield 75, 3) := by decide +kernel
theorem dX12_saySum_197 : decode cX12_saySum 197 = .ok (.iload 7, 2) := by decide +kernel
theorem dX12_saySum_199 : decode cX12_saySum 199 = .ok (.iaload, 1) := by decide +kernel
theorem dX12_saySum_200 : decode cX12_saySum 200 = .ok (.iadd, 1) := by decide +kernel
theorem dX12_saySum_201 : decode cX12_saySum 201 = .ok (.iastore, 1) := by decide +kernel
theorem dX12_saySum_202 : decode cX12_saySum 202 = .ok (.iinc 6 1, 3) := by decide +kernel
theorem dX12_saySum_205 : decode cX12_saySum 205 = .ok (.iconst 0, 1) := by decide +kernel
theorem dX12_saySum_206 : decode cX12_saySum 206 = .ok (.istore 8, 2) := by decide +kernel
theorem dX12_saySum_208 : decode cX12_saySum 208 = .ok (.iload 8, 2) := by decide +kernel
theorem dX12_saySum_210 : decode cX12_saySum 210 = .ok (.aload_n 0, 1) := by decide +kernel
theorem dX12_saySum_211 : decode cX12_saySum 211 = .ok (.getfield 81, 3) := by decide +kernel
theorem dX12_saySum_214 : decode cX12_saySum 214 = .ok (.iload 7, 2) := by decide +kernel
theorem dX12_saySum_216 : decode cX12_saySum 216 = .ok (.iaload, 1) := by decide +kernel
theorem dX12_saySum_217 : decode cX12_saySum 217 = .ok (.if_icmp .ge 34, 3) := by decide +kernel
theorem dX12_saySum_220 : decode cX12_saySum 220 = .ok (.aload_n 0, 1) := by decide +kernel
theorem dX12_saySum_221 : decode cX12_saySum 221 = .ok (.getfield 72, 3) := by decide +kernel
theorem dX12_saySum_224 : decode cX12_saySum 224 = .ok (.iload 6, 2) := by decide +kernel
theorem dX12_saySum_226 : decode cX12_saySum 226 = .ok (.aload_n 0, 1) := by decide +kernel
theorem dX12_saySum_227 : decode cX12_saySum 227 = .ok (.getfield 66, 3) := by decide +kernel
theorem dX12_saySum_230 : decode cX12_saySum 230 = .ok (.aload_n 0, 1) := by decide +kernel
theorem dX12_saySum_231 : decode cX12_saySum 231 = .ok (.getfield 78, 3) := by decide +kernel
theorem dX12_saySum_234 : decode cX12_saySum 234 = .ok (.iload 7, 2) := by decide +kernel
theorem dX12_saySum_236 : decode cX12_saySum 236 = .ok (.iaload, 1) := by decide +kernel
theorem dX12_saySum_237 : decode cX12_saySum 237 = .ok (.iload 8, 2) := by decide +kernel
theorem dX12_saySum_239 : decode cX12_saySum 239 = .ok (.iadd, 1) := by decide +kernel
theorem dX12_saySum_240 : decode cX12_saySum 240 = .ok (.iaload, 1) := by decide +kernel
theorem dX12_saySum_241 : decode cX12_saySum 241 = .ok (.iastore, 1) := by decide +kernel
theorem dX12_saySum_242 : decode cX12_saySum 242 = .ok (.iinc 6 1, 3) := by decide +kernel
theorem dX12_saySum_245 : decode cX12_saySum 245 = .ok (.iinc 8 1, 3) := by decide +kernel
theorem dX12_saySum_248 : decode cX12_saySum 248 = .ok (.goto (-40), 3) := by decide +kernel
theorem dX12_saySum_251 : decode cX12_saySum 251 = .ok (.iinc 7 1, 3) := by decide +kernel
theorem dX12_saySum_254 : decode cX12_saySum 254 = .ok (.goto (-88), 3) := by decide +kernel
theorem dX12_saySum_257 : decode cX12_saySum 257 = .ok (.aload_n 0, 1) := by decide +kernel
theorem dX12_saySum_258 : decode cX12_saySum 258 = .ok (.iload_n 2, 1) := by decide +kernel
theorem dX12_saySum_259 : decode cX12_saySum 259 = .ok (.iload 6, 2) := by decide +kernel
theorem dX12_saySum_261 : decode cX12_saySum 261 = .ok (.invokevirtual 429, 3) := by decide +kernel
theorem dX12_saySum_264 : decode cX12_saySum 264 = .ok (.return_, 1) := by decide +kernel
theorem dX12_lay_0 : decode cX12_lay 0 = .ok (.iload_n 1, 1) := by decide +kernel
theorem dX12_lay_1 : decode cX12_lay 1 = .ok (.istore_n 3, 1) := by decide +kernel
theorem dX12_lay_2 : decode cX12_lay 2 = .ok (.iconst 0, 1) := by decide +kernel
theorem dX12_lay_3 : decode cX12_lay 3 = .ok (.istore 4, 2) := by decide +kernel
theorem dX12_lay_5 : decode cX12_lay 5 = .ok (.iload 4, 2) := by decide +kernel
theorem dX12_lay_7 : decode cX12_lay 7 = .ok (.aload_n 0, 1) := by decide +kernel
theorem dX12_lay_8 : decode cX12_lay 8 = .ok (.getfield 81, 3) := by decide +kernel
theorem dX12_lay_11 : decode cX12_lay 11 = .ok (.iload_n 2, 1) := by decide +kernel
theorem dX12_lay_12 : decode cX12_lay 12 = .ok (.iaload, 1) := by decide +kernel
theorem dX12_lay_13 : decode cX12_lay 13 = .ok (.if_icmp .ge 32, 3) := by decide +kernel
theorem dX12_lay_16 : decode cX12_lay 16 = .ok (.aload_n 0, 1) := by decide +kernel
theorem dX12_lay_17 : decode cX12_lay 17 = .ok (.getfield 72, 3) := by decide +kernel
theorem dX12_lay_20 : decode cX12_lay 20 = .ok (.iload_n 3, 1) := by decide +kernel
theorem dX12_lay_21 : decode cX12_lay 21 = .ok (.aload_n 0, 1) := by decide +kernel
theorem dX12_lay_22 : decode cX12_lay 22 = .ok (.getfield 66, 3) := by decide +kernel
theorem dX12_lay_25 : decode cX12_lay 25 = .ok (.aload_n 0, 1) := by decide +kernel
theorem dX12_lay_26 : decode cX12_lay 26 = .ok (.getfield 78, 3) := by decide +kernel
theorem dX12_lay_29 : decode cX12_lay 29 = .ok (.iload_n 2, 1) := by decide +kernel
theorem dX12_lay_30 : decode cX12_lay 30 = .ok (.iaload, 1) := by decide +kernel
theorem dX12_lay_31 : decode cX12_lay 31 = .ok (.iload 4, 2) := by decide +kernel
theorem dX12_lay_33 : decode cX12_lay 33 = .ok (.iadd, 1) := by decide +kernel
theorem dX12_lay_34 : decode cX12_lay 34 = .ok (.iaload, 1) := by decide +kernel
theorem dX12_lay_35 : decode cX12_lay 35 = .ok (.iastore, 1) := by decide +kernel
theorem dX12_lay_36 : decode cX12_lay 36 = .ok (.iinc 3 1, 3) := by decide +kernel
theorem dX12_lay_39 : decode cX12_lay 39 = .ok (.iinc 4 1, 3) := by decide +kernel
theorem dX12_lay_42 : decode cX12_lay 42 = .ok (.goto (-37), 3) := by decide +kernel
theorem dX12_lay_45 : decode cX12_lay 45 = .ok (.iload_n 3, 1) := by decide +kernel
theorem dX12_lay_46 : decode cX12_lay 46 = .ok (.ireturn, 1) := by decide +kernel
theorem dX12_areAlike_0 : decode cX12_areAlike 0 = .ok (.aload_n 0, 1) := by decide +kernel
theorem dX12_areAlike_1 : decode cX12_areAlike 1 = .ok (.aload_n 0, 1) := by decide +kernel
theorem dX12_areAlike_2 : decode cX12_areAlike 2 = .ok (.getfield 78, 3) := by decide +kernel
theorem dX12_areAlike_5 : decode cX12_areAlike 5 = .ok (.iload_n 1, 1) := by decide +kernel
theorem dX12_areAlike_6 : decode cX12_areAlike 6 = .ok (.iaload, 1) := by decide +kernel
theorem dX12_areAlike_7 : decode cX12_areAlike 7 = .ok (.aload_n 0, 1) := by decide +kernel
theorem dX12_areAlike_8 : decode cX12_areAlike 8 = .ok (.getfield 81, 3) := by decide +kernel
theorem dX12_areAlike_11 : decode cX12_areAlike 11 = .ok (.iload_n 1, 1) := by decide +kernel
theorem dX12_areAlike_12 : decode cX12_areAlike 12 = .ok (.iaload, 1) := by decide +kernel
theorem dX12_areAlike_13 : decode cX12_areAlike 13 = .ok (.aload_n 0, 1) := by decide +kernel
theorem dX12_areAlike_14 : decode cX12_areAlike 14 = .ok (.getfield 78, 3) := by decide +kernel
theorem dX12_areAlike_17 : decode cX12_areAlike 17 = .ok (.iload_n 2, 1) := by decide +kernel
theorem dX12_areAlike_18 : decode cX12_areAlike 18 = .ok (.iaload, 1) := by decide +kernel
theorem dX12_areAlike_19 : decode cX12_areAlike 19 = .ok (.aload_n 0, 1) := by decide +kernel
theorem dX12_areAlike_20 : decode cX12_areAlike 20 = .ok (.getfield 81, 3) := by decide +kernel
theorem dX12_areAlike_23 : decode cX12_areAlike 23 = .ok (.iload_n 2, 1) := by decide +kernel
theorem dX12_areAlike_24 : decode cX12_areAlike 24 = .ok (.iaload, 1) := by decide +kernel
theorem dX12_areAlike_25 : decode cX12_areAlike 25 = .ok (.invokevirtual 419, 3) := by decide +kernel
theorem dX12_areAlike_28 : decode cX12_areAlike 28 = .ok (.ifCond .ne 7, 3) := by decide +kernel
theorem dX12_areAlike_31 : decode cX12_areAlike 31 = .ok (.iconst 1, 1) := by decide +kernel
theorem dX12_areAlike_32 : decode cX12_areAlike 32 = .ok (.goto 4, 3) := by decide +kernel
theorem dX12_areAlike_35 : decode cX12_areAlike 35 = .ok (.iconst 0, 1) := by decide +kernel
theorem dX12_areAlike_36 : decode cX12_areAlike 36 = .ok (.ireturn, 1) := by decide +kernel
theorem dX12_sayWord_0 : decode cX12_sayWord 0 = .ok (.aload_n 0, 1) := by decide +kernel
theorem dX12_sayWord_1 : decode cX12_sayWord 1 = .ok (.iconst (-1), 1) := by decide +kernel
theorem dX12_sayWord_2 : decode cX12_sayWord 2 = .ok (.iload_n 2, 1) := by decide +kernel
theorem dX12_sayWord_3 : decode cX12_sayWord 3 = .ok (.iconst 0, 1) := by decide +kernel
theorem dX12_sayWord_4 : decode cX12_sayWord 4 = .ok (.iconst 0, 1) := by decide +kernel
theorem dX12_sayWord_5 : decode cX12_sayWord 5 = .ok (.invokevirtual 432, 3) := by decide +kernel
theorem dX12_sayWord_8 : decode cX12_sayWord 8 = .ok (.iload_n 1, 1) := by decide +kernel
theorem dX12_sayWord_9 : decode cX12_sayWord 9 = .ok (.bipush 8, 2) := by decide +kernel
theorem dX12_sayWord_11 : decode cX12_sayWord 11 = .ok (.if_icmp .eq 9, 3) := by decide +kernel
theorem dX12_sayWord_14 : decode cX12_sayWord 14 = .ok (.iload_n 1, 1) := by decide +kernel
theorem dX12_sayWord_15 : decode cX12_sayWord 15 = .ok (.bipush 9, 2) := by decide +kernel
theorem dX12_sayWord_17 : decode cX12_sayWord 17 = .ok (.if_icmp .ne 7, 3) := by decide +kernel
theorem dX12_sayWord_20 : decode cX12_sayWord 20 = .ok (.iconst 1, 1) := by decide +kernel
theorem dX12_sayWord_21 : decode cX12_sayWord 21 = .ok (.goto 4, 3) := by decide +kernel
theorem dX12_sayWord_24 : decode cX12_sayWord 24 = .ok (.iconst 0, 1) := by decide +kernel
theorem dX12_sayWord_25 : decode cX12_sayWord 25 = .ok (.istore 4, 2) := by decide +kernel
theorem dX12_sayWord_27 : decode cX12_sayWord 27 = .ok (.iload 4, 2) := by decide +kernel
theorem dX12_sayWord_29 : decode cX12_sayWord 29 = .ok (.ifCond .eq 59, 3) := by decide +kernel
theorem dX12_sayWord_32 : decode cX12_sayWord 32 = .ok (.iload_n 3, 1) := by decide +kernel
theorem dX12_sayWord_33 : decode cX12_sayWord 33 = .ok (.bipush 7, 2) := by decide +kernel
theorem dX12_sayWord_35 : decode cX12_sayWord 35 = .ok (.invokestatic 373, 3) := by decide +kernel
theorem dX12_sayWord_38 : decode cX12_sayWord 38 = .ok (.ifCond .eq 50, 3) := by decide +kernel
theorem dX12_sayWord_41 : decode cX12_sayWord 41 = .ok (.aload_n 0, 1) := by decide +kernel
theorem dX12_sayWord_42 : decode cX12_sayWord 42 = .ok (.invokevirtual 439, 3) := by decide +kernel
theorem dX12_sayWord_45 : decode cX12_sayWord 45 = .ok (.ifCond .eq 43, 3) := by decide +kernel
theorem dX12_sayWord_48 : decode cX12_sayWord 48 = .ok (.aload_n 0, 1) := by decide +kernel
theorem dX12_sayWord_49 : decode cX12_sayWord 49 = .ok (.iload_n 2, 1) := by decide +kernel
theorem dX12_sayWord_50 : decode cX12_sayWord 50 = .ok (.aload_n 0, 1) := by decide +kernel
theorem dX12_sayWord_51 : decode cX12_sayWord 51 = .ok (.iload_n 1, 1) := by decide +kernel
theorem dX12_sayWord_52 : decode cX12_sayWord 52 = .ok (.aload_n 0, 1) := by decide +kernel
theorem dX12_sayWord_53 : decode cX12_sayWord 53 = .ok (.getfield 66, 3) := by decide +kernel
theorem dX12_sayWord_56 : decode cX12_sayWord 56 = .ok (.aload_n 0, 1) := by decide +kernel
theorem dX12_sayWord_57 : decode cX12_sayWord 57 = .ok (.getfield 78, 3) := by decide +kernel
theorem dX12_sayWord_60 : decode cX12_sayWord 60 = .ok (.iconst 0, 1) := by decide +kernel
theorem dX12_sayWord_61 : decode cX12_sayWord 61 = .ok (.iaload, 1) := by decide +kernel
theorem dX12_sayWord_62 : decode cX12_sayWord 62 = .ok (.iconst 1, 1) := by decide +kernel
theorem dX12_sayWord_63 : decode cX12_sayWord 63 = .ok (.iadd, 1) := by decide +kernel
theorem dX12_sayWord_64 : decode cX12_sayWord 64 = .ok (.iaload, 1) := by decide +kernel
theorem dX12_sayWord_65 : decode cX12_sayWord 65 = .ok (.i2l, 1) := by decide +kernel
theorem dX12_sayWord_66 : decode cX12_sayWord 66 = .ok (.aload_n 0, 1) := by decide +kernel
theorem dX12_sayWord_67 : decode cX12_sayWord 67 = .ok (.getfield 66, 3) := by decide +kernel
theorem dX12_sayWord_70 : decode cX12_sayWord 70 = .ok (.aload_n 0, 1) := by decide +kernel
theorem dX12_sayWord_71 : decode cX12_sayWord 71 = .ok (.getfield 78, 3) := by decide +kernel
theorem dX12_sayWord_74 : decode cX12_sayWord 74 = .ok (.iconst 1, 1) := by decide +kernel
theorem dX12_sayWord_75 : decode cX12_sayWord 75 = .ok (.iaload, 1) := by decide +kernel
theorem dX12_sayWord_76 : decode cX12_sayWord 76 = .ok (.iconst 1, 1) := by decide +kernel
theorem dX12_sayWord_77 : decode cX12_sayWord 77 = .ok (.iadd, 1) := by decide +kernel
theorem dX12_sayWord_78 : decode cX12_sayWord 78 = .ok (.iaload, 1) := by decide +kernel
theorem dX12_sayWord_79 : decode cX12_sayWord 79 = .ok (.i2l, 1) := by decide +kernel
theorem dX12_sayWord_80 : decode cX12_sayWord 80 = .ok (.invokevirtual 388, 3) := by decide +kernel
theorem dX12_sayWord_83 : decode cX12_sayWord 83 = .ok (.l2i, 1) := by decide +kernel
theorem dX12_sayWord_84 : decode cX12_sayWord 84 = .ok (.invokevirtual 446, 3) := by decide +kernel
theorem dX12_sayWord_87 : decode cX12_sayWord 87 = .ok (.return_, 1) := by decide +kernel
theorem dX12_sayWord_88 : decode cX12_sayWord 88 = .ok (.iload 4, 2) := by decide +kernel
theorem dX12_sayWord_90 : decode cX12_sayWord 90 = .ok (.ifCond .eq 24, 3) := by decide +kernel
theorem dX12_sayWord_93 : decode cX12_sayWord 93 = .ok (.iload_n 3, 1) := by decide +kernel
theorem dX12_sayWord_94 : decode cX12_sayWord 94 = .ok (.iconst 5, 1) := by decide +kernel
theorem dX12_sayWord_95 : decode cX12_sayWord 95 = .ok (.invokestatic 373, 3) := by decide +kernel
theorem dX12_sayWord_98 : decode cX12_sayWord 98 = .ok (.ifCond .eq 16, 3) := by decide +kernel
theorem dX12_sayWord_101 : decode cX12_sayWord 101 = .ok (.aload_n 0, 1) := by decide +kernel
theorem dX12_sayWord_102 : decode cX12_sayWord 102 = .ok (.iconst 0, 1) := by decide +kernel
theorem dX12_sayWord_103 : decode cX12_sayWord 103 = .ok (.iconst 1, 1) := by decide +kernel
theorem dX12_sayWord_104 : decode cX12_sayWord 104 = .ok (.invokevirtual 452, 3) := by decide +kernel
theorem dX12_sayWord_107 : decode cX12_sayWord 107 = .ok (.ifCond .eq 7, 3) := by decide +kernel
theorem dX12_sayWord_110 : decode cX12_sayWord 110 = .ok (.iconst 1, 1) := by decide +kernel
theorem dX12_sayWord_111 : decode cX12_sayWord 111 = .ok (.goto 4, 3) := by decide +kernel
theorem dX12_sayWord_114 : decode cX12_sayWord 114 = .ok (.iconst 0, 1) := by decide +kernel
theorem dX12_sayWord_115 : decode cX12_sayWord 115 = .ok (.istore 5, 2) := by decide +kernel
theorem dX12_sayWord_117 : decode cX12_sayWord 117 = .ok (.iload_n 2, 1) := by decide +kernel
theorem dX12_sayWord_118 : decode cX12_sayWord 118 = .ok (.iconst 2, 1) := by decide +kernel
theorem dX12_sayWord_119 : decode cX12_sayWord 119 = .ok (.if_icmp .ne 24, 3) := by decide +kernel
theorem dX12_sayWord_122 : decode cX12_sayWord 122 = .ok (.iload_n 3, 1) := by decide +kernel
theorem dX12_sayWord_123 : decode cX12_sayWord 123 = .ok (.iload 4, 2) := by decide +kernel
theorem dX12_sayWord_125 : decode cX12_sayWord 125 = .ok (.ifCond .eq 7, 3) := by decide +kernel
theorem dX12_sayWord_128 : decode cX12_sayWord 128 = .ok (.iconst 5, 1) := by decide +kernel
theorem dX12_sayWord_129 : decode cX12_sayWord 129 = .ok (.goto 4, 3) := by decide +kernel
theorem dX12_sayWord_132 : decode cX12_sayWord 132 = .ok (.iconst 4, 1) := by decide +kernel
theorem dX12_sayWord_133 : decode cX12_sayWord 133 = .ok (.invokestatic 373, 3) := by decide +kernel
theorem dX12_sayWord_136 : decode cX12_sayWord 136 = .ok (.ifCond .eq 7, 3) := by decide +kernel
theorem dX12_sayWord_139 : decode cX12_sayWord 139 = .ok (.iconst 1, 1) := by decide +kernel
theorem dX12_sayWord_140 : decode cX12_sayWord 140 = .ok (.goto 4, 3) := by decide +kernel
theorem dX12_sayWord_143 : decode cX12_sayWord 143 = .ok (.iconst 0, 1) := by decide +kernel
theorem dX12_sayWord_144 : decode cX12_sayWord 144 = .ok (.istore 6, 2) := by decide +kernel
theorem dX12_sayWord_146 : decode cX12_sayWord 146 = .ok (.iload 6, 2) := by decide +kernel
theorem dX12_sayWord_148 : decode cX12_sayWord 148 = .ok (.ifCond .eq 18, 3) := by decide +kernel
theorem dX12_sayWord_151 : decode cX12_sayWord 151 = .ok (.aload_n 0, 1) := by decide +kernel
theorem dX12_sayWord_152 : decode cX12_sayWord 152 = .ok (.iconst 1, 1) := by decide +kernel
theorem dX12_sayWord_153 : decode cX12_sayWord 153 = .ok (.iconst 0, 1) := by decide +kernel
theorem dX12_sayWord_154 : decode cX12_sayWord 154 = .ok (.invokevirtual 423, 3) := by decide +kernel
theorem dX12_sayWord_157 : decode cX12_sayWord 157 = .ok (.ifCond .eq 9, 3) := by decide +kernel
theorem dX12_sayWord_160 : decode cX12_sayWord 160 = .ok (.aload_n 0, 1) := by decide +kernel
theorem dX12_sayWord_161 : decode cX12_sayWord 161 = .ok (.iconst 0, 1) := by decide +kernel
theorem dX12_sayWord_162 : decode cX12_sayWord 162 = .ok (.iconst 1, 1) := by decide +kernel
theorem dX12_sayWord_163 : decode cX12_sayWord 163 = .ok (.invokevirtual 426, 3) := by decide +kernel
theorem dX12_sayWord_166 : decode cX12_sayWord 166 = .ok (.aload_n 0, 1) := by decide +kernel
theorem dX12_sayWord_167 : decode cX12_sayWord 167 = .ok (.getfield 72, 3) := by decide +kernel
theorem dX12_sayWord_170 : decode cX12_sayWord 170 = .ok (.iconst 0, 1) := by decide +kernel
theorem dX12_sayWord_171 : decode cX12_sayWord 171 = .ok (.iload_n 1, 1) := by decide +kernel
theorem dX12_sayWord_172 : decode cX12_sayWord 172 = .ok (.iastore, 1) := by decide +kernel
theorem dX12_sayWord_173 : decode cX12_sayWord 173 = .ok (.aload_n 0, 1) := by decide +kernel
theorem dX12_sayWord_174 : decode cX12_sayWord 174 = .ok (.iload 5, 2) := by decide +kernel
theorem dX12_sayWord_176 : decode cX12_sayWord 176 = .ok (.ifCond .eq 7, 3) := by decide +kernel
theorem dX12_sayWord_179 : decode cX12_sayWord 179 = .ok (.iconst 0, 1) := by decide +kernel
theorem dX12_sayWord_180 : decode cX12_sayWord 180 = .ok (.goto 4, 3) := by decide +kernel
theorem dX12_sayWord_183 : decode cX12_sayWord 183 = .ok (.iconst 1, 1) := by decide +kernel
theorem dX12_sayWord_184 : decode cX12_sayWord 184 = .ok (.iconst 0, 1) := by decide +kernel
theorem dX12_sayWord_185 : decode cX12_sayWord 185 = .ok (.invokevirtual 455, 3) := by decide +kernel
theorem dX12_sayWord_188 : decode cX12_sayWord 188 = .ok (.istore 7, 2) := by decide +kernel
theorem dX12_sayWord_190 : decode cX12_sayWord 190 = .ok (.iload_n 2, 1) := by decide +kernel
theorem dX12_sayWord_191 : decode cX12_sayWord 191 = .ok (.iconst 2, 1) := by decide +kernel
theorem dX12_sayWord_192 : decode cX12_sayWord 192 = .ok (.if_icmp .ne 17, 3) := by decide +kernel
theorem dX12_sayWord_195 : decode cX12_sayWord 195 = .ok (.iload 5, 2) := by decide +kernel
theorem dX12_sayWord_197 : decode cX12_sayWord 197 = .ok (.ifCond .ne 12, 3) := by decide +kernel
theorem dX12_sayWord_200 : decode cX12_sayWord 200 = .ok (.aload_n 0, 1) := by decide +kernel
theorem dX12_sayWord_201 : decode cX12_sayWord 201 = .ok (.iload 7, 2) := by decide +kernel
theorem dX12_sayWord_203 : decode cX12_sayWord 203 = .ok (.iconst 1, 1) := by decide +kernel
theorem dX12_sayWord_204 : decode cX12_sayWord 204 = .ok (.invokevirtual 455, 3) := by decide +kernel
theorem dX12_sayWord_207 : decode cX12_sayWord 207 = .ok (.istore 7, 2) := by decide +kernel
theorem dX12_sayWord_209 : decode cX12_sayWord 209 = .ok (.aload_n 0, 1) := by decide +kernel
theorem dX12_sayWord_210 : decode cX12_sayWord 210 = .ok (.iload_n 2, 1) := by decide +kernel
theorem dX12_sayWord_211 : decode cX12_sayWord 211 = .ok (.iload 7, 2) := by decide +kernel
theorem dX12_sayWord_213 : decode cX12_sayWord 213 = .ok (.invokevirtual 429, 3) := by decide +kernel
theorem dX12_sayWord_216 : decode cX12_sayWord 216 = .ok (.return_, 1) := by decide +kernel
theorem dX12_sayIf_0 : decode cX12_sayIf 0 = .ok (.aload_n 0, 1) := by decide +kernel
theorem dX12_sayIf_1 : decode cX12_sayIf 1 = .ok (.iconst (-1), 1) := by decide +kernel
theorem dX12_sayIf_2 : decode cX12_sayIf 2 = .ok (.iconst 4, 1) := by decide +kernel
theorem dX12_sayIf_3 : decode cX12_sayIf 3 = .ok (.iconst 0, 1) := by decide +kernel
theorem dX12_sayIf_4 : decode cX12_sayIf 4 = .ok (.iconst 0, 1) := by decide +kernel
theorem dX12_sayIf_5 : decode cX12_sayIf 5 = .ok (.invokevirtual 432, 3) := by decide +kernel
theorem dX12_sayIf_8 : decode cX12_sayIf 8 = .ok (.iload_n 1, 1) := by decide +kernel
theorem dX12_sayIf_9 : decode cX12_sayIf 9 = .ok (.istore_n 3, 1) := by decide +kernel
theorem dX12_sayIf_10 : decode cX12_sayIf 10 = .ok (.iload_n 2, 1) := by decide +kernel
theorem dX12_sayIf_11 : decode cX12_sayIf 11 = .ok (.bipush 6, 2) := by decide +kernel
theorem dX12_sayIf_13 : decode cX12_sayIf 13 = .ok (.invokestatic 373, 3) := by decide +kernel
theorem dX12_sayIf_16 : decode cX12_sayIf 16 = .ok (.ifCond .eq 24, 3) := by decide +kernel
theorem dX12_sayIf_19 : decode cX12_sayIf 19 = .ok (.aload_n 0, 1) := by decide +kernel
theorem dX12_sayIf_20 : decode cX12_sayIf 20 = .ok (.iconst 2, 1) := by decide +kernel
theorem dX12_sayIf_21 : decode cX12_sayIf 21 = .ok (.iconst 3, 1) := by decide +kernel
theorem dX12_sayIf_22 : decode cX12_sayIf 22 = .ok (.invokevirtual 452, 3) := by decide +kernel
theorem dX12_sayIf_25 : decode cX12_sayIf 25 = .ok (.ifCond .eq 15, 3) := by decide +kernel
theorem dX12_sayIf_28 : decode cX12_sayIf 28 = .ok (.aload_n 0, 1) := by decide +kernel
theorem dX12_sayIf_29 : decode cX12_sayIf 29 = .ok (.iconst 4, 1) := by decide +kernel
theorem dX12_sayIf_30 : decode cX12_sayIf 30 = .ok (.aload_n 0, 1) := by decide +kernel
theorem dX12_sayIf_31 : decode cX12_sayIf 31 = .ok (.iconst 0, 1) := by decide +kernel
theorem dX12_sayIf_32 : decode cX12_sayIf 32 = .ok (.iconst 2, 1) := by decide +kernel
theorem dX12_sayIf_33 : decode cX12_sayIf 33 = .ok (.invokevirtual 455, 3) := by decide +kernel
theorem dX12_sayIf_36 : decode cX12_sayIf 36 = .ok (.invokevirtual 429, 3) := by decide +kernel
theorem dX12_sayIf_39 : decode cX12_sayIf 39 = .ok (.return_, 1) := by decide +kernel
theorem dX12_sayIf_40 : decode cX12_sayIf 40 = .ok (.iload_n 2, 1) := by decide +kernel
theorem dX12_sayIf_41 : decode cX12_sayIf 41 = .ok (.bipush 6, 2) := by decide +kernel
theorem dX12_sayIf_43 : decode cX12_sayIf 43 = .ok (.invokestatic 373, 3) := by decide +kernel
theorem dX12_sayIf_46 : decode cX12_sayIf 46 = .ok (.ifCond .eq 23, 3) := by decide +kernel
theorem dX12_sayIf_49 : decode cX12_sayIf 49 = .ok (.iload_n 1, 1) := by decide +kernel
theorem dX12_sayIf_50 : decode cX12_sayIf 50 = .ok (.iconst 2, 1) := by decide +kernel
theorem dX12_sayIf_51 : decode cX12_sayIf 51 = .ok (.if_icmp .eq 8, 3) := by decide +kernel
theorem dX12_sayIf_54 : decode cX12_sayIf 54 = .ok (.iload_n 1, 1) := by decide +kernel
theorem dX12_sayIf_55 : decode cX12_sayIf 55 = .ok (.iconst 3, 1) := by decide +kernel
theorem dX12_sayIf_56 : decode cX12_sayIf 56 = .ok (.if_icmp .ne 13, 3) := by decide +kernel
theorem dX12_sayIf_59 : decode cX12_sayIf 59 = .ok (.iload_n 1, 1) := by decide +kernel
theorem dX12_sayIf_60 : decode cX12_sayIf 60 = .ok (.iconst 2, 1) := by decide +kernel
theorem dX12_sayIf_61 : decode cX12_sayIf 61 = .ok (.isub, 1) := by decide +kernel
theorem dX12_sayIf_62 : decode cX12_sayIf 62 = .ok (.istore_n 3, 1) := by decide +kernel
theorem dX12_sayIf_63 : decode cX12_sayIf 63 = .ok (.aload_n 0, 1) := by decide +kernel
theorem dX12_sayIf_64 : decode cX12_sayIf 64 = .ok (.iconst 0, 1) := by decide +kernel
theorem dX12_sayIf_65 : decode cX12_sayIf 65 = .ok (.iconst 1, 1) := by decide +kernel
theorem dX12_sayIf_66 : decode cX12_sayIf 66 = .ok (.invokevirtual 426, 3) := by decide +kernel
theorem dX12_sayIf_69 : decode cX12_sayIf 69 = .ok (.aload_n 0, 1) := by decide +kernel
theorem dX12_sayIf_70 : decode cX12_sayIf 70 = .ok (.getfield 72, 3) := by decide +kernel
theorem dX12_sayIf_73 : decode cX12_sayIf 73 = .ok (.iconst 0, 1) := by decide +kernel
theorem dX12_sayIf_74 : decode cX12_sayIf 74 = .ok (.bipush 10, 2) := by decide +kernel
theorem dX12_sayIf_76 : decode cX12_sayIf 76 = .ok (.iastore, 1) := by decide +kernel
theorem dX12_sayIf_77 : decode cX12_sayIf 77 = .ok (.aload_n 0, 1) := by decide +kernel
theorem dX12_sayIf_78 : decode cX12_sayIf 78 = .ok (.getfield 72, 3) := by decide +kernel
theorem dX12_sayIf_81 : decode cX12_sayIf 81 = .ok (.iconst 1, 1) := by decide +kernel
theorem dX12_sayIf_82 : decode cX12_sayIf 82 = .ok (.iload_n 3, 1) := by decide +kernel
theorem dX12_sayIf_83 : decode cX12_sayIf 83 = .ok (.iastore, 1) := by decide +kernel
theorem dX12_sayIf_84 : decode cX12_sayIf 84 = .ok (.iconst 2, 1) := by decide +kernel
theorem dX12_sayIf_85 : decode cX12_sayIf 85 = .ok (.istore 4, 2) := by decide +kernel
theorem dX12_sayIf_87 : decode cX12_sayIf 87 = .ok (.iconst 0, 1) := by decide +kernel
theorem dX12_sayIf_88 : decode cX12_sayIf 88 = .ok (.istore 5, 2) := by decide +kernel
theorem dX12_sayIf_90 : decode cX12_sayIf 90 = .ok (.iload 5, 2) := by decide +kernel
theorem dX12_sayIf_92 : decode cX12_sayIf 92 = .ok (.iconst 4, 1) := by decide +kernel
theorem dX12_sayIf_93 : decode cX12_sayIf 93 = .ok (.if_icmp .ge 19, 3) := by decide +kernel
theorem dX12_sayIf_96 : decode cX12_sayIf 96 = .ok (.aload_n 0, 1) := by decide +kernel
theorem dX12_sayIf_97 : decode cX12_sayIf 97 = .ok (.iload 4, 2) := by decide +kernel
theorem dX12_sayIf_99 : decode cX12_sayIf 99 = .ok (.iload 5, 2) := by decide +kernel
theorem dX12_sayIf_101 : decode cX12_sayIf 101 = .ok (.invokevirtual 455, 3) := by decide +kernel
theorem dX12_sayIf_104 : decode cX12_sayIf 104 = .ok (.istore 4, 2) := by decide +kernel
theorem dX12_sayIf_106 : decode cX12_sayIf 106 = .ok (.iinc 5 1, 3) := by decide +kernel
theorem dX12_sayIf_109 : decode cX12_sayIf 109 = .ok (.goto (-19), 3) := by decide +kernel
theorem dX12_sayIf_112 : decode cX12_sayIf 112 = .ok (.aload_n 0, 1) := by decide +kernel
theorem dX12_sayIf_113 : decode cX12_sayIf 113 = .ok (.iconst 4, 1) := by decide +kernel
theorem dX12_sayIf_114 : decode cX12_sayIf 114 = .ok (.iload 4, 2) := by decide +kernel
theorem dX12_sayIf_116 : decode cX12_sayIf 116 = .ok (.invokevirtual 429, 3) := by decide +kernel
theorem dX12_sayIf_119 : decode cX12_sayIf 119 = .ok (.return_, 1) := by decide +kernel
theorem dX12_say_0 : decode cX12_say 0 = .ok (.aload_n 0, 1) := by decide +kernel
theorem dX12_say_1 : decode cX12_say 1 = .ok (.iconst 0, 1) := by decide +kernel
theorem dX12_say_2 : decode cX12_say 2 = .ok (.putfield 406, 3) := by decide +kernel
theorem dX12_say_5 : decode cX12_say 5 = .ok (.aload_n 0, 1) := by decide +kernel
theorem dX12_say_6 : decode cX12_say 6 = .ok (.getfield 69, 3) := by decide +kernel
theorem dX12_say_9 : decode cX12_say 9 = .ok (.iconst 0, 1) := by decide +kernel
theorem dX12_say_10 : decode cX12_say 10 = .ok (.iconst 0, 1) := by decide +kernel
theorem dX12_say_11 : decode cX12_say 11 = .ok (.iastore, 1) := by decide +kernel
theorem dX12_say_12 : decode cX12_say 12 = .ok (.iconst 0, 1) := by decide +kernel
theorem dX12_say_13 : decode cX12_say 13 = .ok (.istore_n 3, 1) := by decide +kernel
theorem dX12_say_14 : decode cX12_say 14 = .ok (.iload_n 3, 1) := by decide +kernel
theorem dX12_say_15 : decode cX12_say 15 = .ok (.aload_n 0, 1) := by decide +kernel
theorem dX12_say_16 : decode cX12_say 16 = .ok (.getfield 50, 3) := by decide +kernel
theorem dX12_say_19 : decode cX12_say 19 = .ok (.iload_n 1, 1) := by decide +kernel
theorem dX12_say_20 : decode cX12_say 20 = .ok (.iaload, 1) := by decide +kernel
theorem dX12_say_21 : decode cX12_say 21 = .ok (.if_icmp .ge 200, 3) := by decide +kernel
theorem dX12_say_24 : decode cX12_say 24 = .ok (.aload_n 0, 1) := by decide +kernel
theorem dX12_say_25 : decode cX12_say 25 = .ok (.getfield 53, 3) := by decide +kernel
theorem dX12_say_28 : decode cX12_say 28 = .ok (.sipush 240, 3) := by decide +kernel
theorem dX12_say_31 : decode cX12_say 31 = .ok (.iload_n 1, 1) := by decide +kernel
theorem dX12_say_32 : decode cX12_say 32 = .ok (.imul, 1) := by decide +kernel
theorem dX12_say_33 : decode cX12_say 33 = .ok (.iconst 2, 1) := by decide +kernel
theorem dX12_say_34 : decode cX12_say 34 = .ok (.iload_n 3, 1) := by decide +kernel
theorem dX12_say_35 : decode cX12_say 35 = .ok (.imul, 1) := by decide +kernel
theorem dX12_say_36 : decode cX12_say 36 = .ok (.iadd, 1) := by decide +kernel
theorem dX12_say_37 : decode cX12_say 37 = .ok (.iaload, 1) := by decide +kernel
theorem dX12_say_38 : decode cX12_say 38 = .ok (.istore 4, 2) := by decide +kernel
theorem dX12_say_40 : decode cX12_say 40 = .ok (.aload_n 0, 1) := by decide +kernel
theorem dX12_say_41 : decode cX12_say 41 = .ok (.getfield 53, 3) := by decide +kernel
theorem dX12_say_44 : decode cX12_say 44 = .ok (.sipush 240, 3) := by decide +kernel
theorem dX12_say_47 : decode cX12_say 47 = .ok (.iload_n 1, 1) := by decide +kernel
theorem dX12_say_48 : decode cX12_say 48 = .ok (.imul, 1) := by decide +kernel
theorem dX12_say_49 : decode cX12_say 49 = .ok (.iconst 2, 1) := by decide +kernel
theorem dX12_say_50 : decode cX12_say 50 = .ok (.iload_n 3, 1) := by decide +kernel
theorem dX12_say_51 : decode cX12_say 51 = .ok (.imul, 1) := by decide +kernel
theorem dX12_say_52 : decode cX12_say 52 = .ok (.iadd, 1) := by decide +kernel
theorem dX12_say_53 : decode cX12_say 53 = .ok (.iconst 1, 1) := by decide +kernel
theorem dX12_say_54 : decode cX12_say 54 = .ok (.iadd, 1) := by decide +kernel
theorem dX12_say_55 : decode cX12_say 55 = .ok (.iaload, 1) := by decide +kernel
theorem dX12_say_56 : decode cX12_say 56 = .ok (.istore 5, 2) := by decide +kernel
theorem dX12_say_58 : decode cX12_say 58 = .ok (.iload 4, 2) := by decide +kernel
theorem dX12_say_60 : decode cX12_say 60 = .ok (.iconst 1, 1) := by decide +kernel
theorem dX12_say_61 : decode cX12_say 61 = .ok (.if_icmp .gt 72, 3) := by decide +kernel
theorem dX12_say_64 : decode cX12_say 64 = .ok (.aload_n 0, 1) := by decide +kernel
theorem dX12_say_65 : decode cX12_say 65 = .ok (.getfield 66, 3) := by decide +kernel
theorem dX12_say_68 : decode cX12_say 68 = .ok (.aload_n 0, 1) := by decide +kernel
theorem dX12_say_69 : decode cX12_say 69 = .ok (.getfield 69, 3) := by decide +kernel
theorem dX12_say_72 : decode cX12_say 72 = .ok (.aload_n 0, 1) := by decide +kernel
theorem dX12_say_73 : decode cX12_say 73 = .ok (.getfield 406, 3) := by decide +kernel
theorem dX12_say_76 : decode cX12_say 76 = .ok (.iaload, 1) := by decide +kernel
theorem dX12_say_77 : decode cX12_say 77 = .ok (.iload 4, 2) := by decide +kernel
theorem dX12_say_79 : decode cX12_say 79 = .ok (.iastore, 1) := by decide +kernel
theorem dX12_say_80 : decode cX12_say 80 = .ok (.aload_n 0, 1) := by decide +kernel
theorem dX12_say_81 : decode cX12_say 81 = .ok (.getfield 66, 3) := by decide +kernel
theorem dX12_say_84 : decode cX12_say 84 = .ok (.aload_n 0, 1) := by decide +kernel
theorem dX12_say_85 : decode cX12_say 85 = .ok (.getfield 69, 3) := by decide +kernel
theorem dX12_say_88 : decode cX12_say 88 = .ok (.aload_n 0, 1) := by decide +kernel
theorem dX12_say_89 : decode cX12_say 89 = .ok (.getfield 406, 3) := by decide +kernel
theorem dX12_say_92 : decode cX12_say 92 = .ok (.iaload, 1) := by decide +kernel
theorem dX12_say_93 : decode cX12_say 93 = .ok (.iconst 1, 1) := by decide +kernel
theorem dX12_say_94 : decode cX12_say 94 = .ok (.iadd, 1) := by decide +kernel
theorem dX12_say_95 : decode cX12_say 95 = .ok (.iload 5, 2) := by decide +kernel
theorem dX12_say_97 : decode cX12_say 97 = .ok (.iastore, 1) := by decide +kernel
theorem dX12_say_98 : decode cX12_say 98 = .ok (.aload_n 0, 1) := by decide +kernel
theorem dX12_say_99 : decode cX12_say 99 = .ok (.getfield 69, 3) := by decide +kernel
theorem dX12_say_102 : decode cX12_say 102 = .ok (.aload_n 0, 1) := by decide +kernel
theorem dX12_say_103 : decode cX12_say 103 = .ok (.getfield 406, 3) := by decide +kernel
theorem dX12_say_106 : decode cX12_say 106 = .ok (.iconst 1, 1) := by decide +kernel
theorem dX12_say_107 : decode cX12_say 107 = .ok (.iadd, 1) := by decide +kernel
theorem dX12_say_108 : decode cX12_say 108 = .ok (.aload_n 0, 1) := by decide +kernel
theorem dX12_say_109 : decode cX12_say 109 = .ok (.getfield 69, 3) := by decide +kernel
theorem dX12_say_112 : decode cX12_say 112 = .ok (.aload_n 0, 1) := by decide +kernel
theorem dX12_say_113 : decode cX12_say 113 = .ok (.getfield 406, 3) := by decide +kernel
theorem dX12_say_116 : decode cX12_say 116 = .ok (.iaload, 1) := by decide +kernel
theorem dX12_say_117 : decode cX12_say 117 = .ok (.iconst 2, 1) := by decide +kernel
theorem dX12_say_118 : decode cX12_say 118 = .ok (.iadd, 1) := by decide +kernel
theorem dX12_say_119 : decode cX12_say 119 = .ok (.iastore, 1) := by decide +kernel
theorem dX12_say_120 : decode cX12_say 120 = .ok (.aload_n 0, 1) := by decide +kernel
theorem dX12_say_121 : decode cX12_say 121 = .ok (.dup, 1) := by decide +kernel
theorem dX12_say_122 : decode cX12_say 122 = .ok (.getfield 406, 3) := by decide +kernel
theorem dX12_say_125 : decode cX12_say 125 = .ok (.iconst 1, 1) := by decide +kernel
theorem dX12_say_126 : decode cX12_say 126 = .ok (.iadd, 1) := by decide +kernel
theorem dX12_say_127 : decode cX12_say 127 = .ok (.putfield 406, 3) := by decide +kernel
theorem dX12_say_130 : decode cX12_say 130 = .ok (.goto 85, 3) := by decide +kernel
theorem dX12_say_133 : decode cX12_say 133 = .ok (.iload 4, 2) := by decide +kernel
theorem dX12_say_135 : decode cX12_say 135 = .ok (.iconst 2, 1) := by decide +kernel
theorem dX12_say_136 : decode cX12_say 136 = .ok (.if_icmp .ne 24, 3) := by decide +kernel
theorem dX12_say_139 : decode cX12_say 139 = .ok (.aload_n 0, 1) := by decide +kernel
theorem dX12_say_140 : decode cX12_say 140 = .ok (.iload 4, 2) := by decide +kernel
theorem dX12_say_142 : decode cX12_say 142 = .ok (.iload 5, 2) := by decide +kernel
theorem dX12_say_144 : decode cX12_say 144 = .ok (.sipush 255, 3) := by decide +kernel
theorem dX12_say_147 : decode cX12_say 147 = .ok (.iand, 1) := by decide +kernel
theorem dX12_say_148 : decode cX12_say 148 = .ok (.iload 5, 2) := by decide +kernel
theorem dX12_say_150 : decode cX12_say 150 = .ok (.bipush 8, 2) := by decide +kernel
theorem dX12_say_152 : decode cX12_say 152 = .ok (.ishr, 1) := by decide +kernel
theorem dX12_say_153 : decode cX12_say 153 = .ok (.iload_n 2, 1) := by decide +kernel
theorem dX12_say_154 : decode cX12_say 154 = .ok (.invokevirtual 458, 3) := by decide +kernel
theorem dX12_say_157 : decode cX12_say 157 = .ok (.goto 58, 3) := by decide +kernel
theorem dX12_say_160 : decode cX12_say 160 = .ok (.iload 4, 2) := by decide +kernel
theorem dX12_say_162 : decode cX12_say 162 = .ok (.iconst 3, 1) := by decide +kernel
theorem dX12_say_163 : decode cX12_say 163 = .ok (.if_icmp .ne 16, 3) := by decide +kernel
theorem dX12_say_166 : decode cX12_say 166 = .ok (.aload_n 0, 1) := by decide +kernel
theorem dX12_say_167 : decode cX12_say 167 = .ok (.iload 4, 2) := by decide +kernel
theorem dX12_say_169 : decode cX12_say 169 = .ok (.iload 5, 2) := by decide +kernel
theorem dX12_say_171 : decode cX12_say 171 = .ok (.iconst 0, 1) := by decide +kernel
theorem dX12_say_172 : decode cX12_say 172 = .ok (.iload_n 2, 1) := by decide +kernel
theorem dX12_say_173 : decode cX12_say 173 = .ok (.invokevirtual 458, 3) := by decide +kernel
theorem dX12_say_176 : decode cX12_say 176 = .ok (.goto 39, 3) := by decide +kernel
theorem dX12_say_179 : decode cX12_say 179 = .ok (.iload 4, 2) := by decide +kernel
theorem dX12_say_181 : decode cX12_say 181 = .ok (.bipush 10, 2) := by decide +kernel
theorem dX12_say_183 : decode cX12_say 183 = .ok (.if_icmp .ne 13, 3) := by decide +kernel
theorem dX12_say_186 : decode cX12_say 186 = .ok (.aload_n 0, 1) := by decide +kernel
theorem dX12_say_187 : decode cX12_say 187 = .ok (.iload 5, 2) := by decide +kernel
theorem dX12_say_189 : decode cX12_say 189 = .ok (.iload_n 2, 1) := by decide +kernel
theorem dX12_say_190 : decode cX12_say 190 = .ok (.invokevirtual 462, 3) := by decide +kernel
theorem dX12_say_193 : decode cX12_say 193 = .ok (.goto 22, 3) := by decide +kernel
theorem dX12_say_196 : decode cX12_say 196 = .ok (.aload_n 0, 1) := by decide +kernel
theorem dX12_say_197 : decode cX12_say 197 = .ok (.iload 4, 2) := by decide +kernel
theorem dX12_say_199 : decode cX12_say 199 = .ok (.iload 4, 2) := by decide +kernel
theorem dX12_say_201 : decode cX12_say 201 = .ok (.bipush 6, 2) := by decide +kernel
theorem dX12_say_203 : decode cX12_say 203 = .ok (.if_icmp .ge 7, 3) := by decide +kernel
theorem dX12_say_206 : decode cX12_say 206 = .ok (.iconst 1, 1) := by decide +kernel
theorem dX12_say_207 : decode cX12_say 207 = .ok (.goto 4, 3) := by decide +kernel
theorem dX12_say_210 : decode cX12_say 210 = .ok (.iconst 2, 1) := by decide +kernel
theorem dX12_say_211 : decode cX12_say 211 = .ok (.iload_n 2, 1) := by decide +kernel
theorem dX12_say_212 : decode cX12_say 212 = .ok (.invokevirtual 465, 3) := by decide +kernel
theorem dX12_say_215 : decode cX12_say 215 = .ok (.iinc 3 1, 3) := by decide +kernel
theorem dX12_say_218 : decode cX12_say 218 = .ok (.goto (-204), 3) := by decide +kernel
theorem dX12_say_221 : decode cX12_say 221 = .ok (.aload_n 0, 1) := by decide +kernel
theorem dX12_say_222 : decode cX12_say 222 = .ok (.getfield 69, 3) := by decide +kernel
theorem dX12_say_225 : decode cX12_say 225 = .ok (.iconst 1, 1) := by decide +kernel
theorem dX12_say_226 : decode cX12_say 226 = .ok (.iaload, 1) := by decide +kernel
theorem dX12_say_227 : decode cX12_say 227 = .ok (.ireturn, 1) := by decide +kernel
theorem dX12_isAlike_0 : decode cX12_isAlike 0 = .ok (.iload_n 1, 1) := by decide +kernel
theorem dX12_isAlike_1 : decode cX12_isAlike 1 = .ok (.iload_n 2, 1) := by decide +kernel
theorem dX12_isAlike_2 : decode cX12_isAlike 2 = .ok (.if_icmp .ne 5, 3) := by decide +kernel
theorem dX12_isAlike_5 : decode cX12_isAlike 5 = .ok (.iconst 1, 1) := by decide +kernel
theorem dX12_isAlike_6 : decode cX12_isAlike 6 = .ok (.ireturn, 1) := by decide +kernel
theorem dX12_isAlike_7 : decode cX12_isAlike 7 = .ok (.aload_n 0, 1) := by decide +kernel
theorem dX12_isAlike_8 : decode cX12_isAlike 8 = .ok (.iload_n 1, 1) := by decide +kernel
theorem dX12_isAlike_9 : decode cX12_isAlike 9 = .ok (.iload_n 3, 1) := by decide +kernel
theorem dX12_isAlike_10 : decode cX12_isAlike 10 = .ok (.invokevirtual 468, 3) := by decide +kernel
theorem dX12_isAlike_13 : decode cX12_isAlike 13 = .ok (.istore 4, 2) := by decide +kernel
theorem dX12_isAlike_15 : decode cX12_isAlike 15 = .ok (.iconst 0, 1) := by decide +kernel
theorem dX12_isAlike_16 : decode cX12_isAlike 16 = .ok (.istore 5, 2) := by decide +kernel
theorem dX12_isAlike_18 : decode cX12_isAlike 18 = .ok (.iload 5, 2) := by decide +kernel
theorem dX12_isAlike_20 : decode cX12_isAlike 20 = .ok (.iload 4, 2) := by decide +kernel
theorem dX12_isAlike_22 : decode cX12_isAlike 22 = .ok (.if_icmp .ge 23, 3) := by decide +kernel
theorem dX12_isAlike_25 : decode cX12_isAlike 25 = .ok (.aload_n 0, 1) := by decide +kernel
theorem dX12_isAlike_26 : decode cX12_isAlike 26 = .ok (.getfield 84, 3) := by decide +kernel
theorem dX12_isAlike_29 : decode cX12_isAlike 29 = .ok (.iload 5, 2) := by decide +kernel
theorem dX12_isAlike_31 : decode cX12_isAlike 31 = .ok (.aload_n 0, 1) := by decide +kernel
theorem dX12_isAlike_32 : decode cX12_isAlike 32 = .ok (.getfield 66, 3) := by decide +kernel
theorem dX12_isAlike_35 : decode cX12_isAlike 35 = .ok (.iload 5, 2) := by decide +kernel
theorem dX12_isAlike_37 : decode cX12_isAlike 37 = .ok (.iaload, 1) := by decide +kernel
theorem dX12_isAlike_38 : decode cX12_isAlike 38 = .ok (.iastore, 1) := by decide +kernel
theorem dX12_isAlike_39 : decode cX12_isAlike 39 = .ok (.iinc 5 1, 3) := by decide +kernel
theorem dX12_isAlike_42 : decode cX12_isAlike 42 = .ok (.goto (-24), 3) := by decide +kernel
theorem dX12_isAlike_45 : decode cX12_isAlike 45 = .ok (.aload_n 0, 1) := by decide +kernel
theorem dX12_isAlike_46 : decode cX12_isAlike 46 = .ok (.iload_n 2, 1) := by decide +kernel
theorem dX12_isAlike_47 : decode cX12_isAlike 47 = .ok (.iload_n 3, 1) := by decide +kernel
theorem dX12_isAlike_48 : decode cX12_isAlike 48 = .ok (.invokevirtual 468, 3) := by decide +kernel
theorem dX12_isAlike_51 : decode cX12_isAlike 51 = .ok (.iload 4, 2) := by decide +kernel
theorem dX12_isAlike_53 : decode cX12_isAlike 53 = .ok (.if_icmp .eq 5, 3) := by decide +kernel
theorem dX12_isAlike_56 : decode cX12_isAlike 56 = .ok (.iconst 0, 1) := by decide +kernel
theorem dX12_isAlike_57 : decode cX12_isAlike 57 = .ok (.ireturn, 1) := by decide +kernel
theorem dX12_isAlike_58 : decode cX12_isAlike 58 = .ok (.iconst 0, 1) := by decide +kernel
theorem dX12_isAlike_59 : decode cX12_isAlike 59 = .ok (.istore 5, 2) := by decide +kernel
theorem dX12_isAlike_61 : decode cX12_isAlike 61 = .ok (.iload 5, 2) := by decide +kernel
theorem dX12_isAlike_63 : decode cX12_isAlike 63 = .ok (.iload 4, 2) := by decide +kernel
theorem dX12_isAlike_65 : decode cX12_isAlike 65 = .ok (.if_icmp .ge 28, 3) := by decide +kernel
theorem dX12_isAlike_68 : decode cX12_isAlike 68 = .ok (.aload_n 0, 1) := by decide +kernel
theorem dX12_isAlike_69 : decode cX12_isAlike 69 = .ok (.getfield 66, 3) := by decide +kernel
theorem dX12_isAlike_72 : decode cX12_isAlike 72 = .ok (.iload 5, 2) := by decide +kernel
theorem dX12_isAlike_74 : decode cX12_isAlike 74 = .ok (.iaload, 1) := by decide +kernel
theorem dX12_isAlike_75 : decode cX12_isAlike 75 = .ok (.aload_n 0, 1) := by decide +kernel
theorem dX12_isAlike_76 : decode cX12_isAlike 76 = .ok (.getfield 84, 3) := by decide +kernel
theorem dX12_isAlike_79 : decode cX12_isAlike 79 = .ok (.iload 5, 2) := by decide +kernel
theorem dX12_isAlike_81 : decode cX12_isAlike 81 = .ok (.iaload, 1) := by decide +kernel
theorem dX12_isAlike_82 : decode cX12_isAlike 82 = .ok (.if_icmp .eq 5, 3) := by decide +kernel
theorem dX12_isAlike_85 : decode cX12_isAlike 85 = .ok (.iconst 0, 1) := by decide +kernel
theorem dX12_isAlike_86 : decode cX12_isAlike 86 = .ok (.ireturn, 1) := by decide +kernel
theorem dX12_isAlike_87 : decode cX12_isAlike 87 = .ok (.iinc 5 1, 3) := by decide +kernel
theorem dX12_isAlike_90 : decode cX12_isAlike 90 = .ok (.goto (-29), 3) := by decide +kernel
theorem dX12_isAlike_93 : decode cX12_isAlike 93 = .ok (.iconst 1, 1) := by decide +kernel
theorem dX12_isAlike_94 : decode cX12_isAlike 94 = .ok (.ireturn, 1) := by decide +kernel
theorem dX12_alike_0 : decode cX12_alike 0 = .ok (.aload_n 0, 1) := by decide +kernel
theorem dX12_alike_1 : decode cX12_alike 1 = .ok (.iload_n 1, 1) := by decide +kernel
theorem dX12_alike_2 : decode cX12_alike 2 = .ok (.invokevirtual 392, 3) := by decide +kernel
theorem dX12_alike_5 : decode cX12_alike 5 = .ok (.ifCond .eq 34, 3) := by decide +kernel
theorem dX12_alike_8 : decode cX12_alike 8 = .ok (.aload_n 0, 1) := by decide +kernel
theorem dX12_alike_9 : decode cX12_alike 9 = .ok (.iload_n 2, 1) := by decide +kernel
theorem dX12_alike_10 : decode cX12_alike 10 = .ok (.invokevirtual 392, 3) := by decide +kernel
theorem dX12_alike_13 : decode cX12_alike 13 = .ok (.ifCond .eq 26, 3) := by decide +kernel
theorem dX12_alike_16 : decode cX12_alike 16 = .ok (.aload_n 0, 1) := by decide +kernel
theorem dX12_alike_17 : decode cX12_alike 17 = .ok (.iload_n 1, 1) := by decide +kernel
theorem dX12_alike_18 : decode cX12_alike 18 = .ok (.iload_n 2, 1) := by decide +kernel
theorem dX12_alike_19 : decode cX12_alike 19 = .ok (.aload_n 0, 1) := by decide +kernel
theorem dX12_alike_20 : decode cX12_alike 20 = .ok (.getfield 7, 3) := by decide +kernel
theorem dX12_alike_23 : decode cX12_alike 23 = .ok (.iconst 4, 1) := by decide +kernel
theorem dX12_alike_24 : decode cX12_alike 24 = .ok (.iaload, 1) := by decide +kernel
theorem dX12_alike_25 : decode cX12_alike 25 = .ok (.invokevirtual 471, 3) := by decide +kernel
theorem dX12_alike_28 : decode cX12_alike 28 = .ok (.ifCond .eq 7, 3) := by decide +kernel
theorem dX12_alike_31 : decode cX12_alike 31 = .ok (.iconst 1, 1) := by decide +kernel
theorem dX12_alike_32 : decode cX12_alike 32 = .ok (.goto 8, 3) := by decide +kernel
theorem dX12_alike_35 : decode cX12_alike 35 = .ok (.iconst 0, 1) := by decide +kernel
theorem dX12_alike_36 : decode cX12_alike 36 = .ok (.goto 4, 3) := by decide +kernel
theorem dX12_alike_39 : decode cX12_alike 39 = .ok (.iconst (-1), 1) := by decide +kernel
theorem dX12_alike_40 : decode cX12_alike 40 = .ok (.ireturn, 1) := by decide +kernel
theorem dX12_nearly_0 : decode cX12_nearly 0 = .ok (.aload_n 0, 1) := by decide +kernel
theorem dX12_nearly_1 : decode cX12_nearly 1 = .ok (.iload_n 1, 1) := by decide +kernel
theorem dX12_nearly_2 : decode cX12_nearly 2 = .ok (.invokevirtual 392, 3) := by decide +kernel
theorem dX12_nearly_5 : decode cX12_nearly 5 = .ok (.ifCond .eq 11, 3) := by decide +kernel
theorem dX12_nearly_8 : decode cX12_nearly 8 = .ok (.aload_n 0, 1) := by decide +kernel
theorem dX12_nearly_9 : decode cX12_nearly 9 = .ok (.iload_n 2, 1) := by decide +kernel
theorem dX12_nearly_10 : decode cX12_nearly 10 = .ok (.invokevirtual 392, 3) := by decide +kernel
theorem dX12_nearly_13 : decode cX12_nearly 13 = .ok (.ifCond .ne 5, 3) := by decide +kernel
theorem dX12_nearly_16 : decode cX12_nearly 16 = .ok (.iconst (-1), 1) := by decide +kernel
theorem dX12_nearly_17 : decode cX12_nearly 17 = .ok (.ireturn, 1) := by decide +kernel
theorem dX12_nearly_18 : decode cX12_nearly 18 = .ok (.aload_n 0, 1) := by decide +kernel
theorem dX12_nearly_19 : decode cX12_nearly 19 = .ok (.iload_n 1, 1) := by decide +kernel
theorem dX12_nearly_20 : decode cX12_nearly 20 = .ok (.iload_n 2, 1) := by decide +kernel
theorem dX12_nearly_21 : decode cX12_nearly 21 = .ok (.sipush 255, 3) := by decide +kernel
theorem dX12_nearly_24 : decode cX12_nearly 24 = .ok (.invokevirtual 471, 3) := by decide +kernel
theorem dX12_nearly_27 : decode cX12_nearly 27 = .ok (.ifCond .eq 22, 3) := by decide +kernel
theorem dX12_nearly_30 : decode cX12_nearly 30 = .ok (.aload_n 0, 1) := by decide +kernel
theorem dX12_nearly_31 : decode cX12_nearly 31 = .ok (.iload_n 1, 1) := by decide +kernel
theorem dX12_nearly_32 : decode cX12_nearly 32 = .ok (.iload_n 2, 1) := by decide +kernel
theorem dX12_nearly_33 : decode cX12_nearly 33 = .ok (.aload_n 0, 1) := by decide +kernel
theorem dX12_nearly_34 : decode cX12_nearly 34 = .ok (.getfield 7, 3) := by decide +kernel
theorem dX12_nearly_37 : decode cX12_nearly 37 = .ok (.iconst 4, 1) := by decide +kernel
theorem dX12_nearly_38 : decode cX12_nearly 38 = .ok (.iaload, 1) := by decide +kernel
theorem dX12_nearly_39 : decode cX12_nearly 39 = .ok (.invokevirtual 471, 3) := by decide +kernel
theorem dX12_nearly_42 : decode cX12_nearly 42 = .ok (.ifCond .ne 7, 3) := by decide +kernel
theorem dX12_nearly_45 : decode cX12_nearly 45 = .ok (.iconst 1, 1) := by decide +kernel
theorem dX12_nearly_46 : decode cX12_nearly 46 = .ok (.goto 4, 3) := by decide +kernel
theorem dX12_nearly_49 : decode cX12_nearly 49 = .ok (.iconst 0, 1) := by decide +kernel
theorem dX12_nearly_50 : decode cX12_nearly 50 = .ok (.ireturn, 1) := by decide +kernel
theorem dX12_nextWorld_0 : decode cX12_nextWorld 0 = .ok (.iconst 3, 1) := by decide +kernel
theorem dX12_nextWorld_1 : decode cX12_nextWorld 1 = .ok (.istore_n 2, 1) := by decide +kernel
theorem dX12_nextWorld_2 : decode cX12_nextWorld 2 = .ok (.iload_n 2, 1) := by decide +kernel
theorem dX12_nextWorld_3 : decode cX12_nextWorld 3 = .ok (.ifCond .lt 50, 3) := by decide +kernel
theorem dX12_nextWorld_6 : decode cX12_nextWorld 6 = .ok (.iload_n 1, 1) := by decide +kernel
theorem dX12_nextWorld_7 : decode cX12_nextWorld 7 = .ok (.iload_n 2, 1) := by decide +kernel
theorem dX12_nextWorld_8 : decode cX12_nextWorld 8 = .ok (.invokestatic 373, 3) := by decide +kernel
theorem dX12_nextWorld_11 : decode cX12_nextWorld 11 = .ok (.ifCond .ne 6, 3) := by decide +kernel
theorem dX12_nextWorld_14 : decode cX12_nextWorld 14 = .ok (.goto 33, 3) := by decide +kernel
theorem dX12_nextWorld_17 : decode cX12_nextWorld 17 = .ok (.aload_n 0, 1) := by decide +kernel
theorem dX12_nextWorld_18 : decode cX12_nextWorld 18 = .ok (.getfield 59, 3) := by decide +kernel
theorem dX12_nextWorld_21 : decode cX12_nextWorld 21 = .ok (.iload_n 2, 1) := by decide +kernel
theorem dX12_nextWorld_22 : decode cX12_nextWorld 22 = .ok (.iaload, 1) := by decide +kernel
theorem dX12_nextWorld_23 : decode cX12_nextWorld 23 = .ok (.bipush 9, 2) := by decide +kernel
theorem dX12_nextWorld_25 : decode cX12_nextWorld 25 = .ok (.if_icmp .ge 15, 3) := by decide +kernel
theorem dX12_nextWorld_28 : decode cX12_nextWorld 28 = .ok (.aload_n 0, 1) := by decide +kernel
theorem dX12_nextWorld_29 : decode cX12_nextWorld 29 = .ok (.getfield 59, 3) := by decide +kernel
theorem dX12_nextWorld_32 : decode cX12_nextWorld 32 = .ok (.iload_n 2, 1) := by decide +kernel
theorem dX12_nextWorld_33 : decode cX12_nextWorld 33 = .ok (.dup2, 1) := by decide +kernel
theorem dX12_nextWorld_34 : decode cX12_nextWorld 34 = .ok (.iaload, 1) := by decide +kernel
theorem dX12_nextWorld_35 : decode cX12_nextWorld 35 = .ok (.iconst 1, 1) := by decide +kernel
theorem dX12_nextWorld_36 : decode cX12_nextWorld 36 = .ok (.iadd, 1) := by decide +kernel
theorem dX12_nextWorld_37 : decode cX12_nextWorld 37 = .ok (.iastore, 1) := by decide +kernel
theorem dX12_nextWorld_38 : decode cX12_nextWorld 38 = .ok (.iconst 1, 1) := by decide +kernel
theorem dX12_nextWorld_39 : decode cX12_nextWorld 39 = .ok (.ireturn, 1) := by decide +kernel
theorem dX12_nextWorld_40 : decode cX12_nextWorld 40 = .ok (.aload_n 0, 1) := by decide +kernel
theorem dX12_nextWorld_41 : decode cX12_nextWorld 41 = .ok (.getfield 59, 3) := by decide +kernel
theorem dX12_nextWorld_44 : decode cX12_nextWorld 44 = .ok (.iload_n 2, 1) := by decide +kernel
theorem dX12_nextWorld_45 : decode cX12_nextWorld 45 = .ok (.iconst 0, 1) := by decide +kernel
theorem dX12_nextWorld_46 : decode cX12_nextWorld 46 = .ok (.iastore, 1) := by decide +kernel
theorem dX12_nextWorld_47 : decode cX12_nextWorld 47 = .ok (.iinc 2 (-1), 3) := by decide +kernel
theorem dX12_nextWorld_50 : decode cX12_nextWorld 50 = .ok (.goto (-48), 3) := by decide +kernel
theorem dX12_nextWorld_53 : decode cX12_nextWorld 53 = .ok (.iconst 0, 1) := by decide +kernel
theorem dX12_nextWorld_54 : decode cX12_nextWorld 54 = .ok (.ireturn, 1) := by decide +kernel
theorem dX12_firstWorld_0 : decode cX12_firstWorld 0 = .ok (.aload_n 0, 1) := by decide +kernel
theorem dX12_firstWorld_1 : decode cX12_firstWorld 1 = .ok (.invokevirtual 146, 3) := by decide +kernel
theorem dX12_firstWorld_4 : decode cX12_firstWorld 4 = .ok (.iconst 0, 1) := by decide +kernel
theorem dX12_firstWorld_5 : decode cX12_firstWorld 5 = .ok (.istore_n 1, 1) := by decide +kernel
theorem dX12_firstWorld_6 : decode cX12_firstWorld 6 = .ok (.iload_n 1, 1) := by decide +kernel
theorem dX12_firstWorld_7 : decode cX12_firstWorld 7 = .ok (.iconst 4, 1) := by decide +kernel
theorem dX12_firstWorld_8 : decode cX12_firstWorld 8 = .ok (.if_icmp .ge 16, 3) := by decide +kernel
theorem dX12_firstWorld_11 : decode cX12_firstWorld 11 = .ok (.aload_n 0, 1) := by decide +kernel
theorem dX12_firstWorld_12 : decode cX12_firstWorld 12 = .ok (.getfield 59, 3) := by decide +kernel
theorem dX12_firstWorld_15 : decode cX12_firstWorld 15 = .ok (.iload_n 1, 1) := by decide +kernel
theorem dX12_firstWorld_16 : decode cX12_firstWorld 16 = .ok (.iconst 0, 1) := by decide +kernel
theorem dX12_firstWorld_17 : decode cX12_firstWorld 17 = .ok (.iastore, 1) := by decide +kernel
theorem dX12_firstWorld_18 : decode cX12_firstWorld 18 = .ok (.iinc 1 1, 3) := by decide +kernel
theorem dX12_firstWorld_21 : decode cX12_firstWorld 21 = .ok (.goto (-15), 3) := by decide +kernel
theorem dX12_firstWorld_24 : decode cX12_firstWorld 24 = .ok (.return_, 1) := by decide +kernel
theorem dX12_parted_0 : decode cX12_parted 0 = .ok (.aload_n 0, 1) := by decide +kernel
theorem dX12_parted_1 : decode cX12_parted 1 = .ok (.iload_n 1, 1) := by decide +kernel
theorem dX12_parted_2 : decode cX12_parted 2 = .ok (.invokevirtual 392, 3) := by decide +kernel
theorem dX12_parted_5 : decode cX12_parted 5 = .ok (.ifCond .eq 20, 3) := by decide +kernel
theorem dX12_parted_8 : decode cX12_parted 8 = .ok (.aload_n 0, 1) := by decide +kernel
theorem dX12_parted_9 : decode cX12_parted 9 = .ok (.iload_n 2, 1) := by decide +kernel
theorem dX12_parted_10 : decode cX12_parted 10 = .ok (.invokevirtual 392, 3) := by decide +kernel
theorem dX12_parted_13 : decode cX12_parted 13 = .ok (.ifCond .eq 12, 3) := by decide +kernel
theorem dX12_parted_16 : decode cX12_parted 16 = .ok (.iload_n 3, 1) := by decide +kernel
theorem dX12_parted_17 : decode cX12_parted 17 = .ok (.iconst 0, 1) := by decide +kernel
theorem dX12_parted_18 : decode cX12_parted 18 = .ok (.iconst 3, 1) := by decide +kernel
theorem dX12_parted_19 : decode cX12_parted 19 = .ok (.invokestatic 126, 3) := by decide +kernel
theorem dX12_parted_22 : decode cX12_parted 22 = .ok (.ifCond .ne 5, 3) := by decide +kernel
theorem dX12_parted_25 : decode cX12_parted 25 = .ok (.iconst (-1), 1) := by decide +kernel
theorem dX12_parted_26 : decode cX12_parted 26 = .ok (.ireturn, 1) := by decide +kernel
theorem dX12_parted_27 : decode cX12_parted 27 = .ok (.aload_n 0, 1) := by decide +kernel
theorem dX12_parted_28 : decode cX12_parted 28 = .ok (.getfield 56, 3) := by decide +kernel
theorem dX12_parted_31 : decode cX12_parted 31 = .ok (.iconst 4, 1) := by decide +kernel
theorem dX12_parted_32 : decode cX12_parted 32 = .ok (.iload_n 1, 1) := by decide +kernel
theorem dX12_parted_33 : decode cX12_parted 33 = .ok (.imul, 1) := by decide +kernel
theorem dX12_parted_34 : decode cX12_parted 34 = .ok (.iaload, 1) := by decide +kernel
theorem dX12_parted_35 : decode cX12_parted 35 = .ok (.aload_n 0, 1) := by decide +kernel
theorem dX12_parted_36 : decode cX12_parted 36 = .ok (.getfield 56, 3) := by decide +kernel
theorem dX12_parted_39 : decode cX12_parted 39 = .ok (.iconst 4, 1) := by decide +kernel
theorem dX12_parted_40 : decode cX12_parted 40 = .ok (.iload_n 2, 1) := by decide +kernel
theorem dX12_parted_41 : decode cX12_parted 41 = .ok (.imul, 1) := by decide +kernel
theorem dX12_parted_42 : decode cX12_parted 42 = .ok (.iaload, 1) := by decide +kernel
theorem dX12_parted_43 : decode cX12_parted 43 = .ok (.ior, 1) := by decide +kernel
theorem dX12_parted_44 : decode cX12_parted 44 = .ok (.bipush 15, 2) := by decide +kernel
theorem dX12_parted_46 : decode cX12_parted 46 = .ok (.iand, 1) := by decide +kernel
theorem dX12_parted_47 : decode cX12_parted 47 = .ok (.istore 4, 2) := by decide +kernel
theorem dX12_parted_49 : decode cX12_parted 49 = .ok (.aload_n 0, 1) := by decide +kernel
theorem dX12_parted_50 : decode cX12_parted 50 = .ok (.invokevirtual 474, 3) := by decide +kernel
theorem dX12_parted_53 : decode cX12_parted 53 = .ok (.iconst 1, 1) := by decide +kernel
theorem dX12_parted_54 : decode cX12_parted 54 = .ok (.istore 5, 2) := by decide +kernel
theorem dX12_parted_56 : decode cX12_parted 56 = .ok (.iload 5, 2) := by decide +kernel
theorem dX12_parted_58 : decode cX12_parted 58 = .ok (.ifCond .eq 39, 3) := by decide +kernel
theorem dX12_parted_61 : decode cX12_parted 61 = .ok (.aload_n 0, 1) := by decide +kernel
theorem dX12_parted_62 : decode cX12_parted 62 = .ok (.iload_n 1, 1) := by decide +kernel
theorem dX12_parted_63 : decode cX12_parted 63 = .ok (.invokevirtual 399, 3) := by decide +kernel
theorem dX12_parted_66 : decode cX12_parted 66 = .ok (.lstore 6, 2) := by decide +kernel
theorem dX12_parted_68 : decode cX12_parted 68 = .ok (.aload_n 0, 1) := by decide +kernel
theorem dX12_parted_69 : decode cX12_parted 69 = .ok (.iload_n 2, 1) := by decide +kernel
theorem dX12_parted_70 : decode cX12_parted 70 = .ok (.invokevirtual 399, 3) := by decide +kernel
theorem dX12_parted_73 : decode cX12_parted 73 = .ok (.lload 6, 2) := by decide +kernel
theorem dX12_parted_75 : decode cX12_parted 75 = .ok (.lcmp, 1) := by decide +kernel
theorem dX12_parted_76 : decode cX12_parted 76 = .ok (.ifCond .eq 10, 3) := by decide +kernel
theorem dX12_parted_79 : decode cX12_parted 79 = .ok (.aload_n 0, 1) := by decide +kernel
theorem dX12_parted_80 : decode cX12_parted 80 = .ok (.getfield 59, 3) := by decide +kernel
theorem dX12_parted_83 : decode cX12_parted 83 = .ok (.iload_n 3, 1) := by decide +kernel
theorem dX12_parted_84 : decode cX12_parted 84 = .ok (.iaload, 1) := by decide +kernel
theorem dX12_parted_85 : decode cX12_parted 85 = .ok (.ireturn, 1) := by decide +kernel
theorem dX12_parted_86 : decode cX12_parted 86 = .ok (.aload_n 0, 1) := by decide +kernel
theorem dX12_parted_87 : decode cX12_parted 87 = .ok (.iload 4, 2) := by decide +kernel
theorem dX12_parted_89 : decode cX12_parted 89 = .ok (.invokevirtual 477, 3) := by decide +kernel
theorem dX12_parted_92 : decode cX12_parted 92 = .ok (.istore 5, 2) := by decide +kernel
theorem dX12_parted_94 : decode cX12_parted 94 = .ok (.goto (-38), 3) := by decide +kernel
theorem dX12_parted_97 : decode cX12_parted 97 = .ok (.iconst (-1), 1) := by decide +kernel
theorem dX12_parted_98 : decode cX12_parted 98 = .ok (.ireturn, 1) := by decide +kernel
theorem dX12_lacks_0 : decode cX12_lacks 0 = .ok (.aload_n 0, 1) := by decide +kernel
