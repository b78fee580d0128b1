theorem dX12_personLine_0 : decode cX12_personLine 0 = .ok (.aload_n 0, 1) := by decide +kernel
theorem dX12_personLine_1 : decode cX12_personLine 1 = .ok (.getfield 17, 3) := by decide +kernel
theorem dX12_personLine_4 : decode cX12_personLine 4 = .ok (.iconst 1, 1) := by decide +kernel
theorem dX12_personLine_5 : decode cX12_personLine 5 = .ok (.iaload, 1) := by decide +kernel
theorem dX12_personLine_6 : decode cX12_personLine 6 = .ok (.bipush 6, 2) := by decide +kernel
theorem dX12_personLine_8 : decode cX12_personLine 8 = .ok (.if_icmp .ge 7, 3) := by decide +kernel
theorem dX12_personLine_11 : decode cX12_personLine 11 = .ok (.iconst 1, 1) := by decide +kernel
theorem dX12_personLine_12 : decode cX12_personLine 12 = .ok (.goto 4, 3) := by decide +kernel
theorem dX12_personLine_15 : decode cX12_personLine 15 = .ok (.iconst 0, 1) := by decide +kernel
theorem dX12_personLine_16 : decode cX12_personLine 16 = .ok (.istore_n 3, 1) := by decide +kernel
theorem dX12_personLine_17 : decode cX12_personLine 17 = .ok (.iload_n 3, 1) := by decide +kernel
theorem dX12_personLine_18 : decode cX12_personLine 18 = .ok (.ifCond .ne 9, 3) := by decide +kernel
theorem dX12_personLine_21 : decode cX12_personLine 21 = .ok (.aload_n 0, 1) := by decide +kernel
theorem dX12_personLine_22 : decode cX12_personLine 22 = .ok (.iconst 3, 1) := by decide +kernel
theorem dX12_personLine_23 : decode cX12_personLine 23 = .ok (.iload_n 1, 1) := by decide +kernel
theorem dX12_personLine_24 : decode cX12_personLine 24 = .ok (.invokevirtual 110, 3) := by decide +kernel
theorem dX12_personLine_27 : decode cX12_personLine 27 = .ok (.aload_n 0, 1) := by decide +kernel
theorem dX12_personLine_28 : decode cX12_personLine 28 = .ok (.iconst 1, 1) := by decide +kernel
theorem dX12_personLine_29 : decode cX12_personLine 29 = .ok (.bipush 30, 2) := by decide +kernel
theorem dX12_personLine_31 : decode cX12_personLine 31 = .ok (.invokevirtual 121, 3) := by decide +kernel
theorem dX12_personLine_34 : decode cX12_personLine 34 = .ok (.istore 4, 2) := by decide +kernel
theorem dX12_personLine_36 : decode cX12_personLine 36 = .ok (.iload_n 2, 1) := by decide +kernel
theorem dX12_personLine_37 : decode cX12_personLine 37 = .ok (.ifCond .eq 13, 3) := by decide +kernel
theorem dX12_personLine_40 : decode cX12_personLine 40 = .ok (.aload_n 0, 1) := by decide +kernel
theorem dX12_personLine_41 : decode cX12_personLine 41 = .ok (.iconst 0, 1) := by decide +kernel
theorem dX12_personLine_42 : decode cX12_personLine 42 = .ok (.bipush 7, 2) := by decide +kernel
theorem dX12_personLine_44 : decode cX12_personLine 44 = .ok (.invokevirtual 121, 3) := by decide +kernel
theorem dX12_personLine_47 : decode cX12_personLine 47 = .ok (.goto 5, 3) := by decide +kernel
theorem dX12_personLine_50 : decode cX12_personLine 50 = .ok (.bipush 8, 2) := by decide +kernel
theorem dX12_personLine_52 : decode cX12_personLine 52 = .ok (.istore 5, 2) := by decide +kernel
theorem dX12_personLine_54 : decode cX12_personLine 54 = .ok (.aload_n 0, 1) := by decide +kernel
theorem dX12_personLine_55 : decode cX12_personLine 55 = .ok (.iload_n 2, 1) := by decide +kernel
theorem dX12_personLine_56 : decode cX12_personLine 56 = .ok (.ifCond .eq 17, 3) := by decide +kernel
theorem dX12_personLine_59 : decode cX12_personLine 59 = .ok (.iload 5, 2) := by decide +kernel
theorem dX12_personLine_61 : decode cX12_personLine 61 = .ok (.aload_n 0, 1) := by decide +kernel
theorem dX12_personLine_62 : decode cX12_personLine 62 = .ok (.getfield 124, 3) := by decide +kernel
theorem dX12_personLine_65 : decode cX12_personLine 65 = .ok (.if_icmp .le 8, 3) := by decide +kernel
theorem dX12_personLine_68 : decode cX12_personLine 68 = .ok (.iload 5, 2) := by decide +kernel
theorem dX12_personLine_70 : decode cX12_personLine 70 = .ok (.goto 7, 3) := by decide +kernel
theorem dX12_personLine_73 : decode cX12_personLine 73 = .ok (.aload_n 0, 1) := by decide +kernel
theorem dX12_personLine_74 : decode cX12_personLine 74 = .ok (.getfield 124, 3) := by decide +kernel
theorem dX12_personLine_77 : decode cX12_personLine 77 = .ok (.putfield 124, 3) := by decide +kernel
theorem dX12_personLine_80 : decode cX12_personLine 80 = .ok (.iload_n 3, 1) := by decide +kernel
theorem dX12_personLine_81 : decode cX12_personLine 81 = .ok (.ifCond .ne 4, 3) := by decide +kernel
theorem dX12_personLine_84 : decode cX12_personLine 84 = .ok (.return_, 1) := by decide +kernel
theorem dX12_personLine_85 : decode cX12_personLine 85 = .ok (.aload_n 0, 1) := by decide +kernel
theorem dX12_personLine_86 : decode cX12_personLine 86 = .ok (.getfield 17, 3) := by decide +kernel
theorem dX12_personLine_89 : decode cX12_personLine 89 = .ok (.bipush 51, 2) := by decide +kernel
theorem dX12_personLine_91 : decode cX12_personLine 91 = .ok (.iconst 2, 1) := by decide +kernel
theorem dX12_personLine_92 : decode cX12_personLine 92 = .ok (.aload_n 0, 1) := by decide +kernel
theorem dX12_personLine_93 : decode cX12_personLine 93 = .ok (.getfield 17, 3) := by decide +kernel
theorem dX12_personLine_96 : decode cX12_personLine 96 = .ok (.iconst 1, 1) := by decide +kernel
theorem dX12_personLine_97 : decode cX12_personLine 97 = .ok (.iaload, 1) := by decide +kernel
theorem dX12_personLine_98 : decode cX12_personLine 98 = .ok (.imul, 1) := by decide +kernel
theorem dX12_personLine_99 : decode cX12_personLine 99 = .ok (.iadd, 1) := by decide +kernel
theorem dX12_personLine_100 : decode cX12_personLine 100 = .ok (.iload 4, 2) := by decide +kernel
theorem dX12_personLine_102 : decode cX12_personLine 102 = .ok (.iastore, 1) := by decide +kernel
theorem dX12_personLine_103 : decode cX12_personLine 103 = .ok (.aload_n 0, 1) := by decide +kernel
theorem dX12_personLine_104 : decode cX12_personLine 104 = .ok (.getfield 17, 3) := by decide +kernel
theorem dX12_personLine_107 : decode cX12_personLine 107 = .ok (.bipush 51, 2) := by decide +kernel
theorem dX12_personLine_109 : decode cX12_personLine 109 = .ok (.iconst 2, 1) := by decide +kernel
theorem dX12_personLine_110 : decode cX12_personLine 110 = .ok (.aload_n 0, 1) := by decide +kernel
theorem dX12_personLine_111 : decode cX12_personLine 111 = .ok (.getfield 17, 3) := by decide +kernel
theorem dX12_personLine_114 : decode cX12_personLine 114 = .ok (.iconst 1, 1) := by decide +kernel
theorem dX12_personLine_115 : decode cX12_personLine 115 = .ok (.iaload, 1) := by decide +kernel
theorem dX12_personLine_116 : decode cX12_personLine 116 = .ok (.imul, 1) := by decide +kernel
theorem dX12_personLine_117 : decode cX12_personLine 117 = .ok (.iadd, 1) := by decide +kernel
theorem dX12_personLine_118 : decode cX12_personLine 118 = .ok (.iconst 1, 1) := by decide +kernel
theorem dX12_personLine_119 : decode cX12_personLine 119 = .ok (.iadd, 1) := by decide +kernel
theorem dX12_personLine_120 : decode cX12_personLine 120 = .ok (.iload 5, 2) := by decide +kernel
theorem dX12_personLine_122 : decode cX12_personLine 122 = .ok (.iastore, 1) := by decide +kernel
theorem dX12_personLine_123 : decode cX12_personLine 123 = .ok (.aload_n 0, 1) := by decide +kernel
theorem dX12_personLine_124 : decode cX12_personLine 124 = .ok (.getfield 17, 3) := by decide +kernel
theorem dX12_personLine_127 : decode cX12_personLine 127 = .ok (.iconst 1, 1) := by decide +kernel
theorem dX12_personLine_128 : decode cX12_personLine 128 = .ok (.dup2, 1) := by decide +kernel
theorem dX12_personLine_129 : decode cX12_personLine 129 = .ok (.iaload, 1) := by decide +kernel
theorem dX12_personLine_130 : decode cX12_personLine 130 = .ok (.iconst 1, 1) := by decide +kernel
theorem dX12_personLine_131 : decode cX12_personLine 131 = .ok (.iadd, 1) := by decide +kernel
theorem dX12_personLine_132 : decode cX12_personLine 132 = .ok (.iastore, 1) := by decide +kernel
theorem dX12_personLine_133 : decode cX12_personLine 133 = .ok (.return_, 1) := by decide +kernel
theorem dX12_pieceLine_0 : decode cX12_pieceLine 0 = .ok (.aload_n 0, 1) := by decide +kernel
theorem dX12_pieceLine_1 : decode cX12_pieceLine 1 = .ok (.bipush 8, 2) := by decide +kernel
theorem dX12_pieceLine_3 : decode cX12_pieceLine 3 = .ok (.bipush 10, 2) := by decide +kernel
theorem dX12_pieceLine_5 : decode cX12_pieceLine 5 = .ok (.invokevirtual 117, 3) := by decide +kernel
theorem dX12_pieceLine_8 : decode cX12_pieceLine 8 = .ok (.bipush 8, 2) := by decide +kernel
theorem dX12_pieceLine_10 : decode cX12_pieceLine 10 = .ok (.isub, 1) := by decide +kernel
theorem dX12_pieceLine_11 : decode cX12_pieceLine 11 = .ok (.istore_n 3, 1) := by decide +kernel
theorem dX12_pieceLine_12 : decode cX12_pieceLine 12 = .ok (.aload_n 0, 1) := by decide +kernel
theorem dX12_pieceLine_13 : decode cX12_pieceLine 13 = .ok (.getfield 17, 3) := by decide +kernel
theorem dX12_pieceLine_16 : decode cX12_pieceLine 16 = .ok (.iconst 0, 1) := by decide +kernel
theorem dX12_pieceLine_17 : decode cX12_pieceLine 17 = .ok (.iaload, 1) := by decide +kernel
theorem dX12_pieceLine_18 : decode cX12_pieceLine 18 = .ok (.bipush 8, 2) := by decide +kernel
theorem dX12_pieceLine_20 : decode cX12_pieceLine 20 = .ok (.if_icmp .ge 7, 3) := by decide +kernel
theorem dX12_pieceLine_23 : decode cX12_pieceLine 23 = .ok (.iconst 1, 1) := by decide +kernel
theorem dX12_pieceLine_24 : decode cX12_pieceLine 24 = .ok (.goto 4, 3) := by decide +kernel
theorem dX12_pieceLine_27 : decode cX12_pieceLine 27 = .ok (.iconst 0, 1) := by decide +kernel
theorem dX12_pieceLine_28 : decode cX12_pieceLine 28 = .ok (.istore 4, 2) := by decide +kernel
theorem dX12_pieceLine_30 : decode cX12_pieceLine 30 = .ok (.aload_n 0, 1) := by decide +kernel
theorem dX12_pieceLine_31 : decode cX12_pieceLine 31 = .ok (.getfield 99, 3) := by decide +kernel
theorem dX12_pieceLine_34 : decode cX12_pieceLine 34 = .ok (.ifCond .ne 14, 3) := by decide +kernel
theorem dX12_pieceLine_37 : decode cX12_pieceLine 37 = .ok (.iload 4, 2) := by decide +kernel
theorem dX12_pieceLine_39 : decode cX12_pieceLine 39 = .ok (.ifCond .ne 9, 3) := by decide +kernel
theorem dX12_pieceLine_42 : decode cX12_pieceLine 42 = .ok (.aload_n 0, 1) := by decide +kernel
theorem dX12_pieceLine_43 : decode cX12_pieceLine 43 = .ok (.iconst 3, 1) := by decide +kernel
theorem dX12_pieceLine_44 : decode cX12_pieceLine 44 = .ok (.iload_n 1, 1) := by decide +kernel
theorem dX12_pieceLine_45 : decode cX12_pieceLine 45 = .ok (.invokevirtual 110, 3) := by decide +kernel
theorem dX12_pieceLine_48 : decode cX12_pieceLine 48 = .ok (.aload_n 0, 1) := by decide +kernel
theorem dX12_pieceLine_49 : decode cX12_pieceLine 49 = .ok (.iconst 0, 1) := by decide +kernel
theorem dX12_pieceLine_50 : decode cX12_pieceLine 50 = .ok (.bipush 50, 2) := by decide +kernel
theorem dX12_pieceLine_52 : decode cX12_pieceLine 52 = .ok (.invokevirtual 121, 3) := by decide +kernel
theorem dX12_pieceLine_55 : decode cX12_pieceLine 55 = .ok (.istore 5, 2) := by decide +kernel
theorem dX12_pieceLine_57 : decode cX12_pieceLine 57 = .ok (.aload_n 0, 1) := by decide +kernel
theorem dX12_pieceLine_58 : decode cX12_pieceLine 58 = .ok (.iconst 1, 1) := by decide +kernel
theorem dX12_pieceLine_59 : decode cX12_pieceLine 59 = .ok (.bipush 99, 2) := by decide +kernel
theorem dX12_pieceLine_61 : decode cX12_pieceLine 61 = .ok (.invokevirtual 121, 3) := by decide +kernel
theorem dX12_pieceLine_64 : decode cX12_pieceLine 64 = .ok (.istore 6, 2) := by decide +kernel
theorem dX12_pieceLine_66 : decode cX12_pieceLine 66 = .ok (.aload_n 0, 1) := by decide +kernel
theorem dX12_pieceLine_67 : decode cX12_pieceLine 67 = .ok (.iconst 0, 1) := by decide +kernel
theorem dX12_pieceLine_68 : decode cX12_pieceLine 68 = .ok (.bipush 63, 2) := by decide +kernel
theorem dX12_pieceLine_70 : decode cX12_pieceLine 70 = .ok (.invokevirtual 121, 3) := by decide +kernel
theorem dX12_pieceLine_73 : decode cX12_pieceLine 73 = .ok (.istore 7, 2) := by decide +kernel
theorem dX12_pieceLine_75 : decode cX12_pieceLine 75 = .ok (.aload_n 0, 1) := by decide +kernel
theorem dX12_pieceLine_76 : decode cX12_pieceLine 76 = .ok (.iconst 1, 1) := by decide +kernel
theorem dX12_pieceLine_77 : decode cX12_pieceLine 77 = .ok (.bipush 9, 2) := by decide +kernel
theorem dX12_pieceLine_79 : decode cX12_pieceLine 79 = .ok (.invokevirtual 121, 3) := by decide +kernel
theorem dX12_pieceLine_82 : decode cX12_pieceLine 82 = .ok (.istore 8, 2) := by decide +kernel
theorem dX12_pieceLine_84 : decode cX12_pieceLine 84 = .ok (.iload 4, 2) := by decide +kernel
theorem dX12_pieceLine_86 : decode cX12_pieceLine 86 = .ok (.ifCond .ne 4, 3) := by decide +kernel
theorem dX12_pieceLine_89 : decode cX12_pieceLine 89 = .ok (.return_, 1) := by decide +kernel
theorem dX12_pieceLine_90 : decode cX12_pieceLine 90 = .ok (.iconst 3, 1) := by decide +kernel
theorem dX12_pieceLine_91 : decode cX12_pieceLine 91 = .ok (.bipush 6, 2) := by decide +kernel
theorem dX12_pieceLine_93 : decode cX12_pieceLine 93 = .ok (.aload_n 0, 1) := by decide +kernel
theorem dX12_pieceLine_94 : decode cX12_pieceLine 94 = .ok (.getfield 17, 3) := by decide +kernel
theorem dX12_pieceLine_97 : decode cX12_pieceLine 97 = .ok (.iconst 0, 1) := by decide +kernel
theorem dX12_pieceLine_98 : decode cX12_pieceLine 98 = .ok (.iaload, 1) := by decide +kernel
theorem dX12_pieceLine_99 : decode cX12_pieceLine 99 = .ok (.imul, 1) := by decide +kernel
theorem dX12_pieceLine_100 : decode cX12_pieceLine 100 = .ok (.iadd, 1) := by decide +kernel
theorem dX12_pieceLine_101 : decode cX12_pieceLine 101 = .ok (.istore 9, 2) := by decide +kernel
theorem dX12_pieceLine_103 : decode cX12_pieceLine 103 = .ok (.aload_n 0, 1) := by decide +kernel
theorem dX12_pieceLine_104 : decode cX12_pieceLine 104 = .ok (.getfield 17, 3) := by decide +kernel
theorem dX12_pieceLine_107 : decode cX12_pieceLine 107 = .ok (.iload 9, 2) := by decide +kernel
theorem dX12_pieceLine_109 : decode cX12_pieceLine 109 = .ok (.iload_n 2, 1) := by decide +kernel
theorem dX12_pieceLine_110 : decode cX12_pieceLine 110 = .ok (.iastore, 1) := by decide +kernel
theorem dX12_pieceLine_111 : decode cX12_pieceLine 111 = .ok (.aload_n 0, 1) := by decide +kernel
theorem dX12_pieceLine_112 : decode cX12_pieceLine 112 = .ok (.getfield 17, 3) := by decide +kernel
theorem dX12_pieceLine_115 : decode cX12_pieceLine 115 = .ok (.iload 9, 2) := by decide +kernel
theorem dX12_pieceLine_117 : decode cX12_pieceLine 117 = .ok (.iconst 1, 1) := by decide +kernel
theorem dX12_pieceLine_118 : decode cX12_pieceLine 118 = .ok (.iadd, 1) := by decide +kernel
theorem dX12_pieceLine_119 : decode cX12_pieceLine 119 = .ok (.iload_n 3, 1) := by decide +kernel
theorem dX12_pieceLine_120 : decode cX12_pieceLine 120 = .ok (.iastore, 1) := by decide +kernel
theorem dX12_pieceLine_121 : decode cX12_pieceLine 121 = .ok (.aload_n 0, 1) := by decide +kernel
theorem dX12_pieceLine_122 : decode cX12_pieceLine 122 = .ok (.getfield 17, 3) := by decide +kernel
theorem dX12_pieceLine_125 : decode cX12_pieceLine 125 = .ok (.iload 9, 2) := by decide +kernel
theorem dX12_pieceLine_127 : decode cX12_pieceLine 127 = .ok (.iconst 2, 1) := by decide +kernel
theorem dX12_pieceLine_128 : decode cX12_pieceLine 128 = .ok (.iadd, 1) := by decide +kernel
theorem dX12_pieceLine_129 : decode cX12_pieceLine 129 = .ok (.iload 5, 2) := by decide +kernel
theorem dX12_pieceLine_131 : decode cX12_pieceLine 131 = .ok (.iastore, 1) := by decide +kernel
theorem dX12_pieceLine_132 : decode cX12_pieceLine 132 = .ok (.aload_n 0, 1) := by decide +kernel
theorem dX12_pieceLine_133 : decode cX12_pieceLine 133 = .ok (.getfield 17, 3) := by decide +kernel
theorem dX12_pieceLine_136 : decode cX12_pieceLine 136 = .ok (.iload 9, 2) := by decide +kernel
theorem dX12_pieceLine_138 : decode cX12_pieceLine 138 = .ok (.iconst 3, 1) := by decide +kernel
theorem dX12_pieceLine_139 : decode cX12_pieceLine 139 = .ok (.iadd, 1) := by decide +kernel
theorem dX12_pieceLine_140 : decode cX12_pieceLine 140 = .ok (.iload 6, 2) := by decide +kernel
theorem dX12_pieceLine_142 : decode cX12_pieceLine 142 = .ok (.iastore, 1) := by decide +kernel
theorem dX12_pieceLine_143 : decode cX12_pieceLine 143 = .ok (.aload_n 0, 1) := by decide +kernel
theorem dX12_pieceLine_144 : decode cX12_pieceLine 144 = .ok (.getfield 17, 3) := by decide +kernel
theorem dX12_pieceLine_147 : decode cX12_pieceLine 147 = .ok (.iload 9, 2) := by decide +kernel
theorem dX12_pieceLine_149 : decode cX12_pieceLine 149 = .ok (.iconst 4, 1) := by decide +kernel
theorem dX12_pieceLine_150 : decode cX12_pieceLine 150 = .ok (.iadd, 1) := by decide +kernel
theorem dX12_pieceLine_151 : decode cX12_pieceLine 151 = .ok (.iload 7, 2) := by decide +kernel
theorem dX12_pieceLine_153 : decode cX12_pieceLine 153 = .ok (.iastore, 1) := by decide +kernel
theorem dX12_pieceLine_154 : decode cX12_pieceLine 154 = .ok (.aload_n 0, 1) := by decide +kernel
theorem dX12_pieceLine_155 : decode cX12_pieceLine 155 = .ok (.getfield 17, 3) := by decide +kernel
theorem dX12_pieceLine_158 : decode cX12_pieceLine 158 = .ok (.iload 9, 2) := by decide +kernel
theorem dX12_pieceLine_160 : decode cX12_pieceLine 160 = .ok (.iconst 5, 1) := by decide +kernel
theorem dX12_pieceLine_161 : decode cX12_pieceLine 161 = .ok (.iadd, 1) := by decide +kernel
theorem dX12_pieceLine_162 : decode cX12_pieceLine 162 = .ok (.iload 8, 2) := by decide +kernel
theorem dX12_pieceLine_164 : decode cX12_pieceLine 164 = .ok (.iastore, 1) := by decide +kernel
theorem dX12_pieceLine_165 : decode cX12_pieceLine 165 = .ok (.aload_n 0, 1) := by decide +kernel
theorem dX12_pieceLine_166 : decode cX12_pieceLine 166 = .ok (.getfield 17, 3) := by decide +kernel
theorem dX12_pieceLine_169 : decode cX12_pieceLine 169 = .ok (.iconst 0, 1) := by decide +kernel
theorem dX12_pieceLine_170 : decode cX12_pieceLine 170 = .ok (.dup2, 1) := by decide +kernel
theorem dX12_pieceLine_171 : decode cX12_pieceLine 171 = .ok (.iaload, 1) := by decide +kernel
theorem dX12_pieceLine_172 : decode cX12_pieceLine 172 = .ok (.iconst 1, 1) := by decide +kernel
theorem dX12_pieceLine_173 : decode cX12_pieceLine 173 = .ok (.iadd, 1) := by decide +kernel
theorem dX12_pieceLine_174 : decode cX12_pieceLine 174 = .ok (.iastore, 1) := by decide +kernel
theorem dX12_pieceLine_175 : decode cX12_pieceLine 175 = .ok (.return_, 1) := by decide +kernel
theorem dX12_endsLine_0 : decode cX12_endsLine 0 = .ok (.aload_n 0, 1) := by decide +kernel
theorem dX12_endsLine_1 : decode cX12_endsLine 1 = .ok (.getfield 99, 3) := by decide +kernel
theorem dX12_endsLine_4 : decode cX12_endsLine 4 = .ok (.ifCond .ne 18, 3) := by decide +kernel
theorem dX12_endsLine_7 : decode cX12_endsLine 7 = .ok (.aload_n 0, 1) := by decide +kernel
theorem dX12_endsLine_8 : decode cX12_endsLine 8 = .ok (.getfield 75, 3) := by decide +kernel
theorem dX12_endsLine_11 : decode cX12_endsLine 11 = .ok (.iconst 2, 1) := by decide +kernel
theorem dX12_endsLine_12 : decode cX12_endsLine 12 = .ok (.if_icmp .ne 10, 3) := by decide +kernel
theorem dX12_endsLine_15 : decode cX12_endsLine 15 = .ok (.aload_n 0, 1) := by decide +kernel
theorem dX12_endsLine_16 : decode cX12_endsLine 16 = .ok (.invokevirtual 114, 3) := by decide +kernel
theorem dX12_endsLine_19 : decode cX12_endsLine 19 = .ok (.goto 7, 3) := by decide +kernel
theorem dX12_endsLine_22 : decode cX12_endsLine 22 = .ok (.aload_n 0, 1) := by decide +kernel
theorem dX12_endsLine_23 : decode cX12_endsLine 23 = .ok (.invokevirtual 103, 3) := by decide +kernel
theorem dX12_endsLine_26 : decode cX12_endsLine 26 = .ok (.return_, 1) := by decide +kernel
theorem dX12_chamberLine_0 : decode cX12_chamberLine 0 = .ok (.aload_n 0, 1) := by decide +kernel
theorem dX12_chamberLine_1 : decode cX12_chamberLine 1 = .ok (.getfield 72, 3) := by decide +kernel
theorem dX12_chamberLine_4 : decode cX12_chamberLine 4 = .ok (.istore_n 1, 1) := by decide +kernel
theorem dX12_chamberLine_5 : decode cX12_chamberLine 5 = .ok (.aload_n 0, 1) := by decide +kernel
theorem dX12_chamberLine_6 : decode cX12_chamberLine 6 = .ok (.iconst 1, 1) := by decide +kernel
theorem dX12_chamberLine_7 : decode cX12_chamberLine 7 = .ok (.bipush 7, 2) := by decide +kernel
theorem dX12_chamberLine_9 : decode cX12_chamberLine 9 = .ok (.invokevirtual 117, 3) := by decide +kernel
theorem dX12_chamberLine_12 : decode cX12_chamberLine 12 = .ok (.istore_n 2, 1) := by decide +kernel
theorem dX12_chamberLine_13 : decode cX12_chamberLine 13 = .ok (.iload_n 2, 1) := by decide +kernel
theorem dX12_chamberLine_14 : decode cX12_chamberLine 14 = .ok (.tableswitch 83 0 7 #[46, 83, 83, 83, 83, 49, 49, 67], 46) := by decide +kernel
theorem dX12_chamberLine_60 : decode cX12_chamberLine 60 = .ok (.goto 45, 3) := by decide +kernel
theorem dX12_chamberLine_63 : decode cX12_chamberLine 63 = .ok (.aload_n 0, 1) := by decide +kernel
theorem dX12_chamberLine_64 : decode cX12_chamberLine 64 = .ok (.iload_n 1, 1) := by decide +kernel
theorem dX12_chamberLine_65 : decode cX12_chamberLine 65 = .ok (.iload_n 2, 1) := by decide +kernel
theorem dX12_chamberLine_66 : decode cX12_chamberLine 66 = .ok (.iconst 5, 1) := by decide +kernel
theorem dX12_chamberLine_67 : decode cX12_chamberLine 67 = .ok (.if_icmp .ne 7, 3) := by decide +kernel
theorem dX12_chamberLine_70 : decode cX12_chamberLine 70 = .ok (.iconst 1, 1) := by decide +kernel
theorem dX12_chamberLine_71 : decode cX12_chamberLine 71 = .ok (.goto 4, 3) := by decide +kernel
theorem dX12_chamberLine_74 : decode cX12_chamberLine 74 = .ok (.iconst 0, 1) := by decide +kernel
theorem dX12_chamberLine_75 : decode cX12_chamberLine 75 = .ok (.invokevirtual 127, 3) := by decide +kernel
theorem dX12_chamberLine_78 : decode cX12_chamberLine 78 = .ok (.goto 27, 3) := by decide +kernel
theorem dX12_chamberLine_81 : decode cX12_chamberLine 81 = .ok (.aload_n 0, 1) := by decide +kernel
theorem dX12_chamberLine_82 : decode cX12_chamberLine 82 = .ok (.getfield 17, 3) := by decide +kernel
theorem dX12_chamberLine_85 : decode cX12_chamberLine 85 = .ok (.iconst 2, 1) := by decide +kernel
theorem dX12_chamberLine_86 : decode cX12_chamberLine 86 = .ok (.aload_n 0, 1) := by decide +kernel
theorem dX12_chamberLine_87 : decode cX12_chamberLine 87 = .ok (.iconst 0, 1) := by decide +kernel
theorem dX12_chamberLine_88 : decode cX12_chamberLine 88 = .ok (.bipush 9, 2) := by decide +kernel
theorem dX12_chamberLine_90 : decode cX12_chamberLine 90 = .ok (.invokevirtual 121, 3) := by decide +kernel
theorem dX12_chamberLine_93 : decode cX12_chamberLine 93 = .ok (.iastore, 1) := by decide +kernel
theorem dX12_chamberLine_94 : decode cX12_chamberLine 94 = .ok (.goto 11, 3) := by decide +kernel
theorem dX12_chamberLine_97 : decode cX12_chamberLine 97 = .ok (.aload_n 0, 1) := by decide +kernel
theorem dX12_chamberLine_98 : decode cX12_chamberLine 98 = .ok (.iload_n 1, 1) := by decide +kernel
theorem dX12_chamberLine_99 : decode cX12_chamberLine 99 = .ok (.iload_n 2, 1) := by decide +kernel
theorem dX12_chamberLine_100 : decode cX12_chamberLine 100 = .ok (.iconst 1, 1) := by decide +kernel
theorem dX12_chamberLine_101 : decode cX12_chamberLine 101 = .ok (.isub, 1) := by decide +kernel
theorem dX12_chamberLine_102 : decode cX12_chamberLine 102 = .ok (.invokevirtual 131, 3) := by decide +kernel
theorem dX12_chamberLine_105 : decode cX12_chamberLine 105 = .ok (.aload_n 0, 1) := by decide +kernel
theorem dX12_chamberLine_106 : decode cX12_chamberLine 106 = .ok (.invokevirtual 134, 3) := by decide +kernel
theorem dX12_chamberLine_109 : decode cX12_chamberLine 109 = .ok (.return_, 1) := by decide +kernel
theorem dX12_sessionLine_0 : decode cX12_sessionLine 0 = .ok (.aload_n 0, 1) := by decide +kernel
theorem dX12_sessionLine_1 : decode cX12_sessionLine 1 = .ok (.getfield 72, 3) := by decide +kernel
theorem dX12_sessionLine_4 : decode cX12_sessionLine 4 = .ok (.istore_n 1, 1) := by decide +kernel
theorem dX12_sessionLine_5 : decode cX12_sessionLine 5 = .ok (.aload_n 0, 1) := by decide +kernel
theorem dX12_sessionLine_6 : decode cX12_sessionLine 6 = .ok (.bipush 11, 2) := by decide +kernel
theorem dX12_sessionLine_8 : decode cX12_sessionLine 8 = .ok (.bipush 18, 2) := by decide +kernel
theorem dX12_sessionLine_10 : decode cX12_sessionLine 10 = .ok (.invokevirtual 117, 3) := by decide +kernel
theorem dX12_sessionLine_13 : decode cX12_sessionLine 13 = .ok (.bipush 11, 2) := by decide +kernel
theorem dX12_sessionLine_15 : decode cX12_sessionLine 15 = .ok (.isub, 1) := by decide +kernel
theorem dX12_sessionLine_16 : decode cX12_sessionLine 16 = .ok (.istore_n 2, 1) := by decide +kernel
theorem dX12_sessionLine_17 : decode cX12_sessionLine 17 = .ok (.aload_n 0, 1) := by decide +kernel
theorem dX12_sessionLine_18 : decode cX12_sessionLine 18 = .ok (.getfield 99, 3) := by decide +kernel
theorem dX12_sessionLine_21 : decode cX12_sessionLine 21 = .ok (.ifCond .ne 20, 3) := by decide +kernel
theorem dX12_sessionLine_24 : decode cX12_sessionLine 24 = .ok (.aload_n 0, 1) := by decide +kernel
theorem dX12_sessionLine_25 : decode cX12_sessionLine 25 = .ok (.getfield 17, 3) := by decide +kernel
theorem dX12_sessionLine_28 : decode cX12_sessionLine 28 = .ok (.iconst 0, 1) := by decide +kernel
theorem dX12_sessionLine_29 : decode cX12_sessionLine 29 = .ok (.iaload, 1) := by decide +kernel
theorem dX12_sessionLine_30 : decode cX12_sessionLine 30 = .ok (.bipush 40, 2) := by decide +kernel
theorem dX12_sessionLine_32 : decode cX12_sessionLine 32 = .ok (.if_icmp .lt 9, 3) := by decide +kernel
theorem dX12_sessionLine_35 : decode cX12_sessionLine 35 = .ok (.aload_n 0, 1) := by decide +kernel
theorem dX12_sessionLine_36 : decode cX12_sessionLine 36 = .ok (.iconst 3, 1) := by decide +kernel
theorem dX12_sessionLine_37 : decode cX12_sessionLine 37 = .ok (.iload_n 1, 1) := by decide +kernel
theorem dX12_sessionLine_38 : decode cX12_sessionLine 38 = .ok (.invokevirtual 110, 3) := by decide +kernel
theorem dX12_sessionLine_41 : decode cX12_sessionLine 41 = .ok (.iload_n 2, 1) := by decide +kernel
theorem dX12_sessionLine_42 : decode cX12_sessionLine 42 = .ok (.iconst 5, 1) := by decide +kernel
theorem dX12_sessionLine_43 : decode cX12_sessionLine 43 = .ok (.if_icmp .ge 36, 3) := by decide +kernel
theorem dX12_sessionLine_46 : decode cX12_sessionLine 46 = .ok (.aload_n 0, 1) := by decide +kernel
theorem dX12_sessionLine_47 : decode cX12_sessionLine 47 = .ok (.iconst 0, 1) := by decide +kernel
theorem dX12_sessionLine_48 : decode cX12_sessionLine 48 = .ok (.iload_n 2, 1) := by decide +kernel
theorem dX12_sessionLine_49 : decode cX12_sessionLine 49 = .ok (.ifCond .ne 8, 3) := by decide +kernel
theorem dX12_sessionLine_52 : decode cX12_sessionLine 52 = .ok (.bipush 63, 2) := by decide +kernel
theorem dX12_sessionLine_54 : decode cX12_sessionLine 54 = .ok (.goto 19, 3) := by decide +kernel
theorem dX12_sessionLine_57 : decode cX12_sessionLine 57 = .ok (.iload_n 2, 1) := by decide +kernel
theorem dX12_sessionLine_58 : decode cX12_sessionLine 58 = .ok (.iconst 1, 1) := by decide +kernel
theorem dX12_sessionLine_59 : decode cX12_sessionLine 59 = .ok (.if_icmp .eq 8, 3) := by decide +kernel
theorem dX12_sessionLine_62 : decode cX12_sessionLine 62 = .ok (.iload_n 2, 1) := by decide +kernel
theorem dX12_sessionLine_63 : decode cX12_sessionLine 63 = .ok (.iconst 4, 1) := by decide +kernel
theorem dX12_sessionLine_64 : decode cX12_sessionLine 64 = .ok (.if_icmp .ne 7, 3) := by decide +kernel
theorem dX12_sessionLine_67 : decode cX12_sessionLine 67 = .ok (.iconst 5, 1) := by decide +kernel
theorem dX12_sessionLine_68 : decode cX12_sessionLine 68 = .ok (.goto 5, 3) := by decide +kernel
theorem dX12_sessionLine_71 : decode cX12_sessionLine 71 = .ok (.bipush 7, 2) := by decide +kernel
theorem dX12_sessionLine_73 : decode cX12_sessionLine 73 = .ok (.invokevirtual 121, 3) := by decide +kernel
theorem dX12_sessionLine_76 : decode cX12_sessionLine 76 = .ok (.goto 4, 3) := by decide +kernel
theorem dX12_sessionLine_79 : decode cX12_sessionLine 79 = .ok (.iconst (-1), 1) := by decide +kernel
theorem dX12_sessionLine_80 : decode cX12_sessionLine 80 = .ok (.istore_n 3, 1) := by decide +kernel
theorem dX12_sessionLine_81 : decode cX12_sessionLine 81 = .ok (.iload_n 2, 1) := by decide +kernel
theorem dX12_sessionLine_82 : decode cX12_sessionLine 82 = .ok (.iconst 4, 1) := by decide +kernel
theorem dX12_sessionLine_83 : decode cX12_sessionLine 83 = .ok (.if_icmp .ne 13, 3) := by decide +kernel
theorem dX12_sessionLine_86 : decode cX12_sessionLine 86 = .ok (.aload_n 0, 1) := by decide +kernel
theorem dX12_sessionLine_87 : decode cX12_sessionLine 87 = .ok (.iconst 0, 1) := by decide +kernel
theorem dX12_sessionLine_88 : decode cX12_sessionLine 88 = .ok (.bipush 7, 2) := by decide +kernel
theorem dX12_sessionLine_90 : decode cX12_sessionLine 90 = .ok (.invokevirtual 121, 3) := by decide +kernel
theorem dX12_sessionLine_93 : decode cX12_sessionLine 93 = .ok (.goto 4, 3) := by decide +kernel
theorem dX12_sessionLine_96 : decode cX12_sessionLine 96 = .ok (.iconst (-1), 1) := by decide +kernel
theorem dX12_sessionLine_97 : decode cX12_sessionLine 97 = .ok (.istore 4, 2) := by decide +kernel
theorem dX12_sessionLine_99 : decode cX12_sessionLine 99 = .ok (.aload_n 0, 1) := by decide +kernel
theorem dX12_sessionLine_100 : decode cX12_sessionLine 100 = .ok (.getfield 17, 3) := by decide +kernel
theorem dX12_sessionLine_103 : decode cX12_sessionLine 103 = .ok (.iconst 0, 1) := by decide +kernel
theorem dX12_sessionLine_104 : decode cX12_sessionLine 104 = .ok (.iaload, 1) := by decide +kernel
theorem dX12_sessionLine_105 : decode cX12_sessionLine 105 = .ok (.bipush 40, 2) := by decide +kernel
theorem dX12_sessionLine_107 : decode cX12_sessionLine 107 = .ok (.if_icmp .ge 54, 3) := by decide +kernel
theorem dX12_sessionLine_110 : decode cX12_sessionLine 110 = .ok (.iconst 1, 1) := by decide +kernel
theorem dX12_sessionLine_111 : decode cX12_sessionLine 111 = .ok (.iconst 3, 1) := by decide +kernel
theorem dX12_sessionLine_112 : decode cX12_sessionLine 112 = .ok (.aload_n 0, 1) := by decide +kernel
theorem dX12_sessionLine_113 : decode cX12_sessionLine 113 = .ok (.getfield 17, 3) := by decide +kernel
theorem dX12_sessionLine_116 : decode cX12_sessionLine 116 = .ok (.iconst 0, 1) := by decide +kernel
theorem dX12_sessionLine_117 : decode cX12_sessionLine 117 = .ok (.iaload, 1) := by decide +kernel
theorem dX12_sessionLine_118 : decode cX12_sessionLine 118 = .ok (.imul, 1) := by decide +kernel
theorem dX12_sessionLine_119 : decode cX12_sessionLine 119 = .ok (.iadd, 1) := by decide +kernel
theorem dX12_sessionLine_120 : decode cX12_sessionLine 120 = .ok (.istore 5, 2) := by decide +kernel
theorem dX12_sessionLine_122 : decode cX12_sessionLine 122 = .ok (.aload_n 0, 1) := by decide +kernel
theorem dX12_sessionLine_123 : decode cX12_sessionLine 123 = .ok (.getfield 17, 3) := by decide +kernel
theorem dX12_sessionLine_126 : decode cX12_sessionLine 126 = .ok (.iload 5, 2) := by decide +kernel
theorem dX12_sessionLine_128 : decode cX12_sessionLine 128 = .ok (.iload_n 2, 1) := by decide +kernel
theorem dX12_sessionLine_129 : decode cX12_sessionLine 129 = .ok (.iastore, 1) := by decide +kernel
theorem dX12_sessionLine_130 : decode cX12_sessionLine 130 = .ok (.aload_n 0, 1) := by decide +kernel
theorem dX12_sessionLine_131 : decode cX12_sessionLine 131 = .ok (.getfield 17, 3) := by decide +kernel
theorem dX12_sessionLine_134 : decode cX12_sessionLine 134 = .ok (.iload 5, 2) := by decide +kernel
theorem dX12_sessionLine_136 : decode cX12_sessionLine 136 = .ok (.iconst 1, 1) := by decide +kernel
theorem dX12_sessionLine_137 : decode cX12_sessionLine 137 = .ok (.iadd, 1) := by decide +kernel
theorem dX12_sessionLine_138 : decode cX12_sessionLine 138 = .ok (.iload_n 3, 1) := by decide +kernel
theorem dX12_sessionLine_139 : decode cX12_sessionLine 139 = .ok (.iastore, 1) := by decide +kernel
theorem dX12_sessionLine_140 : decode cX12_sessionLine 140 = .ok (.aload_n 0, 1) := by decide +kernel
theorem dX12_sessionLine_141 : decode cX12_sessionLine 141 = .ok (.getfield 17, 3) := by decide +kernel
theorem dX12_sessionLine_144 : decode cX12_sessionLine 144 = .ok (.iload 5, 2) := by decide +kernel
theorem dX12_sessionLine_146 : decode cX12_sessionLine 146 = .ok (.iconst 2, 1) := by decide +kernel
theorem dX12_sessionLine_147 : decode cX12_sessionLine 147 = .ok (.iadd, 1) := by decide +kernel
theorem dX12_sessionLine_148 : decode cX12_sessionLine 148 = .ok (.iload 4, 2) := by decide +kernel
theorem dX12_sessionLine_150 : decode cX12_sessionLine 150 = .ok (.iastore, 1) := by decide +kernel
theorem dX12_sessionLine_151 : decode cX12_sessionLine 151 = .ok (.aload_n 0, 1) := by decide +kernel
theorem dX12_sessionLine_152 : decode cX12_sessionLine 152 = .ok (.getfield 17, 3) := by decide +kernel
theorem dX12_sessionLine_155 : decode cX12_sessionLine 155 = .ok (.iconst 0, 1) := by decide +kernel
theorem dX12_sessionLine_156 : decode cX12_sessionLine 156 = .ok (.dup2, 1) := by decide +kernel
theorem dX12_sessionLine_157 : decode cX12_sessionLine 157 = .ok (.iaload, 1) := by decide +kernel
theorem dX12_sessionLine_158 : decode cX12_sessionLine 158 = .ok (.iconst 1, 1) := by decide +kernel
theorem dX12_sessionLine_159 : decode cX12_sessionLine 159 = .ok (.iadd, 1) := by decide +kernel
theorem dX12_sessionLine_160 : decode cX12_sessionLine 160 = .ok (.iastore, 1) := by decide +kernel
theorem dX12_sessionLine_161 : decode cX12_sessionLine 161 = .ok (.aload_n 0, 1) := by decide +kernel
theorem dX12_sessionLine_162 : decode cX12_sessionLine 162 = .ok (.invokevirtual 134, 3) := by decide +kernel
theorem dX12_sessionLine_165 : decode cX12_sessionLine 165 = .ok (.return_, 1) := by decide +kernel
theorem dX12_logLine_0 : decode cX12_logLine 0 = .ok (.aload_n 0, 1) := by decide +kernel
theorem dX12_logLine_1 : decode cX12_logLine 1 = .ok (.getfield 72, 3) := by decide +kernel
theorem dX12_logLine_4 : decode cX12_logLine 4 = .ok (.istore_n 1, 1) := by decide +kernel
theorem dX12_logLine_5 : decode cX12_logLine 5 = .ok (.aload_n 0, 1) := by decide +kernel
theorem dX12_logLine_6 : decode cX12_logLine 6 = .ok (.bipush 19, 2) := by decide +kernel
theorem dX12_logLine_8 : decode cX12_logLine 8 = .ok (.bipush 20, 2) := by decide +kernel
theorem dX12_logLine_10 : decode cX12_logLine 10 = .ok (.invokevirtual 117, 3) := by decide +kernel
theorem dX12_logLine_13 : decode cX12_logLine 13 = .ok (.bipush 19, 2) := by decide +kernel
theorem dX12_logLine_15 : decode cX12_logLine 15 = .ok (.isub, 1) := by decide +kernel
theorem dX12_logLine_16 : decode cX12_logLine 16 = .ok (.istore_n 2, 1) := by decide +kernel
theorem dX12_logLine_17 : decode cX12_logLine 17 = .ok (.aload_n 0, 1) := by decide +kernel
theorem dX12_logLine_18 : decode cX12_logLine 18 = .ok (.getfield 99, 3) := by decide +kernel
theorem dX12_logLine_21 : decode cX12_logLine 21 = .ok (.ifCond .ne 20, 3) := by decide +kernel
theorem dX12_logLine_24 : decode cX12_logLine 24 = .ok (.aload_n 0, 1) := by decide +kernel
theorem dX12_logLine_25 : decode cX12_logLine 25 = .ok (.getfield 17, 3) := by decide +kernel
theorem dX12_logLine_28 : decode cX12_logLine 28 = .ok (.iconst 0, 1) := by decide +kernel
theorem dX12_logLine_29 : decode cX12_logLine 29 = .ok (.iaload, 1) := by decide +kernel
theorem dX12_logLine_30 : decode cX12_logLine 30 = .ok (.bipush 8, 2) := by decide +kernel
theorem dX12_logLine_32 : decode cX12_logLine 32 = .ok (.if_icmp .lt 9, 3) := by decide +kernel
theorem dX12_logLine_35 : decode cX12_logLine 35 = .ok (.aload_n 0, 1) := by decide +kernel
theorem dX12_logLine_36 : decode cX12_logLine 36 = .ok (.iconst 3, 1) := by decide +kernel
theorem dX12_logLine_37 : decode cX12_logLine 37 = .ok (.iload_n 1, 1) := by decide +kernel
theorem dX12_logLine_38 : decode cX12_logLine 38 = .ok (.invokevirtual 110, 3) := by decide +kernel
theorem dX12_logLine_41 : decode cX12_logLine 41 = .ok (.aload_n 0, 1) := by decide +kernel
theorem dX12_logLine_42 : decode cX12_logLine 42 = .ok (.iconst 0, 1) := by decide +kernel
theorem dX12_logLine_43 : decode cX12_logLine 43 = .ok (.bipush 60, 2) := by decide +kernel
theorem dX12_logLine_45 : decode cX12_logLine 45 = .ok (.invokevirtual 121, 3) := by decide +kernel
theorem dX12_logLine_48 : decode cX12_logLine 48 = .ok (.istore_n 3, 1) := by decide +kernel
theorem dX12_logLine_49 : decode cX12_logLine 49 = .ok (.aload_n 0, 1) := by decide +kernel
theorem dX12_logLine_50 : decode cX12_logLine 50 = .ok (.iconst 0, 1) := by decide +kernel
theorem dX12_logLine_51 : decode cX12_logLine 51 = .ok (.bipush 9, 2) := by decide +kernel
theorem dX12_logLine_53 : decode cX12_logLine 53 = .ok (.invokevirtual 121, 3) := by decide +kernel
theorem dX12_logLine_56 : decode cX12_logLine 56 = .ok (.istore 4, 2) := by decide +kernel
theorem dX12_logLine_58 : decode cX12_logLine 58 = .ok (.aload_n 0, 1) := by decide +kernel
theorem dX12_logLine_59 : decode cX12_logLine 59 = .ok (.iconst 0, 1) := by decide +kernel
theorem dX12_logLine_60 : decode cX12_logLine 60 = .ok (.bipush 6, 2) := by decide +kernel
theorem dX12_logLine_62 : decode cX12_logLine 62 = .ok (.invokevirtual 121, 3) := by decide +kernel
theorem dX12_logLine_65 : decode cX12_logLine 65 = .ok (.istore 5, 2) := by decide +kernel
theorem dX12_logLine_67 : decode cX12_logLine 67 = .ok (.aload_n 0, 1) := by decide +kernel
theorem dX12_logLine_68 : decode cX12_logLine 68 = .ok (.getfield 17, 3) := by decide +kernel
theorem dX12_logLine_71 : decode cX12_logLine 71 = .ok (.iconst 0, 1) := by decide +kernel
theorem dX12_logLine_72 : decode cX12_logLine 72 = .ok (.iaload, 1) := by decide +kernel
theorem dX12_logLine_73 : decode cX12_logLine 73 = .ok (.bipush 8, 2) := by decide +kernel
theorem dX12_logLine_75 : decode cX12_logLine 75 = .ok (.if_icmp .ge 65, 3) := by decide +kernel
theorem dX12_logLine_78 : decode cX12_logLine 78 = .ok (.iconst 1, 1) := by decide +kernel
theorem dX12_logLine_79 : decode cX12_logLine 79 = .ok (.iconst 4, 1) := by decide +kernel
theorem dX12_logLine_80 : decode cX12_logLine 80 = .ok (.aload_n 0, 1) := by decide +kernel
theorem dX12_logLine_81 : decode cX12_logLine 81 = .ok (.getfield 17, 3) := by decide +kernel
theorem dX12_logLine_84 : decode cX12_logLine 84 = .ok (.iconst 0, 1) := by decide +kernel
theorem dX12_logLine_85 : decode cX12_logLine 85 = .ok (.iaload, 1) := by decide +kernel
theorem dX12_logLine_86 : decode cX12_logLine 86 = .ok (.imul, 1) := by decide +kernel
theorem dX12_logLine_87 : decode cX12_logLine 87 = .ok (.iadd, 1) := by decide +kernel
theorem dX12_logLine_88 : decode cX12_logLine 88 = .ok (.istore 6, 2) := by decide +kernel
theorem dX12_logLine_90 : decode cX12_logLine 90 = .ok (.aload_n 0, 1) := by decide +kernel
theorem dX12_logLine_91 : decode cX12_logLine 91 = .ok (.getfield 17, 3) := by decide +kernel
theorem dX12_logLine_94 : decode cX12_logLine 94 = .ok (.iload 6, 2) := by decide +kernel
theorem dX12_logLine_96 : decode cX12_logLine 96 = .ok (.iload_n 2, 1) := by decide +kernel
theorem dX12_logLine_97 : decode cX12_logLine 97 = .ok (.iastore, 1) := by decide +kernel
theorem dX12_logLine_98 : decode cX12_logLine 98 = .ok (.aload_n 0, 1) := by decide +kernel
theorem dX12_logLine_99 : decode cX12_logLine 99 = .ok (.getfield 17, 3) := by decide +kernel
theorem dX12_logLine_102 : decode cX12_logLine 102 = .ok (.iload 6, 2) := by decide +kernel
theorem dX12_logLine_104 : decode cX12_logLine 104 = .ok (.iconst 1, 1) := by decide +kernel
theorem dX12_logLine_105 : decode cX12_logLine 105 = .ok (.iadd, 1) := by decide +kernel
theorem dX12_logLine_106 : decode cX12_logLine 106 = .ok (.iload_n 3, 1) := by decide +kernel
theorem dX12_logLine_107 : decode cX12_logLine 107 = .ok (.iastore, 1) := by decide +kernel
theorem dX12_logLine_108 : decode cX12_logLine 108 = .ok (.aload_n 0, 1) := by decide +kernel
theorem dX12_logLine_109 : decode cX12_logLine 109 = .ok (.getfield 17, 3) := by decide +kernel
theorem dX12_logLine_112 : decode cX12_logLine 112 = .ok (.iload 6, 2) := by decide +kernel
theorem dX12_logLine_114 : decode cX12_logLine 114 = .ok (.iconst 2, 1) := by decide +kernel
theorem dX12_logLine_115 : decode cX12_logLine 115 = .ok (.iadd, 1) := by decide +kernel
theorem dX12_logLine_116 : decode cX12_logLine 116 = .ok (.iload 4, 2) := by decide +kernel
theorem dX12_logLine_118 : decode cX12_logLine 118 = .ok (.iastore, 1) := by decide +kernel
theorem dX12_logLine_119 : decode cX12_logLine 119 = .ok (.aload_n 0, 1) := by decide +kernel
theorem dX12_logLine_120 : decode cX12_logLine 120 = .ok (.getfield 17, 3) := by decide +kernel
theorem dX12_logLine_123 : decode cX12_logLine 123 = .ok (.iload 6, 2) := by decide +kernel
theorem dX12_logLine_125 : decode cX12_logLine 125 = .ok (.iconst 3, 1) := by decide +kernel
theorem dX12_logLine_126 : decode cX12_logLine 126 = .ok (.iadd, 1) := by decide +kernel
theorem dX12_logLine_127 : decode cX12_logLine 127 = .ok (.iload 5, 2) := by decide +kernel
theorem dX12_logLine_129 : decode cX12_logLine 129 = .ok (.iastore, 1) := by decide +kernel
theorem dX12_logLine_130 : decode cX12_logLine 130 = .ok (.aload_n 0, 1) := by decide +kernel
theorem dX12_logLine_131 : decode cX12_logLine 131 = .ok (.getfield 17, 3) := by decide +kernel
theorem dX12_logLine_134 : decode cX12_logLine 134 = .ok (.iconst 0, 1) := by decide +kernel
theorem dX12_logLine_135 : decode cX12_logLine 135 = .ok (.dup2, 1) := by decide +kernel
theorem dX12_logLine_136 : decode cX12_logLine 136 = .ok (.iaload, 1) := by decide +kernel
theorem dX12_logLine_137 : decode cX12_logLine 137 = .ok (.iconst 1, 1) := by decide +kernel
theorem dX12_logLine_138 : decode cX12_logLine 138 = .ok (.iadd, 1) := by decide +kernel
theorem dX12_logLine_139 : decode cX12_logLine 139 = .ok (.iastore, 1) := by decide +kernel
theorem dX12_logLine_140 : decode cX12_logLine 140 = .ok (.aload_n 0, 1) := by decide +kernel
theorem dX12_logLine_141 : decode cX12_logLine 141 = .ok (.invokevirtual 134, 3) := by decide +kernel
theorem dX12_logLine_144 : decode cX12_logLine 144 = .ok (.return_, 1) := by decide +kernel
theorem dX12_sizeOf_0 : decode cX12_sizeOf 0 = .ok (.iload_n 0, 1) := by decide +kernel
theorem dX12_sizeOf_1 : decode cX12_sizeOf 1 = .ok (.ifCond .ne 8, 3) := by decide +kernel
theorem dX12_sizeOf_4 : decode cX12_sizeOf 4 = .ok (.bipush 63, 2) := by decide +kernel
theorem dX12_sizeOf_6 : decode cX12_sizeOf 6 = .ok (.goto 15, 3) := by decide +kernel
theorem dX12_sizeOf_9 : decode cX12_sizeOf 9 = .ok (.iload_n 0, 1) := by decide +kernel
theorem dX12_sizeOf_10 : decode cX12_sizeOf 10 = .ok (.iconst 1, 1) := by decide +kernel
theorem dX12_sizeOf_11 : decode cX12_sizeOf 11 = .ok (.if_icmp .ne 8, 3) := by decide +kernel
theorem dX12_sizeOf_14 : decode cX12_sizeOf 14 = .ok (.bipush 121, 2) := by decide +kernel
theorem dX12_sizeOf_16 : decode cX12_sizeOf 16 = .ok (.goto 5, 3) := by decide +kernel
theorem dX12_sizeOf_19 : decode cX12_sizeOf 19 = .ok (.bipush 33, 2) := by decide +kernel
theorem dX12_sizeOf_21 : decode cX12_sizeOf 21 = .ok (.ireturn, 1) := by decide +kernel
theorem dX12_placeOf_0 : decode cX12_placeOf 0 = .ok (.iload_n 0, 1) := by decide +kernel
theorem dX12_placeOf_1 : decode cX12_placeOf 1 = .ok (.ifCond .ne 14, 3) := by decide +kernel
theorem dX12_placeOf_4 : decode cX12_placeOf 4 = .ok (.sipush 610, 3) := by decide +kernel
theorem dX12_placeOf_7 : decode cX12_placeOf 7 = .ok (.bipush 63, 2) := by decide +kernel
theorem dX12_placeOf_9 : decode cX12_placeOf 9 = .ok (.iload_n 1, 1) := by decide +kernel
theorem dX12_placeOf_10 : decode cX12_placeOf 10 = .ok (.imul, 1) := by decide +kernel
theorem dX12_placeOf_11 : decode cX12_placeOf 11 = .ok (.iadd, 1) := by decide +kernel
theorem dX12_placeOf_12 : decode cX12_placeOf 12 = .ok (.goto 27, 3) := by decide +kernel
theorem dX12_placeOf_15 : decode cX12_placeOf 15 = .ok (.iload_n 0, 1) := by decide +kernel
theorem dX12_placeOf_16 : decode cX12_placeOf 16 = .ok (.iconst 1, 1) := by decide +kernel
theorem dX12_placeOf_17 : decode cX12_placeOf 17 = .ok (.if_icmp .ne 14, 3) := by decide +kernel
theorem dX12_placeOf_20 : decode cX12_placeOf 20 = .ok (.sipush 736, 3) := by decide +kernel
theorem dX12_placeOf_23 : decode cX12_placeOf 23 = .ok (.bipush 121, 2) := by decide +kernel
theorem dX12_placeOf_25 : decode cX12_placeOf 25 = .ok (.iload_n 1, 1) := by decide +kernel
theorem dX12_placeOf_26 : decode cX12_placeOf 26 = .ok (.imul, 1) := by decide +kernel
theorem dX12_placeOf_27 : decode cX12_placeOf 27 = .ok (.iadd, 1) := by decide +kernel
theorem dX12_placeOf_28 : decode cX12_placeOf 28 = .ok (.goto 11, 3) := by decide +kernel
theorem dX12_placeOf_31 : decode cX12_placeOf 31 = .ok (.sipush 978, 3) := by decide +kernel
theorem dX12_placeOf_34 : decode cX12_placeOf 34 = .ok (.bipush 33, 2) := by decide +kernel
theorem dX12_placeOf_36 : decode cX12_placeOf 36 = .ok (.iload_n 1, 1) := by decide +kernel
theorem dX12_placeOf_37 : decode cX12_placeOf 37 = .ok (.imul, 1) := by decide +kernel
theorem dX12_placeOf_38 : decode cX12_placeOf 38 = .ok (.iadd, 1) := by decide +kernel
theorem dX12_placeOf_39 : decode cX12_placeOf 39 = .ok (.ireturn, 1) := by decide +kernel
theorem dX12_text_0 : decode cX12_text 0 = .ok (.aload_n 0, 1) := by decide +kernel
theorem dX12_text_1 : decode cX12_text 1 = .ok (.aload_n 0, 1) := by decide +kernel
theorem dX12_text_2 : decode cX12_text 2 = .ok (.getfield 7, 3) := by decide +kernel
theorem dX12_text_5 : decode cX12_text 5 = .ok (.iconst 4, 1) := by decide +kernel
theorem dX12_text_6 : decode cX12_text 6 = .ok (.iaload, 1) := by decide +kernel
theorem dX12_text_7 : decode cX12_text 7 = .ok (.putfield 51, 3) := by decide +kernel
theorem dX12_text_10 : decode cX12_text 10 = .ok (.aload_n 0, 1) := by decide +kernel
theorem dX12_text_11 : decode cX12_text 11 = .ok (.getfield 7, 3) := by decide +kernel
theorem dX12_text_14 : decode cX12_text 14 = .ok (.iconst 4, 1) := by decide +kernel
theorem dX12_text_15 : decode cX12_text 15 = .ok (.iconst 0, 1) := by decide +kernel
theorem dX12_text_16 : decode cX12_text 16 = .ok (.iastore, 1) := by decide +kernel
theorem dX12_text_17 : decode cX12_text 17 = .ok (.aload_n 0, 1) := by decide +kernel
theorem dX12_text_18 : decode cX12_text 18 = .ok (.getfield 7, 3) := by decide +kernel
theorem dX12_text_21 : decode cX12_text 21 = .ok (.iconst 5, 1) := by decide +kernel
theorem dX12_text_22 : decode cX12_text 22 = .ok (.iconst 0, 1) := by decide +kernel
theorem dX12_text_23 : decode cX12_text 23 = .ok (.iastore, 1) := by decide +kernel
theorem dX12_text_24 : decode cX12_text 24 = .ok (.aload_n 0, 1) := by decide +kernel
theorem dX12_text_25 : decode cX12_text 25 = .ok (.getfield 7, 3) := by decide +kernel
theorem dX12_text_28 : decode cX12_text 28 = .ok (.bipush 6, 2) := by decide +kernel
theorem dX12_text_30 : decode cX12_text 30 = .ok (.iconst (-1), 1) := by decide +kernel
theorem dX12_text_31 : decode cX12_text 31 = .ok (.iastore, 1) := by decide +kernel
theorem dX12_text_32 : decode cX12_text 32 = .ok (.iload_n 1, 1) := by decide +kernel
theorem dX12_text_33 : decode cX12_text 33 = .ok (.iconst 0, 1) := by decide +kernel
theorem dX12_text_34 : decode cX12_text 34 = .ok (.iconst 2, 1) := by decide +kernel
theorem dX12_text_35 : decode cX12_text 35 = .ok (.invokestatic 106, 3) := by decide +kernel
theorem dX12_text_38 : decode cX12_text 38 = .ok (.ifCond .eq 30, 3) := by decide +kernel
theorem dX12_text_41 : decode cX12_text 41 = .ok (.iload_n 2, 1) := by decide +kernel
theorem dX12_text_42 : decode cX12_text 42 = .ok (.iconst (-1), 1) := by decide +kernel
theorem dX12_text_43 : decode cX12_text 43 = .ok (.if_icmp .ne 16, 3) := by decide +kernel
theorem dX12_text_46 : decode cX12_text 46 = .ok (.aload_n 0, 1) := by decide +kernel
theorem dX12_text_47 : decode cX12_text 47 = .ok (.getfield 7, 3) := by decide +kernel
theorem dX12_text_50 : decode cX12_text 50 = .ok (.iload_n 1, 1) := by decide +kernel
theorem dX12_text_51 : decode cX12_text 51 = .ok (.iaload, 1) := by decide +kernel
theorem dX12_text_52 : decode cX12_text 52 = .ok (.iconst 2, 1) := by decide +kernel
theorem dX12_text_53 : decode cX12_text 53 = .ok (.if_icmp .lt 18, 3) := by decide +kernel
theorem dX12_text_56 : decode cX12_text 56 = .ok (.goto 12, 3) := by decide +kernel
theorem dX12_text_59 : decode cX12_text 59 = .ok (.aload_n 0, 1) := by decide +kernel
theorem dX12_text_60 : decode cX12_text 60 = .ok (.iload_n 1, 1) := by decide +kernel
theorem dX12_text_61 : decode cX12_text 61 = .ok (.iload_n 2, 1) := by decide +kernel
theorem dX12_text_62 : decode cX12_text 62 = .ok (.invokevirtual 137, 3) := by decide +kernel
theorem dX12_text_65 : decode cX12_text 65 = .ok (.ifCond .ne 6, 3) := by decide +kernel
theorem dX12_text_68 : decode cX12_text 68 = .ok (.bipush (-2), 2) := by decide +kernel
theorem dX12_text_70 : decode cX12_text 70 = .ok (.ireturn, 1) := by decide +kernel
theorem dX12_text_71 : decode cX12_text 71 = .ok (.aload_n 0, 1) := by decide +kernel
theorem dX12_text_72 : decode cX12_text 72 = .ok (.iconst 0, 1) := by decide +kernel
theorem dX12_text_73 : decode cX12_text 73 = .ok (.putfield 65, 3) := by decide +kernel
theorem dX12_text_76 : decode cX12_text 76 = .ok (.aload_n 0, 1) := by decide +kernel
theorem dX12_text_77 : decode cX12_text 77 = .ok (.iconst 0, 1) := by decide +kernel
theorem dX12_text_78 : decode cX12_text 78 = .ok (.putfield 99, 3) := by decide +kernel
theorem dX12_text_81 : decode cX12_text 81 = .ok (.aload_n 0, 1) := by decide +kernel
theorem dX12_text_82 : decode cX12_text 82 = .ok (.iconst (-1), 1) := by decide +kernel
theorem dX12_text_83 : decode cX12_text 83 = .ok (.putfield 124, 3) := by decide +kernel
theorem dX12_text_86 : decode cX12_text 86 = .ok (.iconst 0, 1) := by decide +kernel
theorem dX12_text_87 : decode cX12_text 87 = .ok (.istore_n 3, 1) := by decide +kernel
theorem dX12_text_88 : decode cX12_text 88 = .ok (.iload_n 3, 1) := by decide +kernel
theorem dX12_text_89 : decode cX12_text 89 = .ok (.bipush 121, 2) := by decide +kernel
theorem dX12_text_91 : decode cX12_text 91 = .ok (.if_icmp .ge 16, 3) := by decide +kernel
theorem dX12_text_94 : decode cX12_text 94 = .ok (.aload_n 0, 1) := by decide +kernel
theorem dX12_text_95 : decode cX12_text 95 = .ok (.getfield 17, 3) := by decide +kernel
theorem dX12_text_98 : decode cX12_text 98 = .ok (.iload_n 3, 1) := by decide +kernel
theorem dX12_text_99 : decode cX12_text 99 = .ok (.iconst 0, 1) := by decide +kernel
theorem dX12_text_100 : decode cX12_text 100 = .ok (.iastore, 1) := by decide +kernel
theorem dX12_text_101 : decode cX12_text 101 = .ok (.iinc 3 1, 3) := by decide +kernel
theorem dX12_text_104 : decode cX12_text 104 = .ok (.goto (-16), 3) := by decide +kernel
theorem dX12_text_107 : decode cX12_text 107 = .ok (.iload_n 1, 1) := by decide +kernel
theorem dX12_text_108 : decode cX12_text 108 = .ok (.ifCond .ne 10, 3) := by decide +kernel
theorem dX12_text_111 : decode cX12_text 111 = .ok (.aload_n 0, 1) := by decide +kernel
theorem dX12_text_112 : decode cX12_text 112 = .ok (.getfield 17, 3) := by decide +kernel
theorem dX12_text_115 : decode cX12_text 115 = .ok (.iconst 2, 1) := by decide +kernel
theorem dX12_text_116 : decode cX12_text 116 = .ok (.iconst 3, 1) := by decide +kernel
theorem dX12_text_117 : decode cX12_text 117 = .ok (.iastore, 1) := by decide +kernel
theorem dX12_text_118 : decode cX12_text 118 = .ok (.aload_n 0, 1) := by decide +kernel
theorem dX12_text_119 : decode cX12_text 119 = .ok (.invokevirtual 114, 3) := by decide +kernel
theorem dX12_text_122 : decode cX12_text 122 = .ok (.aload_n 0, 1) := by decide +kernel
theorem dX12_text_123 : decode cX12_text 123 = .ok (.getfield 99, 3) := by decide +kernel
theorem dX12_text_126 : decode cX12_text 126 = .ok (.ifCond .ne 59, 3) := by decide +kernel
theorem dX12_text_129 : decode cX12_text 129 = .ok (.aload_n 0, 1) := by decide +kernel
theorem dX12_text_130 : decode cX12_text 130 = .ok (.getfield 75, 3) := by decide +kernel
theorem dX12_text_133 : decode cX12_text 133 = .ok (.ifCond .eq 52, 3) := by decide +kernel
theorem dX12_text_136 : decode cX12_text 136 = .ok (.iload_n 1, 1) := by decide +kernel
theorem dX12_text_137 : decode cX12_text 137 = .ok (.lookupswitch 41 #[(0, 27), (1, 34)], 27) := by decide +kernel
theorem dX12_text_164 : decode cX12_text 164 = .ok (.aload_n 0, 1) := by decide +kernel
theorem dX12_text_165 : decode cX12_text 165 = .ok (.invokevirtual 141, 3) := by decide +kernel
theorem dX12_text_168 : decode cX12_text 168 = .ok (.goto (-46), 3) := by decide +kernel
theorem dX12_text_171 : decode cX12_text 171 = .ok (.aload_n 0, 1) := by decide +kernel
theorem dX12_text_172 : decode cX12_text 172 = .ok (.invokevirtual 144, 3) := by decide +kernel
theorem dX12_text_175 : decode cX12_text 175 = .ok (.goto (-53), 3) := by decide +kernel
theorem dX12_text_178 : decode cX12_text 178 = .ok (.aload_n 0, 1) := by decide +kernel
theorem dX12_text_179 : decode cX12_text 179 = .ok (.invokevirtual 147, 3) := by decide +kernel
theorem dX12_text_182 : decode cX12_text 182 = .ok (.goto (-60), 3) := by decide +kernel
theorem dX12_text_185 : decode cX12_text 185 = .ok (.aload_n 0, 1) := by decide +kernel
theorem dX12_text_186 : decode cX12_text 186 = .ok (.getfield 7, 3) := by decide +kernel
theorem dX12_text_189 : decode cX12_text 189 = .ok (.iconst 5, 1) := by decide +kernel
theorem dX12_text_190 : decode cX12_text 190 = .ok (.iaload, 1) := by decide +kernel
theorem dX12_text_191 : decode cX12_text 191 = .ok (.ifCond .ne 29, 3) := by decide +kernel
theorem dX12_text_194 : decode cX12_text 194 = .ok (.iload_n 1, 1) := by decide +kernel
theorem dX12_text_195 : decode cX12_text 195 = .ok (.ifCond .ne 25, 3) := by decide +kernel
theorem dX12_text_198 : decode cX12_text 198 = .ok (.aload_n 0, 1) := by decide +kernel
theorem dX12_text_199 : decode cX12_text 199 = .ok (.getfield 124, 3) := by decide +kernel
theorem dX12_text_202 : decode cX12_text 202 = .ok (.aload_n 0, 1) := by decide +kernel
theorem dX12_text_203 : decode cX12_text 203 = .ok (.getfield 17, 3) := by decide +kernel
theorem dX12_text_206 : decode cX12_text 206 = .ok (.iconst 0, 1) := by decide +kernel
theorem dX12_text_207 : decode cX12_text 207 = .ok (.iaload, 1) := by decide +kernel
theorem dX12_text_208 : decode cX12_text 208 = .ok (.if_icmp .lt 12, 3) := by decide +kernel
theorem dX12_text_211 : decode cX12_text 211 = .ok (.aload_n 0, 1) := by decide +kernel
theorem dX12_text_212 : decode cX12_text 212 = .ok (.iconst 4, 1) := by decide +kernel
theorem dX12_text_213 : decode cX12_text 213 = .ok (.aload_n 0, 1) := by decide +kernel
theorem dX12_text_214 : decode cX12_text 214 = .ok (.getfield 72, 3) := by decide +kernel
theorem dX12_text_217 : decode cX12_text 217 = .ok (.invokevirtual 110, 3) := by decide +kernel
theorem dX12_text_220 : decode cX12_text 220 = .ok (.aload_n 0, 1) := by decide +kernel
theorem dX12_text_221 : decode cX12_text 221 = .ok (.getfield 7, 3) := by decide +kernel
theorem dX12_text_224 : decode cX12_text 224 = .ok (.iconst 5, 1) := by decide +kernel
theorem dX12_text_225 : decode cX12_text 225 = .ok (.iaload, 1) := by decide +kernel
theorem dX12_text_226 : decode cX12_text 226 = .ok (.ifCond .eq 5, 3) := by decide +kernel
theorem dX12_text_229 : decode cX12_text 229 = .ok (.iconst (-1), 1) := by decide +kernel
theorem dX12_text_230 : decode cX12_text 230 = .ok (.ireturn, 1) := by decide +kernel
theorem dX12_text_231 : decode cX12_text 231 = .ok (.iload_n 2, 1) := by decide +kernel
theorem dX12_text_232 : decode cX12_text 232 = .ok (.iconst (-1), 1) := by decide +kernel
theorem dX12_text_233 : decode cX12_text 233 = .ok (.if_icmp .ne 12, 3) := by decide +kernel
theorem dX12_text_236 : decode cX12_text 236 = .ok (.aload_n 0, 1) := by decide +kernel
theorem dX12_text_237 : decode cX12_text 237 = .ok (.getfield 7, 3) := by decide +kernel
theorem dX12_text_240 : decode cX12_text 240 = .ok (.iload_n 1, 1) := by decide +kernel
theorem dX12_text_241 : decode cX12_text 241 = .ok (.iaload, 1) := by decide +kernel
theorem dX12_text_242 : decode cX12_text 242 = .ok (.goto 4, 3) := by decide +kernel
theorem dX12_text_245 : decode cX12_text 245 = .ok (.iload_n 2, 1) := by decide +kernel
theorem dX12_text_246 : decode cX12_text 246 = .ok (.istore_n 3, 1) := by decide +kernel
theorem dX12_text_247 : decode cX12_text 247 = .ok (.iload_n 2, 1) := by decide +kernel
theorem dX12_text_248 : decode cX12_text 248 = .ok (.iconst (-1), 1) := by decide +kernel
theorem dX12_text_249 : decode cX12_text 249 = .ok (.if_icmp .ne 13, 3) := by decide +kernel
theorem dX12_text_252 : decode cX12_text 252 = .ok (.aload_n 0, 1) := by decide +kernel
theorem dX12_text_253 : decode cX12_text 253 = .ok (.getfield 7, 3) := by decide +kernel
theorem dX12_text_256 : decode cX12_text 256 = .ok (.iload_n 1, 1) := by decide +kernel
theorem dX12_text_257 : decode cX12_text 257 = .ok (.dup2, 1) := by decide +kernel
theorem dX12_text_258 : decode cX12_text 258 = .ok (.iaload, 1) := by decide +kernel
theorem dX12_text_259 : decode cX12_text 259 = .ok (.iconst 1, 1) := by decide +kernel
theorem dX12_text_260 : decode cX12_text 260 = .ok (.iadd, 1) := by decide +kernel
theorem dX12_text_261 : decode cX12_text 261 = .ok (.iastore, 1) := by decide +kernel
theorem dX12_text_262 : decode cX12_text 262 = .ok (.iconst 0, 1) := by decide +kernel
theorem dX12_text_263 : decode cX12_text 263 = .ok (.istore 4, 2) := by decide +kernel
theorem dX12_text_265 : decode cX12_text 265 = .ok (.iload 4, 2) := by decide +kernel
theorem dX12_text_267 : decode cX12_text 267 = .ok (.iload_n 1, 1) := by decide +kernel
theorem dX12_text_268 : decode cX12_text 268 = .ok (.invokestatic 150, 3) := by decide +kernel
theorem dX12_text_271 : decode cX12_text 271 = .ok (.if_icmp .ge 29, 3) := by decide +kernel
theorem dX12_text_274 : decode cX12_text 274 = .ok (.aload_n 0, 1) := by decide +kernel
theorem dX12_text_275 : decode cX12_text 275 = .ok (.getfield 7, 3) := by decide +kernel
theorem dX12_text_278 : decode cX12_text 278 = .ok (.iload_n 1, 1) := by decide +kernel
theorem dX12_text_279 : decode cX12_text 279 = .ok (.iload_n 3, 1) := by decide +kernel
theorem dX12_text_280 : decode cX12_text 280 = .ok (.invokestatic 153, 3) := by decide +kernel
theorem dX12_text_283 : decode cX12_text 283 = .ok (.iload 4, 2) := by decide +kernel
theorem dX12_text_285 : decode cX12_text 285 = .ok (.iadd, 1) := by decide +kernel
theorem dX12_text_286 : decode cX12_text 286 = .ok (.aload_n 0, 1) := by decide +kernel
theorem dX12_text_287 : decode cX12_text 287 = .ok (.getfield 17, 3) := by decide +kernel
theorem dX12_text_290 : decode cX12_text 290 = .ok (.iload 4, 2) := by decide +kernel
theorem dX12_text_292 : decode cX12_text 292 = .ok (.iaload, 1) := by decide +kernel
theorem dX12_text_293 : decode cX12_text 293 = .ok (.iastore, 1) := by decide +kernel
theorem dX12_text_294 : decode cX12_text 294 = .ok (.iinc 4 1, 3) := by decide +kernel
theorem dX12_text_297 : decode cX12_text 297 = .ok (.goto (-32), 3) := by decide +kernel
theorem dX12_text_300 : decode cX12_text 300 = .ok (.iload_n 3, 1) := by decide +kernel
theorem dX12_text_301 : decode cX12_text 301 = .ok (.ireturn, 1) := by decide +kernel
theorem dX12_fault_0 : decode cX12_fault 0 = .ok (.iload_n 1, 1) := by decide +kernel
theorem dX12_fault_1 : decode cX12_fault 1 = .ok (.ifCond .ne 12, 3) := by decide +kernel
theorem dX12_fault_4 : decode cX12_fault 4 = .ok (.aload_n 0, 1) := by decide +kernel
theorem dX12_fault_5 : decode cX12_fault 5 = .ok (.getfield 7, 3) := by decide +kernel
theorem dX12_fault_8 : decode cX12_fault 8 = .ok (.iconst 5, 1) := by decide +kernel
theorem dX12_fault_9 : decode cX12_fault 9 = .ok (.iaload, 1) := by decide +kernel
theorem dX12_fault_10 : decode cX12_fault 10 = .ok (.goto 19, 3) := by decide +kernel
theorem dX12_fault_13 : decode cX12_fault 13 = .ok (.iload_n 1, 1) := by decide +kernel
theorem dX12_fault_14 : decode cX12_fault 14 = .ok (.iconst 1, 1) := by decide +kernel
theorem dX12_fault_15 : decode cX12_fault 15 = .ok (.if_icmp .ne 13, 3) := by decide +kernel
theorem dX12_fault_18 : decode cX12_fault 18 = .ok (.aload_n 0, 1) := by decide +kernel
theorem dX12_fault_19 : decode cX12_fault 19 = .ok (.getfield 7, 3) := by decide +kernel
theorem dX12_fault_22 : decode cX12_fault 22 = .ok (.bipush 6, 2) := by decide +kernel
theorem dX12_fault_24 : decode cX12_fault 24 = .ok (.iaload, 1) := by decide +kernel
theorem dX12_fault_25 : decode cX12_fault 25 = .ok (.goto 4, 3) := by decide +kernel
theorem dX12_fault_28 : decode cX12_fault 28 = .ok (.iconst (-1), 1) := by decide +kernel
theorem dX12_fault_29 : decode cX12_fault 29 = .ok (.ireturn, 1) := by decide +kernel
theorem dX12_isChamber_0 : decode cX12_isChamber 0 = .ok (.aload_n 0, 1) := by decide +kernel
theorem dX12_isChamber_1 : decode cX12_isChamber 1 = .ok (.iconst 0, 1) := by decide +kernel
theorem dX12_isChamber_2 : decode cX12_isChamber 2 = .ok (.iload_n 1, 1) := by decide +kernel
theorem dX12_isChamber_3 : decode cX12_isChamber 3 = .ok (.invokevirtual 137, 3) := by decide +kernel
theorem dX12_isChamber_6 : decode cX12_isChamber 6 = .ok (.ifCond .ne 5, 3) := by decide +kernel
theorem dX12_isChamber_9 : decode cX12_isChamber 9 = .ok (.iconst 0, 1) := by decide +kernel
theorem dX12_isChamber_10 : decode cX12_isChamber 10 = .ok (.ireturn, 1) := by decide +kernel
theorem dX12_isChamber_11 : decode cX12_isChamber 11 = .ok (.aload_n 0, 1) := by decide +kernel
theorem dX12_isChamber_12 : decode cX12_isChamber 12 = .ok (.iconst 0, 1) := by decide +kernel
theorem dX12_isChamber_13 : decode cX12_isChamber 13 = .ok (.iload_n 1, 1) := by decide +kernel
theorem dX12_isChamber_14 : decode cX12_isChamber 14 = .ok (.invokestatic 153, 3) := by decide +kernel
theorem dX12_isChamber_17 : decode cX12_isChamber 17 = .ok (.putfield 156, 3) := by decide +kernel
theorem dX12_isChamber_20 : decode cX12_isChamber 20 = .ok (.aload_n 0, 1) := by decide +kernel
theorem dX12_isChamber_21 : decode cX12_isChamber 21 = .ok (.aload_n 0, 1) := by decide +kernel
theorem dX12_isChamber_22 : decode cX12_isChamber 22 = .ok (.getfield 7, 3) := by decide +kernel
theorem dX12_isChamber_25 : decode cX12_isChamber 25 = .ok (.aload_n 0, 1) := by decide +kernel
theorem dX12_isChamber_26 : decode cX12_isChamber 26 = .ok (.getfield 156, 3) := by decide +kernel
theorem dX12_isChamber_29 : decode cX12_isChamber 29 = .ok (.iaload, 1) := by decide +kernel
theorem dX12_isChamber_30 : decode cX12_isChamber 30 = .ok (.putfield 159, 3) := by decide +kernel
theorem dX12_isChamber_33 : decode cX12_isChamber 33 = .ok (.aload_n 0, 1) := by decide +kernel
theorem dX12_isChamber_34 : decode cX12_isChamber 34 = .ok (.aload_n 0, 1) := by decide +kernel
theorem dX12_isChamber_35 : decode cX12_isChamber 35 = .ok (.getfield 7, 3) := by decide +kernel
theorem dX12_isChamber_38 : decode cX12_isChamber 38 = .ok (.aload_n 0, 1) := by decide +kernel
theorem dX12_isChamber_39 : decode cX12_isChamber 39 = .ok (.getfield 156, 3) := by decide +kernel
theorem dX12_isChamber_42 : decode cX12_isChamber 42 = .ok (.iconst 1, 1) := by decide +kernel
theorem dX12_isChamber_43 : decode cX12_isChamber 43 = .ok (.iadd, 1) := by decide +kernel
theorem dX12_isChamber_44 : decode cX12_isChamber 44 = .ok (.iaload, 1) := by decide +kernel
theorem dX12_isChamber_45 : decode cX12_isChamber 45 = .ok (.putfield 162, 3) := by decide +kernel
theorem dX12_isChamber_48 : decode cX12_isChamber 48 = .ok (.iconst 1, 1) := by decide +kernel
theorem dX12_isChamber_49 : decode cX12_isChamber 49 = .ok (.ireturn, 1) := by decide +kernel
theorem dX12_isPiece_0 : decode cX12_isPiece 0 = .ok (.iload_n 1, 1) := by decide +kernel
theorem dX12_isPiece_1 : decode cX12_isPiece 1 = .ok (.iconst 0, 1) := by decide +kernel
theorem dX12_isPiece_2 : decode cX12_isPiece 2 = .ok (.aload_n 0, 1) := by decide +kernel
theorem dX12_isPiece_3 : decode cX12_isPiece 3 = .ok (.getfield 159, 3) := by decide +kernel
theorem dX12_isPiece_6 : decode cX12_isPiece 6 = .ok (.iconst 1, 1) := by decide +kernel
theorem dX12_isPiece_7 : decode cX12_isPiece 7 = .ok (.isub, 1) := by decide +kernel
theorem dX12_isPiece_8 : decode cX12_isPiece 8 = .ok (.invokestatic 106, 3) := by decide +kernel
theorem dX12_isPiece_11 : decode cX12_isPiece 11 = .ok (.ireturn, 1) := by decide +kernel
theorem dX12_of_0 : decode cX12_of 0 = .ok (.aload_n 0, 1) := by decide +kernel
theorem dX12_of_1 : decode cX12_of 1 = .ok (.getfield 7, 3) := by decide +kernel
theorem dX12_of_4 : decode cX12_of 4 = .ok (.aload_n 0, 1) := by decide +kernel
theorem dX12_of_5 : decode cX12_of 5 = .ok (.getfield 156, 3) := by decide +kernel
theorem dX12_of_8 : decode cX12_of 8 = .ok (.iconst 3, 1) := by decide +kernel
theorem dX12_of_9 : decode cX12_of 9 = .ok (.iadd, 1) := by decide +kernel
theorem dX12_of_10 : decode cX12_of 10 = .ok (.bipush 6, 2) := by decide +kernel
theorem dX12_of_12 : decode cX12_of 12 = .ok (.iload_n 1, 1) := by decide +kernel
theorem dX12_of_13 : decode cX12_of 13 = .ok (.imul, 1) := by decide +kernel
theorem dX12_of_14 : decode cX12_of 14 = .ok (.iadd, 1) := by decide +kernel
theorem dX12_of_15 : decode cX12_of 15 = .ok (.iload_n 2, 1) := by decide +kernel
theorem dX12_of_16 : decode cX12_of 16 = .ok (.iadd, 1) := by decide +kernel
theorem dX12_of_17 : decode cX12_of 17 = .ok (.iaload, 1) := by decide +kernel
theorem dX12_of_18 : decode cX12_of 18 = .ok (.ireturn, 1) := by decide +kernel
theorem dX12_isPerson_0 : decode cX12_isPerson 0 = .ok (.iload_n 1, 1) := by decide +kernel
theorem dX12_isPerson_1 : decode cX12_isPerson 1 = .ok (.iconst 0, 1) := by decide +kernel
theorem dX12_isPerson_2 : decode cX12_isPerson 2 = .ok (.aload_n 0, 1) := by decide +kernel
theorem dX12_isPerson_3 : decode cX12_isPerson 3 = .ok (.getfield 162, 3) := by decide +kernel
theorem dX12_isPerson_6 : decode cX12_isPerson 6 = .ok (.iconst 1, 1) := by decide +kernel
theorem dX12_isPerson_7 : decode cX12_isPerson 7 = .ok (.isub, 1) := by decide +kernel
theorem dX12_isPerson_8 : decode cX12_isPerson 8 = .ok (.invokestatic 106, 3) := by decide +kernel
theorem dX12_isPerson_11 : decode cX12_isPerson 11 = .ok (.ireturn, 1) := by decide +kernel
