theorem dX12_agenda_0 : decode cX12_agenda 0 = .ok (.aload_n 0, 1) := by decide +kernel
theorem dX12_agenda_1 : decode cX12_agenda 1 = .ok (.iload_n 1, 1) := by decide +kernel
theorem dX12_agenda_2 : decode cX12_agenda 2 = .ok (.invokevirtual 165, 3) := by decide +kernel
theorem dX12_agenda_5 : decode cX12_agenda 5 = .ok (.ifCond .eq 25, 3) := by decide +kernel
theorem dX12_agenda_8 : decode cX12_agenda 8 = .ok (.iload_n 2, 1) := by decide +kernel
theorem dX12_agenda_9 : decode cX12_agenda 9 = .ok (.invokestatic 210, 3) := by decide +kernel
theorem dX12_agenda_12 : decode cX12_agenda 12 = .ok (.ifCond .eq 18, 3) := by decide +kernel
theorem dX12_agenda_15 : decode cX12_agenda 15 = .ok (.iload_n 3, 1) := by decide +kernel
theorem dX12_agenda_16 : decode cX12_agenda 16 = .ok (.invokestatic 210, 3) := by decide +kernel
theorem dX12_agenda_19 : decode cX12_agenda 19 = .ok (.ifCond .eq 11, 3) := by decide +kernel
theorem dX12_agenda_22 : decode cX12_agenda 22 = .ok (.iload 4, 2) := by decide +kernel
theorem dX12_agenda_24 : decode cX12_agenda 24 = .ok (.invokestatic 210, 3) := by decide +kernel
theorem dX12_agenda_27 : decode cX12_agenda 27 = .ok (.ifCond .ne 5, 3) := by decide +kernel
theorem dX12_agenda_30 : decode cX12_agenda 30 = .ok (.iconst (-1), 1) := by decide +kernel
theorem dX12_agenda_31 : decode cX12_agenda 31 = .ok (.ireturn, 1) := by decide +kernel
theorem dX12_agenda_32 : decode cX12_agenda 32 = .ok (.iconst (-1), 1) := by decide +kernel
theorem dX12_agenda_33 : decode cX12_agenda 33 = .ok (.istore 6, 2) := by decide +kernel
theorem dX12_agenda_35 : decode cX12_agenda 35 = .ok (.iconst 0, 1) := by decide +kernel
theorem dX12_agenda_36 : decode cX12_agenda 36 = .ok (.istore 7, 2) := by decide +kernel
theorem dX12_agenda_38 : decode cX12_agenda 38 = .ok (.iconst 0, 1) := by decide +kernel
theorem dX12_agenda_39 : decode cX12_agenda 39 = .ok (.istore 8, 2) := by decide +kernel
theorem dX12_agenda_41 : decode cX12_agenda 41 = .ok (.iload 8, 2) := by decide +kernel
theorem dX12_agenda_43 : decode cX12_agenda 43 = .ok (.iconst 3, 1) := by decide +kernel
theorem dX12_agenda_44 : decode cX12_agenda 44 = .ok (.if_icmp .ge 106, 3) := by decide +kernel
theorem dX12_agenda_47 : decode cX12_agenda 47 = .ok (.iconst 0, 1) := by decide +kernel
theorem dX12_agenda_48 : decode cX12_agenda 48 = .ok (.istore 9, 2) := by decide +kernel
theorem dX12_agenda_50 : decode cX12_agenda 50 = .ok (.iload 9, 2) := by decide +kernel
theorem dX12_agenda_52 : decode cX12_agenda 52 = .ok (.iconst 3, 1) := by decide +kernel
theorem dX12_agenda_53 : decode cX12_agenda 53 = .ok (.if_icmp .ge 91, 3) := by decide +kernel
theorem dX12_agenda_56 : decode cX12_agenda 56 = .ok (.iload 8, 2) := by decide +kernel
theorem dX12_agenda_58 : decode cX12_agenda 58 = .ok (.iload 9, 2) := by decide +kernel
theorem dX12_agenda_60 : decode cX12_agenda 60 = .ok (.if_icmp .ne 6, 3) := by decide +kernel
theorem dX12_agenda_63 : decode cX12_agenda 63 = .ok (.goto 75, 3) := by decide +kernel
theorem dX12_agenda_66 : decode cX12_agenda 66 = .ok (.iconst 3, 1) := by decide +kernel
theorem dX12_agenda_67 : decode cX12_agenda 67 = .ok (.iload 8, 2) := by decide +kernel
theorem dX12_agenda_69 : decode cX12_agenda 69 = .ok (.isub, 1) := by decide +kernel
theorem dX12_agenda_70 : decode cX12_agenda 70 = .ok (.iload 9, 2) := by decide +kernel
theorem dX12_agenda_72 : decode cX12_agenda 72 = .ok (.isub, 1) := by decide +kernel
theorem dX12_agenda_73 : decode cX12_agenda 73 = .ok (.istore 10, 2) := by decide +kernel
theorem dX12_agenda_75 : decode cX12_agenda 75 = .ok (.aload_n 0, 1) := by decide +kernel
theorem dX12_agenda_76 : decode cX12_agenda 76 = .ok (.iload_n 2, 1) := by decide +kernel
theorem dX12_agenda_77 : decode cX12_agenda 77 = .ok (.iload_n 3, 1) := by decide +kernel
theorem dX12_agenda_78 : decode cX12_agenda 78 = .ok (.iload 4, 2) := by decide +kernel
theorem dX12_agenda_80 : decode cX12_agenda 80 = .ok (.iload 8, 2) := by decide +kernel
theorem dX12_agenda_82 : decode cX12_agenda 82 = .ok (.invokestatic 300, 3) := by decide +kernel
theorem dX12_agenda_85 : decode cX12_agenda 85 = .ok (.iload_n 2, 1) := by decide +kernel
theorem dX12_agenda_86 : decode cX12_agenda 86 = .ok (.iload_n 3, 1) := by decide +kernel
theorem dX12_agenda_87 : decode cX12_agenda 87 = .ok (.iload 4, 2) := by decide +kernel
theorem dX12_agenda_89 : decode cX12_agenda 89 = .ok (.iload 9, 2) := by decide +kernel
theorem dX12_agenda_91 : decode cX12_agenda 91 = .ok (.invokestatic 300, 3) := by decide +kernel
theorem dX12_agenda_94 : decode cX12_agenda 94 = .ok (.iload_n 2, 1) := by decide +kernel
theorem dX12_agenda_95 : decode cX12_agenda 95 = .ok (.iload_n 3, 1) := by decide +kernel
theorem dX12_agenda_96 : decode cX12_agenda 96 = .ok (.iload 4, 2) := by decide +kernel
theorem dX12_agenda_98 : decode cX12_agenda 98 = .ok (.iload 10, 2) := by decide +kernel
theorem dX12_agenda_100 : decode cX12_agenda 100 = .ok (.invokestatic 300, 3) := by decide +kernel
theorem dX12_agenda_103 : decode cX12_agenda 103 = .ok (.invokevirtual 304, 3) := by decide +kernel
theorem dX12_agenda_106 : decode cX12_agenda 106 = .ok (.istore 11, 2) := by decide +kernel
theorem dX12_agenda_108 : decode cX12_agenda 108 = .ok (.iload 11, 2) := by decide +kernel
theorem dX12_agenda_110 : decode cX12_agenda 110 = .ok (.iload 6, 2) := by decide +kernel
theorem dX12_agenda_112 : decode cX12_agenda 112 = .ok (.if_icmp .gt 6, 3) := by decide +kernel
theorem dX12_agenda_115 : decode cX12_agenda 115 = .ok (.goto 23, 3) := by decide +kernel
theorem dX12_agenda_118 : decode cX12_agenda 118 = .ok (.iload 11, 2) := by decide +kernel
theorem dX12_agenda_120 : decode cX12_agenda 120 = .ok (.istore 6, 2) := by decide +kernel
theorem dX12_agenda_122 : decode cX12_agenda 122 = .ok (.bipush 100, 2) := by decide +kernel
theorem dX12_agenda_124 : decode cX12_agenda 124 = .ok (.iload 8, 2) := by decide +kernel
theorem dX12_agenda_126 : decode cX12_agenda 126 = .ok (.imul, 1) := by decide +kernel
theorem dX12_agenda_127 : decode cX12_agenda 127 = .ok (.bipush 10, 2) := by decide +kernel
theorem dX12_agenda_129 : decode cX12_agenda 129 = .ok (.iload 9, 2) := by decide +kernel
theorem dX12_agenda_131 : decode cX12_agenda 131 = .ok (.imul, 1) := by decide +kernel
theorem dX12_agenda_132 : decode cX12_agenda 132 = .ok (.iadd, 1) := by decide +kernel
theorem dX12_agenda_133 : decode cX12_agenda 133 = .ok (.iload 10, 2) := by decide +kernel
theorem dX12_agenda_135 : decode cX12_agenda 135 = .ok (.iadd, 1) := by decide +kernel
theorem dX12_agenda_136 : decode cX12_agenda 136 = .ok (.istore 7, 2) := by decide +kernel
theorem dX12_agenda_138 : decode cX12_agenda 138 = .ok (.iinc 9 1, 3) := by decide +kernel
theorem dX12_agenda_141 : decode cX12_agenda 141 = .ok (.goto (-91), 3) := by decide +kernel
theorem dX12_agenda_144 : decode cX12_agenda 144 = .ok (.iinc 8 1, 3) := by decide +kernel
theorem dX12_agenda_147 : decode cX12_agenda 147 = .ok (.goto (-106), 3) := by decide +kernel
theorem dX12_agenda_150 : decode cX12_agenda 150 = .ok (.iload 5, 2) := by decide +kernel
theorem dX12_agenda_152 : decode cX12_agenda 152 = .ok (.ifCond .eq 8, 3) := by decide +kernel
theorem dX12_agenda_155 : decode cX12_agenda 155 = .ok (.iload 7, 2) := by decide +kernel
theorem dX12_agenda_157 : decode cX12_agenda 157 = .ok (.goto 5, 3) := by decide +kernel
theorem dX12_agenda_160 : decode cX12_agenda 160 = .ok (.iload 6, 2) := by decide +kernel
theorem dX12_agenda_162 : decode cX12_agenda 162 = .ok (.ireturn, 1) := by decide +kernel
theorem dX12_power0_0 : decode cX12_power0 0 = .ok (.lconst 1, 1) := by decide +kernel
theorem dX12_power0_1 : decode cX12_power0 1 = .ok (.lstore_n 3, 1) := by decide +kernel
theorem dX12_power0_2 : decode cX12_power0 2 = .ok (.iconst 0, 1) := by decide +kernel
theorem dX12_power0_3 : decode cX12_power0 3 = .ok (.istore 5, 2) := by decide +kernel
theorem dX12_power0_5 : decode cX12_power0 5 = .ok (.iload 5, 2) := by decide +kernel
theorem dX12_power0_7 : decode cX12_power0 7 = .ok (.iload_n 2, 1) := by decide +kernel
theorem dX12_power0_8 : decode cX12_power0 8 = .ok (.if_icmp .ge 13, 3) := by decide +kernel
theorem dX12_power0_11 : decode cX12_power0 11 = .ok (.lload_n 3, 1) := by decide +kernel
theorem dX12_power0_12 : decode cX12_power0 12 = .ok (.lload_n 0, 1) := by decide +kernel
theorem dX12_power0_13 : decode cX12_power0 13 = .ok (.lmul, 1) := by decide +kernel
theorem dX12_power0_14 : decode cX12_power0 14 = .ok (.lstore_n 3, 1) := by decide +kernel
theorem dX12_power0_15 : decode cX12_power0 15 = .ok (.iinc 5 1, 3) := by decide +kernel
theorem dX12_power0_18 : decode cX12_power0 18 = .ok (.goto (-13), 3) := by decide +kernel
theorem dX12_power0_21 : decode cX12_power0 21 = .ok (.lload_n 3, 1) := by decide +kernel
theorem dX12_power0_22 : decode cX12_power0 22 = .ok (.lreturn, 1) := by decide +kernel
theorem dX12_common_0 : decode cX12_common 0 = .ok (.lload_n 0, 1) := by decide +kernel
theorem dX12_common_1 : decode cX12_common 1 = .ok (.lstore 4, 2) := by decide +kernel
theorem dX12_common_3 : decode cX12_common 3 = .ok (.lload_n 2, 1) := by decide +kernel
theorem dX12_common_4 : decode cX12_common 4 = .ok (.lstore 6, 2) := by decide +kernel
theorem dX12_common_6 : decode cX12_common 6 = .ok (.lload 6, 2) := by decide +kernel
theorem dX12_common_8 : decode cX12_common 8 = .ok (.lconst 0, 1) := by decide +kernel
theorem dX12_common_9 : decode cX12_common 9 = .ok (.lcmp, 1) := by decide +kernel
theorem dX12_common_10 : decode cX12_common 10 = .ok (.ifCond .eq 21, 3) := by decide +kernel
theorem dX12_common_13 : decode cX12_common 13 = .ok (.lload 4, 2) := by decide +kernel
theorem dX12_common_15 : decode cX12_common 15 = .ok (.lload 6, 2) := by decide +kernel
theorem dX12_common_17 : decode cX12_common 17 = .ok (.lrem, 1) := by decide +kernel
theorem dX12_common_18 : decode cX12_common 18 = .ok (.lstore 8, 2) := by decide +kernel
theorem dX12_common_20 : decode cX12_common 20 = .ok (.lload 6, 2) := by decide +kernel
theorem dX12_common_22 : decode cX12_common 22 = .ok (.lstore 4, 2) := by decide +kernel
theorem dX12_common_24 : decode cX12_common 24 = .ok (.lload 8, 2) := by decide +kernel
theorem dX12_common_26 : decode cX12_common 26 = .ok (.lstore 6, 2) := by decide +kernel
theorem dX12_common_28 : decode cX12_common 28 = .ok (.goto (-22), 3) := by decide +kernel
theorem dX12_common_31 : decode cX12_common 31 = .ok (.lload 4, 2) := by decide +kernel
theorem dX12_common_33 : decode cX12_common 33 = .ok (.lreturn, 1) := by decide +kernel
theorem dX12_odds_0 : decode cX12_odds 0 = .ok (.aload_n 0, 1) := by decide +kernel
theorem dX12_odds_1 : decode cX12_odds 1 = .ok (.iload_n 1, 1) := by decide +kernel
theorem dX12_odds_2 : decode cX12_odds 2 = .ok (.invokevirtual 165, 3) := by decide +kernel
theorem dX12_odds_5 : decode cX12_odds 5 = .ok (.ifCond .eq 13, 3) := by decide +kernel
theorem dX12_odds_8 : decode cX12_odds 8 = .ok (.iload_n 2, 1) := by decide +kernel
theorem dX12_odds_9 : decode cX12_odds 9 = .ok (.iconst 0, 1) := by decide +kernel
theorem dX12_odds_10 : decode cX12_odds 10 = .ok (.bipush 10, 2) := by decide +kernel
theorem dX12_odds_12 : decode cX12_odds 12 = .ok (.invokestatic 106, 3) := by decide +kernel
theorem dX12_odds_15 : decode cX12_odds 15 = .ok (.ifCond .ne 7, 3) := by decide +kernel
theorem dX12_odds_18 : decode cX12_odds 18 = .ok (.ldc2_w 308, 3) := by decide +kernel
theorem dX12_odds_21 : decode cX12_odds 21 = .ok (.lreturn, 1) := by decide +kernel
theorem dX12_odds_22 : decode cX12_odds 22 = .ok (.aload_n 0, 1) := by decide +kernel
theorem dX12_odds_23 : decode cX12_odds 23 = .ok (.invokevirtual 213, 3) := by decide +kernel
theorem dX12_odds_26 : decode cX12_odds 26 = .ok (.lconst 0, 1) := by decide +kernel
theorem dX12_odds_27 : decode cX12_odds 27 = .ok (.lstore 4, 2) := by decide +kernel
theorem dX12_odds_29 : decode cX12_odds 29 = .ok (.iconst 0, 1) := by decide +kernel
theorem dX12_odds_30 : decode cX12_odds 30 = .ok (.istore 6, 2) := by decide +kernel
theorem dX12_odds_32 : decode cX12_odds 32 = .ok (.iload 6, 2) := by decide +kernel
theorem dX12_odds_34 : decode cX12_odds 34 = .ok (.bipush 64, 2) := by decide +kernel
theorem dX12_odds_36 : decode cX12_odds 36 = .ok (.if_icmp .ge 50, 3) := by decide +kernel
theorem dX12_odds_39 : decode cX12_odds 39 = .ok (.aload_n 0, 1) := by decide +kernel
theorem dX12_odds_40 : decode cX12_odds 40 = .ok (.iload 6, 2) := by decide +kernel
theorem dX12_odds_42 : decode cX12_odds 42 = .ok (.invokevirtual 216, 3) := by decide +kernel
theorem dX12_odds_45 : decode cX12_odds 45 = .ok (.ifCond .eq 35, 3) := by decide +kernel
theorem dX12_odds_48 : decode cX12_odds 48 = .ok (.lload 4, 2) := by decide +kernel
theorem dX12_odds_50 : decode cX12_odds 50 = .ok (.iload_n 2, 1) := by decide +kernel
theorem dX12_odds_51 : decode cX12_odds 51 = .ok (.i2l, 1) := by decide +kernel
theorem dX12_odds_52 : decode cX12_odds 52 = .ok (.iload 6, 2) := by decide +kernel
theorem dX12_odds_54 : decode cX12_odds 54 = .ok (.invokestatic 195, 3) := by decide +kernel
theorem dX12_odds_57 : decode cX12_odds 57 = .ok (.invokestatic 310, 3) := by decide +kernel
theorem dX12_odds_60 : decode cX12_odds 60 = .ok (.bipush 10, 2) := by decide +kernel
theorem dX12_odds_62 : decode cX12_odds 62 = .ok (.iload_n 2, 1) := by decide +kernel
theorem dX12_odds_63 : decode cX12_odds 63 = .ok (.isub, 1) := by decide +kernel
theorem dX12_odds_64 : decode cX12_odds 64 = .ok (.i2l, 1) := by decide +kernel
theorem dX12_odds_65 : decode cX12_odds 65 = .ok (.bipush 6, 2) := by decide +kernel
theorem dX12_odds_67 : decode cX12_odds 67 = .ok (.iload 6, 2) := by decide +kernel
theorem dX12_odds_69 : decode cX12_odds 69 = .ok (.invokestatic 195, 3) := by decide +kernel
theorem dX12_odds_72 : decode cX12_odds 72 = .ok (.isub, 1) := by decide +kernel
theorem dX12_odds_73 : decode cX12_odds 73 = .ok (.invokestatic 310, 3) := by decide +kernel
theorem dX12_odds_76 : decode cX12_odds 76 = .ok (.lmul, 1) := by decide +kernel
theorem dX12_odds_77 : decode cX12_odds 77 = .ok (.ladd, 1) := by decide +kernel
theorem dX12_odds_78 : decode cX12_odds 78 = .ok (.lstore 4, 2) := by decide +kernel
theorem dX12_odds_80 : decode cX12_odds 80 = .ok (.iinc 6 1, 3) := by decide +kernel
theorem dX12_odds_83 : decode cX12_odds 83 = .ok (.goto (-51), 3) := by decide +kernel
theorem dX12_odds_86 : decode cX12_odds 86 = .ok (.iload_n 3, 1) := by decide +kernel
theorem dX12_odds_87 : decode cX12_odds 87 = .ok (.ifCond .eq 9, 3) := by decide +kernel
theorem dX12_odds_90 : decode cX12_odds 90 = .ok (.ldc2_w 314, 3) := by decide +kernel
theorem dX12_odds_93 : decode cX12_odds 93 = .ok (.goto 5, 3) := by decide +kernel
theorem dX12_odds_96 : decode cX12_odds 96 = .ok (.lload 4, 2) := by decide +kernel
theorem dX12_odds_98 : decode cX12_odds 98 = .ok (.lload 4, 2) := by decide +kernel
theorem dX12_odds_100 : decode cX12_odds 100 = .ok (.ldc2_w 314, 3) := by decide +kernel
theorem dX12_odds_103 : decode cX12_odds 103 = .ok (.invokestatic 316, 3) := by decide +kernel
theorem dX12_odds_106 : decode cX12_odds 106 = .ok (.ldiv, 1) := by decide +kernel
theorem dX12_odds_107 : decode cX12_odds 107 = .ok (.lreturn, 1) := by decide +kernel
theorem dX12_voicesOf_0 : decode cX12_voicesOf 0 = .ok (.iconst 0, 1) := by decide +kernel
theorem dX12_voicesOf_1 : decode cX12_voicesOf 1 = .ok (.istore_n 2, 1) := by decide +kernel
theorem dX12_voicesOf_2 : decode cX12_voicesOf 2 = .ok (.iconst 0, 1) := by decide +kernel
theorem dX12_voicesOf_3 : decode cX12_voicesOf 3 = .ok (.istore_n 3, 1) := by decide +kernel
theorem dX12_voicesOf_4 : decode cX12_voicesOf 4 = .ok (.iload_n 3, 1) := by decide +kernel
theorem dX12_voicesOf_5 : decode cX12_voicesOf 5 = .ok (.aload_n 0, 1) := by decide +kernel
theorem dX12_voicesOf_6 : decode cX12_voicesOf 6 = .ok (.getfield 159, 3) := by decide +kernel
theorem dX12_voicesOf_9 : decode cX12_voicesOf 9 = .ok (.if_icmp .ge 30, 3) := by decide +kernel
theorem dX12_voicesOf_12 : decode cX12_voicesOf 12 = .ok (.iload_n 2, 1) := by decide +kernel
theorem dX12_voicesOf_13 : decode cX12_voicesOf 13 = .ok (.iload_n 1, 1) := by decide +kernel
theorem dX12_voicesOf_14 : decode cX12_voicesOf 14 = .ok (.iload_n 3, 1) := by decide +kernel
theorem dX12_voicesOf_15 : decode cX12_voicesOf 15 = .ok (.invokestatic 192, 3) := by decide +kernel
theorem dX12_voicesOf_18 : decode cX12_voicesOf 18 = .ok (.ifCond .eq 12, 3) := by decide +kernel
theorem dX12_voicesOf_21 : decode cX12_voicesOf 21 = .ok (.aload_n 0, 1) := by decide +kernel
theorem dX12_voicesOf_22 : decode cX12_voicesOf 22 = .ok (.iload_n 3, 1) := by decide +kernel
theorem dX12_voicesOf_23 : decode cX12_voicesOf 23 = .ok (.iconst 5, 1) := by decide +kernel
theorem dX12_voicesOf_24 : decode cX12_voicesOf 24 = .ok (.invokevirtual 171, 3) := by decide +kernel
theorem dX12_voicesOf_27 : decode cX12_voicesOf 27 = .ok (.goto 4, 3) := by decide +kernel
theorem dX12_voicesOf_30 : decode cX12_voicesOf 30 = .ok (.iconst 0, 1) := by decide +kernel
theorem dX12_voicesOf_31 : decode cX12_voicesOf 31 = .ok (.iadd, 1) := by decide +kernel
theorem dX12_voicesOf_32 : decode cX12_voicesOf 32 = .ok (.istore_n 2, 1) := by decide +kernel
theorem dX12_voicesOf_33 : decode cX12_voicesOf 33 = .ok (.iinc 3 1, 3) := by decide +kernel
theorem dX12_voicesOf_36 : decode cX12_voicesOf 36 = .ok (.goto (-32), 3) := by decide +kernel
theorem dX12_voicesOf_39 : decode cX12_voicesOf 39 = .ok (.iload_n 2, 1) := by decide +kernel
theorem dX12_voicesOf_40 : decode cX12_voicesOf 40 = .ok (.ireturn, 1) := by decide +kernel
theorem dX12_apart_0 : decode cX12_apart 0 = .ok (.aload_n 0, 1) := by decide +kernel
theorem dX12_apart_1 : decode cX12_apart 1 = .ok (.iload_n 1, 1) := by decide +kernel
theorem dX12_apart_2 : decode cX12_apart 2 = .ok (.invokevirtual 320, 3) := by decide +kernel
theorem dX12_apart_5 : decode cX12_apart 5 = .ok (.aload_n 0, 1) := by decide +kernel
theorem dX12_apart_6 : decode cX12_apart 6 = .ok (.iconst 1, 1) := by decide +kernel
theorem dX12_apart_7 : decode cX12_apart 7 = .ok (.aload_n 0, 1) := by decide +kernel
theorem dX12_apart_8 : decode cX12_apart 8 = .ok (.getfield 159, 3) := by decide +kernel
theorem dX12_apart_11 : decode cX12_apart 11 = .ok (.ishl, 1) := by decide +kernel
theorem dX12_apart_12 : decode cX12_apart 12 = .ok (.iconst 1, 1) := by decide +kernel
theorem dX12_apart_13 : decode cX12_apart 13 = .ok (.isub, 1) := by decide +kernel
theorem dX12_apart_14 : decode cX12_apart 14 = .ok (.iload_n 1, 1) := by decide +kernel
theorem dX12_apart_15 : decode cX12_apart 15 = .ok (.iconst (-1), 1) := by decide +kernel
theorem dX12_apart_16 : decode cX12_apart 16 = .ok (.ixor, 1) := by decide +kernel
theorem dX12_apart_17 : decode cX12_apart 17 = .ok (.iand, 1) := by decide +kernel
theorem dX12_apart_18 : decode cX12_apart 18 = .ok (.invokevirtual 320, 3) := by decide +kernel
theorem dX12_apart_21 : decode cX12_apart 21 = .ok (.isub, 1) := by decide +kernel
theorem dX12_apart_22 : decode cX12_apart 22 = .ok (.istore_n 2, 1) := by decide +kernel
theorem dX12_apart_23 : decode cX12_apart 23 = .ok (.iload_n 2, 1) := by decide +kernel
theorem dX12_apart_24 : decode cX12_apart 24 = .ok (.ifCond .ge 8, 3) := by decide +kernel
theorem dX12_apart_27 : decode cX12_apart 27 = .ok (.iload_n 2, 1) := by decide +kernel
theorem dX12_apart_28 : decode cX12_apart 28 = .ok (.ineg, 1) := by decide +kernel
theorem dX12_apart_29 : decode cX12_apart 29 = .ok (.goto 4, 3) := by decide +kernel
theorem dX12_apart_32 : decode cX12_apart 32 = .ok (.iload_n 2, 1) := by decide +kernel
theorem dX12_apart_33 : decode cX12_apart 33 = .ok (.ireturn, 1) := by decide +kernel
theorem dX12_wins_0 : decode cX12_wins 0 = .ok (.iconst 0, 1) := by decide +kernel
theorem dX12_wins_1 : decode cX12_wins 1 = .ok (.istore_n 2, 1) := by decide +kernel
theorem dX12_wins_2 : decode cX12_wins 2 = .ok (.iconst 0, 1) := by decide +kernel
theorem dX12_wins_3 : decode cX12_wins 3 = .ok (.istore_n 3, 1) := by decide +kernel
theorem dX12_wins_4 : decode cX12_wins 4 = .ok (.iconst 0, 1) := by decide +kernel
theorem dX12_wins_5 : decode cX12_wins 5 = .ok (.istore 4, 2) := by decide +kernel
theorem dX12_wins_7 : decode cX12_wins 7 = .ok (.iload 4, 2) := by decide +kernel
theorem dX12_wins_9 : decode cX12_wins 9 = .ok (.aload_n 0, 1) := by decide +kernel
theorem dX12_wins_10 : decode cX12_wins 10 = .ok (.getfield 159, 3) := by decide +kernel
theorem dX12_wins_13 : decode cX12_wins 13 = .ok (.if_icmp .ge 42, 3) := by decide +kernel
theorem dX12_wins_16 : decode cX12_wins 16 = .ok (.iload_n 2, 1) := by decide +kernel
theorem dX12_wins_17 : decode cX12_wins 17 = .ok (.iload_n 1, 1) := by decide +kernel
theorem dX12_wins_18 : decode cX12_wins 18 = .ok (.iload 4, 2) := by decide +kernel
theorem dX12_wins_20 : decode cX12_wins 20 = .ok (.invokestatic 192, 3) := by decide +kernel
theorem dX12_wins_23 : decode cX12_wins 23 = .ok (.ifCond .eq 13, 3) := by decide +kernel
theorem dX12_wins_26 : decode cX12_wins 26 = .ok (.aload_n 0, 1) := by decide +kernel
theorem dX12_wins_27 : decode cX12_wins 27 = .ok (.iload 4, 2) := by decide +kernel
theorem dX12_wins_29 : decode cX12_wins 29 = .ok (.iconst 5, 1) := by decide +kernel
theorem dX12_wins_30 : decode cX12_wins 30 = .ok (.invokevirtual 171, 3) := by decide +kernel
theorem dX12_wins_33 : decode cX12_wins 33 = .ok (.goto 4, 3) := by decide +kernel
theorem dX12_wins_36 : decode cX12_wins 36 = .ok (.iconst 0, 1) := by decide +kernel
theorem dX12_wins_37 : decode cX12_wins 37 = .ok (.iadd, 1) := by decide +kernel
theorem dX12_wins_38 : decode cX12_wins 38 = .ok (.istore_n 2, 1) := by decide +kernel
theorem dX12_wins_39 : decode cX12_wins 39 = .ok (.iload_n 3, 1) := by decide +kernel
theorem dX12_wins_40 : decode cX12_wins 40 = .ok (.aload_n 0, 1) := by decide +kernel
theorem dX12_wins_41 : decode cX12_wins 41 = .ok (.iload 4, 2) := by decide +kernel
theorem dX12_wins_43 : decode cX12_wins 43 = .ok (.iconst 5, 1) := by decide +kernel
theorem dX12_wins_44 : decode cX12_wins 44 = .ok (.invokevirtual 171, 3) := by decide +kernel
theorem dX12_wins_47 : decode cX12_wins 47 = .ok (.iadd, 1) := by decide +kernel
theorem dX12_wins_48 : decode cX12_wins 48 = .ok (.istore_n 3, 1) := by decide +kernel
theorem dX12_wins_49 : decode cX12_wins 49 = .ok (.iinc 4 1, 3) := by decide +kernel
theorem dX12_wins_52 : decode cX12_wins 52 = .ok (.goto (-45), 3) := by decide +kernel
theorem dX12_wins_55 : decode cX12_wins 55 = .ok (.iconst 2, 1) := by decide +kernel
theorem dX12_wins_56 : decode cX12_wins 56 = .ok (.iload_n 2, 1) := by decide +kernel
theorem dX12_wins_57 : decode cX12_wins 57 = .ok (.imul, 1) := by decide +kernel
theorem dX12_wins_58 : decode cX12_wins 58 = .ok (.iload_n 3, 1) := by decide +kernel
theorem dX12_wins_59 : decode cX12_wins 59 = .ok (.if_icmp .le 7, 3) := by decide +kernel
theorem dX12_wins_62 : decode cX12_wins 62 = .ok (.iconst 1, 1) := by decide +kernel
theorem dX12_wins_63 : decode cX12_wins 63 = .ok (.goto 4, 3) := by decide +kernel
theorem dX12_wins_66 : decode cX12_wins 66 = .ok (.iconst 0, 1) := by decide +kernel
theorem dX12_wins_67 : decode cX12_wins 67 = .ok (.ireturn, 1) := by decide +kernel
theorem dX12_swingsOf_0 : decode cX12_swingsOf 0 = .ok (.iconst 0, 1) := by decide +kernel
theorem dX12_swingsOf_1 : decode cX12_swingsOf 1 = .ok (.istore_n 2, 1) := by decide +kernel
theorem dX12_swingsOf_2 : decode cX12_swingsOf 2 = .ok (.iconst 0, 1) := by decide +kernel
theorem dX12_swingsOf_3 : decode cX12_swingsOf 3 = .ok (.istore_n 3, 1) := by decide +kernel
theorem dX12_swingsOf_4 : decode cX12_swingsOf 4 = .ok (.iload_n 3, 1) := by decide +kernel
theorem dX12_swingsOf_5 : decode cX12_swingsOf 5 = .ok (.iconst 1, 1) := by decide +kernel
theorem dX12_swingsOf_6 : decode cX12_swingsOf 6 = .ok (.aload_n 0, 1) := by decide +kernel
theorem dX12_swingsOf_7 : decode cX12_swingsOf 7 = .ok (.getfield 159, 3) := by decide +kernel
theorem dX12_swingsOf_10 : decode cX12_swingsOf 10 = .ok (.ishl, 1) := by decide +kernel
theorem dX12_swingsOf_11 : decode cX12_swingsOf 11 = .ok (.if_icmp .ge 45, 3) := by decide +kernel
theorem dX12_swingsOf_14 : decode cX12_swingsOf 14 = .ok (.iload_n 2, 1) := by decide +kernel
theorem dX12_swingsOf_15 : decode cX12_swingsOf 15 = .ok (.iload_n 3, 1) := by decide +kernel
theorem dX12_swingsOf_16 : decode cX12_swingsOf 16 = .ok (.iload_n 1, 1) := by decide +kernel
theorem dX12_swingsOf_17 : decode cX12_swingsOf 17 = .ok (.invokestatic 192, 3) := by decide +kernel
theorem dX12_swingsOf_20 : decode cX12_swingsOf 20 = .ok (.ifCond .ne 27, 3) := by decide +kernel
theorem dX12_swingsOf_23 : decode cX12_swingsOf 23 = .ok (.aload_n 0, 1) := by decide +kernel
theorem dX12_swingsOf_24 : decode cX12_swingsOf 24 = .ok (.iload_n 3, 1) := by decide +kernel
theorem dX12_swingsOf_25 : decode cX12_swingsOf 25 = .ok (.invokevirtual 323, 3) := by decide +kernel
theorem dX12_swingsOf_28 : decode cX12_swingsOf 28 = .ok (.ifCond .ne 19, 3) := by decide +kernel
theorem dX12_swingsOf_31 : decode cX12_swingsOf 31 = .ok (.aload_n 0, 1) := by decide +kernel
theorem dX12_swingsOf_32 : decode cX12_swingsOf 32 = .ok (.iload_n 3, 1) := by decide +kernel
theorem dX12_swingsOf_33 : decode cX12_swingsOf 33 = .ok (.iconst 1, 1) := by decide +kernel
theorem dX12_swingsOf_34 : decode cX12_swingsOf 34 = .ok (.iload_n 1, 1) := by decide +kernel
theorem dX12_swingsOf_35 : decode cX12_swingsOf 35 = .ok (.ishl, 1) := by decide +kernel
theorem dX12_swingsOf_36 : decode cX12_swingsOf 36 = .ok (.ior, 1) := by decide +kernel
theorem dX12_swingsOf_37 : decode cX12_swingsOf 37 = .ok (.invokevirtual 323, 3) := by decide +kernel
theorem dX12_swingsOf_40 : decode cX12_swingsOf 40 = .ok (.ifCond .eq 7, 3) := by decide +kernel
theorem dX12_swingsOf_43 : decode cX12_swingsOf 43 = .ok (.iconst 1, 1) := by decide +kernel
theorem dX12_swingsOf_44 : decode cX12_swingsOf 44 = .ok (.goto 4, 3) := by decide +kernel
theorem dX12_swingsOf_47 : decode cX12_swingsOf 47 = .ok (.iconst 0, 1) := by decide +kernel
theorem dX12_swingsOf_48 : decode cX12_swingsOf 48 = .ok (.iadd, 1) := by decide +kernel
theorem dX12_swingsOf_49 : decode cX12_swingsOf 49 = .ok (.istore_n 2, 1) := by decide +kernel
theorem dX12_swingsOf_50 : decode cX12_swingsOf 50 = .ok (.iinc 3 1, 3) := by decide +kernel
theorem dX12_swingsOf_53 : decode cX12_swingsOf 53 = .ok (.goto (-49), 3) := by decide +kernel
theorem dX12_swingsOf_56 : decode cX12_swingsOf 56 = .ok (.iload_n 2, 1) := by decide +kernel
theorem dX12_swingsOf_57 : decode cX12_swingsOf 57 = .ok (.ireturn, 1) := by decide +kernel
theorem dX12_vetoes_0 : decode cX12_vetoes 0 = .ok (.aload_n 0, 1) := by decide +kernel
theorem dX12_vetoes_1 : decode cX12_vetoes 1 = .ok (.getfield 159, 3) := by decide +kernel
theorem dX12_vetoes_4 : decode cX12_vetoes 4 = .ok (.ifCond .ne 7, 3) := by decide +kernel
theorem dX12_vetoes_7 : decode cX12_vetoes 7 = .ok (.iconst 0, 1) := by decide +kernel
theorem dX12_vetoes_8 : decode cX12_vetoes 8 = .ok (.goto 11, 3) := by decide +kernel
theorem dX12_vetoes_11 : decode cX12_vetoes 11 = .ok (.iconst 1, 1) := by decide +kernel
theorem dX12_vetoes_12 : decode cX12_vetoes 12 = .ok (.aload_n 0, 1) := by decide +kernel
theorem dX12_vetoes_13 : decode cX12_vetoes 13 = .ok (.getfield 159, 3) := by decide +kernel
theorem dX12_vetoes_16 : decode cX12_vetoes 16 = .ok (.ishl, 1) := by decide +kernel
theorem dX12_vetoes_17 : decode cX12_vetoes 17 = .ok (.iconst 1, 1) := by decide +kernel
theorem dX12_vetoes_18 : decode cX12_vetoes 18 = .ok (.isub, 1) := by decide +kernel
theorem dX12_vetoes_19 : decode cX12_vetoes 19 = .ok (.istore_n 1, 1) := by decide +kernel
theorem dX12_vetoes_20 : decode cX12_vetoes 20 = .ok (.iconst 0, 1) := by decide +kernel
theorem dX12_vetoes_21 : decode cX12_vetoes 21 = .ok (.istore_n 2, 1) := by decide +kernel
theorem dX12_vetoes_22 : decode cX12_vetoes 22 = .ok (.iload_n 2, 1) := by decide +kernel
theorem dX12_vetoes_23 : decode cX12_vetoes 23 = .ok (.iconst 1, 1) := by decide +kernel
theorem dX12_vetoes_24 : decode cX12_vetoes 24 = .ok (.aload_n 0, 1) := by decide +kernel
theorem dX12_vetoes_25 : decode cX12_vetoes 25 = .ok (.getfield 159, 3) := by decide +kernel
theorem dX12_vetoes_28 : decode cX12_vetoes 28 = .ok (.ishl, 1) := by decide +kernel
theorem dX12_vetoes_29 : decode cX12_vetoes 29 = .ok (.if_icmp .ge 21, 3) := by decide +kernel
theorem dX12_vetoes_32 : decode cX12_vetoes 32 = .ok (.aload_n 0, 1) := by decide +kernel
theorem dX12_vetoes_33 : decode cX12_vetoes 33 = .ok (.iload_n 2, 1) := by decide +kernel
theorem dX12_vetoes_34 : decode cX12_vetoes 34 = .ok (.invokevirtual 323, 3) := by decide +kernel
theorem dX12_vetoes_37 : decode cX12_vetoes 37 = .ok (.ifCond .eq 7, 3) := by decide +kernel
theorem dX12_vetoes_40 : decode cX12_vetoes 40 = .ok (.iload_n 1, 1) := by decide +kernel
theorem dX12_vetoes_41 : decode cX12_vetoes 41 = .ok (.iload_n 2, 1) := by decide +kernel
theorem dX12_vetoes_42 : decode cX12_vetoes 42 = .ok (.iand, 1) := by decide +kernel
theorem dX12_vetoes_43 : decode cX12_vetoes 43 = .ok (.istore_n 1, 1) := by decide +kernel
theorem dX12_vetoes_44 : decode cX12_vetoes 44 = .ok (.iinc 2 1, 3) := by decide +kernel
theorem dX12_vetoes_47 : decode cX12_vetoes 47 = .ok (.goto (-25), 3) := by decide +kernel
theorem dX12_vetoes_50 : decode cX12_vetoes 50 = .ok (.iload_n 1, 1) := by decide +kernel
theorem dX12_vetoes_51 : decode cX12_vetoes 51 = .ok (.ireturn, 1) := by decide +kernel
theorem dX12_alike_0 : decode cX12_alike 0 = .ok (.iconst 0, 1) := by decide +kernel
theorem dX12_alike_1 : decode cX12_alike 1 = .ok (.istore_n 1, 1) := by decide +kernel
theorem dX12_alike_2 : decode cX12_alike 2 = .ok (.iconst 0, 1) := by decide +kernel
theorem dX12_alike_3 : decode cX12_alike 3 = .ok (.istore_n 2, 1) := by decide +kernel
theorem dX12_alike_4 : decode cX12_alike 4 = .ok (.iload_n 2, 1) := by decide +kernel
theorem dX12_alike_5 : decode cX12_alike 5 = .ok (.aload_n 0, 1) := by decide +kernel
theorem dX12_alike_6 : decode cX12_alike 6 = .ok (.getfield 159, 3) := by decide +kernel
theorem dX12_alike_9 : decode cX12_alike 9 = .ok (.if_icmp .ge 58, 3) := by decide +kernel
theorem dX12_alike_12 : decode cX12_alike 12 = .ok (.iconst 0, 1) := by decide +kernel
theorem dX12_alike_13 : decode cX12_alike 13 = .ok (.istore_n 3, 1) := by decide +kernel
theorem dX12_alike_14 : decode cX12_alike 14 = .ok (.iload_n 3, 1) := by decide +kernel
theorem dX12_alike_15 : decode cX12_alike 15 = .ok (.iload_n 2, 1) := by decide +kernel
theorem dX12_alike_16 : decode cX12_alike 16 = .ok (.if_icmp .ge 45, 3) := by decide +kernel
theorem dX12_alike_19 : decode cX12_alike 19 = .ok (.iload_n 1, 1) := by decide +kernel
theorem dX12_alike_20 : decode cX12_alike 20 = .ok (.aload_n 0, 1) := by decide +kernel
theorem dX12_alike_21 : decode cX12_alike 21 = .ok (.iload_n 2, 1) := by decide +kernel
theorem dX12_alike_22 : decode cX12_alike 22 = .ok (.iconst 5, 1) := by decide +kernel
theorem dX12_alike_23 : decode cX12_alike 23 = .ok (.invokevirtual 171, 3) := by decide +kernel
theorem dX12_alike_26 : decode cX12_alike 26 = .ok (.aload_n 0, 1) := by decide +kernel
theorem dX12_alike_27 : decode cX12_alike 27 = .ok (.iload_n 3, 1) := by decide +kernel
theorem dX12_alike_28 : decode cX12_alike 28 = .ok (.iconst 5, 1) := by decide +kernel
theorem dX12_alike_29 : decode cX12_alike 29 = .ok (.invokevirtual 171, 3) := by decide +kernel
theorem dX12_alike_32 : decode cX12_alike 32 = .ok (.if_icmp .eq 20, 3) := by decide +kernel
theorem dX12_alike_35 : decode cX12_alike 35 = .ok (.aload_n 0, 1) := by decide +kernel
theorem dX12_alike_36 : decode cX12_alike 36 = .ok (.iload_n 2, 1) := by decide +kernel
theorem dX12_alike_37 : decode cX12_alike 37 = .ok (.invokevirtual 326, 3) := by decide +kernel
theorem dX12_alike_40 : decode cX12_alike 40 = .ok (.aload_n 0, 1) := by decide +kernel
theorem dX12_alike_41 : decode cX12_alike 41 = .ok (.iload_n 3, 1) := by decide +kernel
theorem dX12_alike_42 : decode cX12_alike 42 = .ok (.invokevirtual 326, 3) := by decide +kernel
theorem dX12_alike_45 : decode cX12_alike 45 = .ok (.if_icmp .ne 7, 3) := by decide +kernel
theorem dX12_alike_48 : decode cX12_alike 48 = .ok (.iconst 1, 1) := by decide +kernel
theorem dX12_alike_49 : decode cX12_alike 49 = .ok (.goto 4, 3) := by decide +kernel
theorem dX12_alike_52 : decode cX12_alike 52 = .ok (.iconst 0, 1) := by decide +kernel
theorem dX12_alike_53 : decode cX12_alike 53 = .ok (.iadd, 1) := by decide +kernel
theorem dX12_alike_54 : decode cX12_alike 54 = .ok (.istore_n 1, 1) := by decide +kernel
theorem dX12_alike_55 : decode cX12_alike 55 = .ok (.iinc 3 1, 3) := by decide +kernel
theorem dX12_alike_58 : decode cX12_alike 58 = .ok (.goto (-44), 3) := by decide +kernel
theorem dX12_alike_61 : decode cX12_alike 61 = .ok (.iinc 2 1, 3) := by decide +kernel
theorem dX12_alike_64 : decode cX12_alike 64 = .ok (.goto (-60), 3) := by decide +kernel
theorem dX12_alike_67 : decode cX12_alike 67 = .ok (.iload_n 1, 1) := by decide +kernel
theorem dX12_alike_68 : decode cX12_alike 68 = .ok (.ireturn, 1) := by decide +kernel
theorem dX12_weigh_0 : decode cX12_weigh 0 = .ok (.aload_n 0, 1) := by decide +kernel
theorem dX12_weigh_1 : decode cX12_weigh 1 = .ok (.iload_n 1, 1) := by decide +kernel
theorem dX12_weigh_2 : decode cX12_weigh 2 = .ok (.invokevirtual 165, 3) := by decide +kernel
theorem dX12_weigh_5 : decode cX12_weigh 5 = .ok (.ifCond .eq 12, 3) := by decide +kernel
theorem dX12_weigh_8 : decode cX12_weigh 8 = .ok (.iload_n 2, 1) := by decide +kernel
theorem dX12_weigh_9 : decode cX12_weigh 9 = .ok (.iconst 0, 1) := by decide +kernel
theorem dX12_weigh_10 : decode cX12_weigh 10 = .ok (.iconst 4, 1) := by decide +kernel
theorem dX12_weigh_11 : decode cX12_weigh 11 = .ok (.invokestatic 106, 3) := by decide +kernel
theorem dX12_weigh_14 : decode cX12_weigh 14 = .ok (.ifCond .ne 5, 3) := by decide +kernel
theorem dX12_weigh_17 : decode cX12_weigh 17 = .ok (.iconst (-1), 1) := by decide +kernel
theorem dX12_weigh_18 : decode cX12_weigh 18 = .ok (.ireturn, 1) := by decide +kernel
theorem dX12_weigh_19 : decode cX12_weigh 19 = .ok (.iconst 0, 1) := by decide +kernel
theorem dX12_weigh_20 : decode cX12_weigh 20 = .ok (.istore_n 3, 1) := by decide +kernel
theorem dX12_weigh_21 : decode cX12_weigh 21 = .ok (.iconst 1, 1) := by decide +kernel
theorem dX12_weigh_22 : decode cX12_weigh 22 = .ok (.istore 4, 2) := by decide +kernel
theorem dX12_weigh_24 : decode cX12_weigh 24 = .ok (.iload 4, 2) := by decide +kernel
theorem dX12_weigh_26 : decode cX12_weigh 26 = .ok (.iconst 1, 1) := by decide +kernel
theorem dX12_weigh_27 : decode cX12_weigh 27 = .ok (.aload_n 0, 1) := by decide +kernel
theorem dX12_weigh_28 : decode cX12_weigh 28 = .ok (.getfield 159, 3) := by decide +kernel
theorem dX12_weigh_31 : decode cX12_weigh 31 = .ok (.ishl, 1) := by decide +kernel
theorem dX12_weigh_32 : decode cX12_weigh 32 = .ok (.if_icmp .ge 30, 3) := by decide +kernel
theorem dX12_weigh_35 : decode cX12_weigh 35 = .ok (.aload_n 0, 1) := by decide +kernel
theorem dX12_weigh_36 : decode cX12_weigh 36 = .ok (.iload 4, 2) := by decide +kernel
theorem dX12_weigh_38 : decode cX12_weigh 38 = .ok (.invokevirtual 329, 3) := by decide +kernel
theorem dX12_weigh_41 : decode cX12_weigh 41 = .ok (.aload_n 0, 1) := by decide +kernel
theorem dX12_weigh_42 : decode cX12_weigh 42 = .ok (.iload_n 3, 1) := by decide +kernel
theorem dX12_weigh_43 : decode cX12_weigh 43 = .ok (.invokevirtual 329, 3) := by decide +kernel
theorem dX12_weigh_46 : decode cX12_weigh 46 = .ok (.if_icmp .ge 8, 3) := by decide +kernel
theorem dX12_weigh_49 : decode cX12_weigh 49 = .ok (.iload 4, 2) := by decide +kernel
theorem dX12_weigh_51 : decode cX12_weigh 51 = .ok (.goto 4, 3) := by decide +kernel
theorem dX12_weigh_54 : decode cX12_weigh 54 = .ok (.iload_n 3, 1) := by decide +kernel
theorem dX12_weigh_55 : decode cX12_weigh 55 = .ok (.istore_n 3, 1) := by decide +kernel
theorem dX12_weigh_56 : decode cX12_weigh 56 = .ok (.iinc 4 1, 3) := by decide +kernel
theorem dX12_weigh_59 : decode cX12_weigh 59 = .ok (.goto (-35), 3) := by decide +kernel
theorem dX12_weigh_62 : decode cX12_weigh 62 = .ok (.iconst 0, 1) := by decide +kernel
theorem dX12_weigh_63 : decode cX12_weigh 63 = .ok (.istore 4, 2) := by decide +kernel
theorem dX12_weigh_65 : decode cX12_weigh 65 = .ok (.iconst 0, 1) := by decide +kernel
theorem dX12_weigh_66 : decode cX12_weigh 66 = .ok (.istore 5, 2) := by decide +kernel
theorem dX12_weigh_68 : decode cX12_weigh 68 = .ok (.iload 5, 2) := by decide +kernel
theorem dX12_weigh_70 : decode cX12_weigh 70 = .ok (.aload_n 0, 1) := by decide +kernel
theorem dX12_weigh_71 : decode cX12_weigh 71 = .ok (.getfield 159, 3) := by decide +kernel
theorem dX12_weigh_74 : decode cX12_weigh 74 = .ok (.if_icmp .ge 31, 3) := by decide +kernel
theorem dX12_weigh_77 : decode cX12_weigh 77 = .ok (.iload 4, 2) := by decide +kernel
theorem dX12_weigh_79 : decode cX12_weigh 79 = .ok (.aload_n 0, 1) := by decide +kernel
theorem dX12_weigh_80 : decode cX12_weigh 80 = .ok (.iload 5, 2) := by decide +kernel
theorem dX12_weigh_82 : decode cX12_weigh 82 = .ok (.invokevirtual 326, 3) := by decide +kernel
theorem dX12_weigh_85 : decode cX12_weigh 85 = .ok (.ifCond .ne 10, 3) := by decide +kernel
theorem dX12_weigh_88 : decode cX12_weigh 88 = .ok (.iconst 1, 1) := by decide +kernel
theorem dX12_weigh_89 : decode cX12_weigh 89 = .ok (.iload 5, 2) := by decide +kernel
theorem dX12_weigh_91 : decode cX12_weigh 91 = .ok (.ishl, 1) := by decide +kernel
theorem dX12_weigh_92 : decode cX12_weigh 92 = .ok (.goto 4, 3) := by decide +kernel
theorem dX12_weigh_95 : decode cX12_weigh 95 = .ok (.iconst 0, 1) := by decide +kernel
theorem dX12_weigh_96 : decode cX12_weigh 96 = .ok (.ior, 1) := by decide +kernel
theorem dX12_weigh_97 : decode cX12_weigh 97 = .ok (.istore 4, 2) := by decide +kernel
theorem dX12_weigh_99 : decode cX12_weigh 99 = .ok (.iinc 5 1, 3) := by decide +kernel
theorem dX12_weigh_102 : decode cX12_weigh 102 = .ok (.goto (-34), 3) := by decide +kernel
theorem dX12_weigh_105 : decode cX12_weigh 105 = .ok (.iload_n 2, 1) := by decide +kernel
theorem dX12_weigh_106 : decode cX12_weigh 106 = .ok (.tableswitch 46 0 3 #[30, 32, 38, 43], 30) := by decide +kernel
theorem dX12_weigh_136 : decode cX12_weigh 136 = .ok (.iload_n 3, 1) := by decide +kernel
theorem dX12_weigh_137 : decode cX12_weigh 137 = .ok (.ireturn, 1) := by decide +kernel
theorem dX12_weigh_138 : decode cX12_weigh 138 = .ok (.aload_n 0, 1) := by decide +kernel
theorem dX12_weigh_139 : decode cX12_weigh 139 = .ok (.iload_n 3, 1) := by decide +kernel
theorem dX12_weigh_140 : decode cX12_weigh 140 = .ok (.invokevirtual 329, 3) := by decide +kernel
theorem dX12_weigh_143 : decode cX12_weigh 143 = .ok (.ireturn, 1) := by decide +kernel
theorem dX12_weigh_144 : decode cX12_weigh 144 = .ok (.aload_n 0, 1) := by decide +kernel
theorem dX12_weigh_145 : decode cX12_weigh 145 = .ok (.invokevirtual 332, 3) := by decide +kernel
theorem dX12_weigh_148 : decode cX12_weigh 148 = .ok (.ireturn, 1) := by decide +kernel
theorem dX12_weigh_149 : decode cX12_weigh 149 = .ok (.iload 4, 2) := by decide +kernel
theorem dX12_weigh_151 : decode cX12_weigh 151 = .ok (.ireturn, 1) := by decide +kernel
theorem dX12_weigh_152 : decode cX12_weigh 152 = .ok (.aload_n 0, 1) := by decide +kernel
theorem dX12_weigh_153 : decode cX12_weigh 153 = .ok (.invokevirtual 336, 3) := by decide +kernel
theorem dX12_weigh_156 : decode cX12_weigh 156 = .ok (.ireturn, 1) := by decide +kernel
theorem dX12_leastSet_0 : decode cX12_leastSet 0 = .ok (.iconst 0, 1) := by decide +kernel
theorem dX12_leastSet_1 : decode cX12_leastSet 1 = .ok (.istore_n 1, 1) := by decide +kernel
theorem dX12_leastSet_2 : decode cX12_leastSet 2 = .ok (.iconst 1, 1) := by decide +kernel
theorem dX12_leastSet_3 : decode cX12_leastSet 3 = .ok (.istore_n 2, 1) := by decide +kernel
theorem dX12_leastSet_4 : decode cX12_leastSet 4 = .ok (.iload_n 2, 1) := by decide +kernel
theorem dX12_leastSet_5 : decode cX12_leastSet 5 = .ok (.iconst 1, 1) := by decide +kernel
theorem dX12_leastSet_6 : decode cX12_leastSet 6 = .ok (.aload_n 0, 1) := by decide +kernel
theorem dX12_leastSet_7 : decode cX12_leastSet 7 = .ok (.getfield 159, 3) := by decide +kernel
theorem dX12_leastSet_10 : decode cX12_leastSet 10 = .ok (.ishl, 1) := by decide +kernel
theorem dX12_leastSet_11 : decode cX12_leastSet 11 = .ok (.if_icmp .ge 34, 3) := by decide +kernel
theorem dX12_leastSet_14 : decode cX12_leastSet 14 = .ok (.aload_n 0, 1) := by decide +kernel
theorem dX12_leastSet_15 : decode cX12_leastSet 15 = .ok (.iload_n 2, 1) := by decide +kernel
theorem dX12_leastSet_16 : decode cX12_leastSet 16 = .ok (.invokevirtual 323, 3) := by decide +kernel
theorem dX12_leastSet_19 : decode cX12_leastSet 19 = .ok (.ifCond .eq 20, 3) := by decide +kernel
theorem dX12_leastSet_22 : decode cX12_leastSet 22 = .ok (.iload_n 1, 1) := by decide +kernel
theorem dX12_leastSet_23 : decode cX12_leastSet 23 = .ok (.ifCond .eq 14, 3) := by decide +kernel
theorem dX12_leastSet_26 : decode cX12_leastSet 26 = .ok (.iload_n 2, 1) := by decide +kernel
theorem dX12_leastSet_27 : decode cX12_leastSet 27 = .ok (.invokestatic 195, 3) := by decide +kernel
theorem dX12_leastSet_30 : decode cX12_leastSet 30 = .ok (.iload_n 1, 1) := by decide +kernel
theorem dX12_leastSet_31 : decode cX12_leastSet 31 = .ok (.invokestatic 195, 3) := by decide +kernel
theorem dX12_leastSet_34 : decode cX12_leastSet 34 = .ok (.if_icmp .ge 5, 3) := by decide +kernel
theorem dX12_leastSet_37 : decode cX12_leastSet 37 = .ok (.iload_n 2, 1) := by decide +kernel
theorem dX12_leastSet_38 : decode cX12_leastSet 38 = .ok (.istore_n 1, 1) := by decide +kernel
theorem dX12_leastSet_39 : decode cX12_leastSet 39 = .ok (.iinc 2 1, 3) := by decide +kernel
theorem dX12_leastSet_42 : decode cX12_leastSet 42 = .ok (.goto (-38), 3) := by decide +kernel
theorem dX12_leastSet_45 : decode cX12_leastSet 45 = .ok (.iload_n 1, 1) := by decide +kernel
theorem dX12_leastSet_46 : decode cX12_leastSet 46 = .ok (.ireturn, 1) := by decide +kernel
theorem dX12_factorial_0 : decode cX12_factorial 0 = .ok (.lconst 1, 1) := by decide +kernel
theorem dX12_factorial_1 : decode cX12_factorial 1 = .ok (.lstore_n 1, 1) := by decide +kernel
theorem dX12_factorial_2 : decode cX12_factorial 2 = .ok (.iconst 2, 1) := by decide +kernel
theorem dX12_factorial_3 : decode cX12_factorial 3 = .ok (.istore_n 3, 1) := by decide +kernel
theorem dX12_factorial_4 : decode cX12_factorial 4 = .ok (.iload_n 3, 1) := by decide +kernel
theorem dX12_factorial_5 : decode cX12_factorial 5 = .ok (.iload_n 0, 1) := by decide +kernel
theorem dX12_factorial_6 : decode cX12_factorial 6 = .ok (.if_icmp .gt 14, 3) := by decide +kernel
theorem dX12_factorial_9 : decode cX12_factorial 9 = .ok (.lload_n 1, 1) := by decide +kernel
theorem dX12_factorial_10 : decode cX12_factorial 10 = .ok (.iload_n 3, 1) := by decide +kernel
theorem dX12_factorial_11 : decode cX12_factorial 11 = .ok (.i2l, 1) := by decide +kernel
theorem dX12_factorial_12 : decode cX12_factorial 12 = .ok (.lmul, 1) := by decide +kernel
theorem dX12_factorial_13 : decode cX12_factorial 13 = .ok (.lstore_n 1, 1) := by decide +kernel
theorem dX12_factorial_14 : decode cX12_factorial 14 = .ok (.iinc 3 1, 3) := by decide +kernel
theorem dX12_factorial_17 : decode cX12_factorial 17 = .ok (.goto (-13), 3) := by decide +kernel
theorem dX12_factorial_20 : decode cX12_factorial 20 = .ok (.lload_n 1, 1) := by decide +kernel
theorem dX12_factorial_21 : decode cX12_factorial 21 = .ok (.lreturn, 1) := by decide +kernel
theorem dX12_power_0 : decode cX12_power 0 = .ok (.aload_n 0, 1) := by decide +kernel
theorem dX12_power_1 : decode cX12_power 1 = .ok (.iload_n 1, 1) := by decide +kernel
theorem dX12_power_2 : decode cX12_power 2 = .ok (.invokevirtual 165, 3) := by decide +kernel
theorem dX12_power_5 : decode cX12_power 5 = .ok (.ifCond .ne 5, 3) := by decide +kernel
theorem dX12_power_8 : decode cX12_power 8 = .ok (.iconst (-1), 1) := by decide +kernel
theorem dX12_power_9 : decode cX12_power 9 = .ok (.ireturn, 1) := by decide +kernel
theorem dX12_power_10 : decode cX12_power 10 = .ok (.iload_n 2, 1) := by decide +kernel
theorem dX12_power_11 : decode cX12_power 11 = .ok (.ifCond .ne 8, 3) := by decide +kernel
theorem dX12_power_14 : decode cX12_power 14 = .ok (.aload_n 0, 1) := by decide +kernel
theorem dX12_power_15 : decode cX12_power 15 = .ok (.invokevirtual 339, 3) := by decide +kernel
theorem dX12_power_18 : decode cX12_power 18 = .ok (.ireturn, 1) := by decide +kernel
theorem dX12_power_19 : decode cX12_power 19 = .ok (.iload_n 2, 1) := by decide +kernel
theorem dX12_power_20 : decode cX12_power 20 = .ok (.bipush 10, 2) := by decide +kernel
theorem dX12_power_22 : decode cX12_power 22 = .ok (.irem, 1) := by decide +kernel
theorem dX12_power_23 : decode cX12_power 23 = .ok (.istore_n 3, 1) := by decide +kernel
theorem dX12_power_24 : decode cX12_power 24 = .ok (.iload_n 2, 1) := by decide +kernel
theorem dX12_power_25 : decode cX12_power 25 = .ok (.bipush 10, 2) := by decide +kernel
theorem dX12_power_27 : decode cX12_power 27 = .ok (.bipush 39, 2) := by decide +kernel
theorem dX12_power_29 : decode cX12_power 29 = .ok (.invokestatic 106, 3) := by decide +kernel
theorem dX12_power_32 : decode cX12_power 32 = .ok (.ifCond .eq 11, 3) := by decide +kernel
theorem dX12_power_35 : decode cX12_power 35 = .ok (.aload_n 0, 1) := by decide +kernel
theorem dX12_power_36 : decode cX12_power 36 = .ok (.iload_n 3, 1) := by decide +kernel
theorem dX12_power_37 : decode cX12_power 37 = .ok (.invokevirtual 168, 3) := by decide +kernel
theorem dX12_power_40 : decode cX12_power 40 = .ok (.ifCond .ne 5, 3) := by decide +kernel
theorem dX12_power_43 : decode cX12_power 43 = .ok (.iconst (-1), 1) := by decide +kernel
theorem dX12_power_44 : decode cX12_power 44 = .ok (.ireturn, 1) := by decide +kernel
theorem dX12_power_45 : decode cX12_power 45 = .ok (.iconst 0, 1) := by decide +kernel
theorem dX12_power_46 : decode cX12_power 46 = .ok (.istore 4, 2) := by decide +kernel
theorem dX12_power_48 : decode cX12_power 48 = .ok (.lconst 0, 1) := by decide +kernel
theorem dX12_power_49 : decode cX12_power 49 = .ok (.lstore 5, 2) := by decide +kernel
theorem dX12_power_51 : decode cX12_power 51 = .ok (.iconst 0, 1) := by decide +kernel
theorem dX12_power_52 : decode cX12_power 52 = .ok (.istore 7, 2) := by decide +kernel
theorem dX12_power_54 : decode cX12_power 54 = .ok (.iload 7, 2) := by decide +kernel
theorem dX12_power_56 : decode cX12_power 56 = .ok (.iconst 1, 1) := by decide +kernel
theorem dX12_power_57 : decode cX12_power 57 = .ok (.aload_n 0, 1) := by decide +kernel
theorem dX12_power_58 : decode cX12_power 58 = .ok (.getfield 159, 3) := by decide +kernel
theorem dX12_power_61 : decode cX12_power 61 = .ok (.ishl, 1) := by decide +kernel
theorem dX12_power_62 : decode cX12_power 62 = .ok (.if_icmp .ge 75, 3) := by decide +kernel
theorem dX12_power_65 : decode cX12_power 65 = .ok (.iload 7, 2) := by decide +kernel
theorem dX12_power_67 : decode cX12_power 67 = .ok (.iload_n 3, 1) := by decide +kernel
theorem dX12_power_68 : decode cX12_power 68 = .ok (.invokestatic 192, 3) := by decide +kernel
theorem dX12_power_71 : decode cX12_power 71 = .ok (.ifCond .ne 60, 3) := by decide +kernel
theorem dX12_power_74 : decode cX12_power 74 = .ok (.aload_n 0, 1) := by decide +kernel
theorem dX12_power_75 : decode cX12_power 75 = .ok (.iload 7, 2) := by decide +kernel
theorem dX12_power_77 : decode cX12_power 77 = .ok (.invokevirtual 323, 3) := by decide +kernel
theorem dX12_power_80 : decode cX12_power 80 = .ok (.ifCond .ne 51, 3) := by decide +kernel
theorem dX12_power_83 : decode cX12_power 83 = .ok (.aload_n 0, 1) := by decide +kernel
theorem dX12_power_84 : decode cX12_power 84 = .ok (.iload 7, 2) := by decide +kernel
theorem dX12_power_86 : decode cX12_power 86 = .ok (.iconst 1, 1) := by decide +kernel
theorem dX12_power_87 : decode cX12_power 87 = .ok (.iload_n 3, 1) := by decide +kernel
theorem dX12_power_88 : decode cX12_power 88 = .ok (.ishl, 1) := by decide +kernel
theorem dX12_power_89 : decode cX12_power 89 = .ok (.ior, 1) := by decide +kernel
theorem dX12_power_90 : decode cX12_power 90 = .ok (.invokevirtual 323, 3) := by decide +kernel
theorem dX12_power_93 : decode cX12_power 93 = .ok (.ifCond .ne 6, 3) := by decide +kernel
theorem dX12_power_96 : decode cX12_power 96 = .ok (.goto 35, 3) := by decide +kernel
theorem dX12_power_99 : decode cX12_power 99 = .ok (.iinc 4 1, 3) := by decide +kernel
theorem dX12_power_102 : decode cX12_power 102 = .ok (.lload 5, 2) := by decide +kernel
theorem dX12_power_104 : decode cX12_power 104 = .ok (.iload 7, 2) := by decide +kernel
theorem dX12_power_106 : decode cX12_power 106 = .ok (.invokestatic 195, 3) := by decide +kernel
theorem dX12_power_109 : decode cX12_power 109 = .ok (.invokestatic 342, 3) := by decide +kernel
theorem dX12_power_112 : decode cX12_power 112 = .ok (.aload_n 0, 1) := by decide +kernel
theorem dX12_power_113 : decode cX12_power 113 = .ok (.getfield 159, 3) := by decide +kernel
theorem dX12_power_116 : decode cX12_power 116 = .ok (.iconst 1, 1) := by decide +kernel
theorem dX12_power_117 : decode cX12_power 117 = .ok (.isub, 1) := by decide +kernel
theorem dX12_power_118 : decode cX12_power 118 = .ok (.iload 7, 2) := by decide +kernel
theorem dX12_power_120 : decode cX12_power 120 = .ok (.invokestatic 195, 3) := by decide +kernel
theorem dX12_power_123 : decode cX12_power 123 = .ok (.isub, 1) := by decide +kernel
theorem dX12_power_124 : decode cX12_power 124 = .ok (.invokestatic 342, 3) := by decide +kernel
theorem dX12_power_127 : decode cX12_power 127 = .ok (.lmul, 1) := by decide +kernel
theorem dX12_power_128 : decode cX12_power 128 = .ok (.ladd, 1) := by decide +kernel
theorem dX12_power_129 : decode cX12_power 129 = .ok (.lstore 5, 2) := by decide +kernel
theorem dX12_power_131 : decode cX12_power 131 = .ok (.iinc 7 1, 3) := by decide +kernel
theorem dX12_power_134 : decode cX12_power 134 = .ok (.goto (-80), 3) := by decide +kernel
theorem dX12_power_137 : decode cX12_power 137 = .ok (.aload_n 0, 1) := by decide +kernel
theorem dX12_power_138 : decode cX12_power 138 = .ok (.getfield 159, 3) := by decide +kernel
theorem dX12_power_141 : decode cX12_power 141 = .ok (.invokestatic 342, 3) := by decide +kernel
theorem dX12_power_144 : decode cX12_power 144 = .ok (.lstore 7, 2) := by decide +kernel
theorem dX12_power_146 : decode cX12_power 146 = .ok (.iload_n 2, 1) := by decide +kernel
theorem dX12_power_147 : decode cX12_power 147 = .ok (.bipush 20, 2) := by decide +kernel
theorem dX12_power_149 : decode cX12_power 149 = .ok (.if_icmp .ge 8, 3) := by decide +kernel
theorem dX12_power_152 : decode cX12_power 152 = .ok (.iload 4, 2) := by decide +kernel
theorem dX12_power_154 : decode cX12_power 154 = .ok (.goto 25, 3) := by decide +kernel
theorem dX12_power_157 : decode cX12_power 157 = .ok (.iload_n 2, 1) := by decide +kernel
theorem dX12_power_158 : decode cX12_power 158 = .ok (.bipush 30, 2) := by decide +kernel
theorem dX12_power_160 : decode cX12_power 160 = .ok (.if_icmp .ge 8, 3) := by decide +kernel
theorem dX12_power_163 : decode cX12_power 163 = .ok (.lload 5, 2) := by decide +kernel
theorem dX12_power_165 : decode cX12_power 165 = .ok (.goto 5, 3) := by decide +kernel
theorem dX12_power_168 : decode cX12_power 168 = .ok (.lload 7, 2) := by decide +kernel
theorem dX12_power_170 : decode cX12_power 170 = .ok (.lload 5, 2) := by decide +kernel
theorem dX12_power_172 : decode cX12_power 172 = .ok (.lload 7, 2) := by decide +kernel
theorem dX12_power_174 : decode cX12_power 174 = .ok (.invokestatic 316, 3) := by decide +kernel
theorem dX12_power_177 : decode cX12_power 177 = .ok (.ldiv, 1) := by decide +kernel
theorem dX12_power_178 : decode cX12_power 178 = .ok (.l2i, 1) := by decide +kernel
theorem dX12_power_179 : decode cX12_power 179 = .ok (.ireturn, 1) := by decide +kernel
