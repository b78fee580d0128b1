theorem dX4_bestQuestion_0 : decode cX4_bestQuestion 0 = .ok (.aload_n 0, 1) := by decide +kernel
theorem dX4_bestQuestion_1 : decode cX4_bestQuestion 1 = .ok (.invokevirtual 51, 3) := by decide +kernel
theorem dX4_bestQuestion_4 : decode cX4_bestQuestion 4 = .ok (.istore_n 2, 1) := by decide +kernel
theorem dX4_bestQuestion_5 : decode cX4_bestQuestion 5 = .ok (.iload_n 2, 1) := by decide +kernel
theorem dX4_bestQuestion_6 : decode cX4_bestQuestion 6 = .ok (.ifCond .ne 5, 3) := by decide +kernel
theorem dX4_bestQuestion_9 : decode cX4_bestQuestion 9 = .ok (.iconst (-1), 1) := by decide +kernel
theorem dX4_bestQuestion_10 : decode cX4_bestQuestion 10 = .ok (.ireturn, 1) := by decide +kernel
theorem dX4_bestQuestion_11 : decode cX4_bestQuestion 11 = .ok (.iconst (-1), 1) := by decide +kernel
theorem dX4_bestQuestion_12 : decode cX4_bestQuestion 12 = .ok (.istore_n 3, 1) := by decide +kernel
theorem dX4_bestQuestion_13 : decode cX4_bestQuestion 13 = .ok (.iload_n 2, 1) := by decide +kernel
theorem dX4_bestQuestion_14 : decode cX4_bestQuestion 14 = .ok (.iconst 1, 1) := by decide +kernel
theorem dX4_bestQuestion_15 : decode cX4_bestQuestion 15 = .ok (.iadd, 1) := by decide +kernel
theorem dX4_bestQuestion_16 : decode cX4_bestQuestion 16 = .ok (.istore 4, 2) := by decide +kernel
theorem dX4_bestQuestion_18 : decode cX4_bestQuestion 18 = .ok (.iconst 0, 1) := by decide +kernel
theorem dX4_bestQuestion_19 : decode cX4_bestQuestion 19 = .ok (.istore 5, 2) := by decide +kernel
theorem dX4_bestQuestion_21 : decode cX4_bestQuestion 21 = .ok (.iload 5, 2) := by decide +kernel
theorem dX4_bestQuestion_23 : decode cX4_bestQuestion 23 = .ok (.bipush 9, 2) := by decide +kernel
theorem dX4_bestQuestion_25 : decode cX4_bestQuestion 25 = .ok (.if_icmp .gt 67, 3) := by decide +kernel
theorem dX4_bestQuestion_28 : decode cX4_bestQuestion 28 = .ok (.iconst 0, 1) := by decide +kernel
theorem dX4_bestQuestion_29 : decode cX4_bestQuestion 29 = .ok (.istore 6, 2) := by decide +kernel
theorem dX4_bestQuestion_31 : decode cX4_bestQuestion 31 = .ok (.iload 6, 2) := by decide +kernel
theorem dX4_bestQuestion_33 : decode cX4_bestQuestion 33 = .ok (.bipush 6, 2) := by decide +kernel
theorem dX4_bestQuestion_35 : decode cX4_bestQuestion 35 = .ok (.if_icmp .gt 51, 3) := by decide +kernel
theorem dX4_bestQuestion_38 : decode cX4_bestQuestion 38 = .ok (.aload_n 0, 1) := by decide +kernel
theorem dX4_bestQuestion_39 : decode cX4_bestQuestion 39 = .ok (.iload_n 1, 1) := by decide +kernel
theorem dX4_bestQuestion_40 : decode cX4_bestQuestion 40 = .ok (.iload 5, 2) := by decide +kernel
theorem dX4_bestQuestion_42 : decode cX4_bestQuestion 42 = .ok (.iload 6, 2) := by decide +kernel
theorem dX4_bestQuestion_44 : decode cX4_bestQuestion 44 = .ok (.invokevirtual 55, 3) := by decide +kernel
theorem dX4_bestQuestion_47 : decode cX4_bestQuestion 47 = .ok (.istore 7, 2) := by decide +kernel
theorem dX4_bestQuestion_49 : decode cX4_bestQuestion 49 = .ok (.iload 7, 2) := by decide +kernel
theorem dX4_bestQuestion_51 : decode cX4_bestQuestion 51 = .ok (.iload_n 2, 1) := by decide +kernel
theorem dX4_bestQuestion_52 : decode cX4_bestQuestion 52 = .ok (.iload 7, 2) := by decide +kernel
theorem dX4_bestQuestion_54 : decode cX4_bestQuestion 54 = .ok (.isub, 1) := by decide +kernel
theorem dX4_bestQuestion_55 : decode cX4_bestQuestion 55 = .ok (.invokestatic 32, 3) := by decide +kernel
theorem dX4_bestQuestion_58 : decode cX4_bestQuestion 58 = .ok (.istore 8, 2) := by decide +kernel
theorem dX4_bestQuestion_60 : decode cX4_bestQuestion 60 = .ok (.iload 8, 2) := by decide +kernel
theorem dX4_bestQuestion_62 : decode cX4_bestQuestion 62 = .ok (.iload 4, 2) := by decide +kernel
theorem dX4_bestQuestion_64 : decode cX4_bestQuestion 64 = .ok (.if_icmp .ge 16, 3) := by decide +kernel
theorem dX4_bestQuestion_67 : decode cX4_bestQuestion 67 = .ok (.iload 8, 2) := by decide +kernel
theorem dX4_bestQuestion_69 : decode cX4_bestQuestion 69 = .ok (.istore 4, 2) := by decide +kernel
theorem dX4_bestQuestion_71 : decode cX4_bestQuestion 71 = .ok (.bipush 10, 2) := by decide +kernel
theorem dX4_bestQuestion_73 : decode cX4_bestQuestion 73 = .ok (.iload 5, 2) := by decide +kernel
theorem dX4_bestQuestion_75 : decode cX4_bestQuestion 75 = .ok (.imul, 1) := by decide +kernel
theorem dX4_bestQuestion_76 : decode cX4_bestQuestion 76 = .ok (.iload 6, 2) := by decide +kernel
theorem dX4_bestQuestion_78 : decode cX4_bestQuestion 78 = .ok (.iadd, 1) := by decide +kernel
theorem dX4_bestQuestion_79 : decode cX4_bestQuestion 79 = .ok (.istore_n 3, 1) := by decide +kernel
theorem dX4_bestQuestion_80 : decode cX4_bestQuestion 80 = .ok (.iinc 6 1, 3) := by decide +kernel
theorem dX4_bestQuestion_83 : decode cX4_bestQuestion 83 = .ok (.goto (-52), 3) := by decide +kernel
theorem dX4_bestQuestion_86 : decode cX4_bestQuestion 86 = .ok (.iinc 5 1, 3) := by decide +kernel
theorem dX4_bestQuestion_89 : decode cX4_bestQuestion 89 = .ok (.goto (-68), 3) := by decide +kernel
theorem dX4_bestQuestion_92 : decode cX4_bestQuestion 92 = .ok (.iload_n 3, 1) := by decide +kernel
theorem dX4_bestQuestion_93 : decode cX4_bestQuestion 93 = .ok (.ireturn, 1) := by decide +kernel
theorem dX11_ask_0 : decode cX11_ask 0 = .ok (.aload_n 0, 1) := by decide +kernel
theorem dX11_ask_1 : decode cX11_ask 1 = .ok (.getfield 10, 3) := by decide +kernel
theorem dX11_ask_4 : decode cX11_ask 4 = .ok (.iload_n 1, 1) := by decide +kernel
theorem dX11_ask_5 : decode cX11_ask 5 = .ok (.invokevirtual 223, 3) := by decide +kernel
theorem dX11_ask_8 : decode cX11_ask 8 = .ok (.astore_n 3, 1) := by decide +kernel
theorem dX11_ask_9 : decode cX11_ask 9 = .ok (.aload_n 3, 1) := by decide +kernel
theorem dX11_ask_10 : decode cX11_ask 10 = .ok (.ifnull 13, 3) := by decide +kernel
theorem dX11_ask_13 : decode cX11_ask 13 = .ok (.iload_n 2, 1) := by decide +kernel
theorem dX11_ask_14 : decode cX11_ask 14 = .ok (.ifCond .lt 9, 3) := by decide +kernel
theorem dX11_ask_17 : decode cX11_ask 17 = .ok (.iload_n 2, 1) := by decide +kernel
theorem dX11_ask_18 : decode cX11_ask 18 = .ok (.bipush 60, 2) := by decide +kernel
theorem dX11_ask_20 : decode cX11_ask 20 = .ok (.if_icmp .le 5, 3) := by decide +kernel
theorem dX11_ask_23 : decode cX11_ask 23 = .ok (.iconst (-1), 1) := by decide +kernel
theorem dX11_ask_24 : decode cX11_ask 24 = .ok (.ireturn, 1) := by decide +kernel
theorem dX11_ask_25 : decode cX11_ask 25 = .ok (.aload_n 3, 1) := by decide +kernel
theorem dX11_ask_26 : decode cX11_ask 26 = .ok (.iload_n 2, 1) := by decide +kernel
theorem dX11_ask_27 : decode cX11_ask 27 = .ok (.invokevirtual 242, 3) := by decide +kernel
theorem dX11_ask_30 : decode cX11_ask 30 = .ok (.ireturn, 1) := by decide +kernel
theorem dX1_drawBelow_0 : decode cX1_drawBelow 0 = .ok (.iload_n 1, 1) := by decide +kernel
theorem dX1_drawBelow_1 : decode cX1_drawBelow 1 = .ok (.ifCond .gt 5, 3) := by decide +kernel
theorem dX1_drawBelow_4 : decode cX1_drawBelow 4 = .ok (.iconst (-1), 1) := by decide +kernel
theorem dX1_drawBelow_5 : decode cX1_drawBelow 5 = .ok (.ireturn, 1) := by decide +kernel
theorem dX1_drawBelow_6 : decode cX1_drawBelow 6 = .ok (.aload_n 0, 1) := by decide +kernel
theorem dX1_drawBelow_7 : decode cX1_drawBelow 7 = .ok (.aload_n 0, 1) := by decide +kernel
theorem dX1_drawBelow_8 : decode cX1_drawBelow 8 = .ok (.getfield 149, 3) := by decide +kernel
theorem dX1_drawBelow_11 : decode cX1_drawBelow 11 = .ok (.ldc 164, 2) := by decide +kernel
theorem dX1_drawBelow_13 : decode cX1_drawBelow 13 = .ok (.imul, 1) := by decide +kernel
theorem dX1_drawBelow_14 : decode cX1_drawBelow 14 = .ok (.sipush 12345, 3) := by decide +kernel
theorem dX1_drawBelow_17 : decode cX1_drawBelow 17 = .ok (.iadd, 1) := by decide +kernel
theorem dX1_drawBelow_18 : decode cX1_drawBelow 18 = .ok (.putfield 149, 3) := by decide +kernel
theorem dX1_drawBelow_21 : decode cX1_drawBelow 21 = .ok (.aload_n 0, 1) := by decide +kernel
theorem dX1_drawBelow_22 : decode cX1_drawBelow 22 = .ok (.getfield 149, 3) := by decide +kernel
theorem dX1_drawBelow_25 : decode cX1_drawBelow 25 = .ok (.bipush 16, 2) := by decide +kernel
theorem dX1_drawBelow_27 : decode cX1_drawBelow 27 = .ok (.iushr, 1) := by decide +kernel
theorem dX1_drawBelow_28 : decode cX1_drawBelow 28 = .ok (.iload_n 1, 1) := by decide +kernel
theorem dX1_drawBelow_29 : decode cX1_drawBelow 29 = .ok (.irem, 1) := by decide +kernel
theorem dX1_drawBelow_30 : decode cX1_drawBelow 30 = .ok (.ireturn, 1) := by decide +kernel
theorem dX1_drawSitting_0 : decode cX1_drawSitting 0 = .ok (.aload_n 0, 1) := by decide +kernel
theorem dX1_drawSitting_1 : decode cX1_drawSitting 1 = .ok (.iload_n 1, 1) := by decide +kernel
theorem dX1_drawSitting_2 : decode cX1_drawSitting 2 = .ok (.invokevirtual 158, 3) := by decide +kernel
theorem dX1_drawSitting_5 : decode cX1_drawSitting 5 = .ok (.istore_n 3, 1) := by decide +kernel
theorem dX1_drawSitting_6 : decode cX1_drawSitting 6 = .ok (.iload_n 3, 1) := by decide +kernel
theorem dX1_drawSitting_7 : decode cX1_drawSitting 7 = .ok (.iconst (-1), 1) := by decide +kernel
theorem dX1_drawSitting_8 : decode cX1_drawSitting 8 = .ok (.if_icmp .eq 14, 3) := by decide +kernel
theorem dX1_drawSitting_11 : decode cX1_drawSitting 11 = .ok (.aload_n 0, 1) := by decide +kernel
theorem dX1_drawSitting_12 : decode cX1_drawSitting 12 = .ok (.iload_n 3, 1) := by decide +kernel
theorem dX1_drawSitting_13 : decode cX1_drawSitting 13 = .ok (.aload_n 0, 1) := by decide +kernel
theorem dX1_drawSitting_14 : decode cX1_drawSitting 14 = .ok (.iload_n 2, 1) := by decide +kernel
theorem dX1_drawSitting_15 : decode cX1_drawSitting 15 = .ok (.invokevirtual 158, 3) := by decide +kernel
theorem dX1_drawSitting_18 : decode cX1_drawSitting 18 = .ok (.invokevirtual 92, 3) := by decide +kernel
theorem dX1_drawSitting_21 : decode cX1_drawSitting 21 = .ok (.pop, 1) := by decide +kernel
theorem dX1_drawSitting_22 : decode cX1_drawSitting 22 = .ok (.return_, 1) := by decide +kernel
theorem dX1_drawDeed_0 : decode cX1_drawDeed 0 = .ok (.aload_n 0, 1) := by decide +kernel
theorem dX1_drawDeed_1 : decode cX1_drawDeed 1 = .ok (.getfield 12, 3) := by decide +kernel
theorem dX1_drawDeed_4 : decode cX1_drawDeed 4 = .ok (.getfield 109, 3) := by decide +kernel
theorem dX1_drawDeed_7 : decode cX1_drawDeed 7 = .ok (.getfield 155, 3) := by decide +kernel
theorem dX1_drawDeed_10 : decode cX1_drawDeed 10 = .ok (.istore_n 1, 1) := by decide +kernel
theorem dX1_drawDeed_11 : decode cX1_drawDeed 11 = .ok (.aload_n 0, 1) := by decide +kernel
theorem dX1_drawDeed_12 : decode cX1_drawDeed 12 = .ok (.getfield 12, 3) := by decide +kernel
theorem dX1_drawDeed_15 : decode cX1_drawDeed 15 = .ok (.getfield 109, 3) := by decide +kernel
theorem dX1_drawDeed_18 : decode cX1_drawDeed 18 = .ok (.getfield 113, 3) := by decide +kernel
theorem dX1_drawDeed_21 : decode cX1_drawDeed 21 = .ok (.istore_n 2, 1) := by decide +kernel
theorem dX1_drawDeed_22 : decode cX1_drawDeed 22 = .ok (.aload_n 0, 1) := by decide +kernel
theorem dX1_drawDeed_23 : decode cX1_drawDeed 23 = .ok (.bipush 8, 2) := by decide +kernel
theorem dX1_drawDeed_25 : decode cX1_drawDeed 25 = .ok (.invokevirtual 158, 3) := by decide +kernel
theorem dX1_drawDeed_28 : decode cX1_drawDeed 28 = .ok (.tableswitch 126 0 6 #[44, 44, 57, 66, 79, 92, 105], 44) := by decide +kernel
theorem dX1_drawDeed_72 : decode cX1_drawDeed 72 = .ok (.aload_n 0, 1) := by decide +kernel
theorem dX1_drawDeed_73 : decode cX1_drawDeed 73 = .ok (.aload_n 0, 1) := by decide +kernel
theorem dX1_drawDeed_74 : decode cX1_drawDeed 74 = .ok (.bipush 64, 2) := by decide +kernel
theorem dX1_drawDeed_76 : decode cX1_drawDeed 76 = .ok (.invokevirtual 158, 3) := by decide +kernel
theorem dX1_drawDeed_79 : decode cX1_drawDeed 79 = .ok (.invokevirtual 78, 3) := by decide +kernel
theorem dX1_drawDeed_82 : decode cX1_drawDeed 82 = .ok (.goto 79, 3) := by decide +kernel
theorem dX1_drawDeed_85 : decode cX1_drawDeed 85 = .ok (.aload_n 0, 1) := by decide +kernel
theorem dX1_drawDeed_86 : decode cX1_drawDeed 86 = .ok (.iload_n 1, 1) := by decide +kernel
theorem dX1_drawDeed_87 : decode cX1_drawDeed 87 = .ok (.iload_n 2, 1) := by decide +kernel
theorem dX1_drawDeed_88 : decode cX1_drawDeed 88 = .ok (.invokevirtual 161, 3) := by decide +kernel
theorem dX1_drawDeed_91 : decode cX1_drawDeed 91 = .ok (.goto 70, 3) := by decide +kernel
theorem dX1_drawDeed_94 : decode cX1_drawDeed 94 = .ok (.aload_n 0, 1) := by decide +kernel
theorem dX1_drawDeed_95 : decode cX1_drawDeed 95 = .ok (.aload_n 0, 1) := by decide +kernel
theorem dX1_drawDeed_96 : decode cX1_drawDeed 96 = .ok (.iload_n 1, 1) := by decide +kernel
theorem dX1_drawDeed_97 : decode cX1_drawDeed 97 = .ok (.invokevirtual 158, 3) := by decide +kernel
theorem dX1_drawDeed_100 : decode cX1_drawDeed 100 = .ok (.invokevirtual 82, 3) := by decide +kernel
theorem dX1_drawDeed_103 : decode cX1_drawDeed 103 = .ok (.pop, 1) := by decide +kernel
theorem dX1_drawDeed_104 : decode cX1_drawDeed 104 = .ok (.goto 57, 3) := by decide +kernel
theorem dX1_drawDeed_107 : decode cX1_drawDeed 107 = .ok (.aload_n 0, 1) := by decide +kernel
theorem dX1_drawDeed_108 : decode cX1_drawDeed 108 = .ok (.aload_n 0, 1) := by decide +kernel
theorem dX1_drawDeed_109 : decode cX1_drawDeed 109 = .ok (.iload_n 2, 1) := by decide +kernel
theorem dX1_drawDeed_110 : decode cX1_drawDeed 110 = .ok (.invokevirtual 158, 3) := by decide +kernel
theorem dX1_drawDeed_113 : decode cX1_drawDeed 113 = .ok (.invokevirtual 86, 3) := by decide +kernel
theorem dX1_drawDeed_116 : decode cX1_drawDeed 116 = .ok (.pop, 1) := by decide +kernel
theorem dX1_drawDeed_117 : decode cX1_drawDeed 117 = .ok (.goto 44, 3) := by decide +kernel
theorem dX1_drawDeed_120 : decode cX1_drawDeed 120 = .ok (.aload_n 0, 1) := by decide +kernel
theorem dX1_drawDeed_121 : decode cX1_drawDeed 121 = .ok (.aload_n 0, 1) := by decide +kernel
theorem dX1_drawDeed_122 : decode cX1_drawDeed 122 = .ok (.iload_n 2, 1) := by decide +kernel
theorem dX1_drawDeed_123 : decode cX1_drawDeed 123 = .ok (.invokevirtual 158, 3) := by decide +kernel
theorem dX1_drawDeed_126 : decode cX1_drawDeed 126 = .ok (.invokevirtual 89, 3) := by decide +kernel
theorem dX1_drawDeed_129 : decode cX1_drawDeed 129 = .ok (.pop, 1) := by decide +kernel
theorem dX1_drawDeed_130 : decode cX1_drawDeed 130 = .ok (.goto 31, 3) := by decide +kernel
theorem dX1_drawDeed_133 : decode cX1_drawDeed 133 = .ok (.aload_n 0, 1) := by decide +kernel
theorem dX1_drawDeed_134 : decode cX1_drawDeed 134 = .ok (.aload_n 0, 1) := by decide +kernel
theorem dX1_drawDeed_135 : decode cX1_drawDeed 135 = .ok (.iconst 2, 1) := by decide +kernel
theorem dX1_drawDeed_136 : decode cX1_drawDeed 136 = .ok (.invokevirtual 158, 3) := by decide +kernel
theorem dX1_drawDeed_139 : decode cX1_drawDeed 139 = .ok (.ifCond .ne 7, 3) := by decide +kernel
theorem dX1_drawDeed_142 : decode cX1_drawDeed 142 = .ok (.iconst 1, 1) := by decide +kernel
theorem dX1_drawDeed_143 : decode cX1_drawDeed 143 = .ok (.goto 4, 3) := by decide +kernel
theorem dX1_drawDeed_146 : decode cX1_drawDeed 146 = .ok (.iconst (-1), 1) := by decide +kernel
theorem dX1_drawDeed_147 : decode cX1_drawDeed 147 = .ok (.invokevirtual 96, 3) := by decide +kernel
theorem dX1_drawDeed_150 : decode cX1_drawDeed 150 = .ok (.pop, 1) := by decide +kernel
theorem dX1_drawDeed_151 : decode cX1_drawDeed 151 = .ok (.goto 10, 3) := by decide +kernel
theorem dX1_drawDeed_154 : decode cX1_drawDeed 154 = .ok (.aload_n 0, 1) := by decide +kernel
theorem dX1_drawDeed_155 : decode cX1_drawDeed 155 = .ok (.getfield 12, 3) := by decide +kernel
theorem dX1_drawDeed_158 : decode cX1_drawDeed 158 = .ok (.invokevirtual 99, 3) := by decide +kernel
theorem dX1_drawDeed_161 : decode cX1_drawDeed 161 = .ok (.return_, 1) := by decide +kernel
theorem dX1_draw_0 : decode cX1_draw 0 = .ok (.aload_n 0, 1) := by decide +kernel
theorem dX1_draw_1 : decode cX1_draw 1 = .ok (.aload_n 1, 1) := by decide +kernel
theorem dX1_draw_2 : decode cX1_draw 2 = .ok (.invokevirtual 48, 3) := by decide +kernel
theorem dX1_draw_5 : decode cX1_draw 5 = .ok (.aload_n 0, 1) := by decide +kernel
theorem dX1_draw_6 : decode cX1_draw 6 = .ok (.iload_n 2, 1) := by decide +kernel
theorem dX1_draw_7 : decode cX1_draw 7 = .ok (.putfield 149, 3) := by decide +kernel
theorem dX1_draw_10 : decode cX1_draw 10 = .ok (.iconst 0, 1) := by decide +kernel
theorem dX1_draw_11 : decode cX1_draw 11 = .ok (.istore 4, 2) := by decide +kernel
theorem dX1_draw_13 : decode cX1_draw 13 = .ok (.iload 4, 2) := by decide +kernel
theorem dX1_draw_15 : decode cX1_draw 15 = .ok (.iload_n 3, 1) := by decide +kernel
theorem dX1_draw_16 : decode cX1_draw 16 = .ok (.if_icmp .ge 13, 3) := by decide +kernel
theorem dX1_draw_19 : decode cX1_draw 19 = .ok (.aload_n 0, 1) := by decide +kernel
theorem dX1_draw_20 : decode cX1_draw 20 = .ok (.invokevirtual 152, 3) := by decide +kernel
theorem dX1_draw_23 : decode cX1_draw 23 = .ok (.iinc 4 1, 3) := by decide +kernel
theorem dX1_draw_26 : decode cX1_draw 26 = .ok (.goto (-13), 3) := by decide +kernel
theorem dX1_draw_29 : decode cX1_draw 29 = .ok (.return_, 1) := by decide +kernel
theorem dX11_drawn_0 : decode cX11_drawn 0 = .ok (.aload_n 0, 1) := by decide +kernel
theorem dX11_drawn_1 : decode cX11_drawn 1 = .ok (.getfield 10, 3) := by decide +kernel
theorem dX11_drawn_4 : decode cX11_drawn 4 = .ok (.iload_n 1, 1) := by decide +kernel
theorem dX11_drawn_5 : decode cX11_drawn 5 = .ok (.invokevirtual 105, 3) := by decide +kernel
theorem dX11_drawn_8 : decode cX11_drawn 8 = .ok (.astore 5, 2) := by decide +kernel
theorem dX11_drawn_10 : decode cX11_drawn 10 = .ok (.aload 5, 2) := by decide +kernel
theorem dX11_drawn_12 : decode cX11_drawn 12 = .ok (.ifnull 13, 3) := by decide +kernel
theorem dX11_drawn_15 : decode cX11_drawn 15 = .ok (.iload_n 3, 1) := by decide +kernel
theorem dX11_drawn_16 : decode cX11_drawn 16 = .ok (.ifCond .lt 9, 3) := by decide +kernel
theorem dX11_drawn_19 : decode cX11_drawn 19 = .ok (.iload_n 3, 1) := by decide +kernel
theorem dX11_drawn_20 : decode cX11_drawn 20 = .ok (.bipush 60, 2) := by decide +kernel
theorem dX11_drawn_22 : decode cX11_drawn 22 = .ok (.if_icmp .le 6, 3) := by decide +kernel
theorem dX11_drawn_25 : decode cX11_drawn 25 = .ok (.bipush (-2), 2) := by decide +kernel
theorem dX11_drawn_27 : decode cX11_drawn 27 = .ok (.ireturn, 1) := by decide +kernel
theorem dX11_drawn_28 : decode cX11_drawn 28 = .ok (.aload_n 0, 1) := by decide +kernel
theorem dX11_drawn_29 : decode cX11_drawn 29 = .ok (.getfield 41, 3) := by decide +kernel
theorem dX11_drawn_32 : decode cX11_drawn 32 = .ok (.aload 5, 2) := by decide +kernel
theorem dX11_drawn_34 : decode cX11_drawn 34 = .ok (.iload_n 2, 1) := by decide +kernel
theorem dX11_drawn_35 : decode cX11_drawn 35 = .ok (.iload_n 3, 1) := by decide +kernel
theorem dX11_drawn_36 : decode cX11_drawn 36 = .ok (.invokevirtual 245, 3) := by decide +kernel
theorem dX11_drawn_39 : decode cX11_drawn 39 = .ok (.aload_n 0, 1) := by decide +kernel
theorem dX11_drawn_40 : decode cX11_drawn 40 = .ok (.getfield 41, 3) := by decide +kernel
theorem dX11_drawn_43 : decode cX11_drawn 43 = .ok (.iload 4, 2) := by decide +kernel
theorem dX11_drawn_45 : decode cX11_drawn 45 = .ok (.invokevirtual 157, 3) := by decide +kernel
theorem dX11_drawn_48 : decode cX11_drawn 48 = .ok (.ireturn, 1) := by decide +kernel
theorem dX11_askedOf_0 : decode cX11_askedOf 0 = .ok (.aload_n 0, 1) := by decide +kernel
theorem dX11_askedOf_1 : decode cX11_askedOf 1 = .ok (.iload_n 1, 1) := by decide +kernel
theorem dX11_askedOf_2 : decode cX11_askedOf 2 = .ok (.iload_n 2, 1) := by decide +kernel
theorem dX11_askedOf_3 : decode cX11_askedOf 3 = .ok (.invokevirtual 115, 3) := by decide +kernel
theorem dX11_askedOf_6 : decode cX11_askedOf 6 = .ok (.astore 4, 2) := by decide +kernel
theorem dX11_askedOf_8 : decode cX11_askedOf 8 = .ok (.aload 4, 2) := by decide +kernel
theorem dX11_askedOf_10 : decode cX11_askedOf 10 = .ok (.ifnull 12, 3) := by decide +kernel
theorem dX11_askedOf_13 : decode cX11_askedOf 13 = .ok (.aload 4, 2) := by decide +kernel
theorem dX11_askedOf_15 : decode cX11_askedOf 15 = .ok (.iload_n 3, 1) := by decide +kernel
theorem dX11_askedOf_16 : decode cX11_askedOf 16 = .ok (.invokevirtual 364, 3) := by decide +kernel
theorem dX11_askedOf_19 : decode cX11_askedOf 19 = .ok (.ifCond .ne 7, 3) := by decide +kernel
theorem dX11_askedOf_22 : decode cX11_askedOf 22 = .ok (.aconst_null, 1) := by decide +kernel
theorem dX11_askedOf_23 : decode cX11_askedOf 23 = .ok (.goto 5, 3) := by decide +kernel
theorem dX11_askedOf_26 : decode cX11_askedOf 26 = .ok (.aload 4, 2) := by decide +kernel
theorem dX11_askedOf_28 : decode cX11_askedOf 28 = .ok (.areturn, 1) := by decide +kernel
theorem dX3_waxesToHush_0 : decode cX3_waxesToHush 0 = .ok (.aload_n 1, 1) := by decide +kernel
theorem dX3_waxesToHush_1 : decode cX3_waxesToHush 1 = .ok (.iload_n 3, 1) := by decide +kernel
theorem dX3_waxesToHush_2 : decode cX3_waxesToHush 2 = .ok (.invokevirtual 65, 3) := by decide +kernel
theorem dX3_waxesToHush_5 : decode cX3_waxesToHush 5 = .ok (.ifCond .ne 5, 3) := by decide +kernel
theorem dX3_waxesToHush_8 : decode cX3_waxesToHush 8 = .ok (.iconst (-1), 1) := by decide +kernel
theorem dX3_waxesToHush_9 : decode cX3_waxesToHush 9 = .ok (.ireturn, 1) := by decide +kernel
theorem dX3_waxesToHush_10 : decode cX3_waxesToHush 10 = .ok (.aload_n 0, 1) := by decide +kernel
theorem dX3_waxesToHush_11 : decode cX3_waxesToHush 11 = .ok (.getfield 18, 3) := by decide +kernel
theorem dX3_waxesToHush_14 : decode cX3_waxesToHush 14 = .ok (.aload_n 1, 1) := by decide +kernel
theorem dX3_waxesToHush_15 : decode cX3_waxesToHush 15 = .ok (.invokevirtual 22, 3) := by decide +kernel
theorem dX3_waxesToHush_18 : decode cX3_waxesToHush 18 = .ok (.iconst 0, 1) := by decide +kernel
theorem dX3_waxesToHush_19 : decode cX3_waxesToHush 19 = .ok (.istore 4, 2) := by decide +kernel
theorem dX3_waxesToHush_21 : decode cX3_waxesToHush 21 = .ok (.iload 4, 2) := by decide +kernel
theorem dX3_waxesToHush_23 : decode cX3_waxesToHush 23 = .ok (.bipush 9, 2) := by decide +kernel
theorem dX3_waxesToHush_25 : decode cX3_waxesToHush 25 = .ok (.if_icmp .gt 35, 3) := by decide +kernel
theorem dX3_waxesToHush_28 : decode cX3_waxesToHush 28 = .ok (.aload_n 0, 1) := by decide +kernel
theorem dX3_waxesToHush_29 : decode cX3_waxesToHush 29 = .ok (.getfield 18, 3) := by decide +kernel
theorem dX3_waxesToHush_32 : decode cX3_waxesToHush 32 = .ok (.getfield 50, 3) := by decide +kernel
theorem dX3_waxesToHush_35 : decode cX3_waxesToHush 35 = .ok (.iload_n 3, 1) := by decide +kernel
theorem dX3_waxesToHush_36 : decode cX3_waxesToHush 36 = .ok (.iload 4, 2) := by decide +kernel
theorem dX3_waxesToHush_38 : decode cX3_waxesToHush 38 = .ok (.iastore, 1) := by decide +kernel
theorem dX3_waxesToHush_39 : decode cX3_waxesToHush 39 = .ok (.aload_n 0, 1) := by decide +kernel
theorem dX3_waxesToHush_40 : decode cX3_waxesToHush 40 = .ok (.getfield 18, 3) := by decide +kernel
theorem dX3_waxesToHush_43 : decode cX3_waxesToHush 43 = .ok (.iload_n 3, 1) := by decide +kernel
theorem dX3_waxesToHush_44 : decode cX3_waxesToHush 44 = .ok (.iload_n 2, 1) := by decide +kernel
theorem dX3_waxesToHush_45 : decode cX3_waxesToHush 45 = .ok (.invokevirtual 57, 3) := by decide +kernel
theorem dX3_waxesToHush_48 : decode cX3_waxesToHush 48 = .ok (.ifCond .ne 6, 3) := by decide +kernel
theorem dX3_waxesToHush_51 : decode cX3_waxesToHush 51 = .ok (.iload 4, 2) := by decide +kernel
theorem dX3_waxesToHush_53 : decode cX3_waxesToHush 53 = .ok (.ireturn, 1) := by decide +kernel
theorem dX3_waxesToHush_54 : decode cX3_waxesToHush 54 = .ok (.iinc 4 1, 3) := by decide +kernel
theorem dX3_waxesToHush_57 : decode cX3_waxesToHush 57 = .ok (.goto (-36), 3) := by decide +kernel
theorem dX3_waxesToHush_60 : decode cX3_waxesToHush 60 = .ok (.iconst (-1), 1) := by decide +kernel
theorem dX3_waxesToHush_61 : decode cX3_waxesToHush 61 = .ok (.ireturn, 1) := by decide +kernel
theorem dX11_hush_0 : decode cX11_hush 0 = .ok (.aload_n 0, 1) := by decide +kernel
theorem dX11_hush_1 : decode cX11_hush 1 = .ok (.iload_n 1, 1) := by decide +kernel
theorem dX11_hush_2 : decode cX11_hush 2 = .ok (.iload_n 2, 1) := by decide +kernel
theorem dX11_hush_3 : decode cX11_hush 3 = .ok (.iload_n 3, 1) := by decide +kernel
theorem dX11_hush_4 : decode cX11_hush 4 = .ok (.invokevirtual 249, 3) := by decide +kernel
theorem dX11_hush_7 : decode cX11_hush 7 = .ok (.astore 4, 2) := by decide +kernel
theorem dX11_hush_9 : decode cX11_hush 9 = .ok (.aload 4, 2) := by decide +kernel
theorem dX11_hush_11 : decode cX11_hush 11 = .ok (.ifnonnull 7, 3) := by decide +kernel
theorem dX11_hush_14 : decode cX11_hush 14 = .ok (.iconst (-1), 1) := by decide +kernel
theorem dX11_hush_15 : decode cX11_hush 15 = .ok (.goto 14, 3) := by decide +kernel
theorem dX11_hush_18 : decode cX11_hush 18 = .ok (.aload_n 0, 1) := by decide +kernel
theorem dX11_hush_19 : decode cX11_hush 19 = .ok (.getfield 62, 3) := by decide +kernel
theorem dX11_hush_22 : decode cX11_hush 22 = .ok (.aload 4, 2) := by decide +kernel
theorem dX11_hush_24 : decode cX11_hush 24 = .ok (.iload_n 2, 1) := by decide +kernel
theorem dX11_hush_25 : decode cX11_hush 25 = .ok (.iload_n 3, 1) := by decide +kernel
theorem dX11_hush_26 : decode cX11_hush 26 = .ok (.invokevirtual 253, 3) := by decide +kernel
theorem dX11_hush_29 : decode cX11_hush 29 = .ok (.ireturn, 1) := by decide +kernel
theorem dX3_nightsToWake_0 : decode cX3_nightsToWake 0 = .ok (.aload_n 0, 1) := by decide +kernel
theorem dX3_nightsToWake_1 : decode cX3_nightsToWake 1 = .ok (.getfield 18, 3) := by decide +kernel
theorem dX3_nightsToWake_4 : decode cX3_nightsToWake 4 = .ok (.aload_n 1, 1) := by decide +kernel
theorem dX3_nightsToWake_5 : decode cX3_nightsToWake 5 = .ok (.invokevirtual 22, 3) := by decide +kernel
theorem dX3_nightsToWake_8 : decode cX3_nightsToWake 8 = .ok (.iconst 0, 1) := by decide +kernel
theorem dX3_nightsToWake_9 : decode cX3_nightsToWake 9 = .ok (.istore 4, 2) := by decide +kernel
theorem dX3_nightsToWake_11 : decode cX3_nightsToWake 11 = .ok (.iload 4, 2) := by decide +kernel
theorem dX3_nightsToWake_13 : decode cX3_nightsToWake 13 = .ok (.bipush 60, 2) := by decide +kernel
theorem dX3_nightsToWake_15 : decode cX3_nightsToWake 15 = .ok (.if_icmp .gt 31, 3) := by decide +kernel
theorem dX3_nightsToWake_18 : decode cX3_nightsToWake 18 = .ok (.aload_n 0, 1) := by decide +kernel
theorem dX3_nightsToWake_19 : decode cX3_nightsToWake 19 = .ok (.getfield 18, 3) := by decide +kernel
theorem dX3_nightsToWake_22 : decode cX3_nightsToWake 22 = .ok (.iload_n 3, 1) := by decide +kernel
theorem dX3_nightsToWake_23 : decode cX3_nightsToWake 23 = .ok (.iload_n 2, 1) := by decide +kernel
theorem dX3_nightsToWake_24 : decode cX3_nightsToWake 24 = .ok (.invokevirtual 57, 3) := by decide +kernel
theorem dX3_nightsToWake_27 : decode cX3_nightsToWake 27 = .ok (.ifCond .eq 6, 3) := by decide +kernel
theorem dX3_nightsToWake_30 : decode cX3_nightsToWake 30 = .ok (.iload 4, 2) := by decide +kernel
theorem dX3_nightsToWake_32 : decode cX3_nightsToWake 32 = .ok (.ireturn, 1) := by decide +kernel
theorem dX3_nightsToWake_33 : decode cX3_nightsToWake 33 = .ok (.aload_n 0, 1) := by decide +kernel
theorem dX3_nightsToWake_34 : decode cX3_nightsToWake 34 = .ok (.getfield 18, 3) := by decide +kernel
theorem dX3_nightsToWake_37 : decode cX3_nightsToWake 37 = .ok (.invokevirtual 69, 3) := by decide +kernel
theorem dX3_nightsToWake_40 : decode cX3_nightsToWake 40 = .ok (.iinc 4 1, 3) := by decide +kernel
theorem dX3_nightsToWake_43 : decode cX3_nightsToWake 43 = .ok (.goto (-32), 3) := by decide +kernel
theorem dX3_nightsToWake_46 : decode cX3_nightsToWake 46 = .ok (.iconst (-1), 1) := by decide +kernel
theorem dX3_nightsToWake_47 : decode cX3_nightsToWake 47 = .ok (.ireturn, 1) := by decide +kernel
theorem dX11_wake_0 : decode cX11_wake 0 = .ok (.aload_n 0, 1) := by decide +kernel
theorem dX11_wake_1 : decode cX11_wake 1 = .ok (.iload_n 1, 1) := by decide +kernel
theorem dX11_wake_2 : decode cX11_wake 2 = .ok (.iload_n 2, 1) := by decide +kernel
theorem dX11_wake_3 : decode cX11_wake 3 = .ok (.iload_n 3, 1) := by decide +kernel
theorem dX11_wake_4 : decode cX11_wake 4 = .ok (.invokevirtual 249, 3) := by decide +kernel
theorem dX11_wake_7 : decode cX11_wake 7 = .ok (.astore 4, 2) := by decide +kernel
theorem dX11_wake_9 : decode cX11_wake 9 = .ok (.aload 4, 2) := by decide +kernel
theorem dX11_wake_11 : decode cX11_wake 11 = .ok (.ifnonnull 7, 3) := by decide +kernel
theorem dX11_wake_14 : decode cX11_wake 14 = .ok (.iconst (-1), 1) := by decide +kernel
theorem dX11_wake_15 : decode cX11_wake 15 = .ok (.goto 14, 3) := by decide +kernel
theorem dX11_wake_18 : decode cX11_wake 18 = .ok (.aload_n 0, 1) := by decide +kernel
theorem dX11_wake_19 : decode cX11_wake 19 = .ok (.getfield 62, 3) := by decide +kernel
theorem dX11_wake_22 : decode cX11_wake 22 = .ok (.aload 4, 2) := by decide +kernel
theorem dX11_wake_24 : decode cX11_wake 24 = .ok (.iload_n 2, 1) := by decide +kernel
theorem dX11_wake_25 : decode cX11_wake 25 = .ok (.iload_n 3, 1) := by decide +kernel
theorem dX11_wake_26 : decode cX11_wake 26 = .ok (.invokevirtual 256, 3) := by decide +kernel
theorem dX11_wake_29 : decode cX11_wake 29 = .ok (.ireturn, 1) := by decide +kernel
theorem dX11_damps_0 : decode cX11_damps 0 = .ok (.aload_n 0, 1) := by decide +kernel
theorem dX11_damps_1 : decode cX11_damps 1 = .ok (.iload_n 1, 1) := by decide +kernel
theorem dX11_damps_2 : decode cX11_damps 2 = .ok (.iload_n 2, 1) := by decide +kernel
theorem dX11_damps_3 : decode cX11_damps 3 = .ok (.invokevirtual 115, 3) := by decide +kernel
theorem dX11_damps_6 : decode cX11_damps 6 = .ok (.astore_n 3, 1) := by decide +kernel
theorem dX11_damps_7 : decode cX11_damps 7 = .ok (.aload_n 3, 1) := by decide +kernel
theorem dX11_damps_8 : decode cX11_damps 8 = .ok (.ifnonnull 7, 3) := by decide +kernel
theorem dX11_damps_11 : decode cX11_damps 11 = .ok (.iconst (-1), 1) := by decide +kernel
theorem dX11_damps_12 : decode cX11_damps 12 = .ok (.goto 12, 3) := by decide +kernel
theorem dX11_damps_15 : decode cX11_damps 15 = .ok (.aload_n 0, 1) := by decide +kernel
theorem dX11_damps_16 : decode cX11_damps 16 = .ok (.getfield 48, 3) := by decide +kernel
theorem dX11_damps_19 : decode cX11_damps 19 = .ok (.aload_n 3, 1) := by decide +kernel
theorem dX11_damps_20 : decode cX11_damps 20 = .ok (.iload_n 2, 1) := by decide +kernel
theorem dX11_damps_21 : decode cX11_damps 21 = .ok (.invokevirtual 259, 3) := by decide +kernel
theorem dX11_damps_24 : decode cX11_damps 24 = .ok (.ireturn, 1) := by decide +kernel
theorem dX3_dampToTip_0 : decode cX3_dampToTip 0 = .ok (.aload_n 1, 1) := by decide +kernel
theorem dX3_dampToTip_1 : decode cX3_dampToTip 1 = .ok (.iload_n 3, 1) := by decide +kernel
theorem dX3_dampToTip_2 : decode cX3_dampToTip 2 = .ok (.invokevirtual 65, 3) := by decide +kernel
theorem dX3_dampToTip_5 : decode cX3_dampToTip 5 = .ok (.ifCond .eq 13, 3) := by decide +kernel
theorem dX3_dampToTip_8 : decode cX3_dampToTip 8 = .ok (.aload_n 1, 1) := by decide +kernel
theorem dX3_dampToTip_9 : decode cX3_dampToTip 9 = .ok (.getfield 72, 3) := by decide +kernel
theorem dX3_dampToTip_12 : decode cX3_dampToTip 12 = .ok (.iload_n 3, 1) := by decide +kernel
theorem dX3_dampToTip_13 : decode cX3_dampToTip 13 = .ok (.iaload, 1) := by decide +kernel
theorem dX3_dampToTip_14 : decode cX3_dampToTip 14 = .ok (.iconst 1, 1) := by decide +kernel
theorem dX3_dampToTip_15 : decode cX3_dampToTip 15 = .ok (.if_icmp .eq 5, 3) := by decide +kernel
theorem dX3_dampToTip_18 : decode cX3_dampToTip 18 = .ok (.iconst (-1), 1) := by decide +kernel
theorem dX3_dampToTip_19 : decode cX3_dampToTip 19 = .ok (.ireturn, 1) := by decide +kernel
theorem dX3_dampToTip_20 : decode cX3_dampToTip 20 = .ok (.aload_n 0, 1) := by decide +kernel
theorem dX3_dampToTip_21 : decode cX3_dampToTip 21 = .ok (.getfield 18, 3) := by decide +kernel
theorem dX3_dampToTip_24 : decode cX3_dampToTip 24 = .ok (.aload_n 1, 1) := by decide +kernel
theorem dX3_dampToTip_25 : decode cX3_dampToTip 25 = .ok (.invokevirtual 22, 3) := by decide +kernel
theorem dX3_dampToTip_28 : decode cX3_dampToTip 28 = .ok (.iconst 0, 1) := by decide +kernel
theorem dX3_dampToTip_29 : decode cX3_dampToTip 29 = .ok (.istore 4, 2) := by decide +kernel
theorem dX3_dampToTip_31 : decode cX3_dampToTip 31 = .ok (.iload 4, 2) := by decide +kernel
theorem dX3_dampToTip_33 : decode cX3_dampToTip 33 = .ok (.bipush 9, 2) := by decide +kernel
theorem dX3_dampToTip_35 : decode cX3_dampToTip 35 = .ok (.if_icmp .gt 36, 3) := by decide +kernel
theorem dX3_dampToTip_38 : decode cX3_dampToTip 38 = .ok (.aload_n 0, 1) := by decide +kernel
theorem dX3_dampToTip_39 : decode cX3_dampToTip 39 = .ok (.getfield 18, 3) := by decide +kernel
theorem dX3_dampToTip_42 : decode cX3_dampToTip 42 = .ok (.getfield 40, 3) := by decide +kernel
theorem dX3_dampToTip_45 : decode cX3_dampToTip 45 = .ok (.iload 4, 2) := by decide +kernel
theorem dX3_dampToTip_47 : decode cX3_dampToTip 47 = .ok (.putfield 75, 3) := by decide +kernel
theorem dX3_dampToTip_50 : decode cX3_dampToTip 50 = .ok (.aload_n 0, 1) := by decide +kernel
theorem dX3_dampToTip_51 : decode cX3_dampToTip 51 = .ok (.getfield 18, 3) := by decide +kernel
theorem dX3_dampToTip_54 : decode cX3_dampToTip 54 = .ok (.iload_n 3, 1) := by decide +kernel
theorem dX3_dampToTip_55 : decode cX3_dampToTip 55 = .ok (.iload_n 2, 1) := by decide +kernel
theorem dX3_dampToTip_56 : decode cX3_dampToTip 56 = .ok (.invokevirtual 57, 3) := by decide +kernel
theorem dX3_dampToTip_59 : decode cX3_dampToTip 59 = .ok (.ifCond .eq 6, 3) := by decide +kernel
theorem dX3_dampToTip_62 : decode cX3_dampToTip 62 = .ok (.iload 4, 2) := by decide +kernel
theorem dX3_dampToTip_64 : decode cX3_dampToTip 64 = .ok (.ireturn, 1) := by decide +kernel
theorem dX3_dampToTip_65 : decode cX3_dampToTip 65 = .ok (.iinc 4 1, 3) := by decide +kernel
theorem dX3_dampToTip_68 : decode cX3_dampToTip 68 = .ok (.goto (-37), 3) := by decide +kernel
theorem dX3_dampToTip_71 : decode cX3_dampToTip 71 = .ok (.iconst (-1), 1) := by decide +kernel
theorem dX3_dampToTip_72 : decode cX3_dampToTip 72 = .ok (.ireturn, 1) := by decide +kernel
theorem dX11_tips_0 : decode cX11_tips 0 = .ok (.aload_n 0, 1) := by decide +kernel
theorem dX11_tips_1 : decode cX11_tips 1 = .ok (.iload_n 1, 1) := by decide +kernel
theorem dX11_tips_2 : decode cX11_tips 2 = .ok (.iload_n 2, 1) := by decide +kernel
theorem dX11_tips_3 : decode cX11_tips 3 = .ok (.iload_n 3, 1) := by decide +kernel
theorem dX11_tips_4 : decode cX11_tips 4 = .ok (.invokevirtual 249, 3) := by decide +kernel
theorem dX11_tips_7 : decode cX11_tips 7 = .ok (.astore 4, 2) := by decide +kernel
theorem dX11_tips_9 : decode cX11_tips 9 = .ok (.aload 4, 2) := by decide +kernel
theorem dX11_tips_11 : decode cX11_tips 11 = .ok (.ifnonnull 7, 3) := by decide +kernel
theorem dX11_tips_14 : decode cX11_tips 14 = .ok (.iconst (-1), 1) := by decide +kernel
theorem dX11_tips_15 : decode cX11_tips 15 = .ok (.goto 14, 3) := by decide +kernel
theorem dX11_tips_18 : decode cX11_tips 18 = .ok (.aload_n 0, 1) := by decide +kernel
theorem dX11_tips_19 : decode cX11_tips 19 = .ok (.getfield 62, 3) := by decide +kernel
theorem dX11_tips_22 : decode cX11_tips 22 = .ok (.aload 4, 2) := by decide +kernel
theorem dX11_tips_24 : decode cX11_tips 24 = .ok (.iload_n 2, 1) := by decide +kernel
theorem dX11_tips_25 : decode cX11_tips 25 = .ok (.iload_n 3, 1) := by decide +kernel
theorem dX11_tips_26 : decode cX11_tips 26 = .ok (.invokevirtual 262, 3) := by decide +kernel
theorem dX11_tips_29 : decode cX11_tips 29 = .ok (.ireturn, 1) := by decide +kernel
theorem dX7_whoTurnsByStanding_0 : decode cX7_whoTurnsByStanding 0 = .ok (.aload_n 0, 1) := by decide +kernel
theorem dX7_whoTurnsByStanding_1 : decode cX7_whoTurnsByStanding 1 = .ok (.getfield 18, 3) := by decide +kernel
theorem dX7_whoTurnsByStanding_4 : decode cX7_whoTurnsByStanding 4 = .ok (.aload_n 1, 1) := by decide +kernel
theorem dX7_whoTurnsByStanding_5 : decode cX7_whoTurnsByStanding 5 = .ok (.invokevirtual 22, 3) := by decide +kernel
theorem dX7_whoTurnsByStanding_8 : decode cX7_whoTurnsByStanding 8 = .ok (.aload_n 0, 1) := by decide +kernel
theorem dX7_whoTurnsByStanding_9 : decode cX7_whoTurnsByStanding 9 = .ok (.getfield 18, 3) := by decide +kernel
theorem dX7_whoTurnsByStanding_12 : decode cX7_whoTurnsByStanding 12 = .ok (.iload_n 2, 1) := by decide +kernel
theorem dX7_whoTurnsByStanding_13 : decode cX7_whoTurnsByStanding 13 = .ok (.invokevirtual 30, 3) := by decide +kernel
theorem dX7_whoTurnsByStanding_16 : decode cX7_whoTurnsByStanding 16 = .ok (.ifCond .le 7, 3) := by decide +kernel
theorem dX7_whoTurnsByStanding_19 : decode cX7_whoTurnsByStanding 19 = .ok (.iconst 1, 1) := by decide +kernel
theorem dX7_whoTurnsByStanding_20 : decode cX7_whoTurnsByStanding 20 = .ok (.goto 4, 3) := by decide +kernel
theorem dX7_whoTurnsByStanding_23 : decode cX7_whoTurnsByStanding 23 = .ok (.iconst 0, 1) := by decide +kernel
theorem dX7_whoTurnsByStanding_24 : decode cX7_whoTurnsByStanding 24 = .ok (.istore_n 3, 1) := by decide +kernel
theorem dX7_whoTurnsByStanding_25 : decode cX7_whoTurnsByStanding 25 = .ok (.iconst 0, 1) := by decide +kernel
theorem dX7_whoTurnsByStanding_26 : decode cX7_whoTurnsByStanding 26 = .ok (.istore 4, 2) := by decide +kernel
theorem dX7_whoTurnsByStanding_28 : decode cX7_whoTurnsByStanding 28 = .ok (.iconst 0, 1) := by decide +kernel
theorem dX7_whoTurnsByStanding_29 : decode cX7_whoTurnsByStanding 29 = .ok (.istore 5, 2) := by decide +kernel
theorem dX7_whoTurnsByStanding_31 : decode cX7_whoTurnsByStanding 31 = .ok (.iload 5, 2) := by decide +kernel
theorem dX7_whoTurnsByStanding_33 : decode cX7_whoTurnsByStanding 33 = .ok (.aload_n 1, 1) := by decide +kernel
theorem dX7_whoTurnsByStanding_34 : decode cX7_whoTurnsByStanding 34 = .ok (.getfield 37, 3) := by decide +kernel
theorem dX7_whoTurnsByStanding_37 : decode cX7_whoTurnsByStanding 37 = .ok (.if_icmp .ge 65, 3) := by decide +kernel
theorem dX7_whoTurnsByStanding_40 : decode cX7_whoTurnsByStanding 40 = .ok (.aload_n 0, 1) := by decide +kernel
theorem dX7_whoTurnsByStanding_41 : decode cX7_whoTurnsByStanding 41 = .ok (.getfield 18, 3) := by decide +kernel
theorem dX7_whoTurnsByStanding_44 : decode cX7_whoTurnsByStanding 44 = .ok (.iload 5, 2) := by decide +kernel
theorem dX7_whoTurnsByStanding_46 : decode cX7_whoTurnsByStanding 46 = .ok (.bipush 8, 2) := by decide +kernel
theorem dX7_whoTurnsByStanding_48 : decode cX7_whoTurnsByStanding 48 = .ok (.invokevirtual 62, 3) := by decide +kernel
theorem dX7_whoTurnsByStanding_51 : decode cX7_whoTurnsByStanding 51 = .ok (.aload_n 0, 1) := by decide +kernel
theorem dX7_whoTurnsByStanding_52 : decode cX7_whoTurnsByStanding 52 = .ok (.getfield 18, 3) := by decide +kernel
theorem dX7_whoTurnsByStanding_55 : decode cX7_whoTurnsByStanding 55 = .ok (.iload_n 2, 1) := by decide +kernel
theorem dX7_whoTurnsByStanding_56 : decode cX7_whoTurnsByStanding 56 = .ok (.invokevirtual 30, 3) := by decide +kernel
theorem dX7_whoTurnsByStanding_59 : decode cX7_whoTurnsByStanding 59 = .ok (.ifCond .le 7, 3) := by decide +kernel
theorem dX7_whoTurnsByStanding_62 : decode cX7_whoTurnsByStanding 62 = .ok (.iconst 1, 1) := by decide +kernel
theorem dX7_whoTurnsByStanding_63 : decode cX7_whoTurnsByStanding 63 = .ok (.goto 4, 3) := by decide +kernel
theorem dX7_whoTurnsByStanding_66 : decode cX7_whoTurnsByStanding 66 = .ok (.iconst 0, 1) := by decide +kernel
theorem dX7_whoTurnsByStanding_67 : decode cX7_whoTurnsByStanding 67 = .ok (.iload_n 3, 1) := by decide +kernel
theorem dX7_whoTurnsByStanding_68 : decode cX7_whoTurnsByStanding 68 = .ok (.if_icmp .eq 12, 3) := by decide +kernel
theorem dX7_whoTurnsByStanding_71 : decode cX7_whoTurnsByStanding 71 = .ok (.iload 4, 2) := by decide +kernel
theorem dX7_whoTurnsByStanding_73 : decode cX7_whoTurnsByStanding 73 = .ok (.iconst 1, 1) := by decide +kernel
theorem dX7_whoTurnsByStanding_74 : decode cX7_whoTurnsByStanding 74 = .ok (.iload 5, 2) := by decide +kernel
theorem dX7_whoTurnsByStanding_76 : decode cX7_whoTurnsByStanding 76 = .ok (.ishl, 1) := by decide +kernel
theorem dX7_whoTurnsByStanding_77 : decode cX7_whoTurnsByStanding 77 = .ok (.ior, 1) := by decide +kernel
theorem dX7_whoTurnsByStanding_78 : decode cX7_whoTurnsByStanding 78 = .ok (.istore 4, 2) := by decide +kernel
theorem dX7_whoTurnsByStanding_80 : decode cX7_whoTurnsByStanding 80 = .ok (.aload_n 0, 1) := by decide +kernel
theorem dX7_whoTurnsByStanding_81 : decode cX7_whoTurnsByStanding 81 = .ok (.getfield 18, 3) := by decide +kernel
theorem dX7_whoTurnsByStanding_84 : decode cX7_whoTurnsByStanding 84 = .ok (.iload 5, 2) := by decide +kernel
theorem dX7_whoTurnsByStanding_86 : decode cX7_whoTurnsByStanding 86 = .ok (.aload_n 1, 1) := by decide +kernel
theorem dX7_whoTurnsByStanding_87 : decode cX7_whoTurnsByStanding 87 = .ok (.getfield 53, 3) := by decide +kernel
theorem dX7_whoTurnsByStanding_90 : decode cX7_whoTurnsByStanding 90 = .ok (.iload 5, 2) := by decide +kernel
theorem dX7_whoTurnsByStanding_92 : decode cX7_whoTurnsByStanding 92 = .ok (.iaload, 1) := by decide +kernel
theorem dX7_whoTurnsByStanding_93 : decode cX7_whoTurnsByStanding 93 = .ok (.invokevirtual 62, 3) := by decide +kernel
theorem dX7_whoTurnsByStanding_96 : decode cX7_whoTurnsByStanding 96 = .ok (.iinc 5 1, 3) := by decide +kernel
theorem dX7_whoTurnsByStanding_99 : decode cX7_whoTurnsByStanding 99 = .ok (.goto (-68), 3) := by decide +kernel
theorem dX7_whoTurnsByStanding_102 : decode cX7_whoTurnsByStanding 102 = .ok (.iload 4, 2) := by decide +kernel
theorem dX7_whoTurnsByStanding_104 : decode cX7_whoTurnsByStanding 104 = .ok (.ireturn, 1) := by decide +kernel
theorem dX11_weighty_0 : decode cX11_weighty 0 = .ok (.aload_n 0, 1) := by decide +kernel
theorem dX11_weighty_1 : decode cX11_weighty 1 = .ok (.iload_n 1, 1) := by decide +kernel
theorem dX11_weighty_2 : decode cX11_weighty 2 = .ok (.iload_n 2, 1) := by decide +kernel
theorem dX11_weighty_3 : decode cX11_weighty 3 = .ok (.invokevirtual 115, 3) := by decide +kernel
theorem dX11_weighty_6 : decode cX11_weighty 6 = .ok (.astore_n 3, 1) := by decide +kernel
theorem dX11_weighty_7 : decode cX11_weighty 7 = .ok (.aload_n 3, 1) := by decide +kernel
theorem dX11_weighty_8 : decode cX11_weighty 8 = .ok (.ifnonnull 7, 3) := by decide +kernel
theorem dX11_weighty_11 : decode cX11_weighty 11 = .ok (.iconst (-1), 1) := by decide +kernel
theorem dX11_weighty_12 : decode cX11_weighty 12 = .ok (.goto 12, 3) := by decide +kernel
theorem dX11_weighty_15 : decode cX11_weighty 15 = .ok (.aload_n 0, 1) := by decide +kernel
theorem dX11_weighty_16 : decode cX11_weighty 16 = .ok (.getfield 55, 3) := by decide +kernel
theorem dX11_weighty_19 : decode cX11_weighty 19 = .ok (.aload_n 3, 1) := by decide +kernel
theorem dX11_weighty_20 : decode cX11_weighty 20 = .ok (.iload_n 2, 1) := by decide +kernel
theorem dX11_weighty_21 : decode cX11_weighty 21 = .ok (.invokevirtual 265, 3) := by decide +kernel
theorem dX11_weighty_24 : decode cX11_weighty 24 = .ok (.ireturn, 1) := by decide +kernel
theorem dX10_fewestWith_0 : decode cX10_fewestWith 0 = .ok (.iconst (-1), 1) := by decide +kernel
theorem dX10_fewestWith_1 : decode cX10_fewestWith 1 = .ok (.istore_n 3, 1) := by decide +kernel
theorem dX10_fewestWith_2 : decode cX10_fewestWith 2 = .ok (.bipush 7, 2) := by decide +kernel
theorem dX10_fewestWith_4 : decode cX10_fewestWith 4 = .ok (.istore 4, 2) := by decide +kernel
theorem dX10_fewestWith_6 : decode cX10_fewestWith 6 = .ok (.iconst 0, 1) := by decide +kernel
theorem dX10_fewestWith_7 : decode cX10_fewestWith 7 = .ok (.istore 5, 2) := by decide +kernel
theorem dX10_fewestWith_9 : decode cX10_fewestWith 9 = .ok (.iload 5, 2) := by decide +kernel
theorem dX10_fewestWith_11 : decode cX10_fewestWith 11 = .ok (.bipush 64, 2) := by decide +kernel
theorem dX10_fewestWith_13 : decode cX10_fewestWith 13 = .ok (.if_icmp .ge 47, 3) := by decide +kernel
theorem dX10_fewestWith_16 : decode cX10_fewestWith 16 = .ok (.iload 5, 2) := by decide +kernel
theorem dX10_fewestWith_18 : decode cX10_fewestWith 18 = .ok (.invokestatic 60, 3) := by decide +kernel
theorem dX10_fewestWith_21 : decode cX10_fewestWith 21 = .ok (.istore 6, 2) := by decide +kernel
theorem dX10_fewestWith_23 : decode cX10_fewestWith 23 = .ok (.iload 5, 2) := by decide +kernel
theorem dX10_fewestWith_25 : decode cX10_fewestWith 25 = .ok (.iload_n 2, 1) := by decide +kernel
theorem dX10_fewestWith_26 : decode cX10_fewestWith 26 = .ok (.iand, 1) := by decide +kernel
theorem dX10_fewestWith_27 : decode cX10_fewestWith 27 = .ok (.iload_n 2, 1) := by decide +kernel
theorem dX10_fewestWith_28 : decode cX10_fewestWith 28 = .ok (.if_icmp .ne 26, 3) := by decide +kernel
theorem dX10_fewestWith_31 : decode cX10_fewestWith 31 = .ok (.iload 6, 2) := by decide +kernel
theorem dX10_fewestWith_33 : decode cX10_fewestWith 33 = .ok (.iload 4, 2) := by decide +kernel
theorem dX10_fewestWith_35 : decode cX10_fewestWith 35 = .ok (.if_icmp .ge 19, 3) := by decide +kernel
theorem dX10_fewestWith_38 : decode cX10_fewestWith 38 = .ok (.lload_n 0, 1) := by decide +kernel
theorem dX10_fewestWith_39 : decode cX10_fewestWith 39 = .ok (.iload 5, 2) := by decide +kernel
theorem dX10_fewestWith_41 : decode cX10_fewestWith 41 = .ok (.invokestatic 56, 3) := by decide +kernel
theorem dX10_fewestWith_44 : decode cX10_fewestWith 44 = .ok (.ifCond .eq 10, 3) := by decide +kernel
theorem dX10_fewestWith_47 : decode cX10_fewestWith 47 = .ok (.iload 6, 2) := by decide +kernel
theorem dX10_fewestWith_49 : decode cX10_fewestWith 49 = .ok (.istore 4, 2) := by decide +kernel
theorem dX10_fewestWith_51 : decode cX10_fewestWith 51 = .ok (.iload 5, 2) := by decide +kernel
theorem dX10_fewestWith_53 : decode cX10_fewestWith 53 = .ok (.istore_n 3, 1) := by decide +kernel
theorem dX10_fewestWith_54 : decode cX10_fewestWith 54 = .ok (.iinc 5 1, 3) := by decide +kernel
theorem dX10_fewestWith_57 : decode cX10_fewestWith 57 = .ok (.goto (-48), 3) := by decide +kernel
theorem dX10_fewestWith_60 : decode cX10_fewestWith 60 = .ok (.iload_n 3, 1) := by decide +kernel
theorem dX10_fewestWith_61 : decode cX10_fewestWith 61 = .ok (.ireturn, 1) := by decide +kernel
theorem dX11_worded_0 : decode cX11_worded 0 = .ok (.aload_n 0, 1) := by decide +kernel
theorem dX11_worded_1 : decode cX11_worded 1 = .ok (.iload_n 1, 1) := by decide +kernel
theorem dX11_worded_2 : decode cX11_worded 2 = .ok (.iload_n 2, 1) := by decide +kernel
theorem dX11_worded_3 : decode cX11_worded 3 = .ok (.invokevirtual 115, 3) := by decide +kernel
theorem dX11_worded_6 : decode cX11_worded 6 = .ok (.astore_n 3, 1) := by decide +kernel
theorem dX11_worded_7 : decode cX11_worded 7 = .ok (.aload_n 3, 1) := by decide +kernel
theorem dX11_worded_8 : decode cX11_worded 8 = .ok (.ifnonnull 7, 3) := by decide +kernel
theorem dX11_worded_11 : decode cX11_worded 11 = .ok (.iconst (-1), 1) := by decide +kernel
theorem dX11_worded_12 : decode cX11_worded 12 = .ok (.goto 15, 3) := by decide +kernel
theorem dX11_worded_15 : decode cX11_worded 15 = .ok (.aload_n 0, 1) := by decide +kernel
theorem dX11_worded_16 : decode cX11_worded 16 = .ok (.getfield 48, 3) := by decide +kernel
theorem dX11_worded_19 : decode cX11_worded 19 = .ok (.aload_n 3, 1) := by decide +kernel
theorem dX11_worded_20 : decode cX11_worded 20 = .ok (.invokevirtual 158, 3) := by decide +kernel
theorem dX11_worded_23 : decode cX11_worded 23 = .ok (.iload_n 2, 1) := by decide +kernel
theorem dX11_worded_24 : decode cX11_worded 24 = .ok (.invokestatic 268, 3) := by decide +kernel
theorem dX11_worded_27 : decode cX11_worded 27 = .ok (.ireturn, 1) := by decide +kernel
theorem dX10_clearSet_0 : decode cX10_clearSet 0 = .ok (.aload_n 0, 1) := by decide +kernel
theorem dX10_clearSet_1 : decode cX10_clearSet 1 = .ok (.getfield 12, 3) := by decide +kernel
theorem dX10_clearSet_4 : decode cX10_clearSet 4 = .ok (.aload_n 1, 1) := by decide +kernel
theorem dX10_clearSet_5 : decode cX10_clearSet 5 = .ok (.invokevirtual 25, 3) := by decide +kernel
theorem dX10_clearSet_8 : decode cX10_clearSet 8 = .ok (.lconst 0, 1) := by decide +kernel
theorem dX10_clearSet_9 : decode cX10_clearSet 9 = .ok (.lstore_n 2, 1) := by decide +kernel
theorem dX10_clearSet_10 : decode cX10_clearSet 10 = .ok (.iconst 0, 1) := by decide +kernel
theorem dX10_clearSet_11 : decode cX10_clearSet 11 = .ok (.istore 4, 2) := by decide +kernel
theorem dX10_clearSet_13 : decode cX10_clearSet 13 = .ok (.iload 4, 2) := by decide +kernel
theorem dX10_clearSet_15 : decode cX10_clearSet 15 = .ok (.bipush 64, 2) := by decide +kernel
theorem dX10_clearSet_17 : decode cX10_clearSet 17 = .ok (.if_icmp .ge 46, 3) := by decide +kernel
theorem dX10_clearSet_20 : decode cX10_clearSet 20 = .ok (.aload_n 0, 1) := by decide +kernel
theorem dX10_clearSet_21 : decode cX10_clearSet 21 = .ok (.getfield 12, 3) := by decide +kernel
theorem dX10_clearSet_24 : decode cX10_clearSet 24 = .ok (.iload 4, 2) := by decide +kernel
theorem dX10_clearSet_26 : decode cX10_clearSet 26 = .ok (.invokevirtual 29, 3) := by decide +kernel
theorem dX10_clearSet_29 : decode cX10_clearSet 29 = .ok (.pop, 1) := by decide +kernel
theorem dX10_clearSet_30 : decode cX10_clearSet 30 = .ok (.aload_n 0, 1) := by decide +kernel
theorem dX10_clearSet_31 : decode cX10_clearSet 31 = .ok (.getfield 12, 3) := by decide +kernel
theorem dX10_clearSet_34 : decode cX10_clearSet 34 = .ok (.getfield 33, 3) := by decide +kernel
theorem dX10_clearSet_37 : decode cX10_clearSet 37 = .ok (.ifCond .le 20, 3) := by decide +kernel
theorem dX10_clearSet_40 : decode cX10_clearSet 40 = .ok (.aload_n 0, 1) := by decide +kernel
theorem dX10_clearSet_41 : decode cX10_clearSet 41 = .ok (.getfield 12, 3) := by decide +kernel
theorem dX10_clearSet_44 : decode cX10_clearSet 44 = .ok (.getfield 37, 3) := by decide +kernel
theorem dX10_clearSet_47 : decode cX10_clearSet 47 = .ok (.ifCond .ne 10, 3) := by decide +kernel
theorem dX10_clearSet_50 : decode cX10_clearSet 50 = .ok (.lload_n 2, 1) := by decide +kernel
theorem dX10_clearSet_51 : decode cX10_clearSet 51 = .ok (.lconst 1, 1) := by decide +kernel
theorem dX10_clearSet_52 : decode cX10_clearSet 52 = .ok (.iload 4, 2) := by decide +kernel
theorem dX10_clearSet_54 : decode cX10_clearSet 54 = .ok (.lshl, 1) := by decide +kernel
theorem dX10_clearSet_55 : decode cX10_clearSet 55 = .ok (.lor, 1) := by decide +kernel
theorem dX10_clearSet_56 : decode cX10_clearSet 56 = .ok (.lstore_n 2, 1) := by decide +kernel
theorem dX10_clearSet_57 : decode cX10_clearSet 57 = .ok (.iinc 4 1, 3) := by decide +kernel
theorem dX10_clearSet_60 : decode cX10_clearSet 60 = .ok (.goto (-47), 3) := by decide +kernel
theorem dX10_clearSet_63 : decode cX10_clearSet 63 = .ok (.lload_n 2, 1) := by decide +kernel
theorem dX10_clearSet_64 : decode cX10_clearSet 64 = .ok (.lreturn, 1) := by decide +kernel
theorem dX11_clear_0 : decode cX11_clear 0 = .ok (.aload_n 0, 1) := by decide +kernel
theorem dX11_clear_1 : decode cX11_clear 1 = .ok (.getfield 10, 3) := by decide +kernel
theorem dX11_clear_4 : decode cX11_clear 4 = .ok (.iload_n 1, 1) := by decide +kernel
theorem dX11_clear_5 : decode cX11_clear 5 = .ok (.invokevirtual 105, 3) := by decide +kernel
theorem dX11_clear_8 : decode cX11_clear 8 = .ok (.astore_n 3, 1) := by decide +kernel
theorem dX11_clear_9 : decode cX11_clear 9 = .ok (.aload_n 3, 1) := by decide +kernel
theorem dX11_clear_10 : decode cX11_clear 10 = .ok (.ifnonnull 7, 3) := by decide +kernel
theorem dX11_clear_13 : decode cX11_clear 13 = .ok (.iconst (-1), 1) := by decide +kernel
theorem dX11_clear_14 : decode cX11_clear 14 = .ok (.goto 15, 3) := by decide +kernel
theorem dX11_clear_17 : decode cX11_clear 17 = .ok (.aload_n 0, 1) := by decide +kernel
theorem dX11_clear_18 : decode cX11_clear 18 = .ok (.getfield 48, 3) := by decide +kernel
theorem dX11_clear_21 : decode cX11_clear 21 = .ok (.aload_n 3, 1) := by decide +kernel
theorem dX11_clear_22 : decode cX11_clear 22 = .ok (.invokevirtual 271, 3) := by decide +kernel
theorem dX11_clear_25 : decode cX11_clear 25 = .ok (.iload_n 2, 1) := by decide +kernel
theorem dX11_clear_26 : decode cX11_clear 26 = .ok (.invokestatic 162, 3) := by decide +kernel
theorem dX11_clear_29 : decode cX11_clear 29 = .ok (.ireturn, 1) := by decide +kernel
theorem dX7_seatBest_0 : decode cX7_seatBest 0 = .ok (.sipush (-1000), 3) := by decide +kernel
theorem dX7_seatBest_3 : decode cX7_seatBest 3 = .ok (.istore_n 3, 1) := by decide +kernel
theorem dX7_seatBest_4 : decode cX7_seatBest 4 = .ok (.bipush 8, 2) := by decide +kernel
theorem dX7_seatBest_6 : decode cX7_seatBest 6 = .ok (.istore 4, 2) := by decide +kernel
theorem dX7_seatBest_8 : decode cX7_seatBest 8 = .ok (.iconst 0, 1) := by decide +kernel
theorem dX7_seatBest_9 : decode cX7_seatBest 9 = .ok (.istore 5, 2) := by decide +kernel
theorem dX7_seatBest_11 : decode cX7_seatBest 11 = .ok (.iload 5, 2) := by decide +kernel
theorem dX7_seatBest_13 : decode cX7_seatBest 13 = .ok (.aload_n 0, 1) := by decide +kernel
theorem dX7_seatBest_14 : decode cX7_seatBest 14 = .ok (.getfield 18, 3) := by decide +kernel
theorem dX7_seatBest_17 : decode cX7_seatBest 17 = .ok (.getfield 49, 3) := by decide +kernel
theorem dX7_seatBest_20 : decode cX7_seatBest 20 = .ok (.getfield 56, 3) := by decide +kernel
theorem dX7_seatBest_23 : decode cX7_seatBest 23 = .ok (.if_icmp .gt 56, 3) := by decide +kernel
theorem dX7_seatBest_26 : decode cX7_seatBest 26 = .ok (.aload_n 0, 1) := by decide +kernel
theorem dX7_seatBest_27 : decode cX7_seatBest 27 = .ok (.getfield 18, 3) := by decide +kernel
theorem dX7_seatBest_30 : decode cX7_seatBest 30 = .ok (.iload_n 1, 1) := by decide +kernel
theorem dX7_seatBest_31 : decode cX7_seatBest 31 = .ok (.aload_n 0, 1) := by decide +kernel
theorem dX7_seatBest_32 : decode cX7_seatBest 32 = .ok (.getfield 18, 3) := by decide +kernel
theorem dX7_seatBest_35 : decode cX7_seatBest 35 = .ok (.iload 5, 2) := by decide +kernel
theorem dX7_seatBest_37 : decode cX7_seatBest 37 = .ok (.invokevirtual 59, 3) := by decide +kernel
theorem dX7_seatBest_40 : decode cX7_seatBest 40 = .ok (.invokevirtual 62, 3) := by decide +kernel
theorem dX7_seatBest_43 : decode cX7_seatBest 43 = .ok (.aload_n 0, 1) := by decide +kernel
theorem dX7_seatBest_44 : decode cX7_seatBest 44 = .ok (.getfield 18, 3) := by decide +kernel
theorem dX7_seatBest_47 : decode cX7_seatBest 47 = .ok (.iload_n 2, 1) := by decide +kernel
theorem dX7_seatBest_48 : decode cX7_seatBest 48 = .ok (.invokevirtual 30, 3) := by decide +kernel
theorem dX7_seatBest_51 : decode cX7_seatBest 51 = .ok (.istore 6, 2) := by decide +kernel
theorem dX7_seatBest_53 : decode cX7_seatBest 53 = .ok (.iload 6, 2) := by decide +kernel
theorem dX7_seatBest_55 : decode cX7_seatBest 55 = .ok (.iload_n 3, 1) := by decide +kernel
theorem dX7_seatBest_56 : decode cX7_seatBest 56 = .ok (.if_icmp .le 17, 3) := by decide +kernel
theorem dX7_seatBest_59 : decode cX7_seatBest 59 = .ok (.iload 6, 2) := by decide +kernel
theorem dX7_seatBest_61 : decode cX7_seatBest 61 = .ok (.istore_n 3, 1) := by decide +kernel
theorem dX7_seatBest_62 : decode cX7_seatBest 62 = .ok (.aload_n 0, 1) := by decide +kernel
theorem dX7_seatBest_63 : decode cX7_seatBest 63 = .ok (.getfield 18, 3) := by decide +kernel
theorem dX7_seatBest_66 : decode cX7_seatBest 66 = .ok (.iload 5, 2) := by decide +kernel
theorem dX7_seatBest_68 : decode cX7_seatBest 68 = .ok (.invokevirtual 59, 3) := by decide +kernel
theorem dX7_seatBest_71 : decode cX7_seatBest 71 = .ok (.istore 4, 2) := by decide +kernel
theorem dX7_seatBest_73 : decode cX7_seatBest 73 = .ok (.iinc 5 1, 3) := by decide +kernel
theorem dX7_seatBest_76 : decode cX7_seatBest 76 = .ok (.goto (-65), 3) := by decide +kernel
theorem dX7_seatBest_79 : decode cX7_seatBest 79 = .ok (.aload_n 0, 1) := by decide +kernel
theorem dX7_seatBest_80 : decode cX7_seatBest 80 = .ok (.getfield 18, 3) := by decide +kernel
theorem dX7_seatBest_83 : decode cX7_seatBest 83 = .ok (.iload_n 1, 1) := by decide +kernel
theorem dX7_seatBest_84 : decode cX7_seatBest 84 = .ok (.iload 4, 2) := by decide +kernel
theorem dX7_seatBest_86 : decode cX7_seatBest 86 = .ok (.invokevirtual 62, 3) := by decide +kernel
theorem dX7_seatBest_89 : decode cX7_seatBest 89 = .ok (.iload_n 3, 1) := by decide +kernel
theorem dX7_seatBest_90 : decode cX7_seatBest 90 = .ok (.ireturn, 1) := by decide +kernel
theorem dX7_seatGreedily_0 : decode cX7_seatGreedily 0 = .ok (.aload_n 0, 1) := by decide +kernel
theorem dX7_seatGreedily_1 : decode cX7_seatGreedily 1 = .ok (.getfield 18, 3) := by decide +kernel
theorem dX7_seatGreedily_4 : decode cX7_seatGreedily 4 = .ok (.aload_n 1, 1) := by decide +kernel
theorem dX7_seatGreedily_5 : decode cX7_seatGreedily 5 = .ok (.invokevirtual 22, 3) := by decide +kernel
theorem dX7_seatGreedily_8 : decode cX7_seatGreedily 8 = .ok (.iconst 0, 1) := by decide +kernel
theorem dX7_seatGreedily_9 : decode cX7_seatGreedily 9 = .ok (.istore_n 3, 1) := by decide +kernel
theorem dX7_seatGreedily_10 : decode cX7_seatGreedily 10 = .ok (.iload_n 3, 1) := by decide +kernel
theorem dX7_seatGreedily_11 : decode cX7_seatGreedily 11 = .ok (.aload_n 1, 1) := by decide +kernel
theorem dX7_seatGreedily_12 : decode cX7_seatGreedily 12 = .ok (.getfield 37, 3) := by decide +kernel
theorem dX7_seatGreedily_15 : decode cX7_seatGreedily 15 = .ok (.if_icmp .ge 19, 3) := by decide +kernel
theorem dX7_seatGreedily_18 : decode cX7_seatGreedily 18 = .ok (.aload_n 0, 1) := by decide +kernel
theorem dX7_seatGreedily_19 : decode cX7_seatGreedily 19 = .ok (.getfield 18, 3) := by decide +kernel
theorem dX7_seatGreedily_22 : decode cX7_seatGreedily 22 = .ok (.iload_n 3, 1) := by decide +kernel
theorem dX7_seatGreedily_23 : decode cX7_seatGreedily 23 = .ok (.bipush 8, 2) := by decide +kernel
theorem dX7_seatGreedily_25 : decode cX7_seatGreedily 25 = .ok (.invokevirtual 62, 3) := by decide +kernel
theorem dX7_seatGreedily_28 : decode cX7_seatGreedily 28 = .ok (.iinc 3 1, 3) := by decide +kernel
theorem dX7_seatGreedily_31 : decode cX7_seatGreedily 31 = .ok (.goto (-21), 3) := by decide +kernel
theorem dX7_seatGreedily_34 : decode cX7_seatGreedily 34 = .ok (.iconst 0, 1) := by decide +kernel
theorem dX7_seatGreedily_35 : decode cX7_seatGreedily 35 = .ok (.istore_n 3, 1) := by decide +kernel
theorem dX7_seatGreedily_36 : decode cX7_seatGreedily 36 = .ok (.iload_n 3, 1) := by decide +kernel
theorem dX7_seatGreedily_37 : decode cX7_seatGreedily 37 = .ok (.aload_n 1, 1) := by decide +kernel
theorem dX7_seatGreedily_38 : decode cX7_seatGreedily 38 = .ok (.getfield 37, 3) := by decide +kernel
theorem dX7_seatGreedily_41 : decode cX7_seatGreedily 41 = .ok (.if_icmp .ge 16, 3) := by decide +kernel
theorem dX7_seatGreedily_44 : decode cX7_seatGreedily 44 = .ok (.aload_n 0, 1) := by decide +kernel
theorem dX7_seatGreedily_45 : decode cX7_seatGreedily 45 = .ok (.iload_n 3, 1) := by decide +kernel
theorem dX7_seatGreedily_46 : decode cX7_seatGreedily 46 = .ok (.iload_n 2, 1) := by decide +kernel
theorem dX7_seatGreedily_47 : decode cX7_seatGreedily 47 = .ok (.invokevirtual 71, 3) := by decide +kernel
theorem dX7_seatGreedily_50 : decode cX7_seatGreedily 50 = .ok (.pop, 1) := by decide +kernel
theorem dX7_seatGreedily_51 : decode cX7_seatGreedily 51 = .ok (.iinc 3 1, 3) := by decide +kernel
theorem dX7_seatGreedily_54 : decode cX7_seatGreedily 54 = .ok (.goto (-18), 3) := by decide +kernel
theorem dX7_seatGreedily_57 : decode cX7_seatGreedily 57 = .ok (.aload_n 0, 1) := by decide +kernel
theorem dX7_seatGreedily_58 : decode cX7_seatGreedily 58 = .ok (.getfield 18, 3) := by decide +kernel
theorem dX7_seatGreedily_61 : decode cX7_seatGreedily 61 = .ok (.iload_n 2, 1) := by decide +kernel
theorem dX7_seatGreedily_62 : decode cX7_seatGreedily 62 = .ok (.invokevirtual 30, 3) := by decide +kernel
theorem dX7_seatGreedily_65 : decode cX7_seatGreedily 65 = .ok (.ireturn, 1) := by decide +kernel
theorem dX7_seatOf_0 : decode cX7_seatOf 0 = .ok (.aload_n 0, 1) := by decide +kernel
theorem dX7_seatOf_1 : decode cX7_seatOf 1 = .ok (.getfield 18, 3) := by decide +kernel
theorem dX7_seatOf_4 : decode cX7_seatOf 4 = .ok (.getfield 49, 3) := by decide +kernel
theorem dX7_seatOf_7 : decode cX7_seatOf 7 = .ok (.iload_n 1, 1) := by decide +kernel
theorem dX7_seatOf_8 : decode cX7_seatOf 8 = .ok (.invokevirtual 75, 3) := by decide +kernel
theorem dX7_seatOf_11 : decode cX7_seatOf 11 = .ok (.ifCond .eq 18, 3) := by decide +kernel
theorem dX7_seatOf_14 : decode cX7_seatOf 14 = .ok (.aload_n 0, 1) := by decide +kernel
theorem dX7_seatOf_15 : decode cX7_seatOf 15 = .ok (.getfield 18, 3) := by decide +kernel
theorem dX7_seatOf_18 : decode cX7_seatOf 18 = .ok (.getfield 49, 3) := by decide +kernel
theorem dX7_seatOf_21 : decode cX7_seatOf 21 = .ok (.getfield 53, 3) := by decide +kernel
theorem dX7_seatOf_24 : decode cX7_seatOf 24 = .ok (.iload_n 1, 1) := by decide +kernel
theorem dX7_seatOf_25 : decode cX7_seatOf 25 = .ok (.iaload, 1) := by decide +kernel
theorem dX7_seatOf_26 : decode cX7_seatOf 26 = .ok (.goto 5, 3) := by decide +kernel
theorem dX7_seatOf_29 : decode cX7_seatOf 29 = .ok (.bipush 8, 2) := by decide +kernel
theorem dX7_seatOf_31 : decode cX7_seatOf 31 = .ok (.ireturn, 1) := by decide +kernel
theorem dX11_greedy_0 : decode cX11_greedy 0 = .ok (.aload_n 0, 1) := by decide +kernel
theorem dX11_greedy_1 : decode cX11_greedy 1 = .ok (.iload_n 1, 1) := by decide +kernel
theorem dX11_greedy_2 : decode cX11_greedy 2 = .ok (.iload_n 2, 1) := by decide +kernel
theorem dX11_greedy_3 : decode cX11_greedy 3 = .ok (.invokevirtual 115, 3) := by decide +kernel
theorem dX11_greedy_6 : decode cX11_greedy 6 = .ok (.astore 4, 2) := by decide +kernel
theorem dX11_greedy_8 : decode cX11_greedy 8 = .ok (.aload 4, 2) := by decide +kernel
theorem dX11_greedy_10 : decode cX11_greedy 10 = .ok (.ifnull 17, 3) := by decide +kernel
theorem dX11_greedy_13 : decode cX11_greedy 13 = .ok (.iload_n 3, 1) := by decide +kernel
theorem dX11_greedy_14 : decode cX11_greedy 14 = .ok (.iconst (-1), 1) := by decide +kernel
theorem dX11_greedy_15 : decode cX11_greedy 15 = .ok (.if_icmp .lt 12, 3) := by decide +kernel
theorem dX11_greedy_18 : decode cX11_greedy 18 = .ok (.iload_n 3, 1) := by decide +kernel
theorem dX11_greedy_19 : decode cX11_greedy 19 = .ok (.aload 4, 2) := by decide +kernel
theorem dX11_greedy_21 : decode cX11_greedy 21 = .ok (.getfield 166, 3) := by decide +kernel
theorem dX11_greedy_24 : decode cX11_greedy 24 = .ok (.if_icmp .lt 7, 3) := by decide +kernel
theorem dX11_greedy_27 : decode cX11_greedy 27 = .ok (.sipush (-1000), 3) := by decide +kernel
theorem dX11_greedy_30 : decode cX11_greedy 30 = .ok (.ireturn, 1) := by decide +kernel
theorem dX11_greedy_31 : decode cX11_greedy 31 = .ok (.aload_n 0, 1) := by decide +kernel
theorem dX11_greedy_32 : decode cX11_greedy 32 = .ok (.getfield 55, 3) := by decide +kernel
theorem dX11_greedy_35 : decode cX11_greedy 35 = .ok (.aload 4, 2) := by decide +kernel
theorem dX11_greedy_37 : decode cX11_greedy 37 = .ok (.iload_n 2, 1) := by decide +kernel
theorem dX11_greedy_38 : decode cX11_greedy 38 = .ok (.invokevirtual 274, 3) := by decide +kernel
theorem dX11_greedy_41 : decode cX11_greedy 41 = .ok (.istore 5, 2) := by decide +kernel
theorem dX11_greedy_43 : decode cX11_greedy 43 = .ok (.iload_n 3, 1) := by decide +kernel
theorem dX11_greedy_44 : decode cX11_greedy 44 = .ok (.iconst (-1), 1) := by decide +kernel
theorem dX11_greedy_45 : decode cX11_greedy 45 = .ok (.if_icmp .ne 8, 3) := by decide +kernel
theorem dX11_greedy_48 : decode cX11_greedy 48 = .ok (.iload 5, 2) := by decide +kernel
theorem dX11_greedy_50 : decode cX11_greedy 50 = .ok (.goto 11, 3) := by decide +kernel
theorem dX11_greedy_53 : decode cX11_greedy 53 = .ok (.aload_n 0, 1) := by decide +kernel
theorem dX11_greedy_54 : decode cX11_greedy 54 = .ok (.getfield 55, 3) := by decide +kernel
theorem dX11_greedy_57 : decode cX11_greedy 57 = .ok (.iload_n 3, 1) := by decide +kernel
theorem dX11_greedy_58 : decode cX11_greedy 58 = .ok (.invokevirtual 277, 3) := by decide +kernel
theorem dX11_greedy_61 : decode cX11_greedy 61 = .ok (.ireturn, 1) := by decide +kernel
theorem dX11_pick_0 : decode cX11_pick 0 = .ok (.iload_n 0, 1) := by decide +kernel
theorem dX11_pick_1 : decode cX11_pick 1 = .ok (.ifCond .ne 5, 3) := by decide +kernel
theorem dX11_pick_4 : decode cX11_pick 4 = .ok (.iload_n 1, 1) := by decide +kernel
theorem dX11_pick_5 : decode cX11_pick 5 = .ok (.ireturn, 1) := by decide +kernel
theorem dX11_pick_6 : decode cX11_pick 6 = .ok (.iload_n 0, 1) := by decide +kernel
theorem dX11_pick_7 : decode cX11_pick 7 = .ok (.iconst 1, 1) := by decide +kernel
theorem dX11_pick_8 : decode cX11_pick 8 = .ok (.if_icmp .ne 7, 3) := by decide +kernel
theorem dX11_pick_11 : decode cX11_pick 11 = .ok (.iload_n 2, 1) := by decide +kernel
theorem dX11_pick_12 : decode cX11_pick 12 = .ok (.goto 4, 3) := by decide +kernel
theorem dX11_pick_15 : decode cX11_pick 15 = .ok (.iload_n 3, 1) := by decide +kernel
theorem dX11_pick_16 : decode cX11_pick 16 = .ok (.ireturn, 1) := by decide +kernel
