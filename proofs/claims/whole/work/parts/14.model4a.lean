theorem dX12_movers_0 : decode cX12_movers 0 = .ok (.aload_n 0, 1) := by decide +kernel
theorem dX12_movers_1 : decode cX12_movers 1 = .ok (.invokevirtual 213, 3) := by decide +kernel
theorem dX12_movers_4 : decode cX12_movers 4 = .ok (.iconst 0, 1) := by decide +kernel
theorem dX12_movers_5 : decode cX12_movers 5 = .ok (.istore_n 2, 1) := by decide +kernel
theorem dX12_movers_6 : decode cX12_movers 6 = .ok (.iload_n 2, 1) := by decide +kernel
theorem dX12_movers_7 : decode cX12_movers 7 = .ok (.aload_n 0, 1) := by decide +kernel
theorem dX12_movers_8 : decode cX12_movers 8 = .ok (.getfield 162, 3) := by decide +kernel
theorem dX12_movers_11 : decode cX12_movers 11 = .ok (.if_icmp .ge 21, 3) := by decide +kernel
theorem dX12_movers_14 : decode cX12_movers 14 = .ok (.aload_n 0, 1) := by decide +kernel
theorem dX12_movers_15 : decode cX12_movers 15 = .ok (.getfield 35, 3) := by decide +kernel
theorem dX12_movers_18 : decode cX12_movers 18 = .ok (.iload_n 2, 1) := by decide +kernel
theorem dX12_movers_19 : decode cX12_movers 19 = .ok (.aload_n 0, 1) := by decide +kernel
theorem dX12_movers_20 : decode cX12_movers 20 = .ok (.getfield 26, 3) := by decide +kernel
theorem dX12_movers_23 : decode cX12_movers 23 = .ok (.iload_n 2, 1) := by decide +kernel
theorem dX12_movers_24 : decode cX12_movers 24 = .ok (.iaload, 1) := by decide +kernel
theorem dX12_movers_25 : decode cX12_movers 25 = .ok (.iastore, 1) := by decide +kernel
theorem dX12_movers_26 : decode cX12_movers 26 = .ok (.iinc 2 1, 3) := by decide +kernel
theorem dX12_movers_29 : decode cX12_movers 29 = .ok (.goto (-23), 3) := by decide +kernel
theorem dX12_movers_32 : decode cX12_movers 32 = .ok (.aload_n 0, 1) := by decide +kernel
theorem dX12_movers_33 : decode cX12_movers 33 = .ok (.iload_n 1, 1) := by decide +kernel
theorem dX12_movers_34 : decode cX12_movers 34 = .ok (.invokevirtual 216, 3) := by decide +kernel
theorem dX12_movers_37 : decode cX12_movers 37 = .ok (.ifCond .eq 5, 3) := by decide +kernel
theorem dX12_movers_40 : decode cX12_movers 40 = .ok (.iconst 0, 1) := by decide +kernel
theorem dX12_movers_41 : decode cX12_movers 41 = .ok (.ireturn, 1) := by decide +kernel
theorem dX12_movers_42 : decode cX12_movers 42 = .ok (.aload_n 0, 1) := by decide +kernel
theorem dX12_movers_43 : decode cX12_movers 43 = .ok (.iload_n 1, 1) := by decide +kernel
theorem dX12_movers_44 : decode cX12_movers 44 = .ok (.iconst 0, 1) := by decide +kernel
theorem dX12_movers_45 : decode cX12_movers 45 = .ok (.invokevirtual 274, 3) := by decide +kernel
theorem dX12_movers_48 : decode cX12_movers 48 = .ok (.ifCond .eq 7, 3) := by decide +kernel
theorem dX12_movers_51 : decode cX12_movers 51 = .ok (.iconst 1, 1) := by decide +kernel
theorem dX12_movers_52 : decode cX12_movers 52 = .ok (.goto 17, 3) := by decide +kernel
theorem dX12_movers_55 : decode cX12_movers 55 = .ok (.aload_n 0, 1) := by decide +kernel
theorem dX12_movers_56 : decode cX12_movers 56 = .ok (.iload_n 1, 1) := by decide +kernel
theorem dX12_movers_57 : decode cX12_movers 57 = .ok (.iconst 1, 1) := by decide +kernel
theorem dX12_movers_58 : decode cX12_movers 58 = .ok (.invokevirtual 274, 3) := by decide +kernel
theorem dX12_movers_61 : decode cX12_movers 61 = .ok (.ifCond .eq 7, 3) := by decide +kernel
theorem dX12_movers_64 : decode cX12_movers 64 = .ok (.iconst 2, 1) := by decide +kernel
theorem dX12_movers_65 : decode cX12_movers 65 = .ok (.goto 4, 3) := by decide +kernel
theorem dX12_movers_68 : decode cX12_movers 68 = .ok (.iconst (-1), 1) := by decide +kernel
theorem dX12_movers_69 : decode cX12_movers 69 = .ok (.ireturn, 1) := by decide +kernel
theorem dX12_moves_0 : decode cX12_moves 0 = .ok (.aload_n 0, 1) := by decide +kernel
theorem dX12_moves_1 : decode cX12_moves 1 = .ok (.iload_n 1, 1) := by decide +kernel
theorem dX12_moves_2 : decode cX12_moves 2 = .ok (.invokevirtual 165, 3) := by decide +kernel
theorem dX12_moves_5 : decode cX12_moves 5 = .ok (.ifCond .eq 23, 3) := by decide +kernel
theorem dX12_moves_8 : decode cX12_moves 8 = .ok (.iload_n 2, 1) := by decide +kernel
theorem dX12_moves_9 : decode cX12_moves 9 = .ok (.invokestatic 210, 3) := by decide +kernel
theorem dX12_moves_12 : decode cX12_moves 12 = .ok (.ifCond .eq 16, 3) := by decide +kernel
theorem dX12_moves_15 : decode cX12_moves 15 = .ok (.iload_n 3, 1) := by decide +kernel
theorem dX12_moves_16 : decode cX12_moves 16 = .ok (.iconst (-1), 1) := by decide +kernel
theorem dX12_moves_17 : decode cX12_moves 17 = .ok (.if_icmp .eq 13, 3) := by decide +kernel
theorem dX12_moves_20 : decode cX12_moves 20 = .ok (.aload_n 0, 1) := by decide +kernel
theorem dX12_moves_21 : decode cX12_moves 21 = .ok (.iload_n 3, 1) := by decide +kernel
theorem dX12_moves_22 : decode cX12_moves 22 = .ok (.invokevirtual 174, 3) := by decide +kernel
theorem dX12_moves_25 : decode cX12_moves 25 = .ok (.ifCond .ne 5, 3) := by decide +kernel
theorem dX12_moves_28 : decode cX12_moves 28 = .ok (.iconst (-1), 1) := by decide +kernel
theorem dX12_moves_29 : decode cX12_moves 29 = .ok (.ireturn, 1) := by decide +kernel
theorem dX12_moves_30 : decode cX12_moves 30 = .ok (.aload_n 0, 1) := by decide +kernel
theorem dX12_moves_31 : decode cX12_moves 31 = .ok (.iload_n 2, 1) := by decide +kernel
theorem dX12_moves_32 : decode cX12_moves 32 = .ok (.invokevirtual 278, 3) := by decide +kernel
theorem dX12_moves_35 : decode cX12_moves 35 = .ok (.istore 4, 2) := by decide +kernel
theorem dX12_moves_37 : decode cX12_moves 37 = .ok (.iload 4, 2) := by decide +kernel
theorem dX12_moves_39 : decode cX12_moves 39 = .ok (.iconst (-1), 1) := by decide +kernel
theorem dX12_moves_40 : decode cX12_moves 40 = .ok (.if_icmp .eq 8, 3) := by decide +kernel
theorem dX12_moves_43 : decode cX12_moves 43 = .ok (.iload_n 3, 1) := by decide +kernel
theorem dX12_moves_44 : decode cX12_moves 44 = .ok (.iconst (-1), 1) := by decide +kernel
theorem dX12_moves_45 : decode cX12_moves 45 = .ok (.if_icmp .ne 8, 3) := by decide +kernel
theorem dX12_moves_48 : decode cX12_moves 48 = .ok (.iload 4, 2) := by decide +kernel
theorem dX12_moves_50 : decode cX12_moves 50 = .ok (.goto 9, 3) := by decide +kernel
theorem dX12_moves_53 : decode cX12_moves 53 = .ok (.aload_n 0, 1) := by decide +kernel
theorem dX12_moves_54 : decode cX12_moves 54 = .ok (.getfield 35, 3) := by decide +kernel
theorem dX12_moves_57 : decode cX12_moves 57 = .ok (.iload_n 3, 1) := by decide +kernel
theorem dX12_moves_58 : decode cX12_moves 58 = .ok (.iaload, 1) := by decide +kernel
theorem dX12_moves_59 : decode cX12_moves 59 = .ok (.ireturn, 1) := by decide +kernel
theorem dX12_areWaxed_0 : decode cX12_areWaxed 0 = .ok (.iconst 0, 1) := by decide +kernel
theorem dX12_areWaxed_1 : decode cX12_areWaxed 1 = .ok (.istore 4, 2) := by decide +kernel
theorem dX12_areWaxed_3 : decode cX12_areWaxed 3 = .ok (.iload 4, 2) := by decide +kernel
theorem dX12_areWaxed_5 : decode cX12_areWaxed 5 = .ok (.sipush 512, 3) := by decide +kernel
theorem dX12_areWaxed_8 : decode cX12_areWaxed 8 = .ok (.if_icmp .ge 171, 3) := by decide +kernel
theorem dX12_areWaxed_11 : decode cX12_areWaxed 11 = .ok (.iload 4, 2) := by decide +kernel
theorem dX12_areWaxed_13 : decode cX12_areWaxed 13 = .ok (.istore 5, 2) := by decide +kernel
theorem dX12_areWaxed_15 : decode cX12_areWaxed 15 = .ok (.iload 4, 2) := by decide +kernel
theorem dX12_areWaxed_17 : decode cX12_areWaxed 17 = .ok (.iconst 1, 1) := by decide +kernel
theorem dX12_areWaxed_18 : decode cX12_areWaxed 18 = .ok (.iconst 3, 1) := by decide +kernel
theorem dX12_areWaxed_19 : decode cX12_areWaxed 19 = .ok (.iload_n 3, 1) := by decide +kernel
theorem dX12_areWaxed_20 : decode cX12_areWaxed 20 = .ok (.imul, 1) := by decide +kernel
theorem dX12_areWaxed_21 : decode cX12_areWaxed 21 = .ok (.ishl, 1) := by decide +kernel
theorem dX12_areWaxed_22 : decode cX12_areWaxed 22 = .ok (.if_icmp .ge 7, 3) := by decide +kernel
theorem dX12_areWaxed_25 : decode cX12_areWaxed 25 = .ok (.iconst 1, 1) := by decide +kernel
theorem dX12_areWaxed_26 : decode cX12_areWaxed 26 = .ok (.goto 4, 3) := by decide +kernel
theorem dX12_areWaxed_29 : decode cX12_areWaxed 29 = .ok (.iconst 0, 1) := by decide +kernel
theorem dX12_areWaxed_30 : decode cX12_areWaxed 30 = .ok (.istore 6, 2) := by decide +kernel
theorem dX12_areWaxed_32 : decode cX12_areWaxed 32 = .ok (.iload_n 3, 1) := by decide +kernel
theorem dX12_areWaxed_33 : decode cX12_areWaxed 33 = .ok (.iconst 1, 1) := by decide +kernel
theorem dX12_areWaxed_34 : decode cX12_areWaxed 34 = .ok (.isub, 1) := by decide +kernel
theorem dX12_areWaxed_35 : decode cX12_areWaxed 35 = .ok (.istore 7, 2) := by decide +kernel
theorem dX12_areWaxed_37 : decode cX12_areWaxed 37 = .ok (.iload 7, 2) := by decide +kernel
theorem dX12_areWaxed_39 : decode cX12_areWaxed 39 = .ok (.ifCond .lt 80, 3) := by decide +kernel
theorem dX12_areWaxed_42 : decode cX12_areWaxed 42 = .ok (.aload_n 0, 1) := by decide +kernel
theorem dX12_areWaxed_43 : decode cX12_areWaxed 43 = .ok (.getfield 38, 3) := by decide +kernel
theorem dX12_areWaxed_46 : decode cX12_areWaxed 46 = .ok (.iload 7, 2) := by decide +kernel
theorem dX12_areWaxed_48 : decode cX12_areWaxed 48 = .ok (.iload 5, 2) := by decide +kernel
theorem dX12_areWaxed_50 : decode cX12_areWaxed 50 = .ok (.bipush 7, 2) := by decide +kernel
theorem dX12_areWaxed_52 : decode cX12_areWaxed 52 = .ok (.iand, 1) := by decide +kernel
theorem dX12_areWaxed_53 : decode cX12_areWaxed 53 = .ok (.iastore, 1) := by decide +kernel
theorem dX12_areWaxed_54 : decode cX12_areWaxed 54 = .ok (.iload 5, 2) := by decide +kernel
theorem dX12_areWaxed_56 : decode cX12_areWaxed 56 = .ok (.iconst 3, 1) := by decide +kernel
theorem dX12_areWaxed_57 : decode cX12_areWaxed 57 = .ok (.ishr, 1) := by decide +kernel
theorem dX12_areWaxed_58 : decode cX12_areWaxed 58 = .ok (.istore 5, 2) := by decide +kernel
theorem dX12_areWaxed_60 : decode cX12_areWaxed 60 = .ok (.iload 6, 2) := by decide +kernel
theorem dX12_areWaxed_62 : decode cX12_areWaxed 62 = .ok (.ifCond .eq 48, 3) := by decide +kernel
theorem dX12_areWaxed_65 : decode cX12_areWaxed 65 = .ok (.aload_n 0, 1) := by decide +kernel
theorem dX12_areWaxed_66 : decode cX12_areWaxed 66 = .ok (.getfield 38, 3) := by decide +kernel
theorem dX12_areWaxed_69 : decode cX12_areWaxed 69 = .ok (.iload 7, 2) := by decide +kernel
theorem dX12_areWaxed_71 : decode cX12_areWaxed 71 = .ok (.iaload, 1) := by decide +kernel
theorem dX12_areWaxed_72 : decode cX12_areWaxed 72 = .ok (.aload_n 0, 1) := by decide +kernel
theorem dX12_areWaxed_73 : decode cX12_areWaxed 73 = .ok (.getfield 159, 3) := by decide +kernel
theorem dX12_areWaxed_76 : decode cX12_areWaxed 76 = .ok (.if_icmp .ge 34, 3) := by decide +kernel
theorem dX12_areWaxed_79 : decode cX12_areWaxed 79 = .ok (.iload 7, 2) := by decide +kernel
theorem dX12_areWaxed_81 : decode cX12_areWaxed 81 = .ok (.iload_n 3, 1) := by decide +kernel
theorem dX12_areWaxed_82 : decode cX12_areWaxed 82 = .ok (.iconst 1, 1) := by decide +kernel
theorem dX12_areWaxed_83 : decode cX12_areWaxed 83 = .ok (.isub, 1) := by decide +kernel
theorem dX12_areWaxed_84 : decode cX12_areWaxed 84 = .ok (.if_icmp .eq 22, 3) := by decide +kernel
theorem dX12_areWaxed_87 : decode cX12_areWaxed 87 = .ok (.aload_n 0, 1) := by decide +kernel
theorem dX12_areWaxed_88 : decode cX12_areWaxed 88 = .ok (.getfield 38, 3) := by decide +kernel
theorem dX12_areWaxed_91 : decode cX12_areWaxed 91 = .ok (.iload 7, 2) := by decide +kernel
theorem dX12_areWaxed_93 : decode cX12_areWaxed 93 = .ok (.iaload, 1) := by decide +kernel
theorem dX12_areWaxed_94 : decode cX12_areWaxed 94 = .ok (.aload_n 0, 1) := by decide +kernel
theorem dX12_areWaxed_95 : decode cX12_areWaxed 95 = .ok (.getfield 38, 3) := by decide +kernel
theorem dX12_areWaxed_98 : decode cX12_areWaxed 98 = .ok (.iload 7, 2) := by decide +kernel
theorem dX12_areWaxed_100 : decode cX12_areWaxed 100 = .ok (.iconst 1, 1) := by decide +kernel
theorem dX12_areWaxed_101 : decode cX12_areWaxed 101 = .ok (.iadd, 1) := by decide +kernel
theorem dX12_areWaxed_102 : decode cX12_areWaxed 102 = .ok (.iaload, 1) := by decide +kernel
theorem dX12_areWaxed_103 : decode cX12_areWaxed 103 = .ok (.if_icmp .gt 7, 3) := by decide +kernel
theorem dX12_areWaxed_106 : decode cX12_areWaxed 106 = .ok (.iconst 1, 1) := by decide +kernel
theorem dX12_areWaxed_107 : decode cX12_areWaxed 107 = .ok (.goto 4, 3) := by decide +kernel
theorem dX12_areWaxed_110 : decode cX12_areWaxed 110 = .ok (.iconst 0, 1) := by decide +kernel
theorem dX12_areWaxed_111 : decode cX12_areWaxed 111 = .ok (.istore 6, 2) := by decide +kernel
theorem dX12_areWaxed_113 : decode cX12_areWaxed 113 = .ok (.iinc 7 (-1), 3) := by decide +kernel
theorem dX12_areWaxed_116 : decode cX12_areWaxed 116 = .ok (.goto (-79), 3) := by decide +kernel
theorem dX12_areWaxed_119 : decode cX12_areWaxed 119 = .ok (.iload 6, 2) := by decide +kernel
theorem dX12_areWaxed_121 : decode cX12_areWaxed 121 = .ok (.ifCond .ne 6, 3) := by decide +kernel
theorem dX12_areWaxed_124 : decode cX12_areWaxed 124 = .ok (.goto 49, 3) := by decide +kernel
theorem dX12_areWaxed_127 : decode cX12_areWaxed 127 = .ok (.aload_n 0, 1) := by decide +kernel
theorem dX12_areWaxed_128 : decode cX12_areWaxed 128 = .ok (.invokevirtual 213, 3) := by decide +kernel
theorem dX12_areWaxed_131 : decode cX12_areWaxed 131 = .ok (.iconst 0, 1) := by decide +kernel
theorem dX12_areWaxed_132 : decode cX12_areWaxed 132 = .ok (.istore 7, 2) := by decide +kernel
theorem dX12_areWaxed_134 : decode cX12_areWaxed 134 = .ok (.iload 7, 2) := by decide +kernel
theorem dX12_areWaxed_136 : decode cX12_areWaxed 136 = .ok (.iload_n 3, 1) := by decide +kernel
theorem dX12_areWaxed_137 : decode cX12_areWaxed 137 = .ok (.if_icmp .ge 25, 3) := by decide +kernel
theorem dX12_areWaxed_140 : decode cX12_areWaxed 140 = .ok (.aload_n 0, 1) := by decide +kernel
theorem dX12_areWaxed_141 : decode cX12_areWaxed 141 = .ok (.getfield 23, 3) := by decide +kernel
theorem dX12_areWaxed_144 : decode cX12_areWaxed 144 = .ok (.aload_n 0, 1) := by decide +kernel
theorem dX12_areWaxed_145 : decode cX12_areWaxed 145 = .ok (.getfield 38, 3) := by decide +kernel
theorem dX12_areWaxed_148 : decode cX12_areWaxed 148 = .ok (.iload 7, 2) := by decide +kernel
theorem dX12_areWaxed_150 : decode cX12_areWaxed 150 = .ok (.iaload, 1) := by decide +kernel
theorem dX12_areWaxed_151 : decode cX12_areWaxed 151 = .ok (.dup2, 1) := by decide +kernel
theorem dX12_areWaxed_152 : decode cX12_areWaxed 152 = .ok (.iaload, 1) := by decide +kernel
theorem dX12_areWaxed_153 : decode cX12_areWaxed 153 = .ok (.iconst 1, 1) := by decide +kernel
theorem dX12_areWaxed_154 : decode cX12_areWaxed 154 = .ok (.iadd, 1) := by decide +kernel
theorem dX12_areWaxed_155 : decode cX12_areWaxed 155 = .ok (.iastore, 1) := by decide +kernel
theorem dX12_areWaxed_156 : decode cX12_areWaxed 156 = .ok (.iinc 7 1, 3) := by decide +kernel
theorem dX12_areWaxed_159 : decode cX12_areWaxed 159 = .ok (.goto (-25), 3) := by decide +kernel
theorem dX12_areWaxed_162 : decode cX12_areWaxed 162 = .ok (.aload_n 0, 1) := by decide +kernel
theorem dX12_areWaxed_163 : decode cX12_areWaxed 163 = .ok (.iload_n 1, 1) := by decide +kernel
theorem dX12_areWaxed_164 : decode cX12_areWaxed 164 = .ok (.invokevirtual 216, 3) := by decide +kernel
theorem dX12_areWaxed_167 : decode cX12_areWaxed 167 = .ok (.iload_n 2, 1) := by decide +kernel
theorem dX12_areWaxed_168 : decode cX12_areWaxed 168 = .ok (.if_icmp .ne 5, 3) := by decide +kernel
theorem dX12_areWaxed_171 : decode cX12_areWaxed 171 = .ok (.iconst 1, 1) := by decide +kernel
theorem dX12_areWaxed_172 : decode cX12_areWaxed 172 = .ok (.ireturn, 1) := by decide +kernel
theorem dX12_areWaxed_173 : decode cX12_areWaxed 173 = .ok (.iinc 4 1, 3) := by decide +kernel
theorem dX12_areWaxed_176 : decode cX12_areWaxed 176 = .ok (.goto (-173), 3) := by decide +kernel
theorem dX12_areWaxed_179 : decode cX12_areWaxed 179 = .ok (.iconst 0, 1) := by decide +kernel
theorem dX12_areWaxed_180 : decode cX12_areWaxed 180 = .ok (.ireturn, 1) := by decide +kernel
theorem dX12_waxed_0 : decode cX12_waxed 0 = .ok (.aload_n 0, 1) := by decide +kernel
theorem dX12_waxed_1 : decode cX12_waxed 1 = .ok (.iload_n 1, 1) := by decide +kernel
theorem dX12_waxed_2 : decode cX12_waxed 2 = .ok (.invokevirtual 165, 3) := by decide +kernel
theorem dX12_waxed_5 : decode cX12_waxed 5 = .ok (.ifCond .eq 16, 3) := by decide +kernel
theorem dX12_waxed_8 : decode cX12_waxed 8 = .ok (.iload_n 2, 1) := by decide +kernel
theorem dX12_waxed_9 : decode cX12_waxed 9 = .ok (.invokestatic 210, 3) := by decide +kernel
theorem dX12_waxed_12 : decode cX12_waxed 12 = .ok (.ifCond .eq 9, 3) := by decide +kernel
theorem dX12_waxed_15 : decode cX12_waxed 15 = .ok (.iload 4, 2) := by decide +kernel
theorem dX12_waxed_17 : decode cX12_waxed 17 = .ok (.iconst (-1), 1) := by decide +kernel
theorem dX12_waxed_18 : decode cX12_waxed 18 = .ok (.if_icmp .ge 5, 3) := by decide +kernel
theorem dX12_waxed_21 : decode cX12_waxed 21 = .ok (.iconst (-1), 1) := by decide +kernel
theorem dX12_waxed_22 : decode cX12_waxed 22 = .ok (.ireturn, 1) := by decide +kernel
theorem dX12_waxed_23 : decode cX12_waxed 23 = .ok (.iconst 0, 1) := by decide +kernel
theorem dX12_waxed_24 : decode cX12_waxed 24 = .ok (.istore 5, 2) := by decide +kernel
theorem dX12_waxed_26 : decode cX12_waxed 26 = .ok (.iload 5, 2) := by decide +kernel
theorem dX12_waxed_28 : decode cX12_waxed 28 = .ok (.iconst 4, 1) := by decide +kernel
theorem dX12_waxed_29 : decode cX12_waxed 29 = .ok (.if_icmp .ge 50, 3) := by decide +kernel
theorem dX12_waxed_32 : decode cX12_waxed 32 = .ok (.aload_n 0, 1) := by decide +kernel
theorem dX12_waxed_33 : decode cX12_waxed 33 = .ok (.iload_n 2, 1) := by decide +kernel
theorem dX12_waxed_34 : decode cX12_waxed 34 = .ok (.iload_n 3, 1) := by decide +kernel
theorem dX12_waxed_35 : decode cX12_waxed 35 = .ok (.iload 5, 2) := by decide +kernel
theorem dX12_waxed_37 : decode cX12_waxed 37 = .ok (.invokevirtual 281, 3) := by decide +kernel
theorem dX12_waxed_40 : decode cX12_waxed 40 = .ok (.ifCond .eq 33, 3) := by decide +kernel
theorem dX12_waxed_43 : decode cX12_waxed 43 = .ok (.iload 4, 2) := by decide +kernel
theorem dX12_waxed_45 : decode cX12_waxed 45 = .ok (.iconst (-1), 1) := by decide +kernel
theorem dX12_waxed_46 : decode cX12_waxed 46 = .ok (.if_icmp .ne 8, 3) := by decide +kernel
theorem dX12_waxed_49 : decode cX12_waxed 49 = .ok (.iload 5, 2) := by decide +kernel
theorem dX12_waxed_51 : decode cX12_waxed 51 = .ok (.goto 21, 3) := by decide +kernel
theorem dX12_waxed_54 : decode cX12_waxed 54 = .ok (.iload 4, 2) := by decide +kernel
theorem dX12_waxed_56 : decode cX12_waxed 56 = .ok (.iload 5, 2) := by decide +kernel
theorem dX12_waxed_58 : decode cX12_waxed 58 = .ok (.if_icmp .ge 13, 3) := by decide +kernel
theorem dX12_waxed_61 : decode cX12_waxed 61 = .ok (.aload_n 0, 1) := by decide +kernel
theorem dX12_waxed_62 : decode cX12_waxed 62 = .ok (.getfield 38, 3) := by decide +kernel
theorem dX12_waxed_65 : decode cX12_waxed 65 = .ok (.iload 4, 2) := by decide +kernel
theorem dX12_waxed_67 : decode cX12_waxed 67 = .ok (.iaload, 1) := by decide +kernel
theorem dX12_waxed_68 : decode cX12_waxed 68 = .ok (.goto 4, 3) := by decide +kernel
theorem dX12_waxed_71 : decode cX12_waxed 71 = .ok (.iconst (-1), 1) := by decide +kernel
theorem dX12_waxed_72 : decode cX12_waxed 72 = .ok (.ireturn, 1) := by decide +kernel
theorem dX12_waxed_73 : decode cX12_waxed 73 = .ok (.iinc 5 1, 3) := by decide +kernel
theorem dX12_waxed_76 : decode cX12_waxed 76 = .ok (.goto (-50), 3) := by decide +kernel
theorem dX12_waxed_79 : decode cX12_waxed 79 = .ok (.iconst (-1), 1) := by decide +kernel
theorem dX12_waxed_80 : decode cX12_waxed 80 = .ok (.ireturn, 1) := by decide +kernel
theorem dX12_turn_0 : decode cX12_turn 0 = .ok (.aload_n 0, 1) := by decide +kernel
theorem dX12_turn_1 : decode cX12_turn 1 = .ok (.iload_n 1, 1) := by decide +kernel
theorem dX12_turn_2 : decode cX12_turn 2 = .ok (.invokevirtual 165, 3) := by decide +kernel
theorem dX12_turn_5 : decode cX12_turn 5 = .ok (.ifCond .eq 10, 3) := by decide +kernel
theorem dX12_turn_8 : decode cX12_turn 8 = .ok (.iload_n 2, 1) := by decide +kernel
theorem dX12_turn_9 : decode cX12_turn 9 = .ok (.invokestatic 210, 3) := by decide +kernel
theorem dX12_turn_12 : decode cX12_turn 12 = .ok (.ifCond .ne 5, 3) := by decide +kernel
theorem dX12_turn_15 : decode cX12_turn 15 = .ok (.iconst (-1), 1) := by decide +kernel
theorem dX12_turn_16 : decode cX12_turn 16 = .ok (.ireturn, 1) := by decide +kernel
theorem dX12_turn_17 : decode cX12_turn 17 = .ok (.aload_n 0, 1) := by decide +kernel
theorem dX12_turn_18 : decode cX12_turn 18 = .ok (.invokevirtual 213, 3) := by decide +kernel
theorem dX12_turn_21 : decode cX12_turn 21 = .ok (.aload_n 0, 1) := by decide +kernel
theorem dX12_turn_22 : decode cX12_turn 22 = .ok (.iload_n 2, 1) := by decide +kernel
theorem dX12_turn_23 : decode cX12_turn 23 = .ok (.invokevirtual 216, 3) := by decide +kernel
theorem dX12_turn_26 : decode cX12_turn 26 = .ok (.istore_n 3, 1) := by decide +kernel
theorem dX12_turn_27 : decode cX12_turn 27 = .ok (.iconst 1, 1) := by decide +kernel
theorem dX12_turn_28 : decode cX12_turn 28 = .ok (.istore 4, 2) := by decide +kernel
theorem dX12_turn_30 : decode cX12_turn 30 = .ok (.iload 4, 2) := by decide +kernel
theorem dX12_turn_32 : decode cX12_turn 32 = .ok (.bipush 40, 2) := by decide +kernel
theorem dX12_turn_34 : decode cX12_turn 34 = .ok (.if_icmp .gt 25, 3) := by decide +kernel
theorem dX12_turn_37 : decode cX12_turn 37 = .ok (.aload_n 0, 1) := by decide +kernel
theorem dX12_turn_38 : decode cX12_turn 38 = .ok (.invokevirtual 252, 3) := by decide +kernel
theorem dX12_turn_41 : decode cX12_turn 41 = .ok (.aload_n 0, 1) := by decide +kernel
theorem dX12_turn_42 : decode cX12_turn 42 = .ok (.iload_n 2, 1) := by decide +kernel
theorem dX12_turn_43 : decode cX12_turn 43 = .ok (.invokevirtual 216, 3) := by decide +kernel
theorem dX12_turn_46 : decode cX12_turn 46 = .ok (.iload_n 3, 1) := by decide +kernel
theorem dX12_turn_47 : decode cX12_turn 47 = .ok (.if_icmp .eq 6, 3) := by decide +kernel
theorem dX12_turn_50 : decode cX12_turn 50 = .ok (.iload 4, 2) := by decide +kernel
theorem dX12_turn_52 : decode cX12_turn 52 = .ok (.ireturn, 1) := by decide +kernel
theorem dX12_turn_53 : decode cX12_turn 53 = .ok (.iinc 4 1, 3) := by decide +kernel
theorem dX12_turn_56 : decode cX12_turn 56 = .ok (.goto (-26), 3) := by decide +kernel
theorem dX12_turn_59 : decode cX12_turn 59 = .ok (.iconst (-1), 1) := by decide +kernel
theorem dX12_turn_60 : decode cX12_turn 60 = .ok (.ireturn, 1) := by decide +kernel
theorem dX12_isWon_0 : decode cX12_isWon 0 = .ok (.aload_n 0, 1) := by decide +kernel
theorem dX12_isWon_1 : decode cX12_isWon 1 = .ok (.invokevirtual 213, 3) := by decide +kernel
theorem dX12_isWon_4 : decode cX12_isWon 4 = .ok (.iload_n 2, 1) := by decide +kernel
theorem dX12_isWon_5 : decode cX12_isWon 5 = .ok (.istore 4, 2) := by decide +kernel
theorem dX12_isWon_7 : decode cX12_isWon 7 = .ok (.iconst 0, 1) := by decide +kernel
theorem dX12_isWon_8 : decode cX12_isWon 8 = .ok (.istore 5, 2) := by decide +kernel
theorem dX12_isWon_10 : decode cX12_isWon 10 = .ok (.iload 5, 2) := by decide +kernel
theorem dX12_isWon_12 : decode cX12_isWon 12 = .ok (.iload_n 3, 1) := by decide +kernel
theorem dX12_isWon_13 : decode cX12_isWon 13 = .ok (.if_icmp .ge 43, 3) := by decide +kernel
theorem dX12_isWon_16 : decode cX12_isWon 16 = .ok (.iload 4, 2) := by decide +kernel
theorem dX12_isWon_18 : decode cX12_isWon 18 = .ok (.bipush 9, 2) := by decide +kernel
theorem dX12_isWon_20 : decode cX12_isWon 20 = .ok (.irem, 1) := by decide +kernel
theorem dX12_isWon_21 : decode cX12_isWon 21 = .ok (.istore 6, 2) := by decide +kernel
theorem dX12_isWon_23 : decode cX12_isWon 23 = .ok (.iload 4, 2) := by decide +kernel
theorem dX12_isWon_25 : decode cX12_isWon 25 = .ok (.bipush 9, 2) := by decide +kernel
theorem dX12_isWon_27 : decode cX12_isWon 27 = .ok (.idiv, 1) := by decide +kernel
theorem dX12_isWon_28 : decode cX12_isWon 28 = .ok (.istore 4, 2) := by decide +kernel
theorem dX12_isWon_30 : decode cX12_isWon 30 = .ok (.aload_n 0, 1) := by decide +kernel
theorem dX12_isWon_31 : decode cX12_isWon 31 = .ok (.iload 6, 2) := by decide +kernel
theorem dX12_isWon_33 : decode cX12_isWon 33 = .ok (.invokevirtual 168, 3) := by decide +kernel
theorem dX12_isWon_36 : decode cX12_isWon 36 = .ok (.ifCond .eq 14, 3) := by decide +kernel
theorem dX12_isWon_39 : decode cX12_isWon 39 = .ok (.aload_n 0, 1) := by decide +kernel
theorem dX12_isWon_40 : decode cX12_isWon 40 = .ok (.getfield 23, 3) := by decide +kernel
theorem dX12_isWon_43 : decode cX12_isWon 43 = .ok (.iload 6, 2) := by decide +kernel
theorem dX12_isWon_45 : decode cX12_isWon 45 = .ok (.dup2, 1) := by decide +kernel
theorem dX12_isWon_46 : decode cX12_isWon 46 = .ok (.iaload, 1) := by decide +kernel
theorem dX12_isWon_47 : decode cX12_isWon 47 = .ok (.iconst 1, 1) := by decide +kernel
theorem dX12_isWon_48 : decode cX12_isWon 48 = .ok (.iadd, 1) := by decide +kernel
theorem dX12_isWon_49 : decode cX12_isWon 49 = .ok (.iastore, 1) := by decide +kernel
theorem dX12_isWon_50 : decode cX12_isWon 50 = .ok (.iinc 5 1, 3) := by decide +kernel
theorem dX12_isWon_53 : decode cX12_isWon 53 = .ok (.goto (-43), 3) := by decide +kernel
theorem dX12_isWon_56 : decode cX12_isWon 56 = .ok (.aload_n 0, 1) := by decide +kernel
theorem dX12_isWon_57 : decode cX12_isWon 57 = .ok (.iload_n 1, 1) := by decide +kernel
theorem dX12_isWon_58 : decode cX12_isWon 58 = .ok (.invokevirtual 216, 3) := by decide +kernel
theorem dX12_isWon_61 : decode cX12_isWon 61 = .ok (.ireturn, 1) := by decide +kernel
theorem dX12_isGot_0 : decode cX12_isGot 0 = .ok (.iconst 0, 1) := by decide +kernel
theorem dX12_isGot_1 : decode cX12_isGot 1 = .ok (.istore_n 3, 1) := by decide +kernel
theorem dX12_isGot_2 : decode cX12_isGot 2 = .ok (.iconst 1, 1) := by decide +kernel
theorem dX12_isGot_3 : decode cX12_isGot 3 = .ok (.istore 4, 2) := by decide +kernel
theorem dX12_isGot_5 : decode cX12_isGot 5 = .ok (.iconst 0, 1) := by decide +kernel
theorem dX12_isGot_6 : decode cX12_isGot 6 = .ok (.istore 5, 2) := by decide +kernel
theorem dX12_isGot_8 : decode cX12_isGot 8 = .ok (.iload 5, 2) := by decide +kernel
theorem dX12_isGot_10 : decode cX12_isGot 10 = .ok (.bipush 9, 2) := by decide +kernel
theorem dX12_isGot_12 : decode cX12_isGot 12 = .ok (.if_icmp .ge 80, 3) := by decide +kernel
theorem dX12_isGot_15 : decode cX12_isGot 15 = .ok (.aload_n 0, 1) := by decide +kernel
theorem dX12_isGot_16 : decode cX12_isGot 16 = .ok (.iload 5, 2) := by decide +kernel
theorem dX12_isGot_18 : decode cX12_isGot 18 = .ok (.invokevirtual 168, 3) := by decide +kernel
theorem dX12_isGot_21 : decode cX12_isGot 21 = .ok (.ifCond .ne 13, 3) := by decide +kernel
theorem dX12_isGot_24 : decode cX12_isGot 24 = .ok (.iload 5, 2) := by decide +kernel
theorem dX12_isGot_26 : decode cX12_isGot 26 = .ok (.bipush 8, 2) := by decide +kernel
theorem dX12_isGot_28 : decode cX12_isGot 28 = .ok (.if_icmp .eq 6, 3) := by decide +kernel
theorem dX12_isGot_31 : decode cX12_isGot 31 = .ok (.goto 55, 3) := by decide +kernel
theorem dX12_isGot_34 : decode cX12_isGot 34 = .ok (.iload_n 3, 1) := by decide +kernel
theorem dX12_isGot_35 : decode cX12_isGot 35 = .ok (.ifCond .ne 18, 3) := by decide +kernel
theorem dX12_isGot_38 : decode cX12_isGot 38 = .ok (.aload_n 0, 1) := by decide +kernel
theorem dX12_isGot_39 : decode cX12_isGot 39 = .ok (.getfield 41, 3) := by decide +kernel
theorem dX12_isGot_42 : decode cX12_isGot 42 = .ok (.bipush 9, 2) := by decide +kernel
theorem dX12_isGot_44 : decode cX12_isGot 44 = .ok (.iload_n 1, 1) := by decide +kernel
theorem dX12_isGot_45 : decode cX12_isGot 45 = .ok (.imul, 1) := by decide +kernel
theorem dX12_isGot_46 : decode cX12_isGot 46 = .ok (.iload 5, 2) := by decide +kernel
theorem dX12_isGot_48 : decode cX12_isGot 48 = .ok (.iadd, 1) := by decide +kernel
theorem dX12_isGot_49 : decode cX12_isGot 49 = .ok (.baload, 1) := by decide +kernel
theorem dX12_isGot_50 : decode cX12_isGot 50 = .ok (.ifCond .eq 7, 3) := by decide +kernel
theorem dX12_isGot_53 : decode cX12_isGot 53 = .ok (.iconst 1, 1) := by decide +kernel
theorem dX12_isGot_54 : decode cX12_isGot 54 = .ok (.goto 4, 3) := by decide +kernel
theorem dX12_isGot_57 : decode cX12_isGot 57 = .ok (.iconst 0, 1) := by decide +kernel
theorem dX12_isGot_58 : decode cX12_isGot 58 = .ok (.istore_n 3, 1) := by decide +kernel
theorem dX12_isGot_59 : decode cX12_isGot 59 = .ok (.iload 4, 2) := by decide +kernel
theorem dX12_isGot_61 : decode cX12_isGot 61 = .ok (.ifCond .eq 22, 3) := by decide +kernel
theorem dX12_isGot_64 : decode cX12_isGot 64 = .ok (.aload_n 0, 1) := by decide +kernel
theorem dX12_isGot_65 : decode cX12_isGot 65 = .ok (.getfield 41, 3) := by decide +kernel
theorem dX12_isGot_68 : decode cX12_isGot 68 = .ok (.bipush 9, 2) := by decide +kernel
theorem dX12_isGot_70 : decode cX12_isGot 70 = .ok (.iload_n 1, 1) := by decide +kernel
theorem dX12_isGot_71 : decode cX12_isGot 71 = .ok (.imul, 1) := by decide +kernel
theorem dX12_isGot_72 : decode cX12_isGot 72 = .ok (.iload 5, 2) := by decide +kernel
theorem dX12_isGot_74 : decode cX12_isGot 74 = .ok (.iadd, 1) := by decide +kernel
theorem dX12_isGot_75 : decode cX12_isGot 75 = .ok (.baload, 1) := by decide +kernel
theorem dX12_isGot_76 : decode cX12_isGot 76 = .ok (.ifCond .eq 7, 3) := by decide +kernel
theorem dX12_isGot_79 : decode cX12_isGot 79 = .ok (.iconst 1, 1) := by decide +kernel
theorem dX12_isGot_80 : decode cX12_isGot 80 = .ok (.goto 4, 3) := by decide +kernel
theorem dX12_isGot_83 : decode cX12_isGot 83 = .ok (.iconst 0, 1) := by decide +kernel
theorem dX12_isGot_84 : decode cX12_isGot 84 = .ok (.istore 4, 2) := by decide +kernel
theorem dX12_isGot_86 : decode cX12_isGot 86 = .ok (.iinc 5 1, 3) := by decide +kernel
theorem dX12_isGot_89 : decode cX12_isGot 89 = .ok (.goto (-81), 3) := by decide +kernel
theorem dX12_isGot_92 : decode cX12_isGot 92 = .ok (.iload_n 2, 1) := by decide +kernel
theorem dX12_isGot_93 : decode cX12_isGot 93 = .ok (.ifCond .eq 7, 3) := by decide +kernel
theorem dX12_isGot_96 : decode cX12_isGot 96 = .ok (.iload_n 3, 1) := by decide +kernel
theorem dX12_isGot_97 : decode cX12_isGot 97 = .ok (.goto 5, 3) := by decide +kernel
theorem dX12_isGot_100 : decode cX12_isGot 100 = .ok (.iload 4, 2) := by decide +kernel
theorem dX12_isGot_102 : decode cX12_isGot 102 = .ok (.ireturn, 1) := by decide +kernel
theorem dX12_lobby_0 : decode cX12_lobby 0 = .ok (.aload_n 0, 1) := by decide +kernel
theorem dX12_lobby_1 : decode cX12_lobby 1 = .ok (.iload_n 1, 1) := by decide +kernel
theorem dX12_lobby_2 : decode cX12_lobby 2 = .ok (.invokevirtual 165, 3) := by decide +kernel
theorem dX12_lobby_5 : decode cX12_lobby 5 = .ok (.ifCond .eq 19, 3) := by decide +kernel
theorem dX12_lobby_8 : decode cX12_lobby 8 = .ok (.iload_n 2, 1) := by decide +kernel
theorem dX12_lobby_9 : decode cX12_lobby 9 = .ok (.invokestatic 210, 3) := by decide +kernel
theorem dX12_lobby_12 : decode cX12_lobby 12 = .ok (.ifCond .eq 12, 3) := by decide +kernel
theorem dX12_lobby_15 : decode cX12_lobby 15 = .ok (.iload_n 3, 1) := by decide +kernel
theorem dX12_lobby_16 : decode cX12_lobby 16 = .ok (.iconst 0, 1) := by decide +kernel
theorem dX12_lobby_17 : decode cX12_lobby 17 = .ok (.iconst 4, 1) := by decide +kernel
theorem dX12_lobby_18 : decode cX12_lobby 18 = .ok (.invokestatic 106, 3) := by decide +kernel
theorem dX12_lobby_21 : decode cX12_lobby 21 = .ok (.ifCond .ne 6, 3) := by decide +kernel
theorem dX12_lobby_24 : decode cX12_lobby 24 = .ok (.bipush (-2), 2) := by decide +kernel
theorem dX12_lobby_26 : decode cX12_lobby 26 = .ok (.ireturn, 1) := by decide +kernel
theorem dX12_lobby_27 : decode cX12_lobby 27 = .ok (.iconst 1, 1) := by decide +kernel
theorem dX12_lobby_28 : decode cX12_lobby 28 = .ok (.istore 5, 2) := by decide +kernel
theorem dX12_lobby_30 : decode cX12_lobby 30 = .ok (.iconst 0, 1) := by decide +kernel
theorem dX12_lobby_31 : decode cX12_lobby 31 = .ok (.istore 6, 2) := by decide +kernel
theorem dX12_lobby_33 : decode cX12_lobby 33 = .ok (.iload 6, 2) := by decide +kernel
theorem dX12_lobby_35 : decode cX12_lobby 35 = .ok (.iload_n 3, 1) := by decide +kernel
theorem dX12_lobby_36 : decode cX12_lobby 36 = .ok (.if_icmp .ge 16, 3) := by decide +kernel
theorem dX12_lobby_39 : decode cX12_lobby 39 = .ok (.iload 5, 2) := by decide +kernel
theorem dX12_lobby_41 : decode cX12_lobby 41 = .ok (.bipush 9, 2) := by decide +kernel
theorem dX12_lobby_43 : decode cX12_lobby 43 = .ok (.imul, 1) := by decide +kernel
theorem dX12_lobby_44 : decode cX12_lobby 44 = .ok (.istore 5, 2) := by decide +kernel
theorem dX12_lobby_46 : decode cX12_lobby 46 = .ok (.iinc 6 1, 3) := by decide +kernel
theorem dX12_lobby_49 : decode cX12_lobby 49 = .ok (.goto (-16), 3) := by decide +kernel
theorem dX12_lobby_52 : decode cX12_lobby 52 = .ok (.iconst 0, 1) := by decide +kernel
theorem dX12_lobby_53 : decode cX12_lobby 53 = .ok (.istore 6, 2) := by decide +kernel
theorem dX12_lobby_55 : decode cX12_lobby 55 = .ok (.iload 6, 2) := by decide +kernel
theorem dX12_lobby_57 : decode cX12_lobby 57 = .ok (.iload 5, 2) := by decide +kernel
theorem dX12_lobby_59 : decode cX12_lobby 59 = .ok (.if_icmp .ge 24, 3) := by decide +kernel
theorem dX12_lobby_62 : decode cX12_lobby 62 = .ok (.aload_n 0, 1) := by decide +kernel
theorem dX12_lobby_63 : decode cX12_lobby 63 = .ok (.getfield 41, 3) := by decide +kernel
theorem dX12_lobby_66 : decode cX12_lobby 66 = .ok (.iload 6, 2) := by decide +kernel
theorem dX12_lobby_68 : decode cX12_lobby 68 = .ok (.aload_n 0, 1) := by decide +kernel
theorem dX12_lobby_69 : decode cX12_lobby 69 = .ok (.iload_n 2, 1) := by decide +kernel
theorem dX12_lobby_70 : decode cX12_lobby 70 = .ok (.iload 6, 2) := by decide +kernel
theorem dX12_lobby_72 : decode cX12_lobby 72 = .ok (.iload_n 3, 1) := by decide +kernel
theorem dX12_lobby_73 : decode cX12_lobby 73 = .ok (.invokevirtual 285, 3) := by decide +kernel
theorem dX12_lobby_76 : decode cX12_lobby 76 = .ok (.bastore, 1) := by decide +kernel
theorem dX12_lobby_77 : decode cX12_lobby 77 = .ok (.iinc 6 1, 3) := by decide +kernel
theorem dX12_lobby_80 : decode cX12_lobby 80 = .ok (.goto (-25), 3) := by decide +kernel
theorem dX12_lobby_83 : decode cX12_lobby 83 = .ok (.iload_n 3, 1) := by decide +kernel
theorem dX12_lobby_84 : decode cX12_lobby 84 = .ok (.iconst 1, 1) := by decide +kernel
theorem dX12_lobby_85 : decode cX12_lobby 85 = .ok (.isub, 1) := by decide +kernel
theorem dX12_lobby_86 : decode cX12_lobby 86 = .ok (.istore 6, 2) := by decide +kernel
theorem dX12_lobby_88 : decode cX12_lobby 88 = .ok (.iload 6, 2) := by decide +kernel
theorem dX12_lobby_90 : decode cX12_lobby 90 = .ok (.ifCond .le 57, 3) := by decide +kernel
theorem dX12_lobby_93 : decode cX12_lobby 93 = .ok (.iload 5, 2) := by decide +kernel
theorem dX12_lobby_95 : decode cX12_lobby 95 = .ok (.bipush 9, 2) := by decide +kernel
theorem dX12_lobby_97 : decode cX12_lobby 97 = .ok (.idiv, 1) := by decide +kernel
theorem dX12_lobby_98 : decode cX12_lobby 98 = .ok (.istore 5, 2) := by decide +kernel
theorem dX12_lobby_100 : decode cX12_lobby 100 = .ok (.iconst 0, 1) := by decide +kernel
theorem dX12_lobby_101 : decode cX12_lobby 101 = .ok (.istore 7, 2) := by decide +kernel
theorem dX12_lobby_103 : decode cX12_lobby 103 = .ok (.iload 7, 2) := by decide +kernel
theorem dX12_lobby_105 : decode cX12_lobby 105 = .ok (.iload 5, 2) := by decide +kernel
theorem dX12_lobby_107 : decode cX12_lobby 107 = .ok (.if_icmp .ge 34, 3) := by decide +kernel
theorem dX12_lobby_110 : decode cX12_lobby 110 = .ok (.aload_n 0, 1) := by decide +kernel
theorem dX12_lobby_111 : decode cX12_lobby 111 = .ok (.getfield 41, 3) := by decide +kernel
theorem dX12_lobby_114 : decode cX12_lobby 114 = .ok (.iload 7, 2) := by decide +kernel
theorem dX12_lobby_116 : decode cX12_lobby 116 = .ok (.aload_n 0, 1) := by decide +kernel
theorem dX12_lobby_117 : decode cX12_lobby 117 = .ok (.iload 7, 2) := by decide +kernel
theorem dX12_lobby_119 : decode cX12_lobby 119 = .ok (.iload 6, 2) := by decide +kernel
theorem dX12_lobby_121 : decode cX12_lobby 121 = .ok (.iconst 2, 1) := by decide +kernel
theorem dX12_lobby_122 : decode cX12_lobby 122 = .ok (.irem, 1) := by decide +kernel
theorem dX12_lobby_123 : decode cX12_lobby 123 = .ok (.ifCond .ne 7, 3) := by decide +kernel
theorem dX12_lobby_126 : decode cX12_lobby 126 = .ok (.iconst 1, 1) := by decide +kernel
theorem dX12_lobby_127 : decode cX12_lobby 127 = .ok (.goto 4, 3) := by decide +kernel
theorem dX12_lobby_130 : decode cX12_lobby 130 = .ok (.iconst 0, 1) := by decide +kernel
theorem dX12_lobby_131 : decode cX12_lobby 131 = .ok (.invokevirtual 288, 3) := by decide +kernel
theorem dX12_lobby_134 : decode cX12_lobby 134 = .ok (.bastore, 1) := by decide +kernel
theorem dX12_lobby_135 : decode cX12_lobby 135 = .ok (.iinc 7 1, 3) := by decide +kernel
theorem dX12_lobby_138 : decode cX12_lobby 138 = .ok (.goto (-35), 3) := by decide +kernel
theorem dX12_lobby_141 : decode cX12_lobby 141 = .ok (.iinc 6 (-1), 3) := by decide +kernel
theorem dX12_lobby_144 : decode cX12_lobby 144 = .ok (.goto (-56), 3) := by decide +kernel
theorem dX12_lobby_147 : decode cX12_lobby 147 = .ok (.iload_n 3, 1) := by decide +kernel
theorem dX12_lobby_148 : decode cX12_lobby 148 = .ok (.ifCond .ne 27, 3) := by decide +kernel
theorem dX12_lobby_151 : decode cX12_lobby 151 = .ok (.iload 4, 2) := by decide +kernel
theorem dX12_lobby_153 : decode cX12_lobby 153 = .ok (.ifCond .eq 7, 3) := by decide +kernel
theorem dX12_lobby_156 : decode cX12_lobby 156 = .ok (.iconst (-1), 1) := by decide +kernel
theorem dX12_lobby_157 : decode cX12_lobby 157 = .ok (.goto 17, 3) := by decide +kernel
theorem dX12_lobby_160 : decode cX12_lobby 160 = .ok (.aload_n 0, 1) := by decide +kernel
theorem dX12_lobby_161 : decode cX12_lobby 161 = .ok (.getfield 41, 3) := by decide +kernel
theorem dX12_lobby_164 : decode cX12_lobby 164 = .ok (.iconst 0, 1) := by decide +kernel
theorem dX12_lobby_165 : decode cX12_lobby 165 = .ok (.baload, 1) := by decide +kernel
theorem dX12_lobby_166 : decode cX12_lobby 166 = .ok (.ifCond .eq 7, 3) := by decide +kernel
theorem dX12_lobby_169 : decode cX12_lobby 169 = .ok (.iconst 1, 1) := by decide +kernel
theorem dX12_lobby_170 : decode cX12_lobby 170 = .ok (.goto 4, 3) := by decide +kernel
theorem dX12_lobby_173 : decode cX12_lobby 173 = .ok (.iconst 0, 1) := by decide +kernel
theorem dX12_lobby_174 : decode cX12_lobby 174 = .ok (.ireturn, 1) := by decide +kernel
theorem dX12_lobby_175 : decode cX12_lobby 175 = .ok (.iconst 0, 1) := by decide +kernel
theorem dX12_lobby_176 : decode cX12_lobby 176 = .ok (.istore 6, 2) := by decide +kernel
theorem dX12_lobby_178 : decode cX12_lobby 178 = .ok (.iload 6, 2) := by decide +kernel
theorem dX12_lobby_180 : decode cX12_lobby 180 = .ok (.bipush 9, 2) := by decide +kernel
theorem dX12_lobby_182 : decode cX12_lobby 182 = .ok (.if_icmp .ge 47, 3) := by decide +kernel
theorem dX12_lobby_185 : decode cX12_lobby 185 = .ok (.aload_n 0, 1) := by decide +kernel
theorem dX12_lobby_186 : decode cX12_lobby 186 = .ok (.iload 6, 2) := by decide +kernel
theorem dX12_lobby_188 : decode cX12_lobby 188 = .ok (.invokevirtual 168, 3) := by decide +kernel
theorem dX12_lobby_191 : decode cX12_lobby 191 = .ok (.ifCond .ne 10, 3) := by decide +kernel
theorem dX12_lobby_194 : decode cX12_lobby 194 = .ok (.iload 6, 2) := by decide +kernel
theorem dX12_lobby_196 : decode cX12_lobby 196 = .ok (.bipush 8, 2) := by decide +kernel
theorem dX12_lobby_198 : decode cX12_lobby 198 = .ok (.if_icmp .ne 25, 3) := by decide +kernel
theorem dX12_lobby_201 : decode cX12_lobby 201 = .ok (.aload_n 0, 1) := by decide +kernel
theorem dX12_lobby_202 : decode cX12_lobby 202 = .ok (.getfield 41, 3) := by decide +kernel
theorem dX12_lobby_205 : decode cX12_lobby 205 = .ok (.iload 6, 2) := by decide +kernel
theorem dX12_lobby_207 : decode cX12_lobby 207 = .ok (.baload, 1) := by decide +kernel
theorem dX12_lobby_208 : decode cX12_lobby 208 = .ok (.ifCond .eq 15, 3) := by decide +kernel
theorem dX12_lobby_211 : decode cX12_lobby 211 = .ok (.iload 4, 2) := by decide +kernel
theorem dX12_lobby_213 : decode cX12_lobby 213 = .ok (.ifCond .eq 8, 3) := by decide +kernel
theorem dX12_lobby_216 : decode cX12_lobby 216 = .ok (.iload 6, 2) := by decide +kernel
theorem dX12_lobby_218 : decode cX12_lobby 218 = .ok (.goto 4, 3) := by decide +kernel
theorem dX12_lobby_221 : decode cX12_lobby 221 = .ok (.iconst 1, 1) := by decide +kernel
theorem dX12_lobby_222 : decode cX12_lobby 222 = .ok (.ireturn, 1) := by decide +kernel
theorem dX12_lobby_223 : decode cX12_lobby 223 = .ok (.iinc 6 1, 3) := by decide +kernel
theorem dX12_lobby_226 : decode cX12_lobby 226 = .ok (.goto (-48), 3) := by decide +kernel
theorem dX12_lobby_229 : decode cX12_lobby 229 = .ok (.iload 4, 2) := by decide +kernel
theorem dX12_lobby_231 : decode cX12_lobby 231 = .ok (.ifCond .eq 7, 3) := by decide +kernel
theorem dX12_lobby_234 : decode cX12_lobby 234 = .ok (.iconst (-1), 1) := by decide +kernel
theorem dX12_lobby_235 : decode cX12_lobby 235 = .ok (.goto 4, 3) := by decide +kernel
theorem dX12_lobby_238 : decode cX12_lobby 238 = .ok (.iconst 0, 1) := by decide +kernel
theorem dX12_lobby_239 : decode cX12_lobby 239 = .ok (.ireturn, 1) := by decide +kernel
theorem dX12_isAsked_0 : decode cX12_isAsked 0 = .ok (.aload_n 0, 1) := by decide +kernel
theorem dX12_isAsked_1 : decode cX12_isAsked 1 = .ok (.iload_n 1, 1) := by decide +kernel
theorem dX12_isAsked_2 : decode cX12_isAsked 2 = .ok (.invokevirtual 165, 3) := by decide +kernel
theorem dX12_isAsked_5 : decode cX12_isAsked 5 = .ok (.ifCond .eq 18, 3) := by decide +kernel
theorem dX12_isAsked_8 : decode cX12_isAsked 8 = .ok (.iload_n 2, 1) := by decide +kernel
theorem dX12_isAsked_9 : decode cX12_isAsked 9 = .ok (.invokestatic 210, 3) := by decide +kernel
theorem dX12_isAsked_12 : decode cX12_isAsked 12 = .ok (.ifCond .eq 11, 3) := by decide +kernel
theorem dX12_isAsked_15 : decode cX12_isAsked 15 = .ok (.aload_n 0, 1) := by decide +kernel
theorem dX12_isAsked_16 : decode cX12_isAsked 16 = .ok (.iload_n 3, 1) := by decide +kernel
theorem dX12_isAsked_17 : decode cX12_isAsked 17 = .ok (.invokevirtual 168, 3) := by decide +kernel
theorem dX12_isAsked_20 : decode cX12_isAsked 20 = .ok (.ifCond .ne 5, 3) := by decide +kernel
theorem dX12_isAsked_23 : decode cX12_isAsked 23 = .ok (.iconst 0, 1) := by decide +kernel
theorem dX12_isAsked_24 : decode cX12_isAsked 24 = .ok (.ireturn, 1) := by decide +kernel
theorem dX12_isAsked_25 : decode cX12_isAsked 25 = .ok (.aload_n 0, 1) := by decide +kernel
theorem dX12_isAsked_26 : decode cX12_isAsked 26 = .ok (.invokevirtual 213, 3) := by decide +kernel
theorem dX12_isAsked_29 : decode cX12_isAsked 29 = .ok (.iconst 1, 1) := by decide +kernel
theorem dX12_isAsked_30 : decode cX12_isAsked 30 = .ok (.ireturn, 1) := by decide +kernel
theorem dX12_hush_0 : decode cX12_hush 0 = .ok (.aload_n 0, 1) := by decide +kernel
theorem dX12_hush_1 : decode cX12_hush 1 = .ok (.iload_n 1, 1) := by decide +kernel
theorem dX12_hush_2 : decode cX12_hush 2 = .ok (.iload_n 2, 1) := by decide +kernel
theorem dX12_hush_3 : decode cX12_hush 3 = .ok (.iload_n 3, 1) := by decide +kernel
theorem dX12_hush_4 : decode cX12_hush 4 = .ok (.invokevirtual 291, 3) := by decide +kernel
theorem dX12_hush_7 : decode cX12_hush 7 = .ok (.ifCond .ne 5, 3) := by decide +kernel
theorem dX12_hush_10 : decode cX12_hush 10 = .ok (.iconst (-1), 1) := by decide +kernel
theorem dX12_hush_11 : decode cX12_hush 11 = .ok (.ireturn, 1) := by decide +kernel
theorem dX12_hush_12 : decode cX12_hush 12 = .ok (.iconst 0, 1) := by decide +kernel
theorem dX12_hush_13 : decode cX12_hush 13 = .ok (.istore 4, 2) := by decide +kernel
theorem dX12_hush_15 : decode cX12_hush 15 = .ok (.iload 4, 2) := by decide +kernel
theorem dX12_hush_17 : decode cX12_hush 17 = .ok (.bipush 10, 2) := by decide +kernel
theorem dX12_hush_19 : decode cX12_hush 19 = .ok (.if_icmp .ge 35, 3) := by decide +kernel
theorem dX12_hush_22 : decode cX12_hush 22 = .ok (.aload_n 0, 1) := by decide +kernel
theorem dX12_hush_23 : decode cX12_hush 23 = .ok (.getfield 23, 3) := by decide +kernel
theorem dX12_hush_26 : decode cX12_hush 26 = .ok (.iload_n 3, 1) := by decide +kernel
theorem dX12_hush_27 : decode cX12_hush 27 = .ok (.iload 4, 2) := by decide +kernel
theorem dX12_hush_29 : decode cX12_hush 29 = .ok (.iastore, 1) := by decide +kernel
theorem dX12_hush_30 : decode cX12_hush 30 = .ok (.aload_n 0, 1) := by decide +kernel
theorem dX12_hush_31 : decode cX12_hush 31 = .ok (.iload_n 3, 1) := by decide +kernel
theorem dX12_hush_32 : decode cX12_hush 32 = .ok (.iload_n 2, 1) := by decide +kernel
theorem dX12_hush_33 : decode cX12_hush 33 = .ok (.invokevirtual 198, 3) := by decide +kernel
theorem dX12_hush_36 : decode cX12_hush 36 = .ok (.aload_n 0, 1) := by decide +kernel
theorem dX12_hush_37 : decode cX12_hush 37 = .ok (.iload_n 3, 1) := by decide +kernel
theorem dX12_hush_38 : decode cX12_hush 38 = .ok (.iconst 3, 1) := by decide +kernel
theorem dX12_hush_39 : decode cX12_hush 39 = .ok (.invokevirtual 171, 3) := by decide +kernel
theorem dX12_hush_42 : decode cX12_hush 42 = .ok (.if_icmp .ge 6, 3) := by decide +kernel
theorem dX12_hush_45 : decode cX12_hush 45 = .ok (.iload 4, 2) := by decide +kernel
theorem dX12_hush_47 : decode cX12_hush 47 = .ok (.ireturn, 1) := by decide +kernel
theorem dX12_hush_48 : decode cX12_hush 48 = .ok (.iinc 4 1, 3) := by decide +kernel
theorem dX12_hush_51 : decode cX12_hush 51 = .ok (.goto (-36), 3) := by decide +kernel
theorem dX12_hush_54 : decode cX12_hush 54 = .ok (.iconst (-1), 1) := by decide +kernel
theorem dX12_hush_55 : decode cX12_hush 55 = .ok (.ireturn, 1) := by decide +kernel
theorem dX12_wake_0 : decode cX12_wake 0 = .ok (.aload_n 0, 1) := by decide +kernel
theorem dX12_wake_1 : decode cX12_wake 1 = .ok (.iload_n 1, 1) := by decide +kernel
theorem dX12_wake_2 : decode cX12_wake 2 = .ok (.iload_n 2, 1) := by decide +kernel
theorem dX12_wake_3 : decode cX12_wake 3 = .ok (.iload_n 3, 1) := by decide +kernel
theorem dX12_wake_4 : decode cX12_wake 4 = .ok (.invokevirtual 291, 3) := by decide +kernel
theorem dX12_wake_7 : decode cX12_wake 7 = .ok (.ifCond .ne 5, 3) := by decide +kernel
theorem dX12_wake_10 : decode cX12_wake 10 = .ok (.iconst (-1), 1) := by decide +kernel
theorem dX12_wake_11 : decode cX12_wake 11 = .ok (.ireturn, 1) := by decide +kernel
theorem dX12_wake_12 : decode cX12_wake 12 = .ok (.iconst 0, 1) := by decide +kernel
theorem dX12_wake_13 : decode cX12_wake 13 = .ok (.istore 4, 2) := by decide +kernel
theorem dX12_wake_15 : decode cX12_wake 15 = .ok (.iload 4, 2) := by decide +kernel
theorem dX12_wake_17 : decode cX12_wake 17 = .ok (.bipush 60, 2) := by decide +kernel
theorem dX12_wake_19 : decode cX12_wake 19 = .ok (.if_icmp .gt 31, 3) := by decide +kernel
theorem dX12_wake_22 : decode cX12_wake 22 = .ok (.aload_n 0, 1) := by decide +kernel
theorem dX12_wake_23 : decode cX12_wake 23 = .ok (.iload_n 3, 1) := by decide +kernel
theorem dX12_wake_24 : decode cX12_wake 24 = .ok (.iload_n 2, 1) := by decide +kernel
theorem dX12_wake_25 : decode cX12_wake 25 = .ok (.invokevirtual 198, 3) := by decide +kernel
theorem dX12_wake_28 : decode cX12_wake 28 = .ok (.aload_n 0, 1) := by decide +kernel
theorem dX12_wake_29 : decode cX12_wake 29 = .ok (.iload_n 3, 1) := by decide +kernel
theorem dX12_wake_30 : decode cX12_wake 30 = .ok (.iconst 3, 1) := by decide +kernel
theorem dX12_wake_31 : decode cX12_wake 31 = .ok (.invokevirtual 171, 3) := by decide +kernel
theorem dX12_wake_34 : decode cX12_wake 34 = .ok (.if_icmp .lt 6, 3) := by decide +kernel
theorem dX12_wake_37 : decode cX12_wake 37 = .ok (.iload 4, 2) := by decide +kernel
theorem dX12_wake_39 : decode cX12_wake 39 = .ok (.ireturn, 1) := by decide +kernel
theorem dX12_wake_40 : decode cX12_wake 40 = .ok (.aload_n 0, 1) := by decide +kernel
theorem dX12_wake_41 : decode cX12_wake 41 = .ok (.invokevirtual 252, 3) := by decide +kernel
theorem dX12_wake_44 : decode cX12_wake 44 = .ok (.iinc 4 1, 3) := by decide +kernel
theorem dX12_wake_47 : decode cX12_wake 47 = .ok (.goto (-32), 3) := by decide +kernel
theorem dX12_wake_50 : decode cX12_wake 50 = .ok (.iconst (-1), 1) := by decide +kernel
theorem dX12_wake_51 : decode cX12_wake 51 = .ok (.ireturn, 1) := by decide +kernel
theorem dX12_damps_0 : decode cX12_damps 0 = .ok (.aload_n 0, 1) := by decide +kernel
theorem dX12_damps_1 : decode cX12_damps 1 = .ok (.iload_n 1, 1) := by decide +kernel
theorem dX12_damps_2 : decode cX12_damps 2 = .ok (.invokevirtual 165, 3) := by decide +kernel
theorem dX12_damps_5 : decode cX12_damps 5 = .ok (.ifCond .eq 10, 3) := by decide +kernel
theorem dX12_damps_8 : decode cX12_damps 8 = .ok (.iload_n 2, 1) := by decide +kernel
theorem dX12_damps_9 : decode cX12_damps 9 = .ok (.invokestatic 210, 3) := by decide +kernel
theorem dX12_damps_12 : decode cX12_damps 12 = .ok (.ifCond .ne 5, 3) := by decide +kernel
theorem dX12_damps_15 : decode cX12_damps 15 = .ok (.iconst (-1), 1) := by decide +kernel
theorem dX12_damps_16 : decode cX12_damps 16 = .ok (.ireturn, 1) := by decide +kernel
theorem dX12_damps_17 : decode cX12_damps 17 = .ok (.aload_n 0, 1) := by decide +kernel
theorem dX12_damps_18 : decode cX12_damps 18 = .ok (.invokevirtual 213, 3) := by decide +kernel
theorem dX12_damps_21 : decode cX12_damps 21 = .ok (.iconst 0, 1) := by decide +kernel
theorem dX12_damps_22 : decode cX12_damps 22 = .ok (.istore_n 3, 1) := by decide +kernel
theorem dX12_damps_23 : decode cX12_damps 23 = .ok (.iconst 0, 1) := by decide +kernel
theorem dX12_damps_24 : decode cX12_damps 24 = .ok (.istore 4, 2) := by decide +kernel
theorem dX12_damps_26 : decode cX12_damps 26 = .ok (.iload 4, 2) := by decide +kernel
theorem dX12_damps_28 : decode cX12_damps 28 = .ok (.bipush 10, 2) := by decide +kernel
theorem dX12_damps_30 : decode cX12_damps 30 = .ok (.if_icmp .ge 34, 3) := by decide +kernel
theorem dX12_damps_33 : decode cX12_damps 33 = .ok (.aload_n 0, 1) := by decide +kernel
theorem dX12_damps_34 : decode cX12_damps 34 = .ok (.iload 4, 2) := by decide +kernel
theorem dX12_damps_36 : decode cX12_damps 36 = .ok (.putfield 180, 3) := by decide +kernel
theorem dX12_damps_39 : decode cX12_damps 39 = .ok (.iload_n 3, 1) := by decide +kernel
theorem dX12_damps_40 : decode cX12_damps 40 = .ok (.aload_n 0, 1) := by decide +kernel
theorem dX12_damps_41 : decode cX12_damps 41 = .ok (.iload_n 2, 1) := by decide +kernel
theorem dX12_damps_42 : decode cX12_damps 42 = .ok (.invokevirtual 216, 3) := by decide +kernel
theorem dX12_damps_45 : decode cX12_damps 45 = .ok (.ifCond .eq 10, 3) := by decide +kernel
theorem dX12_damps_48 : decode cX12_damps 48 = .ok (.iconst 1, 1) := by decide +kernel
theorem dX12_damps_49 : decode cX12_damps 49 = .ok (.iload 4, 2) := by decide +kernel
theorem dX12_damps_51 : decode cX12_damps 51 = .ok (.ishl, 1) := by decide +kernel
theorem dX12_damps_52 : decode cX12_damps 52 = .ok (.goto 4, 3) := by decide +kernel
theorem dX12_damps_55 : decode cX12_damps 55 = .ok (.iconst 0, 1) := by decide +kernel
theorem dX12_damps_56 : decode cX12_damps 56 = .ok (.ior, 1) := by decide +kernel
theorem dX12_damps_57 : decode cX12_damps 57 = .ok (.istore_n 3, 1) := by decide +kernel
theorem dX12_damps_58 : decode cX12_damps 58 = .ok (.iinc 4 1, 3) := by decide +kernel
theorem dX12_damps_61 : decode cX12_damps 61 = .ok (.goto (-35), 3) := by decide +kernel
theorem dX12_damps_64 : decode cX12_damps 64 = .ok (.iload_n 3, 1) := by decide +kernel
theorem dX12_damps_65 : decode cX12_damps 65 = .ok (.ireturn, 1) := by decide +kernel
theorem dX12_tips_0 : decode cX12_tips 0 = .ok (.aload_n 0, 1) := by decide +kernel
theorem dX12_tips_1 : decode cX12_tips 1 = .ok (.iload_n 1, 1) := by decide +kernel
theorem dX12_tips_2 : decode cX12_tips 2 = .ok (.iload_n 2, 1) := by decide +kernel
theorem dX12_tips_3 : decode cX12_tips 3 = .ok (.iload_n 3, 1) := by decide +kernel
theorem dX12_tips_4 : decode cX12_tips 4 = .ok (.invokevirtual 291, 3) := by decide +kernel
theorem dX12_tips_7 : decode cX12_tips 7 = .ok (.ifCond .eq 13, 3) := by decide +kernel
theorem dX12_tips_10 : decode cX12_tips 10 = .ok (.aload_n 0, 1) := by decide +kernel
theorem dX12_tips_11 : decode cX12_tips 11 = .ok (.iload_n 3, 1) := by decide +kernel
theorem dX12_tips_12 : decode cX12_tips 12 = .ok (.iconst 0, 1) := by decide +kernel
theorem dX12_tips_13 : decode cX12_tips 13 = .ok (.invokevirtual 171, 3) := by decide +kernel
theorem dX12_tips_16 : decode cX12_tips 16 = .ok (.iconst 1, 1) := by decide +kernel
theorem dX12_tips_17 : decode cX12_tips 17 = .ok (.if_icmp .eq 5, 3) := by decide +kernel
theorem dX12_tips_20 : decode cX12_tips 20 = .ok (.iconst (-1), 1) := by decide +kernel
theorem dX12_tips_21 : decode cX12_tips 21 = .ok (.ireturn, 1) := by decide +kernel
theorem dX12_tips_22 : decode cX12_tips 22 = .ok (.iconst 0, 1) := by decide +kernel
theorem dX12_tips_23 : decode cX12_tips 23 = .ok (.istore 4, 2) := by decide +kernel
theorem dX12_tips_25 : decode cX12_tips 25 = .ok (.iload 4, 2) := by decide +kernel
theorem dX12_tips_27 : decode cX12_tips 27 = .ok (.bipush 10, 2) := by decide +kernel
theorem dX12_tips_29 : decode cX12_tips 29 = .ok (.if_icmp .ge 33, 3) := by decide +kernel
theorem dX12_tips_32 : decode cX12_tips 32 = .ok (.aload_n 0, 1) := by decide +kernel
theorem dX12_tips_33 : decode cX12_tips 33 = .ok (.iload 4, 2) := by decide +kernel
theorem dX12_tips_35 : decode cX12_tips 35 = .ok (.putfield 180, 3) := by decide +kernel
theorem dX12_tips_38 : decode cX12_tips 38 = .ok (.aload_n 0, 1) := by decide +kernel
theorem dX12_tips_39 : decode cX12_tips 39 = .ok (.iload_n 3, 1) := by decide +kernel
theorem dX12_tips_40 : decode cX12_tips 40 = .ok (.iload_n 2, 1) := by decide +kernel
theorem dX12_tips_41 : decode cX12_tips 41 = .ok (.invokevirtual 198, 3) := by decide +kernel
theorem dX12_tips_44 : decode cX12_tips 44 = .ok (.aload_n 0, 1) := by decide +kernel
theorem dX12_tips_45 : decode cX12_tips 45 = .ok (.iload_n 3, 1) := by decide +kernel
theorem dX12_tips_46 : decode cX12_tips 46 = .ok (.iconst 3, 1) := by decide +kernel
theorem dX12_tips_47 : decode cX12_tips 47 = .ok (.invokevirtual 171, 3) := by decide +kernel
theorem dX12_tips_50 : decode cX12_tips 50 = .ok (.if_icmp .lt 6, 3) := by decide +kernel
theorem dX12_tips_53 : decode cX12_tips 53 = .ok (.iload 4, 2) := by decide +kernel
theorem dX12_tips_55 : decode cX12_tips 55 = .ok (.ireturn, 1) := by decide +kernel
theorem dX12_tips_56 : decode cX12_tips 56 = .ok (.iinc 4 1, 3) := by decide +kernel
theorem dX12_tips_59 : decode cX12_tips 59 = .ok (.goto (-34), 3) := by decide +kernel
theorem dX12_tips_62 : decode cX12_tips 62 = .ok (.iconst (-1), 1) := by decide +kernel
theorem dX12_tips_63 : decode cX12_tips 63 = .ok (.ireturn, 1) := by decide +kernel
theorem dX12_weighty_0 : decode cX12_weighty 0 = .ok (.aload_n 0, 1) := by decide +kernel
theorem dX12_weighty_1 : decode cX12_weighty 1 = .ok (.iload_n 1, 1) := by decide +kernel
theorem dX12_weighty_2 : decode cX12_weighty 2 = .ok (.invokevirtual 165, 3) := by decide +kernel
theorem dX12_weighty_5 : decode cX12_weighty 5 = .ok (.ifCond .eq 10, 3) := by decide +kernel
theorem dX12_weighty_8 : decode cX12_weighty 8 = .ok (.iload_n 2, 1) := by decide +kernel
theorem dX12_weighty_9 : decode cX12_weighty 9 = .ok (.invokestatic 210, 3) := by decide +kernel
theorem dX12_weighty_12 : decode cX12_weighty 12 = .ok (.ifCond .ne 5, 3) := by decide +kernel
theorem dX12_weighty_15 : decode cX12_weighty 15 = .ok (.iconst (-1), 1) := by decide +kernel
theorem dX12_weighty_16 : decode cX12_weighty 16 = .ok (.ireturn, 1) := by decide +kernel
theorem dX12_weighty_17 : decode cX12_weighty 17 = .ok (.aload_n 0, 1) := by decide +kernel
theorem dX12_weighty_18 : decode cX12_weighty 18 = .ok (.invokevirtual 213, 3) := by decide +kernel
theorem dX12_weighty_21 : decode cX12_weighty 21 = .ok (.aload_n 0, 1) := by decide +kernel
theorem dX12_weighty_22 : decode cX12_weighty 22 = .ok (.iload_n 2, 1) := by decide +kernel
theorem dX12_weighty_23 : decode cX12_weighty 23 = .ok (.invokevirtual 216, 3) := by decide +kernel
theorem dX12_weighty_26 : decode cX12_weighty 26 = .ok (.istore_n 3, 1) := by decide +kernel
theorem dX12_weighty_27 : decode cX12_weighty 27 = .ok (.iconst 0, 1) := by decide +kernel
theorem dX12_weighty_28 : decode cX12_weighty 28 = .ok (.istore 4, 2) := by decide +kernel
theorem dX12_weighty_30 : decode cX12_weighty 30 = .ok (.iconst 0, 1) := by decide +kernel
theorem dX12_weighty_31 : decode cX12_weighty 31 = .ok (.istore 5, 2) := by decide +kernel
theorem dX12_weighty_33 : decode cX12_weighty 33 = .ok (.iload 5, 2) := by decide +kernel
theorem dX12_weighty_35 : decode cX12_weighty 35 = .ok (.aload_n 0, 1) := by decide +kernel
theorem dX12_weighty_36 : decode cX12_weighty 36 = .ok (.getfield 162, 3) := by decide +kernel
theorem dX12_weighty_39 : decode cX12_weighty 39 = .ok (.if_icmp .ge 54, 3) := by decide +kernel
theorem dX12_weighty_42 : decode cX12_weighty 42 = .ok (.aload_n 0, 1) := by decide +kernel
theorem dX12_weighty_43 : decode cX12_weighty 43 = .ok (.getfield 26, 3) := by decide +kernel
theorem dX12_weighty_46 : decode cX12_weighty 46 = .ok (.iload 5, 2) := by decide +kernel
theorem dX12_weighty_48 : decode cX12_weighty 48 = .ok (.bipush 8, 2) := by decide +kernel
theorem dX12_weighty_50 : decode cX12_weighty 50 = .ok (.iastore, 1) := by decide +kernel
theorem dX12_weighty_51 : decode cX12_weighty 51 = .ok (.iload 4, 2) := by decide +kernel
theorem dX12_weighty_53 : decode cX12_weighty 53 = .ok (.aload_n 0, 1) := by decide +kernel
theorem dX12_weighty_54 : decode cX12_weighty 54 = .ok (.iload_n 2, 1) := by decide +kernel
theorem dX12_weighty_55 : decode cX12_weighty 55 = .ok (.invokevirtual 216, 3) := by decide +kernel
theorem dX12_weighty_58 : decode cX12_weighty 58 = .ok (.iload_n 3, 1) := by decide +kernel
theorem dX12_weighty_59 : decode cX12_weighty 59 = .ok (.if_icmp .eq 10, 3) := by decide +kernel
theorem dX12_weighty_62 : decode cX12_weighty 62 = .ok (.iconst 1, 1) := by decide +kernel
theorem dX12_weighty_63 : decode cX12_weighty 63 = .ok (.iload 5, 2) := by decide +kernel
theorem dX12_weighty_65 : decode cX12_weighty 65 = .ok (.ishl, 1) := by decide +kernel
theorem dX12_weighty_66 : decode cX12_weighty 66 = .ok (.goto 4, 3) := by decide +kernel
theorem dX12_weighty_69 : decode cX12_weighty 69 = .ok (.iconst 0, 1) := by decide +kernel
theorem dX12_weighty_70 : decode cX12_weighty 70 = .ok (.ior, 1) := by decide +kernel
theorem dX12_weighty_71 : decode cX12_weighty 71 = .ok (.istore 4, 2) := by decide +kernel
theorem dX12_weighty_73 : decode cX12_weighty 73 = .ok (.aload_n 0, 1) := by decide +kernel
theorem dX12_weighty_74 : decode cX12_weighty 74 = .ok (.getfield 26, 3) := by decide +kernel
theorem dX12_weighty_77 : decode cX12_weighty 77 = .ok (.iload 5, 2) := by decide +kernel
theorem dX12_weighty_79 : decode cX12_weighty 79 = .ok (.aload_n 0, 1) := by decide +kernel
theorem dX12_weighty_80 : decode cX12_weighty 80 = .ok (.iload 5, 2) := by decide +kernel
theorem dX12_weighty_82 : decode cX12_weighty 82 = .ok (.iconst 1, 1) := by decide +kernel
theorem dX12_weighty_83 : decode cX12_weighty 83 = .ok (.invokevirtual 177, 3) := by decide +kernel
theorem dX12_weighty_86 : decode cX12_weighty 86 = .ok (.iastore, 1) := by decide +kernel
theorem dX12_weighty_87 : decode cX12_weighty 87 = .ok (.iinc 5 1, 3) := by decide +kernel
theorem dX12_weighty_90 : decode cX12_weighty 90 = .ok (.goto (-57), 3) := by decide +kernel
theorem dX12_weighty_93 : decode cX12_weighty 93 = .ok (.iload 4, 2) := by decide +kernel
theorem dX12_weighty_95 : decode cX12_weighty 95 = .ok (.ireturn, 1) := by decide +kernel
