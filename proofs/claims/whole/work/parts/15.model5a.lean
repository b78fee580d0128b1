theorem dX12_worded_0 : decode cX12_worded 0 = .ok (.aload_n 0, 1) := by decide +kernel
theorem dX12_worded_1 : decode cX12_worded 1 = .ok (.iload_n 1, 1) := by decide +kernel
theorem dX12_worded_2 : decode cX12_worded 2 = .ok (.invokevirtual 165, 3) := by decide +kernel
theorem dX12_worded_5 : decode cX12_worded 5 = .ok (.ifCond .eq 10, 3) := by decide +kernel
theorem dX12_worded_8 : decode cX12_worded 8 = .ok (.iload_n 2, 1) := by decide +kernel
theorem dX12_worded_9 : decode cX12_worded 9 = .ok (.invokestatic 210, 3) := by decide +kernel
theorem dX12_worded_12 : decode cX12_worded 12 = .ok (.ifCond .ne 5, 3) := by decide +kernel
theorem dX12_worded_15 : decode cX12_worded 15 = .ok (.iconst (-1), 1) := by decide +kernel
theorem dX12_worded_16 : decode cX12_worded 16 = .ok (.ireturn, 1) := by decide +kernel
theorem dX12_worded_17 : decode cX12_worded 17 = .ok (.aload_n 0, 1) := by decide +kernel
theorem dX12_worded_18 : decode cX12_worded 18 = .ok (.invokevirtual 213, 3) := by decide +kernel
theorem dX12_worded_21 : decode cX12_worded 21 = .ok (.iconst (-1), 1) := by decide +kernel
theorem dX12_worded_22 : decode cX12_worded 22 = .ok (.istore_n 3, 1) := by decide +kernel
theorem dX12_worded_23 : decode cX12_worded 23 = .ok (.iconst 0, 1) := by decide +kernel
theorem dX12_worded_24 : decode cX12_worded 24 = .ok (.istore 4, 2) := by decide +kernel
theorem dX12_worded_26 : decode cX12_worded 26 = .ok (.iload 4, 2) := by decide +kernel
theorem dX12_worded_28 : decode cX12_worded 28 = .ok (.bipush 64, 2) := by decide +kernel
theorem dX12_worded_30 : decode cX12_worded 30 = .ok (.if_icmp .ge 46, 3) := by decide +kernel
theorem dX12_worded_33 : decode cX12_worded 33 = .ok (.iload 4, 2) := by decide +kernel
theorem dX12_worded_35 : decode cX12_worded 35 = .ok (.iload_n 2, 1) := by decide +kernel
theorem dX12_worded_36 : decode cX12_worded 36 = .ok (.iand, 1) := by decide +kernel
theorem dX12_worded_37 : decode cX12_worded 37 = .ok (.iload_n 2, 1) := by decide +kernel
theorem dX12_worded_38 : decode cX12_worded 38 = .ok (.if_icmp .ne 32, 3) := by decide +kernel
theorem dX12_worded_41 : decode cX12_worded 41 = .ok (.iload_n 3, 1) := by decide +kernel
theorem dX12_worded_42 : decode cX12_worded 42 = .ok (.iconst (-1), 1) := by decide +kernel
theorem dX12_worded_43 : decode cX12_worded 43 = .ok (.if_icmp .eq 15, 3) := by decide +kernel
theorem dX12_worded_46 : decode cX12_worded 46 = .ok (.iload 4, 2) := by decide +kernel
theorem dX12_worded_48 : decode cX12_worded 48 = .ok (.invokestatic 195, 3) := by decide +kernel
theorem dX12_worded_51 : decode cX12_worded 51 = .ok (.iload_n 3, 1) := by decide +kernel
theorem dX12_worded_52 : decode cX12_worded 52 = .ok (.invokestatic 195, 3) := by decide +kernel
theorem dX12_worded_55 : decode cX12_worded 55 = .ok (.if_icmp .ge 15, 3) := by decide +kernel
theorem dX12_worded_58 : decode cX12_worded 58 = .ok (.aload_n 0, 1) := by decide +kernel
theorem dX12_worded_59 : decode cX12_worded 59 = .ok (.iload 4, 2) := by decide +kernel
theorem dX12_worded_61 : decode cX12_worded 61 = .ok (.invokevirtual 216, 3) := by decide +kernel
theorem dX12_worded_64 : decode cX12_worded 64 = .ok (.ifCond .eq 6, 3) := by decide +kernel
theorem dX12_worded_67 : decode cX12_worded 67 = .ok (.iload 4, 2) := by decide +kernel
theorem dX12_worded_69 : decode cX12_worded 69 = .ok (.istore_n 3, 1) := by decide +kernel
theorem dX12_worded_70 : decode cX12_worded 70 = .ok (.iinc 4 1, 3) := by decide +kernel
theorem dX12_worded_73 : decode cX12_worded 73 = .ok (.goto (-47), 3) := by decide +kernel
theorem dX12_worded_76 : decode cX12_worded 76 = .ok (.iload_n 3, 1) := by decide +kernel
theorem dX12_worded_77 : decode cX12_worded 77 = .ok (.ireturn, 1) := by decide +kernel
theorem dX12_clear_0 : decode cX12_clear 0 = .ok (.aload_n 0, 1) := by decide +kernel
theorem dX12_clear_1 : decode cX12_clear 1 = .ok (.iload_n 1, 1) := by decide +kernel
theorem dX12_clear_2 : decode cX12_clear 2 = .ok (.invokevirtual 165, 3) := by decide +kernel
theorem dX12_clear_5 : decode cX12_clear 5 = .ok (.ifCond .eq 8, 3) := by decide +kernel
theorem dX12_clear_8 : decode cX12_clear 8 = .ok (.iload_n 2, 1) := by decide +kernel
theorem dX12_clear_9 : decode cX12_clear 9 = .ok (.iconst (-1), 1) := by decide +kernel
theorem dX12_clear_10 : decode cX12_clear 10 = .ok (.if_icmp .ge 5, 3) := by decide +kernel
theorem dX12_clear_13 : decode cX12_clear 13 = .ok (.iconst (-1), 1) := by decide +kernel
theorem dX12_clear_14 : decode cX12_clear 14 = .ok (.ireturn, 1) := by decide +kernel
theorem dX12_clear_15 : decode cX12_clear 15 = .ok (.aload_n 0, 1) := by decide +kernel
theorem dX12_clear_16 : decode cX12_clear 16 = .ok (.invokevirtual 213, 3) := by decide +kernel
theorem dX12_clear_19 : decode cX12_clear 19 = .ok (.iconst 0, 1) := by decide +kernel
theorem dX12_clear_20 : decode cX12_clear 20 = .ok (.istore_n 3, 1) := by decide +kernel
theorem dX12_clear_21 : decode cX12_clear 21 = .ok (.iconst 0, 1) := by decide +kernel
theorem dX12_clear_22 : decode cX12_clear 22 = .ok (.istore 4, 2) := by decide +kernel
theorem dX12_clear_24 : decode cX12_clear 24 = .ok (.iload 4, 2) := by decide +kernel
theorem dX12_clear_26 : decode cX12_clear 26 = .ok (.bipush 64, 2) := by decide +kernel
theorem dX12_clear_28 : decode cX12_clear 28 = .ok (.if_icmp .ge 39, 3) := by decide +kernel
theorem dX12_clear_31 : decode cX12_clear 31 = .ok (.aload_n 0, 1) := by decide +kernel
theorem dX12_clear_32 : decode cX12_clear 32 = .ok (.iload 4, 2) := by decide +kernel
theorem dX12_clear_34 : decode cX12_clear 34 = .ok (.invokevirtual 216, 3) := by decide +kernel
theorem dX12_clear_37 : decode cX12_clear 37 = .ok (.ifCond .eq 24, 3) := by decide +kernel
theorem dX12_clear_40 : decode cX12_clear 40 = .ok (.aload_n 0, 1) := by decide +kernel
theorem dX12_clear_41 : decode cX12_clear 41 = .ok (.getfield 204, 3) := by decide +kernel
theorem dX12_clear_44 : decode cX12_clear 44 = .ok (.ifCond .le 6, 3) := by decide +kernel
theorem dX12_clear_47 : decode cX12_clear 47 = .ok (.goto 14, 3) := by decide +kernel
theorem dX12_clear_50 : decode cX12_clear 50 = .ok (.iload_n 3, 1) := by decide +kernel
theorem dX12_clear_51 : decode cX12_clear 51 = .ok (.iload_n 2, 1) := by decide +kernel
theorem dX12_clear_52 : decode cX12_clear 52 = .ok (.if_icmp .ne 6, 3) := by decide +kernel
theorem dX12_clear_55 : decode cX12_clear 55 = .ok (.iload 4, 2) := by decide +kernel
theorem dX12_clear_57 : decode cX12_clear 57 = .ok (.ireturn, 1) := by decide +kernel
theorem dX12_clear_58 : decode cX12_clear 58 = .ok (.iinc 3 1, 3) := by decide +kernel
theorem dX12_clear_61 : decode cX12_clear 61 = .ok (.iinc 4 1, 3) := by decide +kernel
theorem dX12_clear_64 : decode cX12_clear 64 = .ok (.goto (-40), 3) := by decide +kernel
theorem dX12_clear_67 : decode cX12_clear 67 = .ok (.iload_n 2, 1) := by decide +kernel
theorem dX12_clear_68 : decode cX12_clear 68 = .ok (.iconst (-1), 1) := by decide +kernel
theorem dX12_clear_69 : decode cX12_clear 69 = .ok (.if_icmp .ne 7, 3) := by decide +kernel
theorem dX12_clear_72 : decode cX12_clear 72 = .ok (.iload_n 3, 1) := by decide +kernel
theorem dX12_clear_73 : decode cX12_clear 73 = .ok (.goto 4, 3) := by decide +kernel
theorem dX12_clear_76 : decode cX12_clear 76 = .ok (.iconst (-1), 1) := by decide +kernel
theorem dX12_clear_77 : decode cX12_clear 77 = .ok (.ireturn, 1) := by decide +kernel
theorem dX12_kin_0 : decode cX12_kin 0 = .ok (.aload_n 0, 1) := by decide +kernel
theorem dX12_kin_1 : decode cX12_kin 1 = .ok (.iload_n 1, 1) := by decide +kernel
theorem dX12_kin_2 : decode cX12_kin 2 = .ok (.invokevirtual 165, 3) := by decide +kernel
theorem dX12_kin_5 : decode cX12_kin 5 = .ok (.ifCond .eq 19, 3) := by decide +kernel
theorem dX12_kin_8 : decode cX12_kin 8 = .ok (.aload_n 0, 1) := by decide +kernel
theorem dX12_kin_9 : decode cX12_kin 9 = .ok (.iload_n 2, 1) := by decide +kernel
theorem dX12_kin_10 : decode cX12_kin 10 = .ok (.invokevirtual 168, 3) := by decide +kernel
theorem dX12_kin_13 : decode cX12_kin 13 = .ok (.ifCond .eq 11, 3) := by decide +kernel
theorem dX12_kin_16 : decode cX12_kin 16 = .ok (.aload_n 0, 1) := by decide +kernel
theorem dX12_kin_17 : decode cX12_kin 17 = .ok (.iload_n 3, 1) := by decide +kernel
theorem dX12_kin_18 : decode cX12_kin 18 = .ok (.invokevirtual 168, 3) := by decide +kernel
theorem dX12_kin_21 : decode cX12_kin 21 = .ok (.ifCond .ne 5, 3) := by decide +kernel
theorem dX12_kin_24 : decode cX12_kin 24 = .ok (.iconst (-1), 1) := by decide +kernel
theorem dX12_kin_25 : decode cX12_kin 25 = .ok (.ireturn, 1) := by decide +kernel
theorem dX12_kin_26 : decode cX12_kin 26 = .ok (.aload_n 0, 1) := by decide +kernel
theorem dX12_kin_27 : decode cX12_kin 27 = .ok (.invokevirtual 213, 3) := by decide +kernel
theorem dX12_kin_30 : decode cX12_kin 30 = .ok (.iconst 0, 1) := by decide +kernel
theorem dX12_kin_31 : decode cX12_kin 31 = .ok (.istore 4, 2) := by decide +kernel
theorem dX12_kin_33 : decode cX12_kin 33 = .ok (.iconst 0, 1) := by decide +kernel
theorem dX12_kin_34 : decode cX12_kin 34 = .ok (.istore 5, 2) := by decide +kernel
theorem dX12_kin_36 : decode cX12_kin 36 = .ok (.iload 5, 2) := by decide +kernel
theorem dX12_kin_38 : decode cX12_kin 38 = .ok (.bipush 64, 2) := by decide +kernel
theorem dX12_kin_40 : decode cX12_kin 40 = .ok (.if_icmp .ge 50, 3) := by decide +kernel
theorem dX12_kin_43 : decode cX12_kin 43 = .ok (.aload_n 0, 1) := by decide +kernel
theorem dX12_kin_44 : decode cX12_kin 44 = .ok (.iload 5, 2) := by decide +kernel
theorem dX12_kin_46 : decode cX12_kin 46 = .ok (.invokevirtual 216, 3) := by decide +kernel
theorem dX12_kin_49 : decode cX12_kin 49 = .ok (.pop, 1) := by decide +kernel
theorem dX12_kin_50 : decode cX12_kin 50 = .ok (.iload 4, 2) := by decide +kernel
theorem dX12_kin_52 : decode cX12_kin 52 = .ok (.aload_n 0, 1) := by decide +kernel
theorem dX12_kin_53 : decode cX12_kin 53 = .ok (.getfield 29, 3) := by decide +kernel
theorem dX12_kin_56 : decode cX12_kin 56 = .ok (.iload_n 2, 1) := by decide +kernel
theorem dX12_kin_57 : decode cX12_kin 57 = .ok (.iaload, 1) := by decide +kernel
theorem dX12_kin_58 : decode cX12_kin 58 = .ok (.ifCond .eq 22, 3) := by decide +kernel
theorem dX12_kin_61 : decode cX12_kin 61 = .ok (.aload_n 0, 1) := by decide +kernel
theorem dX12_kin_62 : decode cX12_kin 62 = .ok (.getfield 29, 3) := by decide +kernel
theorem dX12_kin_65 : decode cX12_kin 65 = .ok (.iload_n 2, 1) := by decide +kernel
theorem dX12_kin_66 : decode cX12_kin 66 = .ok (.iaload, 1) := by decide +kernel
theorem dX12_kin_67 : decode cX12_kin 67 = .ok (.aload_n 0, 1) := by decide +kernel
theorem dX12_kin_68 : decode cX12_kin 68 = .ok (.getfield 29, 3) := by decide +kernel
theorem dX12_kin_71 : decode cX12_kin 71 = .ok (.iload_n 3, 1) := by decide +kernel
theorem dX12_kin_72 : decode cX12_kin 72 = .ok (.iaload, 1) := by decide +kernel
theorem dX12_kin_73 : decode cX12_kin 73 = .ok (.if_icmp .ne 7, 3) := by decide +kernel
theorem dX12_kin_76 : decode cX12_kin 76 = .ok (.iconst 1, 1) := by decide +kernel
theorem dX12_kin_77 : decode cX12_kin 77 = .ok (.goto 4, 3) := by decide +kernel
theorem dX12_kin_80 : decode cX12_kin 80 = .ok (.iconst 0, 1) := by decide +kernel
theorem dX12_kin_81 : decode cX12_kin 81 = .ok (.iadd, 1) := by decide +kernel
theorem dX12_kin_82 : decode cX12_kin 82 = .ok (.istore 4, 2) := by decide +kernel
theorem dX12_kin_84 : decode cX12_kin 84 = .ok (.iinc 5 1, 3) := by decide +kernel
theorem dX12_kin_87 : decode cX12_kin 87 = .ok (.goto (-51), 3) := by decide +kernel
theorem dX12_kin_90 : decode cX12_kin 90 = .ok (.iload 4, 2) := by decide +kernel
theorem dX12_kin_92 : decode cX12_kin 92 = .ok (.ireturn, 1) := by decide +kernel
theorem dX12_trade_0 : decode cX12_trade 0 = .ok (.aload_n 0, 1) := by decide +kernel
theorem dX12_trade_1 : decode cX12_trade 1 = .ok (.iload_n 1, 1) := by decide +kernel
theorem dX12_trade_2 : decode cX12_trade 2 = .ok (.invokevirtual 165, 3) := by decide +kernel
theorem dX12_trade_5 : decode cX12_trade 5 = .ok (.ifCond .eq 10, 3) := by decide +kernel
theorem dX12_trade_8 : decode cX12_trade 8 = .ok (.iload_n 2, 1) := by decide +kernel
theorem dX12_trade_9 : decode cX12_trade 9 = .ok (.invokestatic 210, 3) := by decide +kernel
theorem dX12_trade_12 : decode cX12_trade 12 = .ok (.ifCond .ne 5, 3) := by decide +kernel
theorem dX12_trade_15 : decode cX12_trade 15 = .ok (.iconst (-1), 1) := by decide +kernel
theorem dX12_trade_16 : decode cX12_trade 16 = .ok (.ireturn, 1) := by decide +kernel
theorem dX12_trade_17 : decode cX12_trade 17 = .ok (.aload_n 0, 1) := by decide +kernel
theorem dX12_trade_18 : decode cX12_trade 18 = .ok (.invokevirtual 213, 3) := by decide +kernel
theorem dX12_trade_21 : decode cX12_trade 21 = .ok (.aload_n 0, 1) := by decide +kernel
theorem dX12_trade_22 : decode cX12_trade 22 = .ok (.iload_n 2, 1) := by decide +kernel
theorem dX12_trade_23 : decode cX12_trade 23 = .ok (.invokevirtual 216, 3) := by decide +kernel
theorem dX12_trade_26 : decode cX12_trade 26 = .ok (.istore_n 3, 1) := by decide +kernel
theorem dX12_trade_27 : decode cX12_trade 27 = .ok (.iconst 0, 1) := by decide +kernel
theorem dX12_trade_28 : decode cX12_trade 28 = .ok (.istore 4, 2) := by decide +kernel
theorem dX12_trade_30 : decode cX12_trade 30 = .ok (.iload 4, 2) := by decide +kernel
theorem dX12_trade_32 : decode cX12_trade 32 = .ok (.aload_n 0, 1) := by decide +kernel
theorem dX12_trade_33 : decode cX12_trade 33 = .ok (.getfield 162, 3) := by decide +kernel
theorem dX12_trade_36 : decode cX12_trade 36 = .ok (.if_icmp .ge 104, 3) := by decide +kernel
theorem dX12_trade_39 : decode cX12_trade 39 = .ok (.iload 4, 2) := by decide +kernel
theorem dX12_trade_41 : decode cX12_trade 41 = .ok (.iconst 1, 1) := by decide +kernel
theorem dX12_trade_42 : decode cX12_trade 42 = .ok (.iadd, 1) := by decide +kernel
theorem dX12_trade_43 : decode cX12_trade 43 = .ok (.istore 5, 2) := by decide +kernel
theorem dX12_trade_45 : decode cX12_trade 45 = .ok (.iload 5, 2) := by decide +kernel
theorem dX12_trade_47 : decode cX12_trade 47 = .ok (.aload_n 0, 1) := by decide +kernel
theorem dX12_trade_48 : decode cX12_trade 48 = .ok (.getfield 162, 3) := by decide +kernel
theorem dX12_trade_51 : decode cX12_trade 51 = .ok (.if_icmp .ge 83, 3) := by decide +kernel
theorem dX12_trade_54 : decode cX12_trade 54 = .ok (.aload_n 0, 1) := by decide +kernel
theorem dX12_trade_55 : decode cX12_trade 55 = .ok (.getfield 26, 3) := by decide +kernel
theorem dX12_trade_58 : decode cX12_trade 58 = .ok (.iload 4, 2) := by decide +kernel
theorem dX12_trade_60 : decode cX12_trade 60 = .ok (.aload_n 0, 1) := by decide +kernel
theorem dX12_trade_61 : decode cX12_trade 61 = .ok (.iload 5, 2) := by decide +kernel
theorem dX12_trade_63 : decode cX12_trade 63 = .ok (.iconst 1, 1) := by decide +kernel
theorem dX12_trade_64 : decode cX12_trade 64 = .ok (.invokevirtual 177, 3) := by decide +kernel
theorem dX12_trade_67 : decode cX12_trade 67 = .ok (.iastore, 1) := by decide +kernel
theorem dX12_trade_68 : decode cX12_trade 68 = .ok (.aload_n 0, 1) := by decide +kernel
theorem dX12_trade_69 : decode cX12_trade 69 = .ok (.getfield 26, 3) := by decide +kernel
theorem dX12_trade_72 : decode cX12_trade 72 = .ok (.iload 5, 2) := by decide +kernel
theorem dX12_trade_74 : decode cX12_trade 74 = .ok (.aload_n 0, 1) := by decide +kernel
theorem dX12_trade_75 : decode cX12_trade 75 = .ok (.iload 4, 2) := by decide +kernel
theorem dX12_trade_77 : decode cX12_trade 77 = .ok (.iconst 1, 1) := by decide +kernel
theorem dX12_trade_78 : decode cX12_trade 78 = .ok (.invokevirtual 177, 3) := by decide +kernel
theorem dX12_trade_81 : decode cX12_trade 81 = .ok (.iastore, 1) := by decide +kernel
theorem dX12_trade_82 : decode cX12_trade 82 = .ok (.aload_n 0, 1) := by decide +kernel
theorem dX12_trade_83 : decode cX12_trade 83 = .ok (.iload_n 2, 1) := by decide +kernel
theorem dX12_trade_84 : decode cX12_trade 84 = .ok (.invokevirtual 216, 3) := by decide +kernel
theorem dX12_trade_87 : decode cX12_trade 87 = .ok (.iload_n 3, 1) := by decide +kernel
theorem dX12_trade_88 : decode cX12_trade 88 = .ok (.if_icmp .eq 12, 3) := by decide +kernel
theorem dX12_trade_91 : decode cX12_trade 91 = .ok (.bipush 10, 2) := by decide +kernel
theorem dX12_trade_93 : decode cX12_trade 93 = .ok (.iload 4, 2) := by decide +kernel
theorem dX12_trade_95 : decode cX12_trade 95 = .ok (.imul, 1) := by decide +kernel
theorem dX12_trade_96 : decode cX12_trade 96 = .ok (.iload 5, 2) := by decide +kernel
theorem dX12_trade_98 : decode cX12_trade 98 = .ok (.iadd, 1) := by decide +kernel
theorem dX12_trade_99 : decode cX12_trade 99 = .ok (.ireturn, 1) := by decide +kernel
theorem dX12_trade_100 : decode cX12_trade 100 = .ok (.aload_n 0, 1) := by decide +kernel
theorem dX12_trade_101 : decode cX12_trade 101 = .ok (.getfield 26, 3) := by decide +kernel
theorem dX12_trade_104 : decode cX12_trade 104 = .ok (.iload 4, 2) := by decide +kernel
theorem dX12_trade_106 : decode cX12_trade 106 = .ok (.aload_n 0, 1) := by decide +kernel
theorem dX12_trade_107 : decode cX12_trade 107 = .ok (.iload 4, 2) := by decide +kernel
theorem dX12_trade_109 : decode cX12_trade 109 = .ok (.iconst 1, 1) := by decide +kernel
theorem dX12_trade_110 : decode cX12_trade 110 = .ok (.invokevirtual 177, 3) := by decide +kernel
theorem dX12_trade_113 : decode cX12_trade 113 = .ok (.iastore, 1) := by decide +kernel
theorem dX12_trade_114 : decode cX12_trade 114 = .ok (.aload_n 0, 1) := by decide +kernel
theorem dX12_trade_115 : decode cX12_trade 115 = .ok (.getfield 26, 3) := by decide +kernel
theorem dX12_trade_118 : decode cX12_trade 118 = .ok (.iload 5, 2) := by decide +kernel
theorem dX12_trade_120 : decode cX12_trade 120 = .ok (.aload_n 0, 1) := by decide +kernel
theorem dX12_trade_121 : decode cX12_trade 121 = .ok (.iload 5, 2) := by decide +kernel
theorem dX12_trade_123 : decode cX12_trade 123 = .ok (.iconst 1, 1) := by decide +kernel
theorem dX12_trade_124 : decode cX12_trade 124 = .ok (.invokevirtual 177, 3) := by decide +kernel
theorem dX12_trade_127 : decode cX12_trade 127 = .ok (.iastore, 1) := by decide +kernel
theorem dX12_trade_128 : decode cX12_trade 128 = .ok (.iinc 5 1, 3) := by decide +kernel
theorem dX12_trade_131 : decode cX12_trade 131 = .ok (.goto (-86), 3) := by decide +kernel
theorem dX12_trade_134 : decode cX12_trade 134 = .ok (.iinc 4 1, 3) := by decide +kernel
theorem dX12_trade_137 : decode cX12_trade 137 = .ok (.goto (-107), 3) := by decide +kernel
theorem dX12_trade_140 : decode cX12_trade 140 = .ok (.iconst (-1), 1) := by decide +kernel
theorem dX12_trade_141 : decode cX12_trade 141 = .ok (.ireturn, 1) := by decide +kernel
theorem dX12_oaken_0 : decode cX12_oaken 0 = .ok (.aload_n 0, 1) := by decide +kernel
theorem dX12_oaken_1 : decode cX12_oaken 1 = .ok (.iload_n 1, 1) := by decide +kernel
theorem dX12_oaken_2 : decode cX12_oaken 2 = .ok (.invokevirtual 165, 3) := by decide +kernel
theorem dX12_oaken_5 : decode cX12_oaken 5 = .ok (.ifCond .eq 10, 3) := by decide +kernel
theorem dX12_oaken_8 : decode cX12_oaken 8 = .ok (.iload_n 2, 1) := by decide +kernel
theorem dX12_oaken_9 : decode cX12_oaken 9 = .ok (.invokestatic 210, 3) := by decide +kernel
theorem dX12_oaken_12 : decode cX12_oaken 12 = .ok (.ifCond .ne 5, 3) := by decide +kernel
theorem dX12_oaken_15 : decode cX12_oaken 15 = .ok (.iconst (-1), 1) := by decide +kernel
theorem dX12_oaken_16 : decode cX12_oaken 16 = .ok (.ireturn, 1) := by decide +kernel
theorem dX12_oaken_17 : decode cX12_oaken 17 = .ok (.aload_n 0, 1) := by decide +kernel
theorem dX12_oaken_18 : decode cX12_oaken 18 = .ok (.invokevirtual 213, 3) := by decide +kernel
theorem dX12_oaken_21 : decode cX12_oaken 21 = .ok (.aload_n 0, 1) := by decide +kernel
theorem dX12_oaken_22 : decode cX12_oaken 22 = .ok (.iload_n 2, 1) := by decide +kernel
theorem dX12_oaken_23 : decode cX12_oaken 23 = .ok (.invokevirtual 216, 3) := by decide +kernel
theorem dX12_oaken_26 : decode cX12_oaken 26 = .ok (.istore_n 3, 1) := by decide +kernel
theorem dX12_oaken_27 : decode cX12_oaken 27 = .ok (.iconst (-1), 1) := by decide +kernel
theorem dX12_oaken_28 : decode cX12_oaken 28 = .ok (.istore 4, 2) := by decide +kernel
theorem dX12_oaken_30 : decode cX12_oaken 30 = .ok (.iconst 1, 1) := by decide +kernel
theorem dX12_oaken_31 : decode cX12_oaken 31 = .ok (.istore 5, 2) := by decide +kernel
theorem dX12_oaken_33 : decode cX12_oaken 33 = .ok (.iload 5, 2) := by decide +kernel
theorem dX12_oaken_35 : decode cX12_oaken 35 = .ok (.iconst 1, 1) := by decide +kernel
theorem dX12_oaken_36 : decode cX12_oaken 36 = .ok (.aload_n 0, 1) := by decide +kernel
theorem dX12_oaken_37 : decode cX12_oaken 37 = .ok (.getfield 159, 3) := by decide +kernel
theorem dX12_oaken_40 : decode cX12_oaken 40 = .ok (.ishl, 1) := by decide +kernel
theorem dX12_oaken_41 : decode cX12_oaken 41 = .ok (.if_icmp .ge 47, 3) := by decide +kernel
theorem dX12_oaken_44 : decode cX12_oaken 44 = .ok (.aload_n 0, 1) := by decide +kernel
theorem dX12_oaken_45 : decode cX12_oaken 45 = .ok (.iload 5, 2) := by decide +kernel
theorem dX12_oaken_47 : decode cX12_oaken 47 = .ok (.putfield 186, 3) := by decide +kernel
theorem dX12_oaken_50 : decode cX12_oaken 50 = .ok (.iload 4, 2) := by decide +kernel
theorem dX12_oaken_52 : decode cX12_oaken 52 = .ok (.iconst (-1), 1) := by decide +kernel
theorem dX12_oaken_53 : decode cX12_oaken 53 = .ok (.if_icmp .eq 16, 3) := by decide +kernel
theorem dX12_oaken_56 : decode cX12_oaken 56 = .ok (.iload 5, 2) := by decide +kernel
theorem dX12_oaken_58 : decode cX12_oaken 58 = .ok (.invokestatic 195, 3) := by decide +kernel
theorem dX12_oaken_61 : decode cX12_oaken 61 = .ok (.iload 4, 2) := by decide +kernel
theorem dX12_oaken_63 : decode cX12_oaken 63 = .ok (.invokestatic 195, 3) := by decide +kernel
theorem dX12_oaken_66 : decode cX12_oaken 66 = .ok (.if_icmp .ge 16, 3) := by decide +kernel
theorem dX12_oaken_69 : decode cX12_oaken 69 = .ok (.aload_n 0, 1) := by decide +kernel
theorem dX12_oaken_70 : decode cX12_oaken 70 = .ok (.iload_n 2, 1) := by decide +kernel
theorem dX12_oaken_71 : decode cX12_oaken 71 = .ok (.invokevirtual 216, 3) := by decide +kernel
theorem dX12_oaken_74 : decode cX12_oaken 74 = .ok (.iload_n 3, 1) := by decide +kernel
theorem dX12_oaken_75 : decode cX12_oaken 75 = .ok (.if_icmp .eq 7, 3) := by decide +kernel
theorem dX12_oaken_78 : decode cX12_oaken 78 = .ok (.iload 5, 2) := by decide +kernel
theorem dX12_oaken_80 : decode cX12_oaken 80 = .ok (.istore 4, 2) := by decide +kernel
theorem dX12_oaken_82 : decode cX12_oaken 82 = .ok (.iinc 5 1, 3) := by decide +kernel
theorem dX12_oaken_85 : decode cX12_oaken 85 = .ok (.goto (-52), 3) := by decide +kernel
theorem dX12_oaken_88 : decode cX12_oaken 88 = .ok (.iload 4, 2) := by decide +kernel
theorem dX12_oaken_90 : decode cX12_oaken 90 = .ok (.ireturn, 1) := by decide +kernel
theorem dX12_loudestOf_0 : decode cX12_loudestOf 0 = .ok (.aload_n 0, 1) := by decide +kernel
theorem dX12_loudestOf_1 : decode cX12_loudestOf 1 = .ok (.getfield 159, 3) := by decide +kernel
theorem dX12_loudestOf_4 : decode cX12_loudestOf 4 = .ok (.ifCond .ne 7, 3) := by decide +kernel
theorem dX12_loudestOf_7 : decode cX12_loudestOf 7 = .ok (.iconst (-1), 1) := by decide +kernel
theorem dX12_loudestOf_8 : decode cX12_loudestOf 8 = .ok (.goto 4, 3) := by decide +kernel
theorem dX12_loudestOf_11 : decode cX12_loudestOf 11 = .ok (.iconst 0, 1) := by decide +kernel
theorem dX12_loudestOf_12 : decode cX12_loudestOf 12 = .ok (.istore_n 2, 1) := by decide +kernel
theorem dX12_loudestOf_13 : decode cX12_loudestOf 13 = .ok (.iconst 1, 1) := by decide +kernel
theorem dX12_loudestOf_14 : decode cX12_loudestOf 14 = .ok (.istore_n 3, 1) := by decide +kernel
theorem dX12_loudestOf_15 : decode cX12_loudestOf 15 = .ok (.iload_n 3, 1) := by decide +kernel
theorem dX12_loudestOf_16 : decode cX12_loudestOf 16 = .ok (.aload_n 0, 1) := by decide +kernel
theorem dX12_loudestOf_17 : decode cX12_loudestOf 17 = .ok (.getfield 159, 3) := by decide +kernel
theorem dX12_loudestOf_20 : decode cX12_loudestOf 20 = .ok (.if_icmp .ge 30, 3) := by decide +kernel
theorem dX12_loudestOf_23 : decode cX12_loudestOf 23 = .ok (.aload_n 0, 1) := by decide +kernel
theorem dX12_loudestOf_24 : decode cX12_loudestOf 24 = .ok (.iload_n 3, 1) := by decide +kernel
theorem dX12_loudestOf_25 : decode cX12_loudestOf 25 = .ok (.iload_n 1, 1) := by decide +kernel
theorem dX12_loudestOf_26 : decode cX12_loudestOf 26 = .ok (.invokevirtual 198, 3) := by decide +kernel
theorem dX12_loudestOf_29 : decode cX12_loudestOf 29 = .ok (.aload_n 0, 1) := by decide +kernel
theorem dX12_loudestOf_30 : decode cX12_loudestOf 30 = .ok (.iload_n 2, 1) := by decide +kernel
theorem dX12_loudestOf_31 : decode cX12_loudestOf 31 = .ok (.iload_n 1, 1) := by decide +kernel
theorem dX12_loudestOf_32 : decode cX12_loudestOf 32 = .ok (.invokevirtual 198, 3) := by decide +kernel
theorem dX12_loudestOf_35 : decode cX12_loudestOf 35 = .ok (.if_icmp .le 7, 3) := by decide +kernel
theorem dX12_loudestOf_38 : decode cX12_loudestOf 38 = .ok (.iload_n 3, 1) := by decide +kernel
theorem dX12_loudestOf_39 : decode cX12_loudestOf 39 = .ok (.goto 4, 3) := by decide +kernel
theorem dX12_loudestOf_42 : decode cX12_loudestOf 42 = .ok (.iload_n 2, 1) := by decide +kernel
theorem dX12_loudestOf_43 : decode cX12_loudestOf 43 = .ok (.istore_n 2, 1) := by decide +kernel
theorem dX12_loudestOf_44 : decode cX12_loudestOf 44 = .ok (.iinc 3 1, 3) := by decide +kernel
theorem dX12_loudestOf_47 : decode cX12_loudestOf 47 = .ok (.goto (-32), 3) := by decide +kernel
theorem dX12_loudestOf_50 : decode cX12_loudestOf 50 = .ok (.iload_n 2, 1) := by decide +kernel
theorem dX12_loudestOf_51 : decode cX12_loudestOf 51 = .ok (.ireturn, 1) := by decide +kernel
theorem dX12_hinge_0 : decode cX12_hinge 0 = .ok (.aload_n 0, 1) := by decide +kernel
theorem dX12_hinge_1 : decode cX12_hinge 1 = .ok (.iload_n 1, 1) := by decide +kernel
theorem dX12_hinge_2 : decode cX12_hinge 2 = .ok (.invokevirtual 165, 3) := by decide +kernel
theorem dX12_hinge_5 : decode cX12_hinge 5 = .ok (.ifCond .eq 10, 3) := by decide +kernel
theorem dX12_hinge_8 : decode cX12_hinge 8 = .ok (.iload_n 2, 1) := by decide +kernel
theorem dX12_hinge_9 : decode cX12_hinge 9 = .ok (.invokestatic 210, 3) := by decide +kernel
theorem dX12_hinge_12 : decode cX12_hinge 12 = .ok (.ifCond .ne 5, 3) := by decide +kernel
theorem dX12_hinge_15 : decode cX12_hinge 15 = .ok (.iconst (-1), 1) := by decide +kernel
theorem dX12_hinge_16 : decode cX12_hinge 16 = .ok (.ireturn, 1) := by decide +kernel
theorem dX12_hinge_17 : decode cX12_hinge 17 = .ok (.aload_n 0, 1) := by decide +kernel
theorem dX12_hinge_18 : decode cX12_hinge 18 = .ok (.invokevirtual 213, 3) := by decide +kernel
theorem dX12_hinge_21 : decode cX12_hinge 21 = .ok (.iload_n 3, 1) := by decide +kernel
theorem dX12_hinge_22 : decode cX12_hinge 22 = .ok (.ifCond .eq 9, 3) := by decide +kernel
theorem dX12_hinge_25 : decode cX12_hinge 25 = .ok (.aload_n 0, 1) := by decide +kernel
theorem dX12_hinge_26 : decode cX12_hinge 26 = .ok (.iload_n 2, 1) := by decide +kernel
theorem dX12_hinge_27 : decode cX12_hinge 27 = .ok (.invokevirtual 294, 3) := by decide +kernel
theorem dX12_hinge_30 : decode cX12_hinge 30 = .ok (.ireturn, 1) := by decide +kernel
theorem dX12_hinge_31 : decode cX12_hinge 31 = .ok (.aload_n 0, 1) := by decide +kernel
theorem dX12_hinge_32 : decode cX12_hinge 32 = .ok (.iload_n 2, 1) := by decide +kernel
theorem dX12_hinge_33 : decode cX12_hinge 33 = .ok (.invokevirtual 216, 3) := by decide +kernel
theorem dX12_hinge_36 : decode cX12_hinge 36 = .ok (.istore 4, 2) := by decide +kernel
theorem dX12_hinge_38 : decode cX12_hinge 38 = .ok (.iconst 0, 1) := by decide +kernel
theorem dX12_hinge_39 : decode cX12_hinge 39 = .ok (.istore 5, 2) := by decide +kernel
theorem dX12_hinge_41 : decode cX12_hinge 41 = .ok (.iconst 0, 1) := by decide +kernel
theorem dX12_hinge_42 : decode cX12_hinge 42 = .ok (.istore 6, 2) := by decide +kernel
theorem dX12_hinge_44 : decode cX12_hinge 44 = .ok (.iload 6, 2) := by decide +kernel
theorem dX12_hinge_46 : decode cX12_hinge 46 = .ok (.aload_n 0, 1) := by decide +kernel
theorem dX12_hinge_47 : decode cX12_hinge 47 = .ok (.getfield 159, 3) := by decide +kernel
theorem dX12_hinge_50 : decode cX12_hinge 50 = .ok (.if_icmp .ge 40, 3) := by decide +kernel
theorem dX12_hinge_53 : decode cX12_hinge 53 = .ok (.aload_n 0, 1) := by decide +kernel
theorem dX12_hinge_54 : decode cX12_hinge 54 = .ok (.iconst 1, 1) := by decide +kernel
theorem dX12_hinge_55 : decode cX12_hinge 55 = .ok (.iload 6, 2) := by decide +kernel
theorem dX12_hinge_57 : decode cX12_hinge 57 = .ok (.ishl, 1) := by decide +kernel
theorem dX12_hinge_58 : decode cX12_hinge 58 = .ok (.putfield 183, 3) := by decide +kernel
theorem dX12_hinge_61 : decode cX12_hinge 61 = .ok (.iload 5, 2) := by decide +kernel
theorem dX12_hinge_63 : decode cX12_hinge 63 = .ok (.aload_n 0, 1) := by decide +kernel
theorem dX12_hinge_64 : decode cX12_hinge 64 = .ok (.iload_n 2, 1) := by decide +kernel
theorem dX12_hinge_65 : decode cX12_hinge 65 = .ok (.invokevirtual 216, 3) := by decide +kernel
theorem dX12_hinge_68 : decode cX12_hinge 68 = .ok (.iload 4, 2) := by decide +kernel
theorem dX12_hinge_70 : decode cX12_hinge 70 = .ok (.if_icmp .eq 10, 3) := by decide +kernel
theorem dX12_hinge_73 : decode cX12_hinge 73 = .ok (.iconst 1, 1) := by decide +kernel
theorem dX12_hinge_74 : decode cX12_hinge 74 = .ok (.iload 6, 2) := by decide +kernel
theorem dX12_hinge_76 : decode cX12_hinge 76 = .ok (.ishl, 1) := by decide +kernel
theorem dX12_hinge_77 : decode cX12_hinge 77 = .ok (.goto 4, 3) := by decide +kernel
theorem dX12_hinge_80 : decode cX12_hinge 80 = .ok (.iconst 0, 1) := by decide +kernel
theorem dX12_hinge_81 : decode cX12_hinge 81 = .ok (.ior, 1) := by decide +kernel
theorem dX12_hinge_82 : decode cX12_hinge 82 = .ok (.istore 5, 2) := by decide +kernel
theorem dX12_hinge_84 : decode cX12_hinge 84 = .ok (.iinc 6 1, 3) := by decide +kernel
theorem dX12_hinge_87 : decode cX12_hinge 87 = .ok (.goto (-43), 3) := by decide +kernel
theorem dX12_hinge_90 : decode cX12_hinge 90 = .ok (.iload 5, 2) := by decide +kernel
theorem dX12_hinge_92 : decode cX12_hinge 92 = .ok (.ireturn, 1) := by decide +kernel
theorem dX12_walk_0 : decode cX12_walk 0 = .ok (.aload_n 0, 1) := by decide +kernel
theorem dX12_walk_1 : decode cX12_walk 1 = .ok (.iload_n 1, 1) := by decide +kernel
theorem dX12_walk_2 : decode cX12_walk 2 = .ok (.invokevirtual 165, 3) := by decide +kernel
theorem dX12_walk_5 : decode cX12_walk 5 = .ok (.ifCond .eq 17, 3) := by decide +kernel
theorem dX12_walk_8 : decode cX12_walk 8 = .ok (.iload_n 2, 1) := by decide +kernel
theorem dX12_walk_9 : decode cX12_walk 9 = .ok (.invokestatic 210, 3) := by decide +kernel
theorem dX12_walk_12 : decode cX12_walk 12 = .ok (.ifCond .eq 10, 3) := by decide +kernel
theorem dX12_walk_15 : decode cX12_walk 15 = .ok (.iload_n 3, 1) := by decide +kernel
theorem dX12_walk_16 : decode cX12_walk 16 = .ok (.invokestatic 210, 3) := by decide +kernel
theorem dX12_walk_19 : decode cX12_walk 19 = .ok (.ifCond .ne 5, 3) := by decide +kernel
theorem dX12_walk_22 : decode cX12_walk 22 = .ok (.iconst (-1), 1) := by decide +kernel
theorem dX12_walk_23 : decode cX12_walk 23 = .ok (.ireturn, 1) := by decide +kernel
theorem dX12_walk_24 : decode cX12_walk 24 = .ok (.aload_n 0, 1) := by decide +kernel
theorem dX12_walk_25 : decode cX12_walk 25 = .ok (.invokevirtual 213, 3) := by decide +kernel
theorem dX12_walk_28 : decode cX12_walk 28 = .ok (.iconst 0, 1) := by decide +kernel
theorem dX12_walk_29 : decode cX12_walk 29 = .ok (.istore 4, 2) := by decide +kernel
theorem dX12_walk_31 : decode cX12_walk 31 = .ok (.iload 4, 2) := by decide +kernel
theorem dX12_walk_33 : decode cX12_walk 33 = .ok (.bipush 64, 2) := by decide +kernel
theorem dX12_walk_35 : decode cX12_walk 35 = .ok (.if_icmp .ge 17, 3) := by decide +kernel
theorem dX12_walk_38 : decode cX12_walk 38 = .ok (.aload_n 0, 1) := by decide +kernel
theorem dX12_walk_39 : decode cX12_walk 39 = .ok (.getfield 44, 3) := by decide +kernel
theorem dX12_walk_42 : decode cX12_walk 42 = .ok (.iload 4, 2) := by decide +kernel
theorem dX12_walk_44 : decode cX12_walk 44 = .ok (.iconst (-1), 1) := by decide +kernel
theorem dX12_walk_45 : decode cX12_walk 45 = .ok (.iastore, 1) := by decide +kernel
theorem dX12_walk_46 : decode cX12_walk 46 = .ok (.iinc 4 1, 3) := by decide +kernel
theorem dX12_walk_49 : decode cX12_walk 49 = .ok (.goto (-18), 3) := by decide +kernel
theorem dX12_walk_52 : decode cX12_walk 52 = .ok (.aload_n 0, 1) := by decide +kernel
theorem dX12_walk_53 : decode cX12_walk 53 = .ok (.iload_n 2, 1) := by decide +kernel
theorem dX12_walk_54 : decode cX12_walk 54 = .ok (.invokevirtual 216, 3) := by decide +kernel
theorem dX12_walk_57 : decode cX12_walk 57 = .ok (.ifCond .eq 10, 3) := by decide +kernel
theorem dX12_walk_60 : decode cX12_walk 60 = .ok (.aload_n 0, 1) := by decide +kernel
theorem dX12_walk_61 : decode cX12_walk 61 = .ok (.getfield 44, 3) := by decide +kernel
theorem dX12_walk_64 : decode cX12_walk 64 = .ok (.iload_n 2, 1) := by decide +kernel
theorem dX12_walk_65 : decode cX12_walk 65 = .ok (.iconst 0, 1) := by decide +kernel
theorem dX12_walk_66 : decode cX12_walk 66 = .ok (.iastore, 1) := by decide +kernel
theorem dX12_walk_67 : decode cX12_walk 67 = .ok (.iconst 0, 1) := by decide +kernel
theorem dX12_walk_68 : decode cX12_walk 68 = .ok (.istore 4, 2) := by decide +kernel
theorem dX12_walk_70 : decode cX12_walk 70 = .ok (.iload 4, 2) := by decide +kernel
theorem dX12_walk_72 : decode cX12_walk 72 = .ok (.bipush 64, 2) := by decide +kernel
theorem dX12_walk_74 : decode cX12_walk 74 = .ok (.if_icmp .ge 96, 3) := by decide +kernel
theorem dX12_walk_77 : decode cX12_walk 77 = .ok (.iconst 0, 1) := by decide +kernel
theorem dX12_walk_78 : decode cX12_walk 78 = .ok (.istore 5, 2) := by decide +kernel
theorem dX12_walk_80 : decode cX12_walk 80 = .ok (.iload 5, 2) := by decide +kernel
theorem dX12_walk_82 : decode cX12_walk 82 = .ok (.bipush 64, 2) := by decide +kernel
theorem dX12_walk_84 : decode cX12_walk 84 = .ok (.if_icmp .ge 80, 3) := by decide +kernel
theorem dX12_walk_87 : decode cX12_walk 87 = .ok (.aload_n 0, 1) := by decide +kernel
theorem dX12_walk_88 : decode cX12_walk 88 = .ok (.getfield 44, 3) := by decide +kernel
theorem dX12_walk_91 : decode cX12_walk 91 = .ok (.iload 5, 2) := by decide +kernel
theorem dX12_walk_93 : decode cX12_walk 93 = .ok (.iaload, 1) := by decide +kernel
theorem dX12_walk_94 : decode cX12_walk 94 = .ok (.iload 4, 2) := by decide +kernel
theorem dX12_walk_96 : decode cX12_walk 96 = .ok (.if_icmp .eq 6, 3) := by decide +kernel
theorem dX12_walk_99 : decode cX12_walk 99 = .ok (.goto 59, 3) := by decide +kernel
theorem dX12_walk_102 : decode cX12_walk 102 = .ok (.iconst 0, 1) := by decide +kernel
theorem dX12_walk_103 : decode cX12_walk 103 = .ok (.istore 6, 2) := by decide +kernel
theorem dX12_walk_105 : decode cX12_walk 105 = .ok (.iload 6, 2) := by decide +kernel
theorem dX12_walk_107 : decode cX12_walk 107 = .ok (.bipush 6, 2) := by decide +kernel
theorem dX12_walk_109 : decode cX12_walk 109 = .ok (.if_icmp .ge 49, 3) := by decide +kernel
theorem dX12_walk_112 : decode cX12_walk 112 = .ok (.iload 5, 2) := by decide +kernel
theorem dX12_walk_114 : decode cX12_walk 114 = .ok (.iconst 1, 1) := by decide +kernel
theorem dX12_walk_115 : decode cX12_walk 115 = .ok (.iload 6, 2) := by decide +kernel
theorem dX12_walk_117 : decode cX12_walk 117 = .ok (.ishl, 1) := by decide +kernel
theorem dX12_walk_118 : decode cX12_walk 118 = .ok (.ixor, 1) := by decide +kernel
theorem dX12_walk_119 : decode cX12_walk 119 = .ok (.istore 7, 2) := by decide +kernel
theorem dX12_walk_121 : decode cX12_walk 121 = .ok (.aload_n 0, 1) := by decide +kernel
theorem dX12_walk_122 : decode cX12_walk 122 = .ok (.getfield 44, 3) := by decide +kernel
theorem dX12_walk_125 : decode cX12_walk 125 = .ok (.iload 7, 2) := by decide +kernel
theorem dX12_walk_127 : decode cX12_walk 127 = .ok (.iaload, 1) := by decide +kernel
theorem dX12_walk_128 : decode cX12_walk 128 = .ok (.iconst (-1), 1) := by decide +kernel
theorem dX12_walk_129 : decode cX12_walk 129 = .ok (.if_icmp .ne 23, 3) := by decide +kernel
theorem dX12_walk_132 : decode cX12_walk 132 = .ok (.aload_n 0, 1) := by decide +kernel
theorem dX12_walk_133 : decode cX12_walk 133 = .ok (.iload 7, 2) := by decide +kernel
theorem dX12_walk_135 : decode cX12_walk 135 = .ok (.invokevirtual 216, 3) := by decide +kernel
theorem dX12_walk_138 : decode cX12_walk 138 = .ok (.ifCond .eq 14, 3) := by decide +kernel
theorem dX12_walk_141 : decode cX12_walk 141 = .ok (.aload_n 0, 1) := by decide +kernel
theorem dX12_walk_142 : decode cX12_walk 142 = .ok (.getfield 44, 3) := by decide +kernel
theorem dX12_walk_145 : decode cX12_walk 145 = .ok (.iload 7, 2) := by decide +kernel
theorem dX12_walk_147 : decode cX12_walk 147 = .ok (.iload 4, 2) := by decide +kernel
theorem dX12_walk_149 : decode cX12_walk 149 = .ok (.iconst 1, 1) := by decide +kernel
theorem dX12_walk_150 : decode cX12_walk 150 = .ok (.iadd, 1) := by decide +kernel
theorem dX12_walk_151 : decode cX12_walk 151 = .ok (.iastore, 1) := by decide +kernel
theorem dX12_walk_152 : decode cX12_walk 152 = .ok (.iinc 6 1, 3) := by decide +kernel
theorem dX12_walk_155 : decode cX12_walk 155 = .ok (.goto (-50), 3) := by decide +kernel
theorem dX12_walk_158 : decode cX12_walk 158 = .ok (.iinc 5 1, 3) := by decide +kernel
theorem dX12_walk_161 : decode cX12_walk 161 = .ok (.goto (-81), 3) := by decide +kernel
theorem dX12_walk_164 : decode cX12_walk 164 = .ok (.iinc 4 1, 3) := by decide +kernel
theorem dX12_walk_167 : decode cX12_walk 167 = .ok (.goto (-97), 3) := by decide +kernel
theorem dX12_walk_170 : decode cX12_walk 170 = .ok (.aload_n 0, 1) := by decide +kernel
theorem dX12_walk_171 : decode cX12_walk 171 = .ok (.getfield 44, 3) := by decide +kernel
theorem dX12_walk_174 : decode cX12_walk 174 = .ok (.iload_n 3, 1) := by decide +kernel
theorem dX12_walk_175 : decode cX12_walk 175 = .ok (.iaload, 1) := by decide +kernel
theorem dX12_walk_176 : decode cX12_walk 176 = .ok (.ireturn, 1) := by decide +kernel
theorem dX12_place_0 : decode cX12_place 0 = .ok (.aload_n 0, 1) := by decide +kernel
theorem dX12_place_1 : decode cX12_place 1 = .ok (.iload_n 1, 1) := by decide +kernel
theorem dX12_place_2 : decode cX12_place 2 = .ok (.invokevirtual 165, 3) := by decide +kernel
theorem dX12_place_5 : decode cX12_place 5 = .ok (.ifCond .eq 18, 3) := by decide +kernel
theorem dX12_place_8 : decode cX12_place 8 = .ok (.iload_n 2, 1) := by decide +kernel
theorem dX12_place_9 : decode cX12_place 9 = .ok (.invokestatic 210, 3) := by decide +kernel
theorem dX12_place_12 : decode cX12_place 12 = .ok (.ifCond .eq 11, 3) := by decide +kernel
theorem dX12_place_15 : decode cX12_place 15 = .ok (.aload_n 0, 1) := by decide +kernel
theorem dX12_place_16 : decode cX12_place 16 = .ok (.iload_n 3, 1) := by decide +kernel
theorem dX12_place_17 : decode cX12_place 17 = .ok (.invokevirtual 174, 3) := by decide +kernel
theorem dX12_place_20 : decode cX12_place 20 = .ok (.ifCond .ne 7, 3) := by decide +kernel
theorem dX12_place_23 : decode cX12_place 23 = .ok (.sipush (-1000), 3) := by decide +kernel
theorem dX12_place_26 : decode cX12_place 26 = .ok (.ireturn, 1) := by decide +kernel
theorem dX12_place_27 : decode cX12_place 27 = .ok (.aload_n 0, 1) := by decide +kernel
theorem dX12_place_28 : decode cX12_place 28 = .ok (.invokevirtual 213, 3) := by decide +kernel
theorem dX12_place_31 : decode cX12_place 31 = .ok (.iconst (-1), 1) := by decide +kernel
theorem dX12_place_32 : decode cX12_place 32 = .ok (.istore 5, 2) := by decide +kernel
theorem dX12_place_34 : decode cX12_place 34 = .ok (.iconst 0, 1) := by decide +kernel
theorem dX12_place_35 : decode cX12_place 35 = .ok (.istore 6, 2) := by decide +kernel
theorem dX12_place_37 : decode cX12_place 37 = .ok (.iconst 0, 1) := by decide +kernel
theorem dX12_place_38 : decode cX12_place 38 = .ok (.istore 7, 2) := by decide +kernel
theorem dX12_place_40 : decode cX12_place 40 = .ok (.iload 7, 2) := by decide +kernel
theorem dX12_place_42 : decode cX12_place 42 = .ok (.bipush 8, 2) := by decide +kernel
theorem dX12_place_44 : decode cX12_place 44 = .ok (.if_icmp .gt 80, 3) := by decide +kernel
theorem dX12_place_47 : decode cX12_place 47 = .ok (.iload 7, 2) := by decide +kernel
theorem dX12_place_49 : decode cX12_place 49 = .ok (.bipush 8, 2) := by decide +kernel
theorem dX12_place_51 : decode cX12_place 51 = .ok (.if_icmp .eq 15, 3) := by decide +kernel
theorem dX12_place_54 : decode cX12_place 54 = .ok (.aload_n 0, 1) := by decide +kernel
theorem dX12_place_55 : decode cX12_place 55 = .ok (.iload 7, 2) := by decide +kernel
theorem dX12_place_57 : decode cX12_place 57 = .ok (.invokevirtual 168, 3) := by decide +kernel
theorem dX12_place_60 : decode cX12_place 60 = .ok (.ifCond .ne 6, 3) := by decide +kernel
theorem dX12_place_63 : decode cX12_place 63 = .ok (.goto 55, 3) := by decide +kernel
theorem dX12_place_66 : decode cX12_place 66 = .ok (.aload_n 0, 1) := by decide +kernel
theorem dX12_place_67 : decode cX12_place 67 = .ok (.getfield 26, 3) := by decide +kernel
theorem dX12_place_70 : decode cX12_place 70 = .ok (.iload_n 3, 1) := by decide +kernel
theorem dX12_place_71 : decode cX12_place 71 = .ok (.iload 7, 2) := by decide +kernel
theorem dX12_place_73 : decode cX12_place 73 = .ok (.iastore, 1) := by decide +kernel
theorem dX12_place_74 : decode cX12_place 74 = .ok (.aload_n 0, 1) := by decide +kernel
theorem dX12_place_75 : decode cX12_place 75 = .ok (.iload_n 2, 1) := by decide +kernel
theorem dX12_place_76 : decode cX12_place 76 = .ok (.invokevirtual 216, 3) := by decide +kernel
theorem dX12_place_79 : decode cX12_place 79 = .ok (.pop, 1) := by decide +kernel
theorem dX12_place_80 : decode cX12_place 80 = .ok (.iload 5, 2) := by decide +kernel
theorem dX12_place_82 : decode cX12_place 82 = .ok (.iconst (-1), 1) := by decide +kernel
theorem dX12_place_83 : decode cX12_place 83 = .ok (.if_icmp .eq 20, 3) := by decide +kernel
theorem dX12_place_86 : decode cX12_place 86 = .ok (.aload_n 0, 1) := by decide +kernel
theorem dX12_place_87 : decode cX12_place 87 = .ok (.getfield 201, 3) := by decide +kernel
theorem dX12_place_90 : decode cX12_place 90 = .ok (.aload_n 0, 1) := by decide +kernel
theorem dX12_place_91 : decode cX12_place 91 = .ok (.getfield 204, 3) := by decide +kernel
theorem dX12_place_94 : decode cX12_place 94 = .ok (.isub, 1) := by decide +kernel
theorem dX12_place_95 : decode cX12_place 95 = .ok (.iload 6, 2) := by decide +kernel
theorem dX12_place_97 : decode cX12_place 97 = .ok (.if_icmp .gt 6, 3) := by decide +kernel
theorem dX12_place_100 : decode cX12_place 100 = .ok (.goto 18, 3) := by decide +kernel
theorem dX12_place_103 : decode cX12_place 103 = .ok (.iload 7, 2) := by decide +kernel
theorem dX12_place_105 : decode cX12_place 105 = .ok (.istore 5, 2) := by decide +kernel
theorem dX12_place_107 : decode cX12_place 107 = .ok (.aload_n 0, 1) := by decide +kernel
theorem dX12_place_108 : decode cX12_place 108 = .ok (.getfield 201, 3) := by decide +kernel
theorem dX12_place_111 : decode cX12_place 111 = .ok (.aload_n 0, 1) := by decide +kernel
theorem dX12_place_112 : decode cX12_place 112 = .ok (.getfield 204, 3) := by decide +kernel
theorem dX12_place_115 : decode cX12_place 115 = .ok (.isub, 1) := by decide +kernel
theorem dX12_place_116 : decode cX12_place 116 = .ok (.istore 6, 2) := by decide +kernel
theorem dX12_place_118 : decode cX12_place 118 = .ok (.iinc 7 1, 3) := by decide +kernel
theorem dX12_place_121 : decode cX12_place 121 = .ok (.goto (-81), 3) := by decide +kernel
theorem dX12_place_124 : decode cX12_place 124 = .ok (.iload 4, 2) := by decide +kernel
theorem dX12_place_126 : decode cX12_place 126 = .ok (.ifCond .eq 8, 3) := by decide +kernel
theorem dX12_place_129 : decode cX12_place 129 = .ok (.iload 6, 2) := by decide +kernel
theorem dX12_place_131 : decode cX12_place 131 = .ok (.goto 5, 3) := by decide +kernel
theorem dX12_place_134 : decode cX12_place 134 = .ok (.iload 5, 2) := by decide +kernel
theorem dX12_place_136 : decode cX12_place 136 = .ok (.ireturn, 1) := by decide +kernel
theorem dX12_sitsDown_0 : decode cX12_sitsDown 0 = .ok (.aload_n 0, 1) := by decide +kernel
theorem dX12_sitsDown_1 : decode cX12_sitsDown 1 = .ok (.invokevirtual 213, 3) := by decide +kernel
theorem dX12_sitsDown_4 : decode cX12_sitsDown 4 = .ok (.iconst 0, 1) := by decide +kernel
theorem dX12_sitsDown_5 : decode cX12_sitsDown 5 = .ok (.istore_n 2, 1) := by decide +kernel
theorem dX12_sitsDown_6 : decode cX12_sitsDown 6 = .ok (.iload_n 2, 1) := by decide +kernel
theorem dX12_sitsDown_7 : decode cX12_sitsDown 7 = .ok (.aload_n 0, 1) := by decide +kernel
theorem dX12_sitsDown_8 : decode cX12_sitsDown 8 = .ok (.getfield 162, 3) := by decide +kernel
theorem dX12_sitsDown_11 : decode cX12_sitsDown 11 = .ok (.if_icmp .ge 17, 3) := by decide +kernel
theorem dX12_sitsDown_14 : decode cX12_sitsDown 14 = .ok (.aload_n 0, 1) := by decide +kernel
theorem dX12_sitsDown_15 : decode cX12_sitsDown 15 = .ok (.getfield 26, 3) := by decide +kernel
theorem dX12_sitsDown_18 : decode cX12_sitsDown 18 = .ok (.iload_n 2, 1) := by decide +kernel
theorem dX12_sitsDown_19 : decode cX12_sitsDown 19 = .ok (.bipush 8, 2) := by decide +kernel
theorem dX12_sitsDown_21 : decode cX12_sitsDown 21 = .ok (.iastore, 1) := by decide +kernel
theorem dX12_sitsDown_22 : decode cX12_sitsDown 22 = .ok (.iinc 2 1, 3) := by decide +kernel
theorem dX12_sitsDown_25 : decode cX12_sitsDown 25 = .ok (.goto (-19), 3) := by decide +kernel
theorem dX12_sitsDown_28 : decode cX12_sitsDown 28 = .ok (.iconst 0, 1) := by decide +kernel
theorem dX12_sitsDown_29 : decode cX12_sitsDown 29 = .ok (.istore_n 2, 1) := by decide +kernel
theorem dX12_sitsDown_30 : decode cX12_sitsDown 30 = .ok (.iload_n 2, 1) := by decide +kernel
theorem dX12_sitsDown_31 : decode cX12_sitsDown 31 = .ok (.aload_n 0, 1) := by decide +kernel
theorem dX12_sitsDown_32 : decode cX12_sitsDown 32 = .ok (.getfield 162, 3) := by decide +kernel
theorem dX12_sitsDown_35 : decode cX12_sitsDown 35 = .ok (.if_icmp .ge 106, 3) := by decide +kernel
theorem dX12_sitsDown_38 : decode cX12_sitsDown 38 = .ok (.iconst (-1), 1) := by decide +kernel
theorem dX12_sitsDown_39 : decode cX12_sitsDown 39 = .ok (.istore_n 3, 1) := by decide +kernel
theorem dX12_sitsDown_40 : decode cX12_sitsDown 40 = .ok (.iconst 0, 1) := by decide +kernel
theorem dX12_sitsDown_41 : decode cX12_sitsDown 41 = .ok (.istore 4, 2) := by decide +kernel
theorem dX12_sitsDown_43 : decode cX12_sitsDown 43 = .ok (.iconst 0, 1) := by decide +kernel
theorem dX12_sitsDown_44 : decode cX12_sitsDown 44 = .ok (.istore 5, 2) := by decide +kernel
theorem dX12_sitsDown_46 : decode cX12_sitsDown 46 = .ok (.iload 5, 2) := by decide +kernel
theorem dX12_sitsDown_48 : decode cX12_sitsDown 48 = .ok (.bipush 8, 2) := by decide +kernel
theorem dX12_sitsDown_50 : decode cX12_sitsDown 50 = .ok (.if_icmp .gt 78, 3) := by decide +kernel
theorem dX12_sitsDown_53 : decode cX12_sitsDown 53 = .ok (.iload 5, 2) := by decide +kernel
theorem dX12_sitsDown_55 : decode cX12_sitsDown 55 = .ok (.bipush 8, 2) := by decide +kernel
theorem dX12_sitsDown_57 : decode cX12_sitsDown 57 = .ok (.if_icmp .eq 15, 3) := by decide +kernel
theorem dX12_sitsDown_60 : decode cX12_sitsDown 60 = .ok (.aload_n 0, 1) := by decide +kernel
theorem dX12_sitsDown_61 : decode cX12_sitsDown 61 = .ok (.iload 5, 2) := by decide +kernel
theorem dX12_sitsDown_63 : decode cX12_sitsDown 63 = .ok (.invokevirtual 168, 3) := by decide +kernel
theorem dX12_sitsDown_66 : decode cX12_sitsDown 66 = .ok (.ifCond .ne 6, 3) := by decide +kernel
theorem dX12_sitsDown_69 : decode cX12_sitsDown 69 = .ok (.goto 53, 3) := by decide +kernel
theorem dX12_sitsDown_72 : decode cX12_sitsDown 72 = .ok (.aload_n 0, 1) := by decide +kernel
theorem dX12_sitsDown_73 : decode cX12_sitsDown 73 = .ok (.getfield 26, 3) := by decide +kernel
theorem dX12_sitsDown_76 : decode cX12_sitsDown 76 = .ok (.iload_n 2, 1) := by decide +kernel
theorem dX12_sitsDown_77 : decode cX12_sitsDown 77 = .ok (.iload 5, 2) := by decide +kernel
theorem dX12_sitsDown_79 : decode cX12_sitsDown 79 = .ok (.iastore, 1) := by decide +kernel
theorem dX12_sitsDown_80 : decode cX12_sitsDown 80 = .ok (.aload_n 0, 1) := by decide +kernel
theorem dX12_sitsDown_81 : decode cX12_sitsDown 81 = .ok (.iload_n 1, 1) := by decide +kernel
theorem dX12_sitsDown_82 : decode cX12_sitsDown 82 = .ok (.invokevirtual 216, 3) := by decide +kernel
theorem dX12_sitsDown_85 : decode cX12_sitsDown 85 = .ok (.pop, 1) := by decide +kernel
theorem dX12_sitsDown_86 : decode cX12_sitsDown 86 = .ok (.iload_n 3, 1) := by decide +kernel
theorem dX12_sitsDown_87 : decode cX12_sitsDown 87 = .ok (.iconst (-1), 1) := by decide +kernel
theorem dX12_sitsDown_88 : decode cX12_sitsDown 88 = .ok (.if_icmp .eq 20, 3) := by decide +kernel
theorem dX12_sitsDown_91 : decode cX12_sitsDown 91 = .ok (.aload_n 0, 1) := by decide +kernel
theorem dX12_sitsDown_92 : decode cX12_sitsDown 92 = .ok (.getfield 201, 3) := by decide +kernel
theorem dX12_sitsDown_95 : decode cX12_sitsDown 95 = .ok (.aload_n 0, 1) := by decide +kernel
theorem dX12_sitsDown_96 : decode cX12_sitsDown 96 = .ok (.getfield 204, 3) := by decide +kernel
theorem dX12_sitsDown_99 : decode cX12_sitsDown 99 = .ok (.isub, 1) := by decide +kernel
theorem dX12_sitsDown_100 : decode cX12_sitsDown 100 = .ok (.iload 4, 2) := by decide +kernel
theorem dX12_sitsDown_102 : decode cX12_sitsDown 102 = .ok (.if_icmp .gt 6, 3) := by decide +kernel
theorem dX12_sitsDown_105 : decode cX12_sitsDown 105 = .ok (.goto 17, 3) := by decide +kernel
theorem dX12_sitsDown_108 : decode cX12_sitsDown 108 = .ok (.iload 5, 2) := by decide +kernel
theorem dX12_sitsDown_110 : decode cX12_sitsDown 110 = .ok (.istore_n 3, 1) := by decide +kernel
theorem dX12_sitsDown_111 : decode cX12_sitsDown 111 = .ok (.aload_n 0, 1) := by decide +kernel
theorem dX12_sitsDown_112 : decode cX12_sitsDown 112 = .ok (.getfield 201, 3) := by decide +kernel
theorem dX12_sitsDown_115 : decode cX12_sitsDown 115 = .ok (.aload_n 0, 1) := by decide +kernel
theorem dX12_sitsDown_116 : decode cX12_sitsDown 116 = .ok (.getfield 204, 3) := by decide +kernel
theorem dX12_sitsDown_119 : decode cX12_sitsDown 119 = .ok (.isub, 1) := by decide +kernel
theorem dX12_sitsDown_120 : decode cX12_sitsDown 120 = .ok (.istore 4, 2) := by decide +kernel
theorem dX12_sitsDown_122 : decode cX12_sitsDown 122 = .ok (.iinc 5 1, 3) := by decide +kernel
theorem dX12_sitsDown_125 : decode cX12_sitsDown 125 = .ok (.goto (-79), 3) := by decide +kernel
theorem dX12_sitsDown_128 : decode cX12_sitsDown 128 = .ok (.aload_n 0, 1) := by decide +kernel
theorem dX12_sitsDown_129 : decode cX12_sitsDown 129 = .ok (.getfield 26, 3) := by decide +kernel
theorem dX12_sitsDown_132 : decode cX12_sitsDown 132 = .ok (.iload_n 2, 1) := by decide +kernel
theorem dX12_sitsDown_133 : decode cX12_sitsDown 133 = .ok (.iload_n 3, 1) := by decide +kernel
theorem dX12_sitsDown_134 : decode cX12_sitsDown 134 = .ok (.iastore, 1) := by decide +kernel
theorem dX12_sitsDown_135 : decode cX12_sitsDown 135 = .ok (.iinc 2 1, 3) := by decide +kernel
theorem dX12_sitsDown_138 : decode cX12_sitsDown 138 = .ok (.goto (-108), 3) := by decide +kernel
theorem dX12_sitsDown_141 : decode cX12_sitsDown 141 = .ok (.aload_n 0, 1) := by decide +kernel
theorem dX12_sitsDown_142 : decode cX12_sitsDown 142 = .ok (.iload_n 1, 1) := by decide +kernel
theorem dX12_sitsDown_143 : decode cX12_sitsDown 143 = .ok (.invokevirtual 216, 3) := by decide +kernel
theorem dX12_sitsDown_146 : decode cX12_sitsDown 146 = .ok (.pop, 1) := by decide +kernel
theorem dX12_sitsDown_147 : decode cX12_sitsDown 147 = .ok (.aload_n 0, 1) := by decide +kernel
theorem dX12_sitsDown_148 : decode cX12_sitsDown 148 = .ok (.getfield 201, 3) := by decide +kernel
theorem dX12_sitsDown_151 : decode cX12_sitsDown 151 = .ok (.aload_n 0, 1) := by decide +kernel
theorem dX12_sitsDown_152 : decode cX12_sitsDown 152 = .ok (.getfield 204, 3) := by decide +kernel
theorem dX12_sitsDown_155 : decode cX12_sitsDown 155 = .ok (.isub, 1) := by decide +kernel
theorem dX12_sitsDown_156 : decode cX12_sitsDown 156 = .ok (.ireturn, 1) := by decide +kernel
theorem dX12_greedy_0 : decode cX12_greedy 0 = .ok (.aload_n 0, 1) := by decide +kernel
theorem dX12_greedy_1 : decode cX12_greedy 1 = .ok (.iload_n 1, 1) := by decide +kernel
theorem dX12_greedy_2 : decode cX12_greedy 2 = .ok (.invokevirtual 165, 3) := by decide +kernel
theorem dX12_greedy_5 : decode cX12_greedy 5 = .ok (.ifCond .eq 23, 3) := by decide +kernel
theorem dX12_greedy_8 : decode cX12_greedy 8 = .ok (.iload_n 2, 1) := by decide +kernel
theorem dX12_greedy_9 : decode cX12_greedy 9 = .ok (.invokestatic 210, 3) := by decide +kernel
theorem dX12_greedy_12 : decode cX12_greedy 12 = .ok (.ifCond .eq 16, 3) := by decide +kernel
theorem dX12_greedy_15 : decode cX12_greedy 15 = .ok (.iload_n 3, 1) := by decide +kernel
theorem dX12_greedy_16 : decode cX12_greedy 16 = .ok (.iconst (-1), 1) := by decide +kernel
theorem dX12_greedy_17 : decode cX12_greedy 17 = .ok (.if_icmp .eq 15, 3) := by decide +kernel
theorem dX12_greedy_20 : decode cX12_greedy 20 = .ok (.aload_n 0, 1) := by decide +kernel
theorem dX12_greedy_21 : decode cX12_greedy 21 = .ok (.iload_n 3, 1) := by decide +kernel
theorem dX12_greedy_22 : decode cX12_greedy 22 = .ok (.invokevirtual 174, 3) := by decide +kernel
theorem dX12_greedy_25 : decode cX12_greedy 25 = .ok (.ifCond .ne 7, 3) := by decide +kernel
theorem dX12_greedy_28 : decode cX12_greedy 28 = .ok (.sipush (-1000), 3) := by decide +kernel
theorem dX12_greedy_31 : decode cX12_greedy 31 = .ok (.ireturn, 1) := by decide +kernel
theorem dX12_greedy_32 : decode cX12_greedy 32 = .ok (.aload_n 0, 1) := by decide +kernel
theorem dX12_greedy_33 : decode cX12_greedy 33 = .ok (.iload_n 2, 1) := by decide +kernel
theorem dX12_greedy_34 : decode cX12_greedy 34 = .ok (.invokevirtual 297, 3) := by decide +kernel
theorem dX12_greedy_37 : decode cX12_greedy 37 = .ok (.istore 4, 2) := by decide +kernel
theorem dX12_greedy_39 : decode cX12_greedy 39 = .ok (.iload_n 3, 1) := by decide +kernel
theorem dX12_greedy_40 : decode cX12_greedy 40 = .ok (.iconst (-1), 1) := by decide +kernel
theorem dX12_greedy_41 : decode cX12_greedy 41 = .ok (.if_icmp .ne 8, 3) := by decide +kernel
theorem dX12_greedy_44 : decode cX12_greedy 44 = .ok (.iload 4, 2) := by decide +kernel
theorem dX12_greedy_46 : decode cX12_greedy 46 = .ok (.goto 9, 3) := by decide +kernel
theorem dX12_greedy_49 : decode cX12_greedy 49 = .ok (.aload_n 0, 1) := by decide +kernel
theorem dX12_greedy_50 : decode cX12_greedy 50 = .ok (.getfield 26, 3) := by decide +kernel
theorem dX12_greedy_53 : decode cX12_greedy 53 = .ok (.iload_n 3, 1) := by decide +kernel
theorem dX12_greedy_54 : decode cX12_greedy 54 = .ok (.iaload, 1) := by decide +kernel
theorem dX12_greedy_55 : decode cX12_greedy 55 = .ok (.ireturn, 1) := by decide +kernel
theorem dX12_pick_0 : decode cX12_pick 0 = .ok (.iload_n 3, 1) := by decide +kernel
theorem dX12_pick_1 : decode cX12_pick 1 = .ok (.ifCond .ne 7, 3) := by decide +kernel
theorem dX12_pick_4 : decode cX12_pick 4 = .ok (.iload_n 0, 1) := by decide +kernel
theorem dX12_pick_5 : decode cX12_pick 5 = .ok (.goto 13, 3) := by decide +kernel
theorem dX12_pick_8 : decode cX12_pick 8 = .ok (.iload_n 3, 1) := by decide +kernel
theorem dX12_pick_9 : decode cX12_pick 9 = .ok (.iconst 1, 1) := by decide +kernel
theorem dX12_pick_10 : decode cX12_pick 10 = .ok (.if_icmp .ne 7, 3) := by decide +kernel
theorem dX12_pick_13 : decode cX12_pick 13 = .ok (.iload_n 1, 1) := by decide +kernel
theorem dX12_pick_14 : decode cX12_pick 14 = .ok (.goto 4, 3) := by decide +kernel
theorem dX12_pick_17 : decode cX12_pick 17 = .ok (.iload_n 2, 1) := by decide +kernel
theorem dX12_pick_18 : decode cX12_pick 18 = .ok (.ireturn, 1) := by decide +kernel
theorem dX12_agendaOf_0 : decode cX12_agendaOf 0 = .ok (.aload_n 0, 1) := by decide +kernel
theorem dX12_agendaOf_1 : decode cX12_agendaOf 1 = .ok (.invokevirtual 255, 3) := by decide +kernel
theorem dX12_agendaOf_4 : decode cX12_agendaOf 4 = .ok (.aload_n 0, 1) := by decide +kernel
theorem dX12_agendaOf_5 : decode cX12_agendaOf 5 = .ok (.iload_n 1, 1) := by decide +kernel
theorem dX12_agendaOf_6 : decode cX12_agendaOf 6 = .ok (.invokevirtual 234, 3) := by decide +kernel
theorem dX12_agendaOf_9 : decode cX12_agendaOf 9 = .ok (.aload_n 0, 1) := by decide +kernel
theorem dX12_agendaOf_10 : decode cX12_agendaOf 10 = .ok (.iload_n 2, 1) := by decide +kernel
theorem dX12_agendaOf_11 : decode cX12_agendaOf 11 = .ok (.invokevirtual 234, 3) := by decide +kernel
theorem dX12_agendaOf_14 : decode cX12_agendaOf 14 = .ok (.aload_n 0, 1) := by decide +kernel
theorem dX12_agendaOf_15 : decode cX12_agendaOf 15 = .ok (.iload_n 3, 1) := by decide +kernel
theorem dX12_agendaOf_16 : decode cX12_agendaOf 16 = .ok (.invokevirtual 234, 3) := by decide +kernel
theorem dX12_agendaOf_19 : decode cX12_agendaOf 19 = .ok (.aload_n 0, 1) := by decide +kernel
theorem dX12_agendaOf_20 : decode cX12_agendaOf 20 = .ok (.getfield 228, 3) := by decide +kernel
theorem dX12_agendaOf_23 : decode cX12_agendaOf 23 = .ok (.ireturn, 1) := by decide +kernel
