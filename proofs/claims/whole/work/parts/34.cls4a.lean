theorem dX5_hear_0 : decode cX5_hear 0 = .ok (.aload_n 0, 1) := by decide +kernel
theorem dX5_hear_1 : decode cX5_hear 1 = .ok (.aload_n 1, 1) := by decide +kernel
theorem dX5_hear_2 : decode cX5_hear 2 = .ok (.getfield 21, 3) := by decide +kernel
theorem dX5_hear_5 : decode cX5_hear 5 = .ok (.putfield 27, 3) := by decide +kernel
theorem dX5_hear_8 : decode cX5_hear 8 = .ok (.aload_n 0, 1) := by decide +kernel
theorem dX5_hear_9 : decode cX5_hear 9 = .ok (.iconst 1, 1) := by decide +kernel
theorem dX5_hear_10 : decode cX5_hear 10 = .ok (.aload_n 0, 1) := by decide +kernel
theorem dX5_hear_11 : decode cX5_hear 11 = .ok (.getfield 27, 3) := by decide +kernel
theorem dX5_hear_14 : decode cX5_hear 14 = .ok (.ishl, 1) := by decide +kernel
theorem dX5_hear_15 : decode cX5_hear 15 = .ok (.putfield 28, 3) := by decide +kernel
theorem dX5_hear_18 : decode cX5_hear 18 = .ok (.iconst 0, 1) := by decide +kernel
theorem dX5_hear_19 : decode cX5_hear 19 = .ok (.istore_n 2, 1) := by decide +kernel
theorem dX5_hear_20 : decode cX5_hear 20 = .ok (.iload_n 2, 1) := by decide +kernel
theorem dX5_hear_21 : decode cX5_hear 21 = .ok (.aload_n 0, 1) := by decide +kernel
theorem dX5_hear_22 : decode cX5_hear 22 = .ok (.getfield 27, 3) := by decide +kernel
theorem dX5_hear_25 : decode cX5_hear 25 = .ok (.if_icmp .ge 63, 3) := by decide +kernel
theorem dX5_hear_28 : decode cX5_hear 28 = .ok (.aload_n 0, 1) := by decide +kernel
theorem dX5_hear_29 : decode cX5_hear 29 = .ok (.getfield 15, 3) := by decide +kernel
theorem dX5_hear_32 : decode cX5_hear 32 = .ok (.iload_n 2, 1) := by decide +kernel
theorem dX5_hear_33 : decode cX5_hear 33 = .ok (.aload_n 1, 1) := by decide +kernel
theorem dX5_hear_34 : decode cX5_hear 34 = .ok (.getfield 31, 3) := by decide +kernel
theorem dX5_hear_37 : decode cX5_hear 37 = .ok (.iload_n 2, 1) := by decide +kernel
theorem dX5_hear_38 : decode cX5_hear 38 = .ok (.iaload, 1) := by decide +kernel
theorem dX5_hear_39 : decode cX5_hear 39 = .ok (.iastore, 1) := by decide +kernel
theorem dX5_hear_40 : decode cX5_hear 40 = .ok (.iconst 1, 1) := by decide +kernel
theorem dX5_hear_41 : decode cX5_hear 41 = .ok (.iload_n 2, 1) := by decide +kernel
theorem dX5_hear_42 : decode cX5_hear 42 = .ok (.ishl, 1) := by decide +kernel
theorem dX5_hear_43 : decode cX5_hear 43 = .ok (.istore_n 3, 1) := by decide +kernel
theorem dX5_hear_44 : decode cX5_hear 44 = .ok (.iconst 0, 1) := by decide +kernel
theorem dX5_hear_45 : decode cX5_hear 45 = .ok (.istore 4, 2) := by decide +kernel
theorem dX5_hear_47 : decode cX5_hear 47 = .ok (.iload 4, 2) := by decide +kernel
theorem dX5_hear_49 : decode cX5_hear 49 = .ok (.iload_n 3, 1) := by decide +kernel
theorem dX5_hear_50 : decode cX5_hear 50 = .ok (.if_icmp .ge 32, 3) := by decide +kernel
theorem dX5_hear_53 : decode cX5_hear 53 = .ok (.aload_n 0, 1) := by decide +kernel
theorem dX5_hear_54 : decode cX5_hear 54 = .ok (.getfield 18, 3) := by decide +kernel
theorem dX5_hear_57 : decode cX5_hear 57 = .ok (.iload_n 3, 1) := by decide +kernel
theorem dX5_hear_58 : decode cX5_hear 58 = .ok (.iload 4, 2) := by decide +kernel
theorem dX5_hear_60 : decode cX5_hear 60 = .ok (.iadd, 1) := by decide +kernel
theorem dX5_hear_61 : decode cX5_hear 61 = .ok (.aload_n 0, 1) := by decide +kernel
theorem dX5_hear_62 : decode cX5_hear 62 = .ok (.getfield 18, 3) := by decide +kernel
theorem dX5_hear_65 : decode cX5_hear 65 = .ok (.iload 4, 2) := by decide +kernel
theorem dX5_hear_67 : decode cX5_hear 67 = .ok (.iaload, 1) := by decide +kernel
theorem dX5_hear_68 : decode cX5_hear 68 = .ok (.aload_n 0, 1) := by decide +kernel
theorem dX5_hear_69 : decode cX5_hear 69 = .ok (.getfield 15, 3) := by decide +kernel
theorem dX5_hear_72 : decode cX5_hear 72 = .ok (.iload_n 2, 1) := by decide +kernel
theorem dX5_hear_73 : decode cX5_hear 73 = .ok (.iaload, 1) := by decide +kernel
theorem dX5_hear_74 : decode cX5_hear 74 = .ok (.iadd, 1) := by decide +kernel
theorem dX5_hear_75 : decode cX5_hear 75 = .ok (.iastore, 1) := by decide +kernel
theorem dX5_hear_76 : decode cX5_hear 76 = .ok (.iinc 4 1, 3) := by decide +kernel
theorem dX5_hear_79 : decode cX5_hear 79 = .ok (.goto (-32), 3) := by decide +kernel
theorem dX5_hear_82 : decode cX5_hear 82 = .ok (.iinc 2 1, 3) := by decide +kernel
theorem dX5_hear_85 : decode cX5_hear 85 = .ok (.goto (-65), 3) := by decide +kernel
theorem dX5_hear_88 : decode cX5_hear 88 = .ok (.aload_n 0, 1) := by decide +kernel
theorem dX5_hear_89 : decode cX5_hear 89 = .ok (.aload_n 0, 1) := by decide +kernel
theorem dX5_hear_90 : decode cX5_hear 90 = .ok (.getfield 18, 3) := by decide +kernel
theorem dX5_hear_93 : decode cX5_hear 93 = .ok (.aload_n 0, 1) := by decide +kernel
theorem dX5_hear_94 : decode cX5_hear 94 = .ok (.getfield 28, 3) := by decide +kernel
theorem dX5_hear_97 : decode cX5_hear 97 = .ok (.iconst 1, 1) := by decide +kernel
theorem dX5_hear_98 : decode cX5_hear 98 = .ok (.isub, 1) := by decide +kernel
theorem dX5_hear_99 : decode cX5_hear 99 = .ok (.iaload, 1) := by decide +kernel
theorem dX5_hear_100 : decode cX5_hear 100 = .ok (.putfield 32, 3) := by decide +kernel
theorem dX5_hear_103 : decode cX5_hear 103 = .ok (.iconst 0, 1) := by decide +kernel
theorem dX5_hear_104 : decode cX5_hear 104 = .ok (.istore_n 2, 1) := by decide +kernel
theorem dX5_hear_105 : decode cX5_hear 105 = .ok (.iload_n 2, 1) := by decide +kernel
theorem dX5_hear_106 : decode cX5_hear 106 = .ok (.aload_n 0, 1) := by decide +kernel
theorem dX5_hear_107 : decode cX5_hear 107 = .ok (.getfield 27, 3) := by decide +kernel
theorem dX5_hear_110 : decode cX5_hear 110 = .ok (.if_icmp .ge 20, 3) := by decide +kernel
theorem dX5_hear_113 : decode cX5_hear 113 = .ok (.aload_n 0, 1) := by decide +kernel
theorem dX5_hear_114 : decode cX5_hear 114 = .ok (.getfield 9, 3) := by decide +kernel
theorem dX5_hear_117 : decode cX5_hear 117 = .ok (.iload_n 2, 1) := by decide +kernel
theorem dX5_hear_118 : decode cX5_hear 118 = .ok (.aload_n 0, 1) := by decide +kernel
theorem dX5_hear_119 : decode cX5_hear 119 = .ok (.iload_n 2, 1) := by decide +kernel
theorem dX5_hear_120 : decode cX5_hear 120 = .ok (.invokevirtual 35, 3) := by decide +kernel
theorem dX5_hear_123 : decode cX5_hear 123 = .ok (.iastore, 1) := by decide +kernel
theorem dX5_hear_124 : decode cX5_hear 124 = .ok (.iinc 2 1, 3) := by decide +kernel
theorem dX5_hear_127 : decode cX5_hear 127 = .ok (.goto (-22), 3) := by decide +kernel
theorem dX5_hear_130 : decode cX5_hear 130 = .ok (.return_, 1) := by decide +kernel
theorem dX5_leastSet_0 : decode cX5_leastSet 0 = .ok (.iconst 0, 1) := by decide +kernel
theorem dX5_leastSet_1 : decode cX5_leastSet 1 = .ok (.istore_n 1, 1) := by decide +kernel
theorem dX5_leastSet_2 : decode cX5_leastSet 2 = .ok (.bipush 9, 2) := by decide +kernel
theorem dX5_leastSet_4 : decode cX5_leastSet 4 = .ok (.istore_n 2, 1) := by decide +kernel
theorem dX5_leastSet_5 : decode cX5_leastSet 5 = .ok (.iconst 0, 1) := by decide +kernel
theorem dX5_leastSet_6 : decode cX5_leastSet 6 = .ok (.istore_n 3, 1) := by decide +kernel
theorem dX5_leastSet_7 : decode cX5_leastSet 7 = .ok (.iload_n 3, 1) := by decide +kernel
theorem dX5_leastSet_8 : decode cX5_leastSet 8 = .ok (.aload_n 0, 1) := by decide +kernel
theorem dX5_leastSet_9 : decode cX5_leastSet 9 = .ok (.getfield 28, 3) := by decide +kernel
theorem dX5_leastSet_12 : decode cX5_leastSet 12 = .ok (.if_icmp .ge 34, 3) := by decide +kernel
theorem dX5_leastSet_15 : decode cX5_leastSet 15 = .ok (.iload_n 3, 1) := by decide +kernel
theorem dX5_leastSet_16 : decode cX5_leastSet 16 = .ok (.invokestatic 50, 3) := by decide +kernel
theorem dX5_leastSet_19 : decode cX5_leastSet 19 = .ok (.istore 4, 2) := by decide +kernel
theorem dX5_leastSet_21 : decode cX5_leastSet 21 = .ok (.iload 4, 2) := by decide +kernel
theorem dX5_leastSet_23 : decode cX5_leastSet 23 = .ok (.iload_n 2, 1) := by decide +kernel
theorem dX5_leastSet_24 : decode cX5_leastSet 24 = .ok (.if_icmp .ge 16, 3) := by decide +kernel
theorem dX5_leastSet_27 : decode cX5_leastSet 27 = .ok (.aload_n 0, 1) := by decide +kernel
theorem dX5_leastSet_28 : decode cX5_leastSet 28 = .ok (.iload_n 3, 1) := by decide +kernel
theorem dX5_leastSet_29 : decode cX5_leastSet 29 = .ok (.invokevirtual 39, 3) := by decide +kernel
theorem dX5_leastSet_32 : decode cX5_leastSet 32 = .ok (.ifCond .eq 8, 3) := by decide +kernel
theorem dX5_leastSet_35 : decode cX5_leastSet 35 = .ok (.iload_n 3, 1) := by decide +kernel
theorem dX5_leastSet_36 : decode cX5_leastSet 36 = .ok (.istore_n 1, 1) := by decide +kernel
theorem dX5_leastSet_37 : decode cX5_leastSet 37 = .ok (.iload 4, 2) := by decide +kernel
theorem dX5_leastSet_39 : decode cX5_leastSet 39 = .ok (.istore_n 2, 1) := by decide +kernel
theorem dX5_leastSet_40 : decode cX5_leastSet 40 = .ok (.iinc 3 1, 3) := by decide +kernel
theorem dX5_leastSet_43 : decode cX5_leastSet 43 = .ok (.goto (-36), 3) := by decide +kernel
theorem dX5_leastSet_46 : decode cX5_leastSet 46 = .ok (.iload_n 1, 1) := by decide +kernel
theorem dX5_leastSet_47 : decode cX5_leastSet 47 = .ok (.ireturn, 1) := by decide +kernel
theorem dX11_leastTerms_0 : decode cX11_leastTerms 0 = .ok (.lload_n 2, 1) := by decide +kernel
theorem dX11_leastTerms_1 : decode cX11_leastTerms 1 = .ok (.lstore 5, 2) := by decide +kernel
theorem dX11_leastTerms_3 : decode cX11_leastTerms 3 = .ok (.lload_n 0, 1) := by decide +kernel
theorem dX11_leastTerms_4 : decode cX11_leastTerms 4 = .ok (.lstore 7, 2) := by decide +kernel
theorem dX11_leastTerms_6 : decode cX11_leastTerms 6 = .ok (.iconst 0, 1) := by decide +kernel
theorem dX11_leastTerms_7 : decode cX11_leastTerms 7 = .ok (.istore 9, 2) := by decide +kernel
theorem dX11_leastTerms_9 : decode cX11_leastTerms 9 = .ok (.iload 9, 2) := by decide +kernel
theorem dX11_leastTerms_11 : decode cX11_leastTerms 11 = .ok (.sipush 200, 3) := by decide +kernel
theorem dX11_leastTerms_14 : decode cX11_leastTerms 14 = .ok (.if_icmp .ge 31, 3) := by decide +kernel
theorem dX11_leastTerms_17 : decode cX11_leastTerms 17 = .ok (.lload 7, 2) := by decide +kernel
theorem dX11_leastTerms_19 : decode cX11_leastTerms 19 = .ok (.lconst 0, 1) := by decide +kernel
theorem dX11_leastTerms_20 : decode cX11_leastTerms 20 = .ok (.lcmp, 1) := by decide +kernel
theorem dX11_leastTerms_21 : decode cX11_leastTerms 21 = .ok (.ifCond .eq 24, 3) := by decide +kernel
theorem dX11_leastTerms_24 : decode cX11_leastTerms 24 = .ok (.lload 5, 2) := by decide +kernel
theorem dX11_leastTerms_26 : decode cX11_leastTerms 26 = .ok (.lload 7, 2) := by decide +kernel
theorem dX11_leastTerms_28 : decode cX11_leastTerms 28 = .ok (.lrem, 1) := by decide +kernel
theorem dX11_leastTerms_29 : decode cX11_leastTerms 29 = .ok (.lstore 10, 2) := by decide +kernel
theorem dX11_leastTerms_31 : decode cX11_leastTerms 31 = .ok (.lload 7, 2) := by decide +kernel
theorem dX11_leastTerms_33 : decode cX11_leastTerms 33 = .ok (.lstore 5, 2) := by decide +kernel
theorem dX11_leastTerms_35 : decode cX11_leastTerms 35 = .ok (.lload 10, 2) := by decide +kernel
theorem dX11_leastTerms_37 : decode cX11_leastTerms 37 = .ok (.lstore 7, 2) := by decide +kernel
theorem dX11_leastTerms_39 : decode cX11_leastTerms 39 = .ok (.iinc 9 1, 3) := by decide +kernel
theorem dX11_leastTerms_42 : decode cX11_leastTerms 42 = .ok (.goto (-33), 3) := by decide +kernel
theorem dX11_leastTerms_45 : decode cX11_leastTerms 45 = .ok (.lload 5, 2) := by decide +kernel
theorem dX11_leastTerms_47 : decode cX11_leastTerms 47 = .ok (.lconst 0, 1) := by decide +kernel
theorem dX11_leastTerms_48 : decode cX11_leastTerms 48 = .ok (.lcmp, 1) := by decide +kernel
theorem dX11_leastTerms_49 : decode cX11_leastTerms 49 = .ok (.ifCond .ne 7, 3) := by decide +kernel
theorem dX11_leastTerms_52 : decode cX11_leastTerms 52 = .ok (.ldc2_w 209, 3) := by decide +kernel
theorem dX11_leastTerms_55 : decode cX11_leastTerms 55 = .ok (.lreturn, 1) := by decide +kernel
theorem dX11_leastTerms_56 : decode cX11_leastTerms 56 = .ok (.iload 4, 2) := by decide +kernel
theorem dX11_leastTerms_58 : decode cX11_leastTerms 58 = .ok (.ifCond .eq 7, 3) := by decide +kernel
theorem dX11_leastTerms_61 : decode cX11_leastTerms 61 = .ok (.lload_n 2, 1) := by decide +kernel
theorem dX11_leastTerms_62 : decode cX11_leastTerms 62 = .ok (.goto 4, 3) := by decide +kernel
theorem dX11_leastTerms_65 : decode cX11_leastTerms 65 = .ok (.lload_n 0, 1) := by decide +kernel
theorem dX11_leastTerms_66 : decode cX11_leastTerms 66 = .ok (.lload 5, 2) := by decide +kernel
theorem dX11_leastTerms_68 : decode cX11_leastTerms 68 = .ok (.ldiv, 1) := by decide +kernel
theorem dX11_leastTerms_69 : decode cX11_leastTerms 69 = .ok (.lreturn, 1) := by decide +kernel
theorem dX10_carryingDamps_0 : decode cX10_carryingDamps 0 = .ok (.aload_n 0, 1) := by decide +kernel
theorem dX10_carryingDamps_1 : decode cX10_carryingDamps 1 = .ok (.getfield 12, 3) := by decide +kernel
theorem dX10_carryingDamps_4 : decode cX10_carryingDamps 4 = .ok (.aload_n 1, 1) := by decide +kernel
theorem dX10_carryingDamps_5 : decode cX10_carryingDamps 5 = .ok (.invokevirtual 25, 3) := by decide +kernel
theorem dX10_carryingDamps_8 : decode cX10_carryingDamps 8 = .ok (.iconst 0, 1) := by decide +kernel
theorem dX10_carryingDamps_9 : decode cX10_carryingDamps 9 = .ok (.istore_n 3, 1) := by decide +kernel
theorem dX10_carryingDamps_10 : decode cX10_carryingDamps 10 = .ok (.iconst 0, 1) := by decide +kernel
theorem dX10_carryingDamps_11 : decode cX10_carryingDamps 11 = .ok (.istore 4, 2) := by decide +kernel
theorem dX10_carryingDamps_13 : decode cX10_carryingDamps 13 = .ok (.iload 4, 2) := by decide +kernel
theorem dX10_carryingDamps_15 : decode cX10_carryingDamps 15 = .ok (.bipush 9, 2) := by decide +kernel
theorem dX10_carryingDamps_17 : decode cX10_carryingDamps 17 = .ok (.if_icmp .gt 39, 3) := by decide +kernel
theorem dX10_carryingDamps_20 : decode cX10_carryingDamps 20 = .ok (.aload_n 0, 1) := by decide +kernel
theorem dX10_carryingDamps_21 : decode cX10_carryingDamps 21 = .ok (.getfield 12, 3) := by decide +kernel
theorem dX10_carryingDamps_24 : decode cX10_carryingDamps 24 = .ok (.getfield 68, 3) := by decide +kernel
theorem dX10_carryingDamps_27 : decode cX10_carryingDamps 27 = .ok (.iload 4, 2) := by decide +kernel
theorem dX10_carryingDamps_29 : decode cX10_carryingDamps 29 = .ok (.putfield 72, 3) := by decide +kernel
theorem dX10_carryingDamps_32 : decode cX10_carryingDamps 32 = .ok (.aload_n 0, 1) := by decide +kernel
theorem dX10_carryingDamps_33 : decode cX10_carryingDamps 33 = .ok (.getfield 12, 3) := by decide +kernel
theorem dX10_carryingDamps_36 : decode cX10_carryingDamps 36 = .ok (.iload_n 2, 1) := by decide +kernel
theorem dX10_carryingDamps_37 : decode cX10_carryingDamps 37 = .ok (.invokevirtual 29, 3) := by decide +kernel
theorem dX10_carryingDamps_40 : decode cX10_carryingDamps 40 = .ok (.ifCond .le 10, 3) := by decide +kernel
theorem dX10_carryingDamps_43 : decode cX10_carryingDamps 43 = .ok (.iload_n 3, 1) := by decide +kernel
theorem dX10_carryingDamps_44 : decode cX10_carryingDamps 44 = .ok (.iconst 1, 1) := by decide +kernel
theorem dX10_carryingDamps_45 : decode cX10_carryingDamps 45 = .ok (.iload 4, 2) := by decide +kernel
theorem dX10_carryingDamps_47 : decode cX10_carryingDamps 47 = .ok (.ishl, 1) := by decide +kernel
theorem dX10_carryingDamps_48 : decode cX10_carryingDamps 48 = .ok (.ior, 1) := by decide +kernel
theorem dX10_carryingDamps_49 : decode cX10_carryingDamps 49 = .ok (.istore_n 3, 1) := by decide +kernel
theorem dX10_carryingDamps_50 : decode cX10_carryingDamps 50 = .ok (.iinc 4 1, 3) := by decide +kernel
theorem dX10_carryingDamps_53 : decode cX10_carryingDamps 53 = .ok (.goto (-40), 3) := by decide +kernel
theorem dX10_carryingDamps_56 : decode cX10_carryingDamps 56 = .ok (.iload_n 3, 1) := by decide +kernel
theorem dX10_carryingDamps_57 : decode cX10_carryingDamps 57 = .ok (.ireturn, 1) := by decide +kernel
theorem dJ7_fill_d0a16_0 : decode cJ7_fill_d0a16 0 = .ok (.iconst 0, 1) := by decide +kernel
theorem dJ7_fill_d0a16_1 : decode cJ7_fill_d0a16 1 = .ok (.istore_n 3, 1) := by decide +kernel
theorem dJ7_fill_d0a16_2 : decode cJ7_fill_d0a16 2 = .ok (.aload_n 0, 1) := by decide +kernel
theorem dJ7_fill_d0a16_3 : decode cJ7_fill_d0a16 3 = .ok (.arraylength, 1) := by decide +kernel
theorem dJ7_fill_d0a16_4 : decode cJ7_fill_d0a16 4 = .ok (.istore 4, 2) := by decide +kernel
theorem dJ7_fill_d0a16_6 : decode cJ7_fill_d0a16 6 = .ok (.iload_n 3, 1) := by decide +kernel
theorem dJ7_fill_d0a16_7 : decode cJ7_fill_d0a16 7 = .ok (.iload 4, 2) := by decide +kernel
theorem dJ7_fill_d0a16_9 : decode cJ7_fill_d0a16 9 = .ok (.if_icmp .ge 13, 3) := by decide +kernel
theorem dJ7_fill_d0a16_12 : decode cJ7_fill_d0a16 12 = .ok (.aload_n 0, 1) := by decide +kernel
theorem dJ7_fill_d0a16_13 : decode cJ7_fill_d0a16 13 = .ok (.iload_n 3, 1) := by decide +kernel
theorem dJ7_fill_d0a16_14 : decode cJ7_fill_d0a16 14 = .ok (.lload_n 1, 1) := by decide +kernel
theorem dJ7_fill_d0a16_15 : decode cJ7_fill_d0a16 15 = .ok (.lastore, 1) := by decide +kernel
theorem dJ7_fill_d0a16_16 : decode cJ7_fill_d0a16 16 = .ok (.iinc 3 1, 3) := by decide +kernel
theorem dJ7_fill_d0a16_19 : decode cJ7_fill_d0a16 19 = .ok (.goto (-13), 3) := by decide +kernel
theorem dJ7_fill_d0a16_22 : decode cJ7_fill_d0a16 22 = .ok (.return_, 1) := by decide +kernel
theorem dX10_passDay_0 : decode cX10_passDay 0 = .ok (.aload_n 0, 1) := by decide +kernel
theorem dX10_passDay_1 : decode cX10_passDay 1 = .ok (.getfield 22, 3) := by decide +kernel
theorem dX10_passDay_4 : decode cX10_passDay 4 = .ok (.lconst 0, 1) := by decide +kernel
theorem dX10_passDay_5 : decode cX10_passDay 5 = .ok (.invokestatic 79, 3) := by decide +kernel
theorem dX10_passDay_8 : decode cX10_passDay 8 = .ok (.iconst 0, 1) := by decide +kernel
theorem dX10_passDay_9 : decode cX10_passDay 9 = .ok (.istore_n 2, 1) := by decide +kernel
theorem dX10_passDay_10 : decode cX10_passDay 10 = .ok (.iload_n 2, 1) := by decide +kernel
theorem dX10_passDay_11 : decode cX10_passDay 11 = .ok (.bipush 9, 2) := by decide +kernel
theorem dX10_passDay_13 : decode cX10_passDay 13 = .ok (.if_icmp .gt 61, 3) := by decide +kernel
theorem dX10_passDay_16 : decode cX10_passDay 16 = .ok (.aload_n 0, 1) := by decide +kernel
theorem dX10_passDay_17 : decode cX10_passDay 17 = .ok (.getfield 22, 3) := by decide +kernel
theorem dX10_passDay_20 : decode cX10_passDay 20 = .ok (.bipush 9, 2) := by decide +kernel
theorem dX10_passDay_22 : decode cX10_passDay 22 = .ok (.iload_n 2, 1) := by decide +kernel
theorem dX10_passDay_23 : decode cX10_passDay 23 = .ok (.iconst 1, 1) := by decide +kernel
theorem dX10_passDay_24 : decode cX10_passDay 24 = .ok (.iadd, 1) := by decide +kernel
theorem dX10_passDay_25 : decode cX10_passDay 25 = .ok (.invokestatic 89, 3) := by decide +kernel
theorem dX10_passDay_28 : decode cX10_passDay 28 = .ok (.dup2, 1) := by decide +kernel
theorem dX10_passDay_29 : decode cX10_passDay 29 = .ok (.laload, 1) := by decide +kernel
theorem dX10_passDay_30 : decode cX10_passDay 30 = .ok (.aload_n 0, 1) := by decide +kernel
theorem dX10_passDay_31 : decode cX10_passDay 31 = .ok (.getfield 18, 3) := by decide +kernel
theorem dX10_passDay_34 : decode cX10_passDay 34 = .ok (.iload_n 2, 1) := by decide +kernel
theorem dX10_passDay_35 : decode cX10_passDay 35 = .ok (.laload, 1) := by decide +kernel
theorem dX10_passDay_36 : decode cX10_passDay 36 = .ok (.iload_n 1, 1) := by decide +kernel
theorem dX10_passDay_37 : decode cX10_passDay 37 = .ok (.i2l, 1) := by decide +kernel
theorem dX10_passDay_38 : decode cX10_passDay 38 = .ok (.lmul, 1) := by decide +kernel
theorem dX10_passDay_39 : decode cX10_passDay 39 = .ok (.ladd, 1) := by decide +kernel
theorem dX10_passDay_40 : decode cX10_passDay 40 = .ok (.lastore, 1) := by decide +kernel
theorem dX10_passDay_41 : decode cX10_passDay 41 = .ok (.aload_n 0, 1) := by decide +kernel
theorem dX10_passDay_42 : decode cX10_passDay 42 = .ok (.getfield 22, 3) := by decide +kernel
theorem dX10_passDay_45 : decode cX10_passDay 45 = .ok (.iconst 0, 1) := by decide +kernel
theorem dX10_passDay_46 : decode cX10_passDay 46 = .ok (.iload_n 2, 1) := by decide +kernel
theorem dX10_passDay_47 : decode cX10_passDay 47 = .ok (.iconst 1, 1) := by decide +kernel
theorem dX10_passDay_48 : decode cX10_passDay 48 = .ok (.isub, 1) := by decide +kernel
theorem dX10_passDay_49 : decode cX10_passDay 49 = .ok (.invokestatic 95, 3) := by decide +kernel
theorem dX10_passDay_52 : decode cX10_passDay 52 = .ok (.dup2, 1) := by decide +kernel
theorem dX10_passDay_53 : decode cX10_passDay 53 = .ok (.laload, 1) := by decide +kernel
theorem dX10_passDay_54 : decode cX10_passDay 54 = .ok (.aload_n 0, 1) := by decide +kernel
theorem dX10_passDay_55 : decode cX10_passDay 55 = .ok (.getfield 18, 3) := by decide +kernel
theorem dX10_passDay_58 : decode cX10_passDay 58 = .ok (.iload_n 2, 1) := by decide +kernel
theorem dX10_passDay_59 : decode cX10_passDay 59 = .ok (.laload, 1) := by decide +kernel
theorem dX10_passDay_60 : decode cX10_passDay 60 = .ok (.bipush 10, 2) := by decide +kernel
theorem dX10_passDay_62 : decode cX10_passDay 62 = .ok (.iload_n 1, 1) := by decide +kernel
theorem dX10_passDay_63 : decode cX10_passDay 63 = .ok (.isub, 1) := by decide +kernel
theorem dX10_passDay_64 : decode cX10_passDay 64 = .ok (.i2l, 1) := by decide +kernel
theorem dX10_passDay_65 : decode cX10_passDay 65 = .ok (.lmul, 1) := by decide +kernel
theorem dX10_passDay_66 : decode cX10_passDay 66 = .ok (.ladd, 1) := by decide +kernel
theorem dX10_passDay_67 : decode cX10_passDay 67 = .ok (.lastore, 1) := by decide +kernel
theorem dX10_passDay_68 : decode cX10_passDay 68 = .ok (.iinc 2 1, 3) := by decide +kernel
theorem dX10_passDay_71 : decode cX10_passDay 71 = .ok (.goto (-61), 3) := by decide +kernel
theorem dX10_passDay_74 : decode cX10_passDay 74 = .ok (.aload_n 0, 1) := by decide +kernel
theorem dX10_passDay_75 : decode cX10_passDay 75 = .ok (.getfield 18, 3) := by decide +kernel
theorem dX10_passDay_78 : decode cX10_passDay 78 = .ok (.astore_n 2, 1) := by decide +kernel
theorem dX10_passDay_79 : decode cX10_passDay 79 = .ok (.aload_n 0, 1) := by decide +kernel
theorem dX10_passDay_80 : decode cX10_passDay 80 = .ok (.aload_n 0, 1) := by decide +kernel
theorem dX10_passDay_81 : decode cX10_passDay 81 = .ok (.getfield 22, 3) := by decide +kernel
theorem dX10_passDay_84 : decode cX10_passDay 84 = .ok (.putfield 18, 3) := by decide +kernel
theorem dX10_passDay_87 : decode cX10_passDay 87 = .ok (.aload_n 0, 1) := by decide +kernel
theorem dX10_passDay_88 : decode cX10_passDay 88 = .ok (.aload_n 2, 1) := by decide +kernel
theorem dX10_passDay_89 : decode cX10_passDay 89 = .ok (.putfield 22, 3) := by decide +kernel
theorem dX10_passDay_92 : decode cX10_passDay 92 = .ok (.return_, 1) := by decide +kernel
theorem dX10_chancesBehind_0 : decode cX10_chancesBehind 0 = .ok (.aload_n 0, 1) := by decide +kernel
theorem dX10_chancesBehind_1 : decode cX10_chancesBehind 1 = .ok (.aload_n 1, 1) := by decide +kernel
theorem dX10_chancesBehind_2 : decode cX10_chancesBehind 2 = .ok (.iload_n 2, 1) := by decide +kernel
theorem dX10_chancesBehind_3 : decode cX10_chancesBehind 3 = .ok (.invokevirtual 75, 3) := by decide +kernel
theorem dX10_chancesBehind_6 : decode cX10_chancesBehind 6 = .ok (.istore 5, 2) := by decide +kernel
theorem dX10_chancesBehind_8 : decode cX10_chancesBehind 8 = .ok (.aload_n 0, 1) := by decide +kernel
theorem dX10_chancesBehind_9 : decode cX10_chancesBehind 9 = .ok (.getfield 18, 3) := by decide +kernel
theorem dX10_chancesBehind_12 : decode cX10_chancesBehind 12 = .ok (.lconst 0, 1) := by decide +kernel
theorem dX10_chancesBehind_13 : decode cX10_chancesBehind 13 = .ok (.invokestatic 79, 3) := by decide +kernel
theorem dX10_chancesBehind_16 : decode cX10_chancesBehind 16 = .ok (.aload_n 1, 1) := by decide +kernel
theorem dX10_chancesBehind_17 : decode cX10_chancesBehind 17 = .ok (.getfield 72, 3) := by decide +kernel
theorem dX10_chancesBehind_20 : decode cX10_chancesBehind 20 = .ok (.ifCond .lt 22, 3) := by decide +kernel
theorem dX10_chancesBehind_23 : decode cX10_chancesBehind 23 = .ok (.aload_n 1, 1) := by decide +kernel
theorem dX10_chancesBehind_24 : decode cX10_chancesBehind 24 = .ok (.getfield 72, 3) := by decide +kernel
theorem dX10_chancesBehind_27 : decode cX10_chancesBehind 27 = .ok (.bipush 9, 2) := by decide +kernel
theorem dX10_chancesBehind_29 : decode cX10_chancesBehind 29 = .ok (.if_icmp .gt 13, 3) := by decide +kernel
theorem dX10_chancesBehind_32 : decode cX10_chancesBehind 32 = .ok (.aload_n 0, 1) := by decide +kernel
theorem dX10_chancesBehind_33 : decode cX10_chancesBehind 33 = .ok (.getfield 18, 3) := by decide +kernel
theorem dX10_chancesBehind_36 : decode cX10_chancesBehind 36 = .ok (.aload_n 1, 1) := by decide +kernel
theorem dX10_chancesBehind_37 : decode cX10_chancesBehind 37 = .ok (.getfield 72, 3) := by decide +kernel
theorem dX10_chancesBehind_40 : decode cX10_chancesBehind 40 = .ok (.lconst 1, 1) := by decide +kernel
theorem dX10_chancesBehind_41 : decode cX10_chancesBehind 41 = .ok (.lastore, 1) := by decide +kernel
theorem dX10_chancesBehind_42 : decode cX10_chancesBehind 42 = .ok (.iconst 0, 1) := by decide +kernel
theorem dX10_chancesBehind_43 : decode cX10_chancesBehind 43 = .ok (.istore 6, 2) := by decide +kernel
theorem dX10_chancesBehind_45 : decode cX10_chancesBehind 45 = .ok (.iload 6, 2) := by decide +kernel
theorem dX10_chancesBehind_47 : decode cX10_chancesBehind 47 = .ok (.iload_n 3, 1) := by decide +kernel
theorem dX10_chancesBehind_48 : decode cX10_chancesBehind 48 = .ok (.if_icmp .ge 15, 3) := by decide +kernel
theorem dX10_chancesBehind_51 : decode cX10_chancesBehind 51 = .ok (.aload_n 0, 1) := by decide +kernel
theorem dX10_chancesBehind_52 : decode cX10_chancesBehind 52 = .ok (.iload 4, 2) := by decide +kernel
theorem dX10_chancesBehind_54 : decode cX10_chancesBehind 54 = .ok (.invokevirtual 85, 3) := by decide +kernel
theorem dX10_chancesBehind_57 : decode cX10_chancesBehind 57 = .ok (.iinc 6 1, 3) := by decide +kernel
theorem dX10_chancesBehind_60 : decode cX10_chancesBehind 60 = .ok (.goto (-15), 3) := by decide +kernel
theorem dX10_chancesBehind_63 : decode cX10_chancesBehind 63 = .ok (.lconst 0, 1) := by decide +kernel
theorem dX10_chancesBehind_64 : decode cX10_chancesBehind 64 = .ok (.lstore 6, 2) := by decide +kernel
theorem dX10_chancesBehind_66 : decode cX10_chancesBehind 66 = .ok (.iconst 0, 1) := by decide +kernel
theorem dX10_chancesBehind_67 : decode cX10_chancesBehind 67 = .ok (.istore 8, 2) := by decide +kernel
theorem dX10_chancesBehind_69 : decode cX10_chancesBehind 69 = .ok (.iload 8, 2) := by decide +kernel
theorem dX10_chancesBehind_71 : decode cX10_chancesBehind 71 = .ok (.bipush 9, 2) := by decide +kernel
theorem dX10_chancesBehind_73 : decode cX10_chancesBehind 73 = .ok (.if_icmp .gt 31, 3) := by decide +kernel
theorem dX10_chancesBehind_76 : decode cX10_chancesBehind 76 = .ok (.iload 5, 2) := by decide +kernel
theorem dX10_chancesBehind_78 : decode cX10_chancesBehind 78 = .ok (.iload 8, 2) := by decide +kernel
theorem dX10_chancesBehind_80 : decode cX10_chancesBehind 80 = .ok (.ishr, 1) := by decide +kernel
theorem dX10_chancesBehind_81 : decode cX10_chancesBehind 81 = .ok (.iconst 1, 1) := by decide +kernel
theorem dX10_chancesBehind_82 : decode cX10_chancesBehind 82 = .ok (.iand, 1) := by decide +kernel
theorem dX10_chancesBehind_83 : decode cX10_chancesBehind 83 = .ok (.ifCond .eq 15, 3) := by decide +kernel
theorem dX10_chancesBehind_86 : decode cX10_chancesBehind 86 = .ok (.lload 6, 2) := by decide +kernel
theorem dX10_chancesBehind_88 : decode cX10_chancesBehind 88 = .ok (.aload_n 0, 1) := by decide +kernel
theorem dX10_chancesBehind_89 : decode cX10_chancesBehind 89 = .ok (.getfield 18, 3) := by decide +kernel
theorem dX10_chancesBehind_92 : decode cX10_chancesBehind 92 = .ok (.iload 8, 2) := by decide +kernel
theorem dX10_chancesBehind_94 : decode cX10_chancesBehind 94 = .ok (.laload, 1) := by decide +kernel
theorem dX10_chancesBehind_95 : decode cX10_chancesBehind 95 = .ok (.ladd, 1) := by decide +kernel
theorem dX10_chancesBehind_96 : decode cX10_chancesBehind 96 = .ok (.lstore 6, 2) := by decide +kernel
theorem dX10_chancesBehind_98 : decode cX10_chancesBehind 98 = .ok (.iinc 8 1, 3) := by decide +kernel
theorem dX10_chancesBehind_101 : decode cX10_chancesBehind 101 = .ok (.goto (-32), 3) := by decide +kernel
theorem dX10_chancesBehind_104 : decode cX10_chancesBehind 104 = .ok (.lload 6, 2) := by decide +kernel
theorem dX10_chancesBehind_106 : decode cX10_chancesBehind 106 = .ok (.lreturn, 1) := by decide +kernel
theorem dX11_powerOfTen_0 : decode cX11_powerOfTen 0 = .ok (.lconst 1, 1) := by decide +kernel
theorem dX11_powerOfTen_1 : decode cX11_powerOfTen 1 = .ok (.lstore_n 1, 1) := by decide +kernel
theorem dX11_powerOfTen_2 : decode cX11_powerOfTen 2 = .ok (.iconst 0, 1) := by decide +kernel
theorem dX11_powerOfTen_3 : decode cX11_powerOfTen 3 = .ok (.istore_n 3, 1) := by decide +kernel
theorem dX11_powerOfTen_4 : decode cX11_powerOfTen 4 = .ok (.iload_n 3, 1) := by decide +kernel
theorem dX11_powerOfTen_5 : decode cX11_powerOfTen 5 = .ok (.iload_n 0, 1) := by decide +kernel
theorem dX11_powerOfTen_6 : decode cX11_powerOfTen 6 = .ok (.if_icmp .ge 15, 3) := by decide +kernel
theorem dX11_powerOfTen_9 : decode cX11_powerOfTen 9 = .ok (.lload_n 1, 1) := by decide +kernel
theorem dX11_powerOfTen_10 : decode cX11_powerOfTen 10 = .ok (.ldc2_w 367, 3) := by decide +kernel
theorem dX11_powerOfTen_13 : decode cX11_powerOfTen 13 = .ok (.lmul, 1) := by decide +kernel
theorem dX11_powerOfTen_14 : decode cX11_powerOfTen 14 = .ok (.lstore_n 1, 1) := by decide +kernel
theorem dX11_powerOfTen_15 : decode cX11_powerOfTen 15 = .ok (.iinc 3 1, 3) := by decide +kernel
theorem dX11_powerOfTen_18 : decode cX11_powerOfTen 18 = .ok (.goto (-14), 3) := by decide +kernel
theorem dX11_powerOfTen_21 : decode cX11_powerOfTen 21 = .ok (.lload_n 1, 1) := by decide +kernel
theorem dX11_powerOfTen_22 : decode cX11_powerOfTen 22 = .ok (.lreturn, 1) := by decide +kernel
theorem dX11_weather_0 : decode cX11_weather 0 = .ok (.aload_n 0, 1) := by decide +kernel
theorem dX11_weather_1 : decode cX11_weather 1 = .ok (.iload_n 1, 1) := by decide +kernel
theorem dX11_weather_2 : decode cX11_weather 2 = .ok (.iload_n 2, 1) := by decide +kernel
theorem dX11_weather_3 : decode cX11_weather 3 = .ok (.invokevirtual 115, 3) := by decide +kernel
theorem dX11_weather_6 : decode cX11_weather 6 = .ok (.astore 6, 2) := by decide +kernel
theorem dX11_weather_8 : decode cX11_weather 8 = .ok (.aload 6, 2) := by decide +kernel
theorem dX11_weather_10 : decode cX11_weather 10 = .ok (.ifnull 25, 3) := by decide +kernel
theorem dX11_weather_13 : decode cX11_weather 13 = .ok (.iload_n 3, 1) := by decide +kernel
theorem dX11_weather_14 : decode cX11_weather 14 = .ok (.ifCond .lt 21, 3) := by decide +kernel
theorem dX11_weather_17 : decode cX11_weather 17 = .ok (.iload_n 3, 1) := by decide +kernel
theorem dX11_weather_18 : decode cX11_weather 18 = .ok (.bipush 9, 2) := by decide +kernel
theorem dX11_weather_20 : decode cX11_weather 20 = .ok (.if_icmp .gt 15, 3) := by decide +kernel
theorem dX11_weather_23 : decode cX11_weather 23 = .ok (.iload 4, 2) := by decide +kernel
theorem dX11_weather_25 : decode cX11_weather 25 = .ok (.ifCond .lt 10, 3) := by decide +kernel
theorem dX11_weather_28 : decode cX11_weather 28 = .ok (.iload 4, 2) := by decide +kernel
theorem dX11_weather_30 : decode cX11_weather 30 = .ok (.bipush 10, 2) := by decide +kernel
theorem dX11_weather_32 : decode cX11_weather 32 = .ok (.if_icmp .le 7, 3) := by decide +kernel
theorem dX11_weather_35 : decode cX11_weather 35 = .ok (.ldc2_w 209, 3) := by decide +kernel
theorem dX11_weather_38 : decode cX11_weather 38 = .ok (.lreturn, 1) := by decide +kernel
theorem dX11_weather_39 : decode cX11_weather 39 = .ok (.aload_n 0, 1) := by decide +kernel
theorem dX11_weather_40 : decode cX11_weather 40 = .ok (.getfield 48, 3) := by decide +kernel
theorem dX11_weather_43 : decode cX11_weather 43 = .ok (.aload 6, 2) := by decide +kernel
theorem dX11_weather_45 : decode cX11_weather 45 = .ok (.iload_n 2, 1) := by decide +kernel
theorem dX11_weather_46 : decode cX11_weather 46 = .ok (.iload_n 3, 1) := by decide +kernel
theorem dX11_weather_47 : decode cX11_weather 47 = .ok (.iload 4, 2) := by decide +kernel
theorem dX11_weather_49 : decode cX11_weather 49 = .ok (.invokevirtual 211, 3) := by decide +kernel
theorem dX11_weather_52 : decode cX11_weather 52 = .ok (.iload_n 3, 1) := by decide +kernel
theorem dX11_weather_53 : decode cX11_weather 53 = .ok (.invokestatic 215, 3) := by decide +kernel
theorem dX11_weather_56 : decode cX11_weather 56 = .ok (.iload 5, 2) := by decide +kernel
theorem dX11_weather_58 : decode cX11_weather 58 = .ok (.invokestatic 219, 3) := by decide +kernel
theorem dX11_weather_61 : decode cX11_weather 61 = .ok (.lreturn, 1) := by decide +kernel
theorem dX9_logAt_0 : decode cX9_logAt 0 = .ok (.aload_n 0, 1) := by decide +kernel
theorem dX9_logAt_1 : decode cX9_logAt 1 = .ok (.iconst 2, 1) := by decide +kernel
theorem dX9_logAt_2 : decode cX9_logAt 2 = .ok (.iload_n 1, 1) := by decide +kernel
theorem dX9_logAt_3 : decode cX9_logAt 3 = .ok (.invokevirtual 77, 3) := by decide +kernel
theorem dX9_logAt_6 : decode cX9_logAt 6 = .ok (.ifCond .eq 12, 3) := by decide +kernel
theorem dX9_logAt_9 : decode cX9_logAt 9 = .ok (.aload_n 0, 1) := by decide +kernel
theorem dX9_logAt_10 : decode cX9_logAt 10 = .ok (.getfield 37, 3) := by decide +kernel
theorem dX9_logAt_13 : decode cX9_logAt 13 = .ok (.iload_n 1, 1) := by decide +kernel
theorem dX9_logAt_14 : decode cX9_logAt 14 = .ok (.aaload, 1) := by decide +kernel
theorem dX9_logAt_15 : decode cX9_logAt 15 = .ok (.goto 4, 3) := by decide +kernel
theorem dX9_logAt_18 : decode cX9_logAt 18 = .ok (.aconst_null, 1) := by decide +kernel
theorem dX9_logAt_19 : decode cX9_logAt 19 = .ok (.areturn, 1) := by decide +kernel
theorem dX4_tell_0 : decode cX4_tell 0 = .ok (.iload_n 1, 1) := by decide +kernel
theorem dX4_tell_1 : decode cX4_tell 1 = .ok (.iconst (-1), 1) := by decide +kernel
theorem dX4_tell_2 : decode cX4_tell 2 = .ok (.if_icmp .ne 17, 3) := by decide +kernel
theorem dX4_tell_5 : decode cX4_tell 5 = .ok (.iload_n 2, 1) := by decide +kernel
theorem dX4_tell_6 : decode cX4_tell 6 = .ok (.ifCond .ne 10, 3) := by decide +kernel
theorem dX4_tell_9 : decode cX4_tell 9 = .ok (.aload_n 0, 1) := by decide +kernel
theorem dX4_tell_10 : decode cX4_tell 10 = .ok (.getfield 24, 3) := by decide +kernel
theorem dX4_tell_13 : decode cX4_tell 13 = .ok (.goto 5, 3) := by decide +kernel
theorem dX4_tell_16 : decode cX4_tell 16 = .ok (.bipush (-2), 2) := by decide +kernel
theorem dX4_tell_18 : decode cX4_tell 18 = .ok (.ireturn, 1) := by decide +kernel
theorem dX4_tell_19 : decode cX4_tell 19 = .ok (.iload_n 1, 1) := by decide +kernel
theorem dX4_tell_20 : decode cX4_tell 20 = .ok (.ifCond .lt 11, 3) := by decide +kernel
theorem dX4_tell_23 : decode cX4_tell 23 = .ok (.iload_n 1, 1) := by decide +kernel
theorem dX4_tell_24 : decode cX4_tell 24 = .ok (.aload_n 0, 1) := by decide +kernel
theorem dX4_tell_25 : decode cX4_tell 25 = .ok (.getfield 24, 3) := by decide +kernel
theorem dX4_tell_28 : decode cX4_tell 28 = .ok (.if_icmp .lt 6, 3) := by decide +kernel
theorem dX4_tell_31 : decode cX4_tell 31 = .ok (.bipush (-2), 2) := by decide +kernel
theorem dX4_tell_33 : decode cX4_tell 33 = .ok (.ireturn, 1) := by decide +kernel
theorem dX4_tell_34 : decode cX4_tell 34 = .ok (.iload_n 2, 1) := by decide +kernel
theorem dX4_tell_35 : decode cX4_tell 35 = .ok (.tableswitch 57 0 3 #[29, 36, 43, 50], 29) := by decide +kernel
theorem dX4_tell_64 : decode cX4_tell 64 = .ok (.aload_n 0, 1) := by decide +kernel
theorem dX4_tell_65 : decode cX4_tell 65 = .ok (.getfield 9, 3) := by decide +kernel
theorem dX4_tell_68 : decode cX4_tell 68 = .ok (.iload_n 1, 1) := by decide +kernel
theorem dX4_tell_69 : decode cX4_tell 69 = .ok (.iaload, 1) := by decide +kernel
theorem dX4_tell_70 : decode cX4_tell 70 = .ok (.ireturn, 1) := by decide +kernel
theorem dX4_tell_71 : decode cX4_tell 71 = .ok (.aload_n 0, 1) := by decide +kernel
theorem dX4_tell_72 : decode cX4_tell 72 = .ok (.getfield 15, 3) := by decide +kernel
theorem dX4_tell_75 : decode cX4_tell 75 = .ok (.iload_n 1, 1) := by decide +kernel
theorem dX4_tell_76 : decode cX4_tell 76 = .ok (.iaload, 1) := by decide +kernel
theorem dX4_tell_77 : decode cX4_tell 77 = .ok (.ireturn, 1) := by decide +kernel
theorem dX4_tell_78 : decode cX4_tell 78 = .ok (.aload_n 0, 1) := by decide +kernel
theorem dX4_tell_79 : decode cX4_tell 79 = .ok (.getfield 18, 3) := by decide +kernel
theorem dX4_tell_82 : decode cX4_tell 82 = .ok (.iload_n 1, 1) := by decide +kernel
theorem dX4_tell_83 : decode cX4_tell 83 = .ok (.iaload, 1) := by decide +kernel
theorem dX4_tell_84 : decode cX4_tell 84 = .ok (.ireturn, 1) := by decide +kernel
theorem dX4_tell_85 : decode cX4_tell 85 = .ok (.aload_n 0, 1) := by decide +kernel
theorem dX4_tell_86 : decode cX4_tell 86 = .ok (.getfield 21, 3) := by decide +kernel
theorem dX4_tell_89 : decode cX4_tell 89 = .ok (.iload_n 1, 1) := by decide +kernel
theorem dX4_tell_90 : decode cX4_tell 90 = .ok (.iaload, 1) := by decide +kernel
theorem dX4_tell_91 : decode cX4_tell 91 = .ok (.ireturn, 1) := by decide +kernel
theorem dX4_tell_92 : decode cX4_tell 92 = .ok (.bipush (-2), 2) := by decide +kernel
theorem dX4_tell_94 : decode cX4_tell 94 = .ok (.ireturn, 1) := by decide +kernel
theorem dX11_fact_0 : decode cX11_fact 0 = .ok (.aload_n 0, 1) := by decide +kernel
theorem dX11_fact_1 : decode cX11_fact 1 = .ok (.getfield 10, 3) := by decide +kernel
theorem dX11_fact_4 : decode cX11_fact 4 = .ok (.iload_n 1, 1) := by decide +kernel
theorem dX11_fact_5 : decode cX11_fact 5 = .ok (.invokevirtual 223, 3) := by decide +kernel
theorem dX11_fact_8 : decode cX11_fact 8 = .ok (.astore 4, 2) := by decide +kernel
theorem dX11_fact_10 : decode cX11_fact 10 = .ok (.aload 4, 2) := by decide +kernel
theorem dX11_fact_12 : decode cX11_fact 12 = .ok (.ifnonnull 8, 3) := by decide +kernel
theorem dX11_fact_15 : decode cX11_fact 15 = .ok (.bipush (-2), 2) := by decide +kernel
theorem dX11_fact_17 : decode cX11_fact 17 = .ok (.goto 10, 3) := by decide +kernel
theorem dX11_fact_20 : decode cX11_fact 20 = .ok (.aload 4, 2) := by decide +kernel
theorem dX11_fact_22 : decode cX11_fact 22 = .ok (.iload_n 2, 1) := by decide +kernel
theorem dX11_fact_23 : decode cX11_fact 23 = .ok (.iload_n 3, 1) := by decide +kernel
theorem dX11_fact_24 : decode cX11_fact 24 = .ok (.invokevirtual 227, 3) := by decide +kernel
theorem dX11_fact_27 : decode cX11_fact 27 = .ok (.ireturn, 1) := by decide +kernel
theorem dX4_loudness_0 : decode cX4_loudness 0 = .ok (.iload_n 1, 1) := by decide +kernel
theorem dX4_loudness_1 : decode cX4_loudness 1 = .ok (.iload_n 2, 1) := by decide +kernel
theorem dX4_loudness_2 : decode cX4_loudness 2 = .ok (.iload_n 0, 1) := by decide +kernel
theorem dX4_loudness_3 : decode cX4_loudness 3 = .ok (.imul, 1) := by decide +kernel
theorem dX4_loudness_4 : decode cX4_loudness 4 = .ok (.iadd, 1) := by decide +kernel
theorem dX4_loudness_5 : decode cX4_loudness 5 = .ok (.iconst 3, 1) := by decide +kernel
theorem dX4_loudness_6 : decode cX4_loudness 6 = .ok (.iload_n 3, 1) := by decide +kernel
theorem dX4_loudness_7 : decode cX4_loudness 7 = .ok (.imul, 1) := by decide +kernel
theorem dX4_loudness_8 : decode cX4_loudness 8 = .ok (.iadd, 1) := by decide +kernel
theorem dX4_loudness_9 : decode cX4_loudness 9 = .ok (.ireturn, 1) := by decide +kernel
theorem dX4_mostLimit_0 : decode cX4_mostLimit 0 = .ok (.bipush 99, 2) := by decide +kernel
theorem dX4_mostLimit_2 : decode cX4_mostLimit 2 = .ok (.istore_n 2, 1) := by decide +kernel
theorem dX4_mostLimit_3 : decode cX4_mostLimit 3 = .ok (.iconst 0, 1) := by decide +kernel
theorem dX4_mostLimit_4 : decode cX4_mostLimit 4 = .ok (.istore_n 3, 1) := by decide +kernel
theorem dX4_mostLimit_5 : decode cX4_mostLimit 5 = .ok (.iload_n 3, 1) := by decide +kernel
theorem dX4_mostLimit_6 : decode cX4_mostLimit 6 = .ok (.aload_n 0, 1) := by decide +kernel
theorem dX4_mostLimit_7 : decode cX4_mostLimit 7 = .ok (.getfield 24, 3) := by decide +kernel
theorem dX4_mostLimit_10 : decode cX4_mostLimit 10 = .ok (.if_icmp .ge 45, 3) := by decide +kernel
theorem dX4_mostLimit_13 : decode cX4_mostLimit 13 = .ok (.aload_n 0, 1) := by decide +kernel
theorem dX4_mostLimit_14 : decode cX4_mostLimit 14 = .ok (.getfield 9, 3) := by decide +kernel
theorem dX4_mostLimit_17 : decode cX4_mostLimit 17 = .ok (.iload_n 3, 1) := by decide +kernel
theorem dX4_mostLimit_18 : decode cX4_mostLimit 18 = .ok (.iaload, 1) := by decide +kernel
theorem dX4_mostLimit_19 : decode cX4_mostLimit 19 = .ok (.ifCond .eq 30, 3) := by decide +kernel
theorem dX4_mostLimit_22 : decode cX4_mostLimit 22 = .ok (.iload_n 2, 1) := by decide +kernel
theorem dX4_mostLimit_23 : decode cX4_mostLimit 23 = .ok (.iload_n 1, 1) := by decide +kernel
theorem dX4_mostLimit_24 : decode cX4_mostLimit 24 = .ok (.aload_n 0, 1) := by decide +kernel
theorem dX4_mostLimit_25 : decode cX4_mostLimit 25 = .ok (.getfield 15, 3) := by decide +kernel
theorem dX4_mostLimit_28 : decode cX4_mostLimit 28 = .ok (.iload_n 3, 1) := by decide +kernel
theorem dX4_mostLimit_29 : decode cX4_mostLimit 29 = .ok (.iaload, 1) := by decide +kernel
theorem dX4_mostLimit_30 : decode cX4_mostLimit 30 = .ok (.aload_n 0, 1) := by decide +kernel
theorem dX4_mostLimit_31 : decode cX4_mostLimit 31 = .ok (.getfield 18, 3) := by decide +kernel
theorem dX4_mostLimit_34 : decode cX4_mostLimit 34 = .ok (.iload_n 3, 1) := by decide +kernel
theorem dX4_mostLimit_35 : decode cX4_mostLimit 35 = .ok (.iaload, 1) := by decide +kernel
theorem dX4_mostLimit_36 : decode cX4_mostLimit 36 = .ok (.aload_n 0, 1) := by decide +kernel
theorem dX4_mostLimit_37 : decode cX4_mostLimit 37 = .ok (.getfield 21, 3) := by decide +kernel
theorem dX4_mostLimit_40 : decode cX4_mostLimit 40 = .ok (.iload_n 3, 1) := by decide +kernel
theorem dX4_mostLimit_41 : decode cX4_mostLimit 41 = .ok (.iaload, 1) := by decide +kernel
theorem dX4_mostLimit_42 : decode cX4_mostLimit 42 = .ok (.invokestatic 28, 3) := by decide +kernel
theorem dX4_mostLimit_45 : decode cX4_mostLimit 45 = .ok (.invokestatic 38, 3) := by decide +kernel
theorem dX4_mostLimit_48 : decode cX4_mostLimit 48 = .ok (.istore_n 2, 1) := by decide +kernel
theorem dX4_mostLimit_49 : decode cX4_mostLimit 49 = .ok (.iinc 3 1, 3) := by decide +kernel
theorem dX4_mostLimit_52 : decode cX4_mostLimit 52 = .ok (.goto (-47), 3) := by decide +kernel
theorem dX4_mostLimit_55 : decode cX4_mostLimit 55 = .ok (.iload_n 2, 1) := by decide +kernel
theorem dX4_mostLimit_56 : decode cX4_mostLimit 56 = .ok (.ireturn, 1) := by decide +kernel
theorem dX4_leastLimit_0 : decode cX4_leastLimit 0 = .ok (.iconst 1, 1) := by decide +kernel
theorem dX4_leastLimit_1 : decode cX4_leastLimit 1 = .ok (.istore_n 2, 1) := by decide +kernel
theorem dX4_leastLimit_2 : decode cX4_leastLimit 2 = .ok (.iconst 0, 1) := by decide +kernel
theorem dX4_leastLimit_3 : decode cX4_leastLimit 3 = .ok (.istore_n 3, 1) := by decide +kernel
theorem dX4_leastLimit_4 : decode cX4_leastLimit 4 = .ok (.iload_n 3, 1) := by decide +kernel
theorem dX4_leastLimit_5 : decode cX4_leastLimit 5 = .ok (.aload_n 0, 1) := by decide +kernel
theorem dX4_leastLimit_6 : decode cX4_leastLimit 6 = .ok (.getfield 24, 3) := by decide +kernel
theorem dX4_leastLimit_9 : decode cX4_leastLimit 9 = .ok (.if_icmp .ge 47, 3) := by decide +kernel
theorem dX4_leastLimit_12 : decode cX4_leastLimit 12 = .ok (.aload_n 0, 1) := by decide +kernel
theorem dX4_leastLimit_13 : decode cX4_leastLimit 13 = .ok (.getfield 9, 3) := by decide +kernel
theorem dX4_leastLimit_16 : decode cX4_leastLimit 16 = .ok (.iload_n 3, 1) := by decide +kernel
theorem dX4_leastLimit_17 : decode cX4_leastLimit 17 = .ok (.iaload, 1) := by decide +kernel
theorem dX4_leastLimit_18 : decode cX4_leastLimit 18 = .ok (.ifCond .ne 32, 3) := by decide +kernel
theorem dX4_leastLimit_21 : decode cX4_leastLimit 21 = .ok (.iload_n 2, 1) := by decide +kernel
theorem dX4_leastLimit_22 : decode cX4_leastLimit 22 = .ok (.iload_n 1, 1) := by decide +kernel
theorem dX4_leastLimit_23 : decode cX4_leastLimit 23 = .ok (.aload_n 0, 1) := by decide +kernel
theorem dX4_leastLimit_24 : decode cX4_leastLimit 24 = .ok (.getfield 15, 3) := by decide +kernel
theorem dX4_leastLimit_27 : decode cX4_leastLimit 27 = .ok (.iload_n 3, 1) := by decide +kernel
theorem dX4_leastLimit_28 : decode cX4_leastLimit 28 = .ok (.iaload, 1) := by decide +kernel
theorem dX4_leastLimit_29 : decode cX4_leastLimit 29 = .ok (.aload_n 0, 1) := by decide +kernel
theorem dX4_leastLimit_30 : decode cX4_leastLimit 30 = .ok (.getfield 18, 3) := by decide +kernel
theorem dX4_leastLimit_33 : decode cX4_leastLimit 33 = .ok (.iload_n 3, 1) := by decide +kernel
theorem dX4_leastLimit_34 : decode cX4_leastLimit 34 = .ok (.iaload, 1) := by decide +kernel
theorem dX4_leastLimit_35 : decode cX4_leastLimit 35 = .ok (.aload_n 0, 1) := by decide +kernel
theorem dX4_leastLimit_36 : decode cX4_leastLimit 36 = .ok (.getfield 21, 3) := by decide +kernel
theorem dX4_leastLimit_39 : decode cX4_leastLimit 39 = .ok (.iload_n 3, 1) := by decide +kernel
theorem dX4_leastLimit_40 : decode cX4_leastLimit 40 = .ok (.iaload, 1) := by decide +kernel
theorem dX4_leastLimit_41 : decode cX4_leastLimit 41 = .ok (.invokestatic 28, 3) := by decide +kernel
theorem dX4_leastLimit_44 : decode cX4_leastLimit 44 = .ok (.iconst 1, 1) := by decide +kernel
theorem dX4_leastLimit_45 : decode cX4_leastLimit 45 = .ok (.iadd, 1) := by decide +kernel
theorem dX4_leastLimit_46 : decode cX4_leastLimit 46 = .ok (.invokestatic 32, 3) := by decide +kernel
theorem dX4_leastLimit_49 : decode cX4_leastLimit 49 = .ok (.istore_n 2, 1) := by decide +kernel
theorem dX4_leastLimit_50 : decode cX4_leastLimit 50 = .ok (.iinc 3 1, 3) := by decide +kernel
theorem dX4_leastLimit_53 : decode cX4_leastLimit 53 = .ok (.goto (-49), 3) := by decide +kernel
theorem dX4_leastLimit_56 : decode cX4_leastLimit 56 = .ok (.iload_n 2, 1) := by decide +kernel
theorem dX4_leastLimit_57 : decode cX4_leastLimit 57 = .ok (.ireturn, 1) := by decide +kernel
theorem dX4_fittingOf_0 : decode cX4_fittingOf 0 = .ok (.iconst 0, 1) := by decide +kernel
theorem dX4_fittingOf_1 : decode cX4_fittingOf 1 = .ok (.aload_n 0, 1) := by decide +kernel
theorem dX4_fittingOf_2 : decode cX4_fittingOf 2 = .ok (.iload_n 1, 1) := by decide +kernel
theorem dX4_fittingOf_3 : decode cX4_fittingOf 3 = .ok (.invokevirtual 41, 3) := by decide +kernel
theorem dX4_fittingOf_6 : decode cX4_fittingOf 6 = .ok (.aload_n 0, 1) := by decide +kernel
theorem dX4_fittingOf_7 : decode cX4_fittingOf 7 = .ok (.iload_n 1, 1) := by decide +kernel
theorem dX4_fittingOf_8 : decode cX4_fittingOf 8 = .ok (.invokevirtual 45, 3) := by decide +kernel
theorem dX4_fittingOf_11 : decode cX4_fittingOf 11 = .ok (.isub, 1) := by decide +kernel
theorem dX4_fittingOf_12 : decode cX4_fittingOf 12 = .ok (.iconst 1, 1) := by decide +kernel
theorem dX4_fittingOf_13 : decode cX4_fittingOf 13 = .ok (.iadd, 1) := by decide +kernel
theorem dX4_fittingOf_14 : decode cX4_fittingOf 14 = .ok (.invokestatic 32, 3) := by decide +kernel
theorem dX4_fittingOf_17 : decode cX4_fittingOf 17 = .ok (.ireturn, 1) := by decide +kernel
theorem dX4_fitting_0 : decode cX4_fitting 0 = .ok (.iconst 0, 1) := by decide +kernel
theorem dX4_fitting_1 : decode cX4_fitting 1 = .ok (.istore_n 1, 1) := by decide +kernel
theorem dX4_fitting_2 : decode cX4_fitting 2 = .ok (.iconst 0, 1) := by decide +kernel
theorem dX4_fitting_3 : decode cX4_fitting 3 = .ok (.istore_n 2, 1) := by decide +kernel
theorem dX4_fitting_4 : decode cX4_fitting 4 = .ok (.iload_n 2, 1) := by decide +kernel
theorem dX4_fitting_5 : decode cX4_fitting 5 = .ok (.iconst 3, 1) := by decide +kernel
theorem dX4_fitting_6 : decode cX4_fitting 6 = .ok (.if_icmp .ge 17, 3) := by decide +kernel
theorem dX4_fitting_9 : decode cX4_fitting 9 = .ok (.iload_n 1, 1) := by decide +kernel
theorem dX4_fitting_10 : decode cX4_fitting 10 = .ok (.aload_n 0, 1) := by decide +kernel
theorem dX4_fitting_11 : decode cX4_fitting 11 = .ok (.iload_n 2, 1) := by decide +kernel
theorem dX4_fitting_12 : decode cX4_fitting 12 = .ok (.invokevirtual 48, 3) := by decide +kernel
theorem dX4_fitting_15 : decode cX4_fitting 15 = .ok (.iadd, 1) := by decide +kernel
theorem dX4_fitting_16 : decode cX4_fitting 16 = .ok (.istore_n 1, 1) := by decide +kernel
theorem dX4_fitting_17 : decode cX4_fitting 17 = .ok (.iinc 2 1, 3) := by decide +kernel
theorem dX4_fitting_20 : decode cX4_fitting 20 = .ok (.goto (-16), 3) := by decide +kernel
theorem dX4_fitting_23 : decode cX4_fitting 23 = .ok (.iload_n 1, 1) := by decide +kernel
theorem dX4_fitting_24 : decode cX4_fitting 24 = .ok (.ireturn, 1) := by decide +kernel
theorem dX4_sureWood_0 : decode cX4_sureWood 0 = .ok (.iconst (-1), 1) := by decide +kernel
theorem dX4_sureWood_1 : decode cX4_sureWood 1 = .ok (.istore_n 1, 1) := by decide +kernel
theorem dX4_sureWood_2 : decode cX4_sureWood 2 = .ok (.iconst 0, 1) := by decide +kernel
theorem dX4_sureWood_3 : decode cX4_sureWood 3 = .ok (.istore_n 2, 1) := by decide +kernel
theorem dX4_sureWood_4 : decode cX4_sureWood 4 = .ok (.iload_n 2, 1) := by decide +kernel
theorem dX4_sureWood_5 : decode cX4_sureWood 5 = .ok (.iconst 3, 1) := by decide +kernel
theorem dX4_sureWood_6 : decode cX4_sureWood 6 = .ok (.if_icmp .ge 26, 3) := by decide +kernel
theorem dX4_sureWood_9 : decode cX4_sureWood 9 = .ok (.aload_n 0, 1) := by decide +kernel
theorem dX4_sureWood_10 : decode cX4_sureWood 10 = .ok (.iload_n 2, 1) := by decide +kernel
theorem dX4_sureWood_11 : decode cX4_sureWood 11 = .ok (.invokevirtual 48, 3) := by decide +kernel
theorem dX4_sureWood_14 : decode cX4_sureWood 14 = .ok (.ifCond .le 12, 3) := by decide +kernel
theorem dX4_sureWood_17 : decode cX4_sureWood 17 = .ok (.iload_n 1, 1) := by decide +kernel
theorem dX4_sureWood_18 : decode cX4_sureWood 18 = .ok (.iconst (-1), 1) := by decide +kernel
theorem dX4_sureWood_19 : decode cX4_sureWood 19 = .ok (.if_icmp .eq 5, 3) := by decide +kernel
theorem dX4_sureWood_22 : decode cX4_sureWood 22 = .ok (.iconst (-1), 1) := by decide +kernel
theorem dX4_sureWood_23 : decode cX4_sureWood 23 = .ok (.ireturn, 1) := by decide +kernel
theorem dX4_sureWood_24 : decode cX4_sureWood 24 = .ok (.iload_n 2, 1) := by decide +kernel
theorem dX4_sureWood_25 : decode cX4_sureWood 25 = .ok (.istore_n 1, 1) := by decide +kernel
theorem dX4_sureWood_26 : decode cX4_sureWood 26 = .ok (.iinc 2 1, 3) := by decide +kernel
theorem dX4_sureWood_29 : decode cX4_sureWood 29 = .ok (.goto (-25), 3) := by decide +kernel
theorem dX4_sureWood_32 : decode cX4_sureWood 32 = .ok (.iload_n 1, 1) := by decide +kernel
theorem dX4_sureWood_33 : decode cX4_sureWood 33 = .ok (.ireturn, 1) := by decide +kernel
theorem dX4_sureLimit_0 : decode cX4_sureLimit 0 = .ok (.iconst (-1), 1) := by decide +kernel
theorem dX4_sureLimit_1 : decode cX4_sureLimit 1 = .ok (.istore_n 1, 1) := by decide +kernel
theorem dX4_sureLimit_2 : decode cX4_sureLimit 2 = .ok (.iconst 0, 1) := by decide +kernel
theorem dX4_sureLimit_3 : decode cX4_sureLimit 3 = .ok (.istore_n 2, 1) := by decide +kernel
theorem dX4_sureLimit_4 : decode cX4_sureLimit 4 = .ok (.iload_n 2, 1) := by decide +kernel
theorem dX4_sureLimit_5 : decode cX4_sureLimit 5 = .ok (.iconst 3, 1) := by decide +kernel
theorem dX4_sureLimit_6 : decode cX4_sureLimit 6 = .ok (.if_icmp .ge 47, 3) := by decide +kernel
theorem dX4_sureLimit_9 : decode cX4_sureLimit 9 = .ok (.aload_n 0, 1) := by decide +kernel
theorem dX4_sureLimit_10 : decode cX4_sureLimit 10 = .ok (.iload_n 2, 1) := by decide +kernel
theorem dX4_sureLimit_11 : decode cX4_sureLimit 11 = .ok (.invokevirtual 48, 3) := by decide +kernel
theorem dX4_sureLimit_14 : decode cX4_sureLimit 14 = .ok (.istore_n 3, 1) := by decide +kernel
theorem dX4_sureLimit_15 : decode cX4_sureLimit 15 = .ok (.iload_n 3, 1) := by decide +kernel
theorem dX4_sureLimit_16 : decode cX4_sureLimit 16 = .ok (.ifCond .le 31, 3) := by decide +kernel
theorem dX4_sureLimit_19 : decode cX4_sureLimit 19 = .ok (.aload_n 0, 1) := by decide +kernel
theorem dX4_sureLimit_20 : decode cX4_sureLimit 20 = .ok (.iload_n 2, 1) := by decide +kernel
theorem dX4_sureLimit_21 : decode cX4_sureLimit 21 = .ok (.invokevirtual 45, 3) := by decide +kernel
theorem dX4_sureLimit_24 : decode cX4_sureLimit 24 = .ok (.istore 4, 2) := by decide +kernel
theorem dX4_sureLimit_26 : decode cX4_sureLimit 26 = .ok (.iload_n 3, 1) := by decide +kernel
theorem dX4_sureLimit_27 : decode cX4_sureLimit 27 = .ok (.iconst 1, 1) := by decide +kernel
theorem dX4_sureLimit_28 : decode cX4_sureLimit 28 = .ok (.if_icmp .gt 14, 3) := by decide +kernel
theorem dX4_sureLimit_31 : decode cX4_sureLimit 31 = .ok (.iload_n 1, 1) := by decide +kernel
theorem dX4_sureLimit_32 : decode cX4_sureLimit 32 = .ok (.iconst (-1), 1) := by decide +kernel
theorem dX4_sureLimit_33 : decode cX4_sureLimit 33 = .ok (.if_icmp .eq 11, 3) := by decide +kernel
theorem dX4_sureLimit_36 : decode cX4_sureLimit 36 = .ok (.iload_n 1, 1) := by decide +kernel
theorem dX4_sureLimit_37 : decode cX4_sureLimit 37 = .ok (.iload 4, 2) := by decide +kernel
theorem dX4_sureLimit_39 : decode cX4_sureLimit 39 = .ok (.if_icmp .eq 5, 3) := by decide +kernel
theorem dX4_sureLimit_42 : decode cX4_sureLimit 42 = .ok (.iconst (-1), 1) := by decide +kernel
theorem dX4_sureLimit_43 : decode cX4_sureLimit 43 = .ok (.ireturn, 1) := by decide +kernel
theorem dX4_sureLimit_44 : decode cX4_sureLimit 44 = .ok (.iload 4, 2) := by decide +kernel
theorem dX4_sureLimit_46 : decode cX4_sureLimit 46 = .ok (.istore_n 1, 1) := by decide +kernel
theorem dX4_sureLimit_47 : decode cX4_sureLimit 47 = .ok (.iinc 2 1, 3) := by decide +kernel
theorem dX4_sureLimit_50 : decode cX4_sureLimit 50 = .ok (.goto (-46), 3) := by decide +kernel
theorem dX4_sureLimit_53 : decode cX4_sureLimit 53 = .ok (.iload_n 1, 1) := by decide +kernel
theorem dX4_sureLimit_54 : decode cX4_sureLimit 54 = .ok (.ireturn, 1) := by decide +kernel
theorem dX4_fittingAt_0 : decode cX4_fittingAt 0 = .ok (.iload_n 1, 1) := by decide +kernel
theorem dX4_fittingAt_1 : decode cX4_fittingAt 1 = .ok (.istore_n 2, 1) := by decide +kernel
theorem dX4_fittingAt_2 : decode cX4_fittingAt 2 = .ok (.iconst 0, 1) := by decide +kernel
theorem dX4_fittingAt_3 : decode cX4_fittingAt 3 = .ok (.istore_n 3, 1) := by decide +kernel
theorem dX4_fittingAt_4 : decode cX4_fittingAt 4 = .ok (.iload_n 3, 1) := by decide +kernel
theorem dX4_fittingAt_5 : decode cX4_fittingAt 5 = .ok (.iconst 3, 1) := by decide +kernel
theorem dX4_fittingAt_6 : decode cX4_fittingAt 6 = .ok (.if_icmp .ge 42, 3) := by decide +kernel
theorem dX4_fittingAt_9 : decode cX4_fittingAt 9 = .ok (.aload_n 0, 1) := by decide +kernel
theorem dX4_fittingAt_10 : decode cX4_fittingAt 10 = .ok (.iload_n 3, 1) := by decide +kernel
theorem dX4_fittingAt_11 : decode cX4_fittingAt 11 = .ok (.invokevirtual 48, 3) := by decide +kernel
theorem dX4_fittingAt_14 : decode cX4_fittingAt 14 = .ok (.istore 4, 2) := by decide +kernel
theorem dX4_fittingAt_16 : decode cX4_fittingAt 16 = .ok (.iload_n 2, 1) := by decide +kernel
theorem dX4_fittingAt_17 : decode cX4_fittingAt 17 = .ok (.iload 4, 2) := by decide +kernel
theorem dX4_fittingAt_19 : decode cX4_fittingAt 19 = .ok (.if_icmp .ge 18, 3) := by decide +kernel
theorem dX4_fittingAt_22 : decode cX4_fittingAt 22 = .ok (.bipush 99, 2) := by decide +kernel
theorem dX4_fittingAt_24 : decode cX4_fittingAt 24 = .ok (.iload_n 3, 1) := by decide +kernel
theorem dX4_fittingAt_25 : decode cX4_fittingAt 25 = .ok (.imul, 1) := by decide +kernel
theorem dX4_fittingAt_26 : decode cX4_fittingAt 26 = .ok (.aload_n 0, 1) := by decide +kernel
theorem dX4_fittingAt_27 : decode cX4_fittingAt 27 = .ok (.iload_n 3, 1) := by decide +kernel
theorem dX4_fittingAt_28 : decode cX4_fittingAt 28 = .ok (.invokevirtual 45, 3) := by decide +kernel
theorem dX4_fittingAt_31 : decode cX4_fittingAt 31 = .ok (.iadd, 1) := by decide +kernel
theorem dX4_fittingAt_32 : decode cX4_fittingAt 32 = .ok (.iconst 1, 1) := by decide +kernel
theorem dX4_fittingAt_33 : decode cX4_fittingAt 33 = .ok (.isub, 1) := by decide +kernel
theorem dX4_fittingAt_34 : decode cX4_fittingAt 34 = .ok (.iload_n 2, 1) := by decide +kernel
theorem dX4_fittingAt_35 : decode cX4_fittingAt 35 = .ok (.iadd, 1) := by decide +kernel
theorem dX4_fittingAt_36 : decode cX4_fittingAt 36 = .ok (.ireturn, 1) := by decide +kernel
theorem dX4_fittingAt_37 : decode cX4_fittingAt 37 = .ok (.iload_n 2, 1) := by decide +kernel
theorem dX4_fittingAt_38 : decode cX4_fittingAt 38 = .ok (.iload 4, 2) := by decide +kernel
theorem dX4_fittingAt_40 : decode cX4_fittingAt 40 = .ok (.isub, 1) := by decide +kernel
theorem dX4_fittingAt_41 : decode cX4_fittingAt 41 = .ok (.istore_n 2, 1) := by decide +kernel
theorem dX4_fittingAt_42 : decode cX4_fittingAt 42 = .ok (.iinc 3 1, 3) := by decide +kernel
theorem dX4_fittingAt_45 : decode cX4_fittingAt 45 = .ok (.goto (-41), 3) := by decide +kernel
theorem dX4_fittingAt_48 : decode cX4_fittingAt 48 = .ok (.bipush (-2), 2) := by decide +kernel
theorem dX4_fittingAt_50 : decode cX4_fittingAt 50 = .ok (.ireturn, 1) := by decide +kernel
theorem dX11_fits_0 : decode cX11_fits 0 = .ok (.aload_n 0, 1) := by decide +kernel
theorem dX11_fits_1 : decode cX11_fits 1 = .ok (.getfield 10, 3) := by decide +kernel
theorem dX11_fits_4 : decode cX11_fits 4 = .ok (.iload_n 1, 1) := by decide +kernel
theorem dX11_fits_5 : decode cX11_fits 5 = .ok (.invokevirtual 223, 3) := by decide +kernel
theorem dX11_fits_8 : decode cX11_fits 8 = .ok (.astore_n 3, 1) := by decide +kernel
theorem dX11_fits_9 : decode cX11_fits 9 = .ok (.aload_n 3, 1) := by decide +kernel
theorem dX11_fits_10 : decode cX11_fits 10 = .ok (.ifnonnull 6, 3) := by decide +kernel
theorem dX11_fits_13 : decode cX11_fits 13 = .ok (.bipush (-2), 2) := by decide +kernel
theorem dX11_fits_15 : decode cX11_fits 15 = .ok (.ireturn, 1) := by decide +kernel
theorem dX11_fits_16 : decode cX11_fits 16 = .ok (.iload_n 2, 1) := by decide +kernel
theorem dX11_fits_17 : decode cX11_fits 17 = .ok (.ifCond .ne 8, 3) := by decide +kernel
theorem dX11_fits_20 : decode cX11_fits 20 = .ok (.aload_n 3, 1) := by decide +kernel
theorem dX11_fits_21 : decode cX11_fits 21 = .ok (.invokevirtual 230, 3) := by decide +kernel
theorem dX11_fits_24 : decode cX11_fits 24 = .ok (.ireturn, 1) := by decide +kernel
theorem dX11_fits_25 : decode cX11_fits 25 = .ok (.iload_n 2, 1) := by decide +kernel
theorem dX11_fits_26 : decode cX11_fits 26 = .ok (.iconst 1, 1) := by decide +kernel
theorem dX11_fits_27 : decode cX11_fits 27 = .ok (.if_icmp .ne 8, 3) := by decide +kernel
theorem dX11_fits_30 : decode cX11_fits 30 = .ok (.aload_n 3, 1) := by decide +kernel
theorem dX11_fits_31 : decode cX11_fits 31 = .ok (.invokevirtual 233, 3) := by decide +kernel
theorem dX11_fits_34 : decode cX11_fits 34 = .ok (.ireturn, 1) := by decide +kernel
theorem dX11_fits_35 : decode cX11_fits 35 = .ok (.iload_n 2, 1) := by decide +kernel
theorem dX11_fits_36 : decode cX11_fits 36 = .ok (.iconst 2, 1) := by decide +kernel
theorem dX11_fits_37 : decode cX11_fits 37 = .ok (.if_icmp .ne 8, 3) := by decide +kernel
theorem dX11_fits_40 : decode cX11_fits 40 = .ok (.aload_n 3, 1) := by decide +kernel
theorem dX11_fits_41 : decode cX11_fits 41 = .ok (.invokevirtual 236, 3) := by decide +kernel
theorem dX11_fits_44 : decode cX11_fits 44 = .ok (.ireturn, 1) := by decide +kernel
theorem dX11_fits_45 : decode cX11_fits 45 = .ok (.iload_n 2, 1) := by decide +kernel
theorem dX11_fits_46 : decode cX11_fits 46 = .ok (.bipush 10, 2) := by decide +kernel
theorem dX11_fits_48 : decode cX11_fits 48 = .ok (.if_icmp .lt 14, 3) := by decide +kernel
theorem dX11_fits_51 : decode cX11_fits 51 = .ok (.aload_n 3, 1) := by decide +kernel
theorem dX11_fits_52 : decode cX11_fits 52 = .ok (.iload_n 2, 1) := by decide +kernel
theorem dX11_fits_53 : decode cX11_fits 53 = .ok (.bipush 10, 2) := by decide +kernel
theorem dX11_fits_55 : decode cX11_fits 55 = .ok (.isub, 1) := by decide +kernel
theorem dX11_fits_56 : decode cX11_fits 56 = .ok (.invokevirtual 239, 3) := by decide +kernel
theorem dX11_fits_59 : decode cX11_fits 59 = .ok (.goto 5, 3) := by decide +kernel
theorem dX11_fits_62 : decode cX11_fits 62 = .ok (.bipush (-2), 2) := by decide +kernel
theorem dX11_fits_64 : decode cX11_fits 64 = .ok (.ireturn, 1) := by decide +kernel
theorem dX4_soundingAt_0 : decode cX4_soundingAt 0 = .ok (.iconst 0, 1) := by decide +kernel
theorem dX4_soundingAt_1 : decode cX4_soundingAt 1 = .ok (.istore 4, 2) := by decide +kernel
theorem dX4_soundingAt_3 : decode cX4_soundingAt 3 = .ok (.iconst 0, 1) := by decide +kernel
theorem dX4_soundingAt_4 : decode cX4_soundingAt 4 = .ok (.istore 5, 2) := by decide +kernel
theorem dX4_soundingAt_6 : decode cX4_soundingAt 6 = .ok (.iload 5, 2) := by decide +kernel
theorem dX4_soundingAt_8 : decode cX4_soundingAt 8 = .ok (.iconst 3, 1) := by decide +kernel
theorem dX4_soundingAt_9 : decode cX4_soundingAt 9 = .ok (.if_icmp .ge 52, 3) := by decide +kernel
theorem dX4_soundingAt_12 : decode cX4_soundingAt 12 = .ok (.iload 5, 2) := by decide +kernel
theorem dX4_soundingAt_14 : decode cX4_soundingAt 14 = .ok (.iload_n 1, 1) := by decide +kernel
theorem dX4_soundingAt_15 : decode cX4_soundingAt 15 = .ok (.iload_n 2, 1) := by decide +kernel
theorem dX4_soundingAt_16 : decode cX4_soundingAt 16 = .ok (.iload_n 3, 1) := by decide +kernel
theorem dX4_soundingAt_17 : decode cX4_soundingAt 17 = .ok (.invokestatic 28, 3) := by decide +kernel
theorem dX4_soundingAt_20 : decode cX4_soundingAt 20 = .ok (.istore 6, 2) := by decide +kernel
theorem dX4_soundingAt_22 : decode cX4_soundingAt 22 = .ok (.iload 6, 2) := by decide +kernel
theorem dX4_soundingAt_24 : decode cX4_soundingAt 24 = .ok (.aload_n 0, 1) := by decide +kernel
theorem dX4_soundingAt_25 : decode cX4_soundingAt 25 = .ok (.iload 5, 2) := by decide +kernel
theorem dX4_soundingAt_27 : decode cX4_soundingAt 27 = .ok (.invokevirtual 41, 3) := by decide +kernel
theorem dX4_soundingAt_30 : decode cX4_soundingAt 30 = .ok (.invokestatic 38, 3) := by decide +kernel
theorem dX4_soundingAt_33 : decode cX4_soundingAt 33 = .ok (.istore 7, 2) := by decide +kernel
theorem dX4_soundingAt_35 : decode cX4_soundingAt 35 = .ok (.iload 4, 2) := by decide +kernel
theorem dX4_soundingAt_37 : decode cX4_soundingAt 37 = .ok (.iconst 0, 1) := by decide +kernel
theorem dX4_soundingAt_38 : decode cX4_soundingAt 38 = .ok (.iload 7, 2) := by decide +kernel
theorem dX4_soundingAt_40 : decode cX4_soundingAt 40 = .ok (.aload_n 0, 1) := by decide +kernel
theorem dX4_soundingAt_41 : decode cX4_soundingAt 41 = .ok (.iload 5, 2) := by decide +kernel
theorem dX4_soundingAt_43 : decode cX4_soundingAt 43 = .ok (.invokevirtual 45, 3) := by decide +kernel
theorem dX4_soundingAt_46 : decode cX4_soundingAt 46 = .ok (.isub, 1) := by decide +kernel
theorem dX4_soundingAt_47 : decode cX4_soundingAt 47 = .ok (.iconst 1, 1) := by decide +kernel
theorem dX4_soundingAt_48 : decode cX4_soundingAt 48 = .ok (.iadd, 1) := by decide +kernel
theorem dX4_soundingAt_49 : decode cX4_soundingAt 49 = .ok (.invokestatic 32, 3) := by decide +kernel
theorem dX4_soundingAt_52 : decode cX4_soundingAt 52 = .ok (.iadd, 1) := by decide +kernel
theorem dX4_soundingAt_53 : decode cX4_soundingAt 53 = .ok (.istore 4, 2) := by decide +kernel
theorem dX4_soundingAt_55 : decode cX4_soundingAt 55 = .ok (.iinc 5 1, 3) := by decide +kernel
theorem dX4_soundingAt_58 : decode cX4_soundingAt 58 = .ok (.goto (-52), 3) := by decide +kernel
theorem dX4_soundingAt_61 : decode cX4_soundingAt 61 = .ok (.iload 4, 2) := by decide +kernel
theorem dX4_soundingAt_63 : decode cX4_soundingAt 63 = .ok (.ireturn, 1) := by decide +kernel
