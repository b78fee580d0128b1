theorem dX1_tellOne_0 : decode cX1_tellOne 0 = .ok (.iload_n 1, 1) := by decide +kernel
theorem dX1_tellOne_1 : decode cX1_tellOne 1 = .ok (.iconst 4, 1) := by decide +kernel
theorem dX1_tellOne_2 : decode cX1_tellOne 2 = .ok (.if_icmp .ne 35, 3) := by decide +kernel
theorem dX1_tellOne_5 : decode cX1_tellOne 5 = .ok (.aload_n 0, 1) := by decide +kernel
theorem dX1_tellOne_6 : decode cX1_tellOne 6 = .ok (.getfield 12, 3) := by decide +kernel
theorem dX1_tellOne_9 : decode cX1_tellOne 9 = .ok (.getfield 109, 3) := by decide +kernel
theorem dX1_tellOne_12 : decode cX1_tellOne 12 = .ok (.iload_n 2, 1) := by decide +kernel
theorem dX1_tellOne_13 : decode cX1_tellOne 13 = .ok (.invokevirtual 127, 3) := by decide +kernel
theorem dX1_tellOne_16 : decode cX1_tellOne 16 = .ok (.ifCond .eq 18, 3) := by decide +kernel
theorem dX1_tellOne_19 : decode cX1_tellOne 19 = .ok (.aload_n 0, 1) := by decide +kernel
theorem dX1_tellOne_20 : decode cX1_tellOne 20 = .ok (.getfield 12, 3) := by decide +kernel
theorem dX1_tellOne_23 : decode cX1_tellOne 23 = .ok (.getfield 109, 3) := by decide +kernel
theorem dX1_tellOne_26 : decode cX1_tellOne 26 = .ok (.getfield 130, 3) := by decide +kernel
theorem dX1_tellOne_29 : decode cX1_tellOne 29 = .ok (.iload_n 2, 1) := by decide +kernel
theorem dX1_tellOne_30 : decode cX1_tellOne 30 = .ok (.iaload, 1) := by decide +kernel
theorem dX1_tellOne_31 : decode cX1_tellOne 31 = .ok (.goto 5, 3) := by decide +kernel
theorem dX1_tellOne_34 : decode cX1_tellOne 34 = .ok (.bipush (-2), 2) := by decide +kernel
theorem dX1_tellOne_36 : decode cX1_tellOne 36 = .ok (.ireturn, 1) := by decide +kernel
theorem dX1_tellOne_37 : decode cX1_tellOne 37 = .ok (.aload_n 0, 1) := by decide +kernel
theorem dX1_tellOne_38 : decode cX1_tellOne 38 = .ok (.getfield 12, 3) := by decide +kernel
theorem dX1_tellOne_41 : decode cX1_tellOne 41 = .ok (.getfield 109, 3) := by decide +kernel
theorem dX1_tellOne_44 : decode cX1_tellOne 44 = .ok (.iload_n 2, 1) := by decide +kernel
theorem dX1_tellOne_45 : decode cX1_tellOne 45 = .ok (.invokevirtual 137, 3) := by decide +kernel
theorem dX1_tellOne_48 : decode cX1_tellOne 48 = .ok (.ifCond .ne 6, 3) := by decide +kernel
theorem dX1_tellOne_51 : decode cX1_tellOne 51 = .ok (.bipush (-2), 2) := by decide +kernel
theorem dX1_tellOne_53 : decode cX1_tellOne 53 = .ok (.ireturn, 1) := by decide +kernel
theorem dX1_tellOne_54 : decode cX1_tellOne 54 = .ok (.iload_n 1, 1) := by decide +kernel
theorem dX1_tellOne_55 : decode cX1_tellOne 55 = .ok (.iconst 1, 1) := by decide +kernel
theorem dX1_tellOne_56 : decode cX1_tellOne 56 = .ok (.if_icmp .ne 16, 3) := by decide +kernel
theorem dX1_tellOne_59 : decode cX1_tellOne 59 = .ok (.aload_n 0, 1) := by decide +kernel
theorem dX1_tellOne_60 : decode cX1_tellOne 60 = .ok (.getfield 12, 3) := by decide +kernel
theorem dX1_tellOne_63 : decode cX1_tellOne 63 = .ok (.getfield 109, 3) := by decide +kernel
theorem dX1_tellOne_66 : decode cX1_tellOne 66 = .ok (.getfield 174, 3) := by decide +kernel
theorem dX1_tellOne_69 : decode cX1_tellOne 69 = .ok (.iload_n 2, 1) := by decide +kernel
theorem dX1_tellOne_70 : decode cX1_tellOne 70 = .ok (.iaload, 1) := by decide +kernel
theorem dX1_tellOne_71 : decode cX1_tellOne 71 = .ok (.ireturn, 1) := by decide +kernel
theorem dX1_tellOne_72 : decode cX1_tellOne 72 = .ok (.iload_n 1, 1) := by decide +kernel
theorem dX1_tellOne_73 : decode cX1_tellOne 73 = .ok (.iconst 2, 1) := by decide +kernel
theorem dX1_tellOne_74 : decode cX1_tellOne 74 = .ok (.if_icmp .ne 15, 3) := by decide +kernel
theorem dX1_tellOne_77 : decode cX1_tellOne 77 = .ok (.aload_n 0, 1) := by decide +kernel
theorem dX1_tellOne_78 : decode cX1_tellOne 78 = .ok (.getfield 12, 3) := by decide +kernel
theorem dX1_tellOne_81 : decode cX1_tellOne 81 = .ok (.getfield 143, 3) := by decide +kernel
theorem dX1_tellOne_84 : decode cX1_tellOne 84 = .ok (.iload_n 2, 1) := by decide +kernel
theorem dX1_tellOne_85 : decode cX1_tellOne 85 = .ok (.iaload, 1) := by decide +kernel
theorem dX1_tellOne_86 : decode cX1_tellOne 86 = .ok (.goto 12, 3) := by decide +kernel
theorem dX1_tellOne_89 : decode cX1_tellOne 89 = .ok (.aload_n 0, 1) := by decide +kernel
theorem dX1_tellOne_90 : decode cX1_tellOne 90 = .ok (.getfield 12, 3) := by decide +kernel
theorem dX1_tellOne_93 : decode cX1_tellOne 93 = .ok (.getfield 177, 3) := by decide +kernel
theorem dX1_tellOne_96 : decode cX1_tellOne 96 = .ok (.iload_n 2, 1) := by decide +kernel
theorem dX1_tellOne_97 : decode cX1_tellOne 97 = .ok (.iaload, 1) := by decide +kernel
theorem dX1_tellOne_98 : decode cX1_tellOne 98 = .ok (.ireturn, 1) := by decide +kernel
theorem dX1_tell_0 : decode cX1_tell 0 = .ok (.iload_n 1, 1) := by decide +kernel
theorem dX1_tell_1 : decode cX1_tell 1 = .ok (.tableswitch 84 0 5 #[39, 44, 49, 60, 68, 76], 39) := by decide +kernel
theorem dX1_tell_40 : decode cX1_tell 40 = .ok (.aload_n 0, 1) := by decide +kernel
theorem dX1_tell_41 : decode cX1_tell 41 = .ok (.getfield 26, 3) := by decide +kernel
theorem dX1_tell_44 : decode cX1_tell 44 = .ok (.ireturn, 1) := by decide +kernel
theorem dX1_tell_45 : decode cX1_tell 45 = .ok (.aload_n 0, 1) := by decide +kernel
theorem dX1_tell_46 : decode cX1_tell 46 = .ok (.getfield 30, 3) := by decide +kernel
theorem dX1_tell_49 : decode cX1_tell 49 = .ok (.ireturn, 1) := by decide +kernel
theorem dX1_tell_50 : decode cX1_tell 50 = .ok (.aload_n 0, 1) := by decide +kernel
theorem dX1_tell_51 : decode cX1_tell 51 = .ok (.getfield 12, 3) := by decide +kernel
theorem dX1_tell_54 : decode cX1_tell 54 = .ok (.getfield 109, 3) := by decide +kernel
theorem dX1_tell_57 : decode cX1_tell 57 = .ok (.getfield 146, 3) := by decide +kernel
theorem dX1_tell_60 : decode cX1_tell 60 = .ok (.ireturn, 1) := by decide +kernel
theorem dX1_tell_61 : decode cX1_tell 61 = .ok (.aload_n 0, 1) := by decide +kernel
theorem dX1_tell_62 : decode cX1_tell 62 = .ok (.getfield 12, 3) := by decide +kernel
theorem dX1_tell_65 : decode cX1_tell 65 = .ok (.getfield 69, 3) := by decide +kernel
theorem dX1_tell_68 : decode cX1_tell 68 = .ok (.ireturn, 1) := by decide +kernel
theorem dX1_tell_69 : decode cX1_tell 69 = .ok (.aload_n 0, 1) := by decide +kernel
theorem dX1_tell_70 : decode cX1_tell 70 = .ok (.getfield 12, 3) := by decide +kernel
theorem dX1_tell_73 : decode cX1_tell 73 = .ok (.getfield 165, 3) := by decide +kernel
theorem dX1_tell_76 : decode cX1_tell 76 = .ok (.ireturn, 1) := by decide +kernel
theorem dX1_tell_77 : decode cX1_tell 77 = .ok (.aload_n 0, 1) := by decide +kernel
theorem dX1_tell_78 : decode cX1_tell 78 = .ok (.getfield 12, 3) := by decide +kernel
theorem dX1_tell_81 : decode cX1_tell 81 = .ok (.getfield 168, 3) := by decide +kernel
theorem dX1_tell_84 : decode cX1_tell 84 = .ok (.ireturn, 1) := by decide +kernel
theorem dX1_tell_85 : decode cX1_tell 85 = .ok (.iload_n 1, 1) := by decide +kernel
theorem dX1_tell_86 : decode cX1_tell 86 = .ok (.bipush 10, 2) := by decide +kernel
theorem dX1_tell_88 : decode cX1_tell 88 = .ok (.if_icmp .lt 24, 3) := by decide +kernel
theorem dX1_tell_91 : decode cX1_tell 91 = .ok (.iload_n 1, 1) := by decide +kernel
theorem dX1_tell_92 : decode cX1_tell 92 = .ok (.bipush 50, 2) := by decide +kernel
theorem dX1_tell_94 : decode cX1_tell 94 = .ok (.if_icmp .ge 18, 3) := by decide +kernel
theorem dX1_tell_97 : decode cX1_tell 97 = .ok (.aload_n 0, 1) := by decide +kernel
theorem dX1_tell_98 : decode cX1_tell 98 = .ok (.iload_n 1, 1) := by decide +kernel
theorem dX1_tell_99 : decode cX1_tell 99 = .ok (.bipush 10, 2) := by decide +kernel
theorem dX1_tell_101 : decode cX1_tell 101 = .ok (.idiv, 1) := by decide +kernel
theorem dX1_tell_102 : decode cX1_tell 102 = .ok (.iload_n 1, 1) := by decide +kernel
theorem dX1_tell_103 : decode cX1_tell 103 = .ok (.bipush 10, 2) := by decide +kernel
theorem dX1_tell_105 : decode cX1_tell 105 = .ok (.irem, 1) := by decide +kernel
theorem dX1_tell_106 : decode cX1_tell 106 = .ok (.invokevirtual 171, 3) := by decide +kernel
theorem dX1_tell_109 : decode cX1_tell 109 = .ok (.goto 5, 3) := by decide +kernel
theorem dX1_tell_112 : decode cX1_tell 112 = .ok (.bipush (-2), 2) := by decide +kernel
theorem dX1_tell_114 : decode cX1_tell 114 = .ok (.ireturn, 1) := by decide +kernel
theorem dX11_state_0 : decode cX11_state 0 = .ok (.aload_n 0, 1) := by decide +kernel
theorem dX11_state_1 : decode cX11_state 1 = .ok (.getfield 10, 3) := by decide +kernel
theorem dX11_state_4 : decode cX11_state 4 = .ok (.iload_n 1, 1) := by decide +kernel
theorem dX11_state_5 : decode cX11_state 5 = .ok (.invokevirtual 105, 3) := by decide +kernel
theorem dX11_state_8 : decode cX11_state 8 = .ok (.astore 5, 2) := by decide +kernel
theorem dX11_state_10 : decode cX11_state 10 = .ok (.aload_n 0, 1) := by decide +kernel
theorem dX11_state_11 : decode cX11_state 11 = .ok (.getfield 10, 3) := by decide +kernel
theorem dX11_state_14 : decode cX11_state 14 = .ok (.iload_n 2, 1) := by decide +kernel
theorem dX11_state_15 : decode cX11_state 15 = .ok (.invokevirtual 142, 3) := by decide +kernel
theorem dX11_state_18 : decode cX11_state 18 = .ok (.astore 6, 2) := by decide +kernel
theorem dX11_state_20 : decode cX11_state 20 = .ok (.aload 5, 2) := by decide +kernel
theorem dX11_state_22 : decode cX11_state 22 = .ok (.ifnull 21, 3) := by decide +kernel
theorem dX11_state_25 : decode cX11_state 25 = .ok (.aload 6, 2) := by decide +kernel
theorem dX11_state_27 : decode cX11_state 27 = .ok (.ifnull 16, 3) := by decide +kernel
theorem dX11_state_30 : decode cX11_state 30 = .ok (.iload_n 3, 1) := by decide +kernel
theorem dX11_state_31 : decode cX11_state 31 = .ok (.ifCond .lt 12, 3) := by decide +kernel
theorem dX11_state_34 : decode cX11_state 34 = .ok (.iload_n 3, 1) := by decide +kernel
theorem dX11_state_35 : decode cX11_state 35 = .ok (.aload 6, 2) := by decide +kernel
theorem dX11_state_37 : decode cX11_state 37 = .ok (.getfield 150, 3) := by decide +kernel
theorem dX11_state_40 : decode cX11_state 40 = .ok (.if_icmp .le 6, 3) := by decide +kernel
theorem dX11_state_43 : decode cX11_state 43 = .ok (.bipush (-2), 2) := by decide +kernel
theorem dX11_state_45 : decode cX11_state 45 = .ok (.ireturn, 1) := by decide +kernel
theorem dX11_state_46 : decode cX11_state 46 = .ok (.aload_n 0, 1) := by decide +kernel
theorem dX11_state_47 : decode cX11_state 47 = .ok (.getfield 41, 3) := by decide +kernel
theorem dX11_state_50 : decode cX11_state 50 = .ok (.aload 5, 2) := by decide +kernel
theorem dX11_state_52 : decode cX11_state 52 = .ok (.aload 6, 2) := by decide +kernel
theorem dX11_state_54 : decode cX11_state 54 = .ok (.iload_n 3, 1) := by decide +kernel
theorem dX11_state_55 : decode cX11_state 55 = .ok (.invokevirtual 153, 3) := by decide +kernel
theorem dX11_state_58 : decode cX11_state 58 = .ok (.istore 7, 2) := by decide +kernel
theorem dX11_state_60 : decode cX11_state 60 = .ok (.iload 7, 2) := by decide +kernel
theorem dX11_state_62 : decode cX11_state 62 = .ok (.iload_n 3, 1) := by decide +kernel
theorem dX11_state_63 : decode cX11_state 63 = .ok (.if_icmp .ge 8, 3) := by decide +kernel
theorem dX11_state_66 : decode cX11_state 66 = .ok (.bipush (-2), 2) := by decide +kernel
theorem dX11_state_68 : decode cX11_state 68 = .ok (.goto 12, 3) := by decide +kernel
theorem dX11_state_71 : decode cX11_state 71 = .ok (.aload_n 0, 1) := by decide +kernel
theorem dX11_state_72 : decode cX11_state 72 = .ok (.getfield 41, 3) := by decide +kernel
theorem dX11_state_75 : decode cX11_state 75 = .ok (.iload 4, 2) := by decide +kernel
theorem dX11_state_77 : decode cX11_state 77 = .ok (.invokevirtual 157, 3) := by decide +kernel
theorem dX11_state_80 : decode cX11_state 80 = .ok (.ireturn, 1) := by decide +kernel
theorem dX10_carriedSet_0 : decode cX10_carriedSet 0 = .ok (.aload_n 0, 1) := by decide +kernel
theorem dX10_carriedSet_1 : decode cX10_carriedSet 1 = .ok (.getfield 12, 3) := by decide +kernel
theorem dX10_carriedSet_4 : decode cX10_carriedSet 4 = .ok (.aload_n 1, 1) := by decide +kernel
theorem dX10_carriedSet_5 : decode cX10_carriedSet 5 = .ok (.invokevirtual 25, 3) := by decide +kernel
theorem dX10_carriedSet_8 : decode cX10_carriedSet 8 = .ok (.lconst 0, 1) := by decide +kernel
theorem dX10_carriedSet_9 : decode cX10_carriedSet 9 = .ok (.lstore_n 2, 1) := by decide +kernel
theorem dX10_carriedSet_10 : decode cX10_carriedSet 10 = .ok (.iconst 0, 1) := by decide +kernel
theorem dX10_carriedSet_11 : decode cX10_carriedSet 11 = .ok (.istore 4, 2) := by decide +kernel
theorem dX10_carriedSet_13 : decode cX10_carriedSet 13 = .ok (.iload 4, 2) := by decide +kernel
theorem dX10_carriedSet_15 : decode cX10_carriedSet 15 = .ok (.bipush 64, 2) := by decide +kernel
theorem dX10_carriedSet_17 : decode cX10_carriedSet 17 = .ok (.if_icmp .ge 28, 3) := by decide +kernel
theorem dX10_carriedSet_20 : decode cX10_carriedSet 20 = .ok (.aload_n 0, 1) := by decide +kernel
theorem dX10_carriedSet_21 : decode cX10_carriedSet 21 = .ok (.getfield 12, 3) := by decide +kernel
theorem dX10_carriedSet_24 : decode cX10_carriedSet 24 = .ok (.iload 4, 2) := by decide +kernel
theorem dX10_carriedSet_26 : decode cX10_carriedSet 26 = .ok (.invokevirtual 29, 3) := by decide +kernel
theorem dX10_carriedSet_29 : decode cX10_carriedSet 29 = .ok (.ifCond .le 10, 3) := by decide +kernel
theorem dX10_carriedSet_32 : decode cX10_carriedSet 32 = .ok (.lload_n 2, 1) := by decide +kernel
theorem dX10_carriedSet_33 : decode cX10_carriedSet 33 = .ok (.lconst 1, 1) := by decide +kernel
theorem dX10_carriedSet_34 : decode cX10_carriedSet 34 = .ok (.iload 4, 2) := by decide +kernel
theorem dX10_carriedSet_36 : decode cX10_carriedSet 36 = .ok (.lshl, 1) := by decide +kernel
theorem dX10_carriedSet_37 : decode cX10_carriedSet 37 = .ok (.lor, 1) := by decide +kernel
theorem dX10_carriedSet_38 : decode cX10_carriedSet 38 = .ok (.lstore_n 2, 1) := by decide +kernel
theorem dX10_carriedSet_39 : decode cX10_carriedSet 39 = .ok (.iinc 4 1, 3) := by decide +kernel
theorem dX10_carriedSet_42 : decode cX10_carriedSet 42 = .ok (.goto (-29), 3) := by decide +kernel
theorem dX10_carriedSet_45 : decode cX10_carriedSet 45 = .ok (.lload_n 2, 1) := by decide +kernel
theorem dX10_carriedSet_46 : decode cX10_carriedSet 46 = .ok (.lreturn, 1) := by decide +kernel
theorem dJ13_bitCount_95d88_0 : decode cJ13_bitCount_95d88 0 = .ok (.lload_n 0, 1) := by decide +kernel
theorem dJ13_bitCount_95d88_1 : decode cJ13_bitCount_95d88 1 = .ok (.lload_n 0, 1) := by decide +kernel
theorem dJ13_bitCount_95d88_2 : decode cJ13_bitCount_95d88 2 = .ok (.iconst 1, 1) := by decide +kernel
theorem dJ13_bitCount_95d88_3 : decode cJ13_bitCount_95d88 3 = .ok (.lushr, 1) := by decide +kernel
theorem dJ13_bitCount_95d88_4 : decode cJ13_bitCount_95d88 4 = .ok (.ldc2_w 314, 3) := by decide +kernel
theorem dJ13_bitCount_95d88_7 : decode cJ13_bitCount_95d88 7 = .ok (.land, 1) := by decide +kernel
theorem dJ13_bitCount_95d88_8 : decode cJ13_bitCount_95d88 8 = .ok (.lsub, 1) := by decide +kernel
theorem dJ13_bitCount_95d88_9 : decode cJ13_bitCount_95d88 9 = .ok (.lstore_n 0, 1) := by decide +kernel
theorem dJ13_bitCount_95d88_10 : decode cJ13_bitCount_95d88 10 = .ok (.lload_n 0, 1) := by decide +kernel
theorem dJ13_bitCount_95d88_11 : decode cJ13_bitCount_95d88 11 = .ok (.ldc2_w 316, 3) := by decide +kernel
theorem dJ13_bitCount_95d88_14 : decode cJ13_bitCount_95d88 14 = .ok (.land, 1) := by decide +kernel
theorem dJ13_bitCount_95d88_15 : decode cJ13_bitCount_95d88 15 = .ok (.lload_n 0, 1) := by decide +kernel
theorem dJ13_bitCount_95d88_16 : decode cJ13_bitCount_95d88 16 = .ok (.iconst 2, 1) := by decide +kernel
theorem dJ13_bitCount_95d88_17 : decode cJ13_bitCount_95d88 17 = .ok (.lushr, 1) := by decide +kernel
theorem dJ13_bitCount_95d88_18 : decode cJ13_bitCount_95d88 18 = .ok (.ldc2_w 316, 3) := by decide +kernel
theorem dJ13_bitCount_95d88_21 : decode cJ13_bitCount_95d88 21 = .ok (.land, 1) := by decide +kernel
theorem dJ13_bitCount_95d88_22 : decode cJ13_bitCount_95d88 22 = .ok (.ladd, 1) := by decide +kernel
theorem dJ13_bitCount_95d88_23 : decode cJ13_bitCount_95d88 23 = .ok (.lstore_n 0, 1) := by decide +kernel
theorem dJ13_bitCount_95d88_24 : decode cJ13_bitCount_95d88 24 = .ok (.lload_n 0, 1) := by decide +kernel
theorem dJ13_bitCount_95d88_25 : decode cJ13_bitCount_95d88 25 = .ok (.lload_n 0, 1) := by decide +kernel
theorem dJ13_bitCount_95d88_26 : decode cJ13_bitCount_95d88 26 = .ok (.iconst 4, 1) := by decide +kernel
theorem dJ13_bitCount_95d88_27 : decode cJ13_bitCount_95d88 27 = .ok (.lushr, 1) := by decide +kernel
theorem dJ13_bitCount_95d88_28 : decode cJ13_bitCount_95d88 28 = .ok (.ladd, 1) := by decide +kernel
theorem dJ13_bitCount_95d88_29 : decode cJ13_bitCount_95d88 29 = .ok (.ldc2_w 318, 3) := by decide +kernel
theorem dJ13_bitCount_95d88_32 : decode cJ13_bitCount_95d88 32 = .ok (.land, 1) := by decide +kernel
theorem dJ13_bitCount_95d88_33 : decode cJ13_bitCount_95d88 33 = .ok (.lstore_n 0, 1) := by decide +kernel
theorem dJ13_bitCount_95d88_34 : decode cJ13_bitCount_95d88 34 = .ok (.lload_n 0, 1) := by decide +kernel
theorem dJ13_bitCount_95d88_35 : decode cJ13_bitCount_95d88 35 = .ok (.lload_n 0, 1) := by decide +kernel
theorem dJ13_bitCount_95d88_36 : decode cJ13_bitCount_95d88 36 = .ok (.bipush 8, 2) := by decide +kernel
theorem dJ13_bitCount_95d88_38 : decode cJ13_bitCount_95d88 38 = .ok (.lushr, 1) := by decide +kernel
theorem dJ13_bitCount_95d88_39 : decode cJ13_bitCount_95d88 39 = .ok (.ladd, 1) := by decide +kernel
theorem dJ13_bitCount_95d88_40 : decode cJ13_bitCount_95d88 40 = .ok (.lstore_n 0, 1) := by decide +kernel
theorem dJ13_bitCount_95d88_41 : decode cJ13_bitCount_95d88 41 = .ok (.lload_n 0, 1) := by decide +kernel
theorem dJ13_bitCount_95d88_42 : decode cJ13_bitCount_95d88 42 = .ok (.lload_n 0, 1) := by decide +kernel
theorem dJ13_bitCount_95d88_43 : decode cJ13_bitCount_95d88 43 = .ok (.bipush 16, 2) := by decide +kernel
theorem dJ13_bitCount_95d88_45 : decode cJ13_bitCount_95d88 45 = .ok (.lushr, 1) := by decide +kernel
theorem dJ13_bitCount_95d88_46 : decode cJ13_bitCount_95d88 46 = .ok (.ladd, 1) := by decide +kernel
theorem dJ13_bitCount_95d88_47 : decode cJ13_bitCount_95d88 47 = .ok (.lstore_n 0, 1) := by decide +kernel
theorem dJ13_bitCount_95d88_48 : decode cJ13_bitCount_95d88 48 = .ok (.lload_n 0, 1) := by decide +kernel
theorem dJ13_bitCount_95d88_49 : decode cJ13_bitCount_95d88 49 = .ok (.lload_n 0, 1) := by decide +kernel
theorem dJ13_bitCount_95d88_50 : decode cJ13_bitCount_95d88 50 = .ok (.bipush 32, 2) := by decide +kernel
theorem dJ13_bitCount_95d88_52 : decode cJ13_bitCount_95d88 52 = .ok (.lushr, 1) := by decide +kernel
theorem dJ13_bitCount_95d88_53 : decode cJ13_bitCount_95d88 53 = .ok (.ladd, 1) := by decide +kernel
theorem dJ13_bitCount_95d88_54 : decode cJ13_bitCount_95d88 54 = .ok (.lstore_n 0, 1) := by decide +kernel
theorem dJ13_bitCount_95d88_55 : decode cJ13_bitCount_95d88 55 = .ok (.lload_n 0, 1) := by decide +kernel
theorem dJ13_bitCount_95d88_56 : decode cJ13_bitCount_95d88 56 = .ok (.l2i, 1) := by decide +kernel
theorem dJ13_bitCount_95d88_57 : decode cJ13_bitCount_95d88 57 = .ok (.bipush 127, 2) := by decide +kernel
theorem dJ13_bitCount_95d88_59 : decode cJ13_bitCount_95d88 59 = .ok (.iand, 1) := by decide +kernel
theorem dJ13_bitCount_95d88_60 : decode cJ13_bitCount_95d88 60 = .ok (.ireturn, 1) := by decide +kernel
theorem dX10_isIn_0 : decode cX10_isIn 0 = .ok (.lload_n 0, 1) := by decide +kernel
theorem dX10_isIn_1 : decode cX10_isIn 1 = .ok (.iload_n 2, 1) := by decide +kernel
theorem dX10_isIn_2 : decode cX10_isIn 2 = .ok (.lushr, 1) := by decide +kernel
theorem dX10_isIn_3 : decode cX10_isIn 3 = .ok (.lconst 1, 1) := by decide +kernel
theorem dX10_isIn_4 : decode cX10_isIn 4 = .ok (.land, 1) := by decide +kernel
theorem dX10_isIn_5 : decode cX10_isIn 5 = .ok (.lconst 0, 1) := by decide +kernel
theorem dX10_isIn_6 : decode cX10_isIn 6 = .ok (.lcmp, 1) := by decide +kernel
theorem dX10_isIn_7 : decode cX10_isIn 7 = .ok (.ifCond .eq 7, 3) := by decide +kernel
theorem dX10_isIn_10 : decode cX10_isIn 10 = .ok (.iconst 1, 1) := by decide +kernel
theorem dX10_isIn_11 : decode cX10_isIn 11 = .ok (.goto 4, 3) := by decide +kernel
theorem dX10_isIn_14 : decode cX10_isIn 14 = .ok (.iconst 0, 1) := by decide +kernel
theorem dX10_isIn_15 : decode cX10_isIn 15 = .ok (.ireturn, 1) := by decide +kernel
theorem dX10_member_0 : decode cX10_member 0 = .ok (.iload_n 2, 1) := by decide +kernel
theorem dX10_member_1 : decode cX10_member 1 = .ok (.iconst (-1), 1) := by decide +kernel
theorem dX10_member_2 : decode cX10_member 2 = .ok (.if_icmp .ne 8, 3) := by decide +kernel
theorem dX10_member_5 : decode cX10_member 5 = .ok (.lload_n 0, 1) := by decide +kernel
theorem dX10_member_6 : decode cX10_member 6 = .ok (.invokestatic 50, 3) := by decide +kernel
theorem dX10_member_9 : decode cX10_member 9 = .ok (.ireturn, 1) := by decide +kernel
theorem dX10_member_10 : decode cX10_member 10 = .ok (.iload_n 2, 1) := by decide +kernel
theorem dX10_member_11 : decode cX10_member 11 = .ok (.istore_n 3, 1) := by decide +kernel
theorem dX10_member_12 : decode cX10_member 12 = .ok (.iconst 0, 1) := by decide +kernel
theorem dX10_member_13 : decode cX10_member 13 = .ok (.istore 4, 2) := by decide +kernel
theorem dX10_member_15 : decode cX10_member 15 = .ok (.iload 4, 2) := by decide +kernel
theorem dX10_member_17 : decode cX10_member 17 = .ok (.bipush 64, 2) := by decide +kernel
theorem dX10_member_19 : decode cX10_member 19 = .ok (.if_icmp .ge 32, 3) := by decide +kernel
theorem dX10_member_22 : decode cX10_member 22 = .ok (.iload_n 3, 1) := by decide +kernel
theorem dX10_member_23 : decode cX10_member 23 = .ok (.ifCond .lt 28, 3) := by decide +kernel
theorem dX10_member_26 : decode cX10_member 26 = .ok (.lload_n 0, 1) := by decide +kernel
theorem dX10_member_27 : decode cX10_member 27 = .ok (.iload 4, 2) := by decide +kernel
theorem dX10_member_29 : decode cX10_member 29 = .ok (.invokestatic 56, 3) := by decide +kernel
theorem dX10_member_32 : decode cX10_member 32 = .ok (.ifCond .eq 13, 3) := by decide +kernel
theorem dX10_member_35 : decode cX10_member 35 = .ok (.iload_n 3, 1) := by decide +kernel
theorem dX10_member_36 : decode cX10_member 36 = .ok (.ifCond .ne 6, 3) := by decide +kernel
theorem dX10_member_39 : decode cX10_member 39 = .ok (.iload 4, 2) := by decide +kernel
theorem dX10_member_41 : decode cX10_member 41 = .ok (.ireturn, 1) := by decide +kernel
theorem dX10_member_42 : decode cX10_member 42 = .ok (.iinc 3 (-1), 3) := by decide +kernel
theorem dX10_member_45 : decode cX10_member 45 = .ok (.iinc 4 1, 3) := by decide +kernel
theorem dX10_member_48 : decode cX10_member 48 = .ok (.goto (-33), 3) := by decide +kernel
theorem dX10_member_51 : decode cX10_member 51 = .ok (.iconst (-1), 1) := by decide +kernel
theorem dX10_member_52 : decode cX10_member 52 = .ok (.ireturn, 1) := by decide +kernel
theorem dX11_carried_0 : decode cX11_carried 0 = .ok (.aload_n 0, 1) := by decide +kernel
theorem dX11_carried_1 : decode cX11_carried 1 = .ok (.getfield 10, 3) := by decide +kernel
theorem dX11_carried_4 : decode cX11_carried 4 = .ok (.iload_n 1, 1) := by decide +kernel
theorem dX11_carried_5 : decode cX11_carried 5 = .ok (.invokevirtual 105, 3) := by decide +kernel
theorem dX11_carried_8 : decode cX11_carried 8 = .ok (.astore_n 3, 1) := by decide +kernel
theorem dX11_carried_9 : decode cX11_carried 9 = .ok (.aload_n 3, 1) := by decide +kernel
theorem dX11_carried_10 : decode cX11_carried 10 = .ok (.ifnonnull 7, 3) := by decide +kernel
theorem dX11_carried_13 : decode cX11_carried 13 = .ok (.iconst (-1), 1) := by decide +kernel
theorem dX11_carried_14 : decode cX11_carried 14 = .ok (.goto 15, 3) := by decide +kernel
theorem dX11_carried_17 : decode cX11_carried 17 = .ok (.aload_n 0, 1) := by decide +kernel
theorem dX11_carried_18 : decode cX11_carried 18 = .ok (.getfield 48, 3) := by decide +kernel
theorem dX11_carried_21 : decode cX11_carried 21 = .ok (.aload_n 3, 1) := by decide +kernel
theorem dX11_carried_22 : decode cX11_carried 22 = .ok (.invokevirtual 158, 3) := by decide +kernel
theorem dX11_carried_25 : decode cX11_carried 25 = .ok (.iload_n 2, 1) := by decide +kernel
theorem dX11_carried_26 : decode cX11_carried 26 = .ok (.invokestatic 162, 3) := by decide +kernel
theorem dX11_carried_29 : decode cX11_carried 29 = .ok (.ireturn, 1) := by decide +kernel
theorem dX7_keepLeastRow_0 : decode cX7_keepLeastRow 0 = .ok (.iconst 0, 1) := by decide +kernel
theorem dX7_keepLeastRow_1 : decode cX7_keepLeastRow 1 = .ok (.istore_n 1, 1) := by decide +kernel
theorem dX7_keepLeastRow_2 : decode cX7_keepLeastRow 2 = .ok (.iconst 0, 1) := by decide +kernel
theorem dX7_keepLeastRow_3 : decode cX7_keepLeastRow 3 = .ok (.istore_n 2, 1) := by decide +kernel
theorem dX7_keepLeastRow_4 : decode cX7_keepLeastRow 4 = .ok (.iload_n 2, 1) := by decide +kernel
theorem dX7_keepLeastRow_5 : decode cX7_keepLeastRow 5 = .ok (.aload_n 0, 1) := by decide +kernel
theorem dX7_keepLeastRow_6 : decode cX7_keepLeastRow 6 = .ok (.getfield 18, 3) := by decide +kernel
theorem dX7_keepLeastRow_9 : decode cX7_keepLeastRow 9 = .ok (.getfield 49, 3) := by decide +kernel
theorem dX7_keepLeastRow_12 : decode cX7_keepLeastRow 12 = .ok (.getfield 37, 3) := by decide +kernel
theorem dX7_keepLeastRow_15 : decode cX7_keepLeastRow 15 = .ok (.if_icmp .ge 27, 3) := by decide +kernel
theorem dX7_keepLeastRow_18 : decode cX7_keepLeastRow 18 = .ok (.bipush 9, 2) := by decide +kernel
theorem dX7_keepLeastRow_20 : decode cX7_keepLeastRow 20 = .ok (.iload_n 1, 1) := by decide +kernel
theorem dX7_keepLeastRow_21 : decode cX7_keepLeastRow 21 = .ok (.imul, 1) := by decide +kernel
theorem dX7_keepLeastRow_22 : decode cX7_keepLeastRow 22 = .ok (.aload_n 0, 1) := by decide +kernel
theorem dX7_keepLeastRow_23 : decode cX7_keepLeastRow 23 = .ok (.getfield 18, 3) := by decide +kernel
theorem dX7_keepLeastRow_26 : decode cX7_keepLeastRow 26 = .ok (.getfield 49, 3) := by decide +kernel
theorem dX7_keepLeastRow_29 : decode cX7_keepLeastRow 29 = .ok (.getfield 53, 3) := by decide +kernel
theorem dX7_keepLeastRow_32 : decode cX7_keepLeastRow 32 = .ok (.iload_n 2, 1) := by decide +kernel
theorem dX7_keepLeastRow_33 : decode cX7_keepLeastRow 33 = .ok (.iaload, 1) := by decide +kernel
theorem dX7_keepLeastRow_34 : decode cX7_keepLeastRow 34 = .ok (.iadd, 1) := by decide +kernel
theorem dX7_keepLeastRow_35 : decode cX7_keepLeastRow 35 = .ok (.istore_n 1, 1) := by decide +kernel
theorem dX7_keepLeastRow_36 : decode cX7_keepLeastRow 36 = .ok (.iinc 2 1, 3) := by decide +kernel
theorem dX7_keepLeastRow_39 : decode cX7_keepLeastRow 39 = .ok (.goto (-35), 3) := by decide +kernel
theorem dX7_keepLeastRow_42 : decode cX7_keepLeastRow 42 = .ok (.aload_n 0, 1) := by decide +kernel
theorem dX7_keepLeastRow_43 : decode cX7_keepLeastRow 43 = .ok (.getfield 26, 3) := by decide +kernel
theorem dX7_keepLeastRow_46 : decode cX7_keepLeastRow 46 = .ok (.iconst (-1), 1) := by decide +kernel
theorem dX7_keepLeastRow_47 : decode cX7_keepLeastRow 47 = .ok (.if_icmp .eq 11, 3) := by decide +kernel
theorem dX7_keepLeastRow_50 : decode cX7_keepLeastRow 50 = .ok (.iload_n 1, 1) := by decide +kernel
theorem dX7_keepLeastRow_51 : decode cX7_keepLeastRow 51 = .ok (.aload_n 0, 1) := by decide +kernel
theorem dX7_keepLeastRow_52 : decode cX7_keepLeastRow 52 = .ok (.getfield 26, 3) := by decide +kernel
theorem dX7_keepLeastRow_55 : decode cX7_keepLeastRow 55 = .ok (.if_icmp .ge 29, 3) := by decide +kernel
theorem dX7_keepLeastRow_58 : decode cX7_keepLeastRow 58 = .ok (.aload_n 0, 1) := by decide +kernel
theorem dX7_keepLeastRow_59 : decode cX7_keepLeastRow 59 = .ok (.iload_n 1, 1) := by decide +kernel
theorem dX7_keepLeastRow_60 : decode cX7_keepLeastRow 60 = .ok (.putfield 26, 3) := by decide +kernel
theorem dX7_keepLeastRow_63 : decode cX7_keepLeastRow 63 = .ok (.aload_n 0, 1) := by decide +kernel
theorem dX7_keepLeastRow_64 : decode cX7_keepLeastRow 64 = .ok (.getfield 18, 3) := by decide +kernel
theorem dX7_keepLeastRow_67 : decode cX7_keepLeastRow 67 = .ok (.getfield 49, 3) := by decide +kernel
theorem dX7_keepLeastRow_70 : decode cX7_keepLeastRow 70 = .ok (.getfield 53, 3) := by decide +kernel
theorem dX7_keepLeastRow_73 : decode cX7_keepLeastRow 73 = .ok (.iconst 0, 1) := by decide +kernel
theorem dX7_keepLeastRow_74 : decode cX7_keepLeastRow 74 = .ok (.aload_n 0, 1) := by decide +kernel
theorem dX7_keepLeastRow_75 : decode cX7_keepLeastRow 75 = .ok (.getfield 9, 3) := by decide +kernel
theorem dX7_keepLeastRow_78 : decode cX7_keepLeastRow 78 = .ok (.iconst 0, 1) := by decide +kernel
theorem dX7_keepLeastRow_79 : decode cX7_keepLeastRow 79 = .ok (.bipush 6, 2) := by decide +kernel
theorem dX7_keepLeastRow_81 : decode cX7_keepLeastRow 81 = .ok (.invokestatic 65, 3) := by decide +kernel
theorem dX7_keepLeastRow_84 : decode cX7_keepLeastRow 84 = .ok (.return_, 1) := by decide +kernel
theorem dX2_seatTried_0 : decode cX2_seatTried 0 = .ok (.iload_n 1, 1) := by decide +kernel
theorem dX2_seatTried_1 : decode cX2_seatTried 1 = .ok (.aload_n 0, 1) := by decide +kernel
theorem dX2_seatTried_2 : decode cX2_seatTried 2 = .ok (.getfield 12, 3) := by decide +kernel
theorem dX2_seatTried_5 : decode cX2_seatTried 5 = .ok (.getfield 68, 3) := by decide +kernel
theorem dX2_seatTried_8 : decode cX2_seatTried 8 = .ok (.if_icmp .ge 7, 3) := by decide +kernel
theorem dX2_seatTried_11 : decode cX2_seatTried 11 = .ok (.iload_n 1, 1) := by decide +kernel
theorem dX2_seatTried_12 : decode cX2_seatTried 12 = .ok (.goto 5, 3) := by decide +kernel
theorem dX2_seatTried_15 : decode cX2_seatTried 15 = .ok (.bipush 8, 2) := by decide +kernel
theorem dX2_seatTried_17 : decode cX2_seatTried 17 = .ok (.ireturn, 1) := by decide +kernel
theorem dX7_tryMoving_0 : decode cX7_tryMoving 0 = .ok (.aload_n 0, 1) := by decide +kernel
theorem dX7_tryMoving_1 : decode cX7_tryMoving 1 = .ok (.getfield 18, 3) := by decide +kernel
theorem dX7_tryMoving_4 : decode cX7_tryMoving 4 = .ok (.getfield 49, 3) := by decide +kernel
theorem dX7_tryMoving_7 : decode cX7_tryMoving 7 = .ok (.getfield 53, 3) := by decide +kernel
theorem dX7_tryMoving_10 : decode cX7_tryMoving 10 = .ok (.iload_n 1, 1) := by decide +kernel
theorem dX7_tryMoving_11 : decode cX7_tryMoving 11 = .ok (.iaload, 1) := by decide +kernel
theorem dX7_tryMoving_12 : decode cX7_tryMoving 12 = .ok (.istore_n 3, 1) := by decide +kernel
theorem dX7_tryMoving_13 : decode cX7_tryMoving 13 = .ok (.iconst 0, 1) := by decide +kernel
theorem dX7_tryMoving_14 : decode cX7_tryMoving 14 = .ok (.istore 4, 2) := by decide +kernel
theorem dX7_tryMoving_16 : decode cX7_tryMoving 16 = .ok (.iload 4, 2) := by decide +kernel
theorem dX7_tryMoving_18 : decode cX7_tryMoving 18 = .ok (.aload_n 0, 1) := by decide +kernel
theorem dX7_tryMoving_19 : decode cX7_tryMoving 19 = .ok (.getfield 18, 3) := by decide +kernel
theorem dX7_tryMoving_22 : decode cX7_tryMoving 22 = .ok (.getfield 49, 3) := by decide +kernel
theorem dX7_tryMoving_25 : decode cX7_tryMoving 25 = .ok (.getfield 56, 3) := by decide +kernel
theorem dX7_tryMoving_28 : decode cX7_tryMoving 28 = .ok (.if_icmp .gt 51, 3) := by decide +kernel
theorem dX7_tryMoving_31 : decode cX7_tryMoving 31 = .ok (.aload_n 0, 1) := by decide +kernel
theorem dX7_tryMoving_32 : decode cX7_tryMoving 32 = .ok (.getfield 18, 3) := by decide +kernel
theorem dX7_tryMoving_35 : decode cX7_tryMoving 35 = .ok (.iload 4, 2) := by decide +kernel
theorem dX7_tryMoving_37 : decode cX7_tryMoving 37 = .ok (.invokevirtual 59, 3) := by decide +kernel
theorem dX7_tryMoving_40 : decode cX7_tryMoving 40 = .ok (.istore 5, 2) := by decide +kernel
theorem dX7_tryMoving_42 : decode cX7_tryMoving 42 = .ok (.iload 5, 2) := by decide +kernel
theorem dX7_tryMoving_44 : decode cX7_tryMoving 44 = .ok (.iload_n 3, 1) := by decide +kernel
theorem dX7_tryMoving_45 : decode cX7_tryMoving 45 = .ok (.if_icmp .eq 28, 3) := by decide +kernel
theorem dX7_tryMoving_48 : decode cX7_tryMoving 48 = .ok (.aload_n 0, 1) := by decide +kernel
theorem dX7_tryMoving_49 : decode cX7_tryMoving 49 = .ok (.getfield 18, 3) := by decide +kernel
theorem dX7_tryMoving_52 : decode cX7_tryMoving 52 = .ok (.iload_n 1, 1) := by decide +kernel
theorem dX7_tryMoving_53 : decode cX7_tryMoving 53 = .ok (.iload 5, 2) := by decide +kernel
theorem dX7_tryMoving_55 : decode cX7_tryMoving 55 = .ok (.invokevirtual 62, 3) := by decide +kernel
theorem dX7_tryMoving_58 : decode cX7_tryMoving 58 = .ok (.aload_n 0, 1) := by decide +kernel
theorem dX7_tryMoving_59 : decode cX7_tryMoving 59 = .ok (.getfield 18, 3) := by decide +kernel
theorem dX7_tryMoving_62 : decode cX7_tryMoving 62 = .ok (.iload_n 2, 1) := by decide +kernel
theorem dX7_tryMoving_63 : decode cX7_tryMoving 63 = .ok (.invokevirtual 30, 3) := by decide +kernel
theorem dX7_tryMoving_66 : decode cX7_tryMoving 66 = .ok (.ifCond .le 7, 3) := by decide +kernel
theorem dX7_tryMoving_69 : decode cX7_tryMoving 69 = .ok (.aload_n 0, 1) := by decide +kernel
theorem dX7_tryMoving_70 : decode cX7_tryMoving 70 = .ok (.invokevirtual 34, 3) := by decide +kernel
theorem dX7_tryMoving_73 : decode cX7_tryMoving 73 = .ok (.iinc 4 1, 3) := by decide +kernel
theorem dX7_tryMoving_76 : decode cX7_tryMoving 76 = .ok (.goto (-60), 3) := by decide +kernel
theorem dX7_tryMoving_79 : decode cX7_tryMoving 79 = .ok (.aload_n 0, 1) := by decide +kernel
theorem dX7_tryMoving_80 : decode cX7_tryMoving 80 = .ok (.getfield 18, 3) := by decide +kernel
theorem dX7_tryMoving_83 : decode cX7_tryMoving 83 = .ok (.iload_n 1, 1) := by decide +kernel
theorem dX7_tryMoving_84 : decode cX7_tryMoving 84 = .ok (.iload_n 3, 1) := by decide +kernel
theorem dX7_tryMoving_85 : decode cX7_tryMoving 85 = .ok (.invokevirtual 62, 3) := by decide +kernel
theorem dX7_tryMoving_88 : decode cX7_tryMoving 88 = .ok (.return_, 1) := by decide +kernel
theorem dX7_tryMovingTwo_0 : decode cX7_tryMovingTwo 0 = .ok (.aload_n 0, 1) := by decide +kernel
theorem dX7_tryMovingTwo_1 : decode cX7_tryMovingTwo 1 = .ok (.getfield 18, 3) := by decide +kernel
theorem dX7_tryMovingTwo_4 : decode cX7_tryMovingTwo 4 = .ok (.getfield 49, 3) := by decide +kernel
theorem dX7_tryMovingTwo_7 : decode cX7_tryMovingTwo 7 = .ok (.getfield 53, 3) := by decide +kernel
theorem dX7_tryMovingTwo_10 : decode cX7_tryMovingTwo 10 = .ok (.iload_n 1, 1) := by decide +kernel
theorem dX7_tryMovingTwo_11 : decode cX7_tryMovingTwo 11 = .ok (.iaload, 1) := by decide +kernel
theorem dX7_tryMovingTwo_12 : decode cX7_tryMovingTwo 12 = .ok (.istore_n 3, 1) := by decide +kernel
theorem dX7_tryMovingTwo_13 : decode cX7_tryMovingTwo 13 = .ok (.iconst 0, 1) := by decide +kernel
theorem dX7_tryMovingTwo_14 : decode cX7_tryMovingTwo 14 = .ok (.istore 4, 2) := by decide +kernel
theorem dX7_tryMovingTwo_16 : decode cX7_tryMovingTwo 16 = .ok (.iload 4, 2) := by decide +kernel
theorem dX7_tryMovingTwo_18 : decode cX7_tryMovingTwo 18 = .ok (.aload_n 0, 1) := by decide +kernel
theorem dX7_tryMovingTwo_19 : decode cX7_tryMovingTwo 19 = .ok (.getfield 18, 3) := by decide +kernel
theorem dX7_tryMovingTwo_22 : decode cX7_tryMovingTwo 22 = .ok (.getfield 49, 3) := by decide +kernel
theorem dX7_tryMovingTwo_25 : decode cX7_tryMovingTwo 25 = .ok (.getfield 56, 3) := by decide +kernel
theorem dX7_tryMovingTwo_28 : decode cX7_tryMovingTwo 28 = .ok (.if_icmp .gt 69, 3) := by decide +kernel
theorem dX7_tryMovingTwo_31 : decode cX7_tryMovingTwo 31 = .ok (.aload_n 0, 1) := by decide +kernel
theorem dX7_tryMovingTwo_32 : decode cX7_tryMovingTwo 32 = .ok (.getfield 18, 3) := by decide +kernel
theorem dX7_tryMovingTwo_35 : decode cX7_tryMovingTwo 35 = .ok (.iload 4, 2) := by decide +kernel
theorem dX7_tryMovingTwo_37 : decode cX7_tryMovingTwo 37 = .ok (.invokevirtual 59, 3) := by decide +kernel
theorem dX7_tryMovingTwo_40 : decode cX7_tryMovingTwo 40 = .ok (.istore 5, 2) := by decide +kernel
theorem dX7_tryMovingTwo_42 : decode cX7_tryMovingTwo 42 = .ok (.iload 5, 2) := by decide +kernel
theorem dX7_tryMovingTwo_44 : decode cX7_tryMovingTwo 44 = .ok (.iload_n 3, 1) := by decide +kernel
theorem dX7_tryMovingTwo_45 : decode cX7_tryMovingTwo 45 = .ok (.if_icmp .eq 46, 3) := by decide +kernel
theorem dX7_tryMovingTwo_48 : decode cX7_tryMovingTwo 48 = .ok (.aload_n 0, 1) := by decide +kernel
theorem dX7_tryMovingTwo_49 : decode cX7_tryMovingTwo 49 = .ok (.getfield 18, 3) := by decide +kernel
theorem dX7_tryMovingTwo_52 : decode cX7_tryMovingTwo 52 = .ok (.iload_n 1, 1) := by decide +kernel
theorem dX7_tryMovingTwo_53 : decode cX7_tryMovingTwo 53 = .ok (.iload 5, 2) := by decide +kernel
theorem dX7_tryMovingTwo_55 : decode cX7_tryMovingTwo 55 = .ok (.invokevirtual 62, 3) := by decide +kernel
theorem dX7_tryMovingTwo_58 : decode cX7_tryMovingTwo 58 = .ok (.iload_n 1, 1) := by decide +kernel
theorem dX7_tryMovingTwo_59 : decode cX7_tryMovingTwo 59 = .ok (.iconst 1, 1) := by decide +kernel
theorem dX7_tryMovingTwo_60 : decode cX7_tryMovingTwo 60 = .ok (.iadd, 1) := by decide +kernel
theorem dX7_tryMovingTwo_61 : decode cX7_tryMovingTwo 61 = .ok (.istore 6, 2) := by decide +kernel
theorem dX7_tryMovingTwo_63 : decode cX7_tryMovingTwo 63 = .ok (.iload 6, 2) := by decide +kernel
theorem dX7_tryMovingTwo_65 : decode cX7_tryMovingTwo 65 = .ok (.aload_n 0, 1) := by decide +kernel
theorem dX7_tryMovingTwo_66 : decode cX7_tryMovingTwo 66 = .ok (.getfield 18, 3) := by decide +kernel
theorem dX7_tryMovingTwo_69 : decode cX7_tryMovingTwo 69 = .ok (.getfield 49, 3) := by decide +kernel
theorem dX7_tryMovingTwo_72 : decode cX7_tryMovingTwo 72 = .ok (.getfield 37, 3) := by decide +kernel
theorem dX7_tryMovingTwo_75 : decode cX7_tryMovingTwo 75 = .ok (.if_icmp .ge 16, 3) := by decide +kernel
theorem dX7_tryMovingTwo_78 : decode cX7_tryMovingTwo 78 = .ok (.aload_n 0, 1) := by decide +kernel
theorem dX7_tryMovingTwo_79 : decode cX7_tryMovingTwo 79 = .ok (.iload 6, 2) := by decide +kernel
theorem dX7_tryMovingTwo_81 : decode cX7_tryMovingTwo 81 = .ok (.iload_n 2, 1) := by decide +kernel
theorem dX7_tryMovingTwo_82 : decode cX7_tryMovingTwo 82 = .ok (.invokevirtual 42, 3) := by decide +kernel
theorem dX7_tryMovingTwo_85 : decode cX7_tryMovingTwo 85 = .ok (.iinc 6 1, 3) := by decide +kernel
theorem dX7_tryMovingTwo_88 : decode cX7_tryMovingTwo 88 = .ok (.goto (-25), 3) := by decide +kernel
theorem dX7_tryMovingTwo_91 : decode cX7_tryMovingTwo 91 = .ok (.iinc 4 1, 3) := by decide +kernel
theorem dX7_tryMovingTwo_94 : decode cX7_tryMovingTwo 94 = .ok (.goto (-78), 3) := by decide +kernel
theorem dX7_tryMovingTwo_97 : decode cX7_tryMovingTwo 97 = .ok (.aload_n 0, 1) := by decide +kernel
theorem dX7_tryMovingTwo_98 : decode cX7_tryMovingTwo 98 = .ok (.getfield 18, 3) := by decide +kernel
theorem dX7_tryMovingTwo_101 : decode cX7_tryMovingTwo 101 = .ok (.iload_n 1, 1) := by decide +kernel
theorem dX7_tryMovingTwo_102 : decode cX7_tryMovingTwo 102 = .ok (.iload_n 3, 1) := by decide +kernel
theorem dX7_tryMovingTwo_103 : decode cX7_tryMovingTwo 103 = .ok (.invokevirtual 62, 3) := by decide +kernel
theorem dX7_tryMovingTwo_106 : decode cX7_tryMovingTwo 106 = .ok (.return_, 1) := by decide +kernel
theorem dX7_fewestMoves_0 : decode cX7_fewestMoves 0 = .ok (.aload_n 0, 1) := by decide +kernel
theorem dX7_fewestMoves_1 : decode cX7_fewestMoves 1 = .ok (.getfield 18, 3) := by decide +kernel
theorem dX7_fewestMoves_4 : decode cX7_fewestMoves 4 = .ok (.aload_n 1, 1) := by decide +kernel
theorem dX7_fewestMoves_5 : decode cX7_fewestMoves 5 = .ok (.invokevirtual 22, 3) := by decide +kernel
theorem dX7_fewestMoves_8 : decode cX7_fewestMoves 8 = .ok (.aload_n 0, 1) := by decide +kernel
theorem dX7_fewestMoves_9 : decode cX7_fewestMoves 9 = .ok (.iconst (-1), 1) := by decide +kernel
theorem dX7_fewestMoves_10 : decode cX7_fewestMoves 10 = .ok (.putfield 26, 3) := by decide +kernel
theorem dX7_fewestMoves_13 : decode cX7_fewestMoves 13 = .ok (.aload_n 0, 1) := by decide +kernel
theorem dX7_fewestMoves_14 : decode cX7_fewestMoves 14 = .ok (.getfield 18, 3) := by decide +kernel
theorem dX7_fewestMoves_17 : decode cX7_fewestMoves 17 = .ok (.iload_n 2, 1) := by decide +kernel
theorem dX7_fewestMoves_18 : decode cX7_fewestMoves 18 = .ok (.invokevirtual 30, 3) := by decide +kernel
theorem dX7_fewestMoves_21 : decode cX7_fewestMoves 21 = .ok (.ifCond .le 9, 3) := by decide +kernel
theorem dX7_fewestMoves_24 : decode cX7_fewestMoves 24 = .ok (.aload_n 0, 1) := by decide +kernel
theorem dX7_fewestMoves_25 : decode cX7_fewestMoves 25 = .ok (.invokevirtual 34, 3) := by decide +kernel
theorem dX7_fewestMoves_28 : decode cX7_fewestMoves 28 = .ok (.iconst 0, 1) := by decide +kernel
theorem dX7_fewestMoves_29 : decode cX7_fewestMoves 29 = .ok (.ireturn, 1) := by decide +kernel
theorem dX7_fewestMoves_30 : decode cX7_fewestMoves 30 = .ok (.iconst 0, 1) := by decide +kernel
theorem dX7_fewestMoves_31 : decode cX7_fewestMoves 31 = .ok (.istore_n 3, 1) := by decide +kernel
theorem dX7_fewestMoves_32 : decode cX7_fewestMoves 32 = .ok (.iload_n 3, 1) := by decide +kernel
theorem dX7_fewestMoves_33 : decode cX7_fewestMoves 33 = .ok (.aload_n 1, 1) := by decide +kernel
theorem dX7_fewestMoves_34 : decode cX7_fewestMoves 34 = .ok (.getfield 37, 3) := by decide +kernel
theorem dX7_fewestMoves_37 : decode cX7_fewestMoves 37 = .ok (.if_icmp .ge 15, 3) := by decide +kernel
theorem dX7_fewestMoves_40 : decode cX7_fewestMoves 40 = .ok (.aload_n 0, 1) := by decide +kernel
theorem dX7_fewestMoves_41 : decode cX7_fewestMoves 41 = .ok (.iload_n 3, 1) := by decide +kernel
theorem dX7_fewestMoves_42 : decode cX7_fewestMoves 42 = .ok (.iload_n 2, 1) := by decide +kernel
theorem dX7_fewestMoves_43 : decode cX7_fewestMoves 43 = .ok (.invokevirtual 42, 3) := by decide +kernel
theorem dX7_fewestMoves_46 : decode cX7_fewestMoves 46 = .ok (.iinc 3 1, 3) := by decide +kernel
theorem dX7_fewestMoves_49 : decode cX7_fewestMoves 49 = .ok (.goto (-17), 3) := by decide +kernel
theorem dX7_fewestMoves_52 : decode cX7_fewestMoves 52 = .ok (.aload_n 0, 1) := by decide +kernel
theorem dX7_fewestMoves_53 : decode cX7_fewestMoves 53 = .ok (.getfield 26, 3) := by decide +kernel
theorem dX7_fewestMoves_56 : decode cX7_fewestMoves 56 = .ok (.iconst (-1), 1) := by decide +kernel
theorem dX7_fewestMoves_57 : decode cX7_fewestMoves 57 = .ok (.if_icmp .eq 5, 3) := by decide +kernel
theorem dX7_fewestMoves_60 : decode cX7_fewestMoves 60 = .ok (.iconst 1, 1) := by decide +kernel
theorem dX7_fewestMoves_61 : decode cX7_fewestMoves 61 = .ok (.ireturn, 1) := by decide +kernel
theorem dX7_fewestMoves_62 : decode cX7_fewestMoves 62 = .ok (.iconst 0, 1) := by decide +kernel
theorem dX7_fewestMoves_63 : decode cX7_fewestMoves 63 = .ok (.istore_n 3, 1) := by decide +kernel
theorem dX7_fewestMoves_64 : decode cX7_fewestMoves 64 = .ok (.iload_n 3, 1) := by decide +kernel
theorem dX7_fewestMoves_65 : decode cX7_fewestMoves 65 = .ok (.aload_n 1, 1) := by decide +kernel
theorem dX7_fewestMoves_66 : decode cX7_fewestMoves 66 = .ok (.getfield 37, 3) := by decide +kernel
theorem dX7_fewestMoves_69 : decode cX7_fewestMoves 69 = .ok (.if_icmp .ge 15, 3) := by decide +kernel
theorem dX7_fewestMoves_72 : decode cX7_fewestMoves 72 = .ok (.aload_n 0, 1) := by decide +kernel
theorem dX7_fewestMoves_73 : decode cX7_fewestMoves 73 = .ok (.iload_n 3, 1) := by decide +kernel
theorem dX7_fewestMoves_74 : decode cX7_fewestMoves 74 = .ok (.iload_n 2, 1) := by decide +kernel
theorem dX7_fewestMoves_75 : decode cX7_fewestMoves 75 = .ok (.invokevirtual 46, 3) := by decide +kernel
theorem dX7_fewestMoves_78 : decode cX7_fewestMoves 78 = .ok (.iinc 3 1, 3) := by decide +kernel
theorem dX7_fewestMoves_81 : decode cX7_fewestMoves 81 = .ok (.goto (-17), 3) := by decide +kernel
theorem dX7_fewestMoves_84 : decode cX7_fewestMoves 84 = .ok (.aload_n 0, 1) := by decide +kernel
theorem dX7_fewestMoves_85 : decode cX7_fewestMoves 85 = .ok (.getfield 26, 3) := by decide +kernel
theorem dX7_fewestMoves_88 : decode cX7_fewestMoves 88 = .ok (.iconst (-1), 1) := by decide +kernel
theorem dX7_fewestMoves_89 : decode cX7_fewestMoves 89 = .ok (.if_icmp .ne 7, 3) := by decide +kernel
theorem dX7_fewestMoves_92 : decode cX7_fewestMoves 92 = .ok (.iconst (-1), 1) := by decide +kernel
theorem dX7_fewestMoves_93 : decode cX7_fewestMoves 93 = .ok (.goto 4, 3) := by decide +kernel
theorem dX7_fewestMoves_96 : decode cX7_fewestMoves 96 = .ok (.iconst 2, 1) := by decide +kernel
theorem dX7_fewestMoves_97 : decode cX7_fewestMoves 97 = .ok (.ireturn, 1) := by decide +kernel
theorem dX11_moves_0 : decode cX11_moves 0 = .ok (.aload_n 0, 1) := by decide +kernel
theorem dX11_moves_1 : decode cX11_moves 1 = .ok (.iload_n 1, 1) := by decide +kernel
theorem dX11_moves_2 : decode cX11_moves 2 = .ok (.iload_n 2, 1) := by decide +kernel
theorem dX11_moves_3 : decode cX11_moves 3 = .ok (.invokevirtual 115, 3) := by decide +kernel
theorem dX11_moves_6 : decode cX11_moves 6 = .ok (.astore 4, 2) := by decide +kernel
theorem dX11_moves_8 : decode cX11_moves 8 = .ok (.aload 4, 2) := by decide +kernel
theorem dX11_moves_10 : decode cX11_moves 10 = .ok (.ifnull 17, 3) := by decide +kernel
theorem dX11_moves_13 : decode cX11_moves 13 = .ok (.iload_n 3, 1) := by decide +kernel
theorem dX11_moves_14 : decode cX11_moves 14 = .ok (.iconst (-1), 1) := by decide +kernel
theorem dX11_moves_15 : decode cX11_moves 15 = .ok (.if_icmp .lt 12, 3) := by decide +kernel
theorem dX11_moves_18 : decode cX11_moves 18 = .ok (.iload_n 3, 1) := by decide +kernel
theorem dX11_moves_19 : decode cX11_moves 19 = .ok (.aload 4, 2) := by decide +kernel
theorem dX11_moves_21 : decode cX11_moves 21 = .ok (.getfield 166, 3) := by decide +kernel
theorem dX11_moves_24 : decode cX11_moves 24 = .ok (.if_icmp .lt 5, 3) := by decide +kernel
theorem dX11_moves_27 : decode cX11_moves 27 = .ok (.iconst (-1), 1) := by decide +kernel
theorem dX11_moves_28 : decode cX11_moves 28 = .ok (.ireturn, 1) := by decide +kernel
theorem dX11_moves_29 : decode cX11_moves 29 = .ok (.aload_n 0, 1) := by decide +kernel
theorem dX11_moves_30 : decode cX11_moves 30 = .ok (.getfield 55, 3) := by decide +kernel
theorem dX11_moves_33 : decode cX11_moves 33 = .ok (.aload 4, 2) := by decide +kernel
theorem dX11_moves_35 : decode cX11_moves 35 = .ok (.iload_n 2, 1) := by decide +kernel
theorem dX11_moves_36 : decode cX11_moves 36 = .ok (.invokevirtual 169, 3) := by decide +kernel
theorem dX11_moves_39 : decode cX11_moves 39 = .ok (.istore 5, 2) := by decide +kernel
theorem dX11_moves_41 : decode cX11_moves 41 = .ok (.iload 5, 2) := by decide +kernel
theorem dX11_moves_43 : decode cX11_moves 43 = .ok (.iconst (-1), 1) := by decide +kernel
theorem dX11_moves_44 : decode cX11_moves 44 = .ok (.if_icmp .eq 8, 3) := by decide +kernel
theorem dX11_moves_47 : decode cX11_moves 47 = .ok (.iload_n 3, 1) := by decide +kernel
theorem dX11_moves_48 : decode cX11_moves 48 = .ok (.iconst (-1), 1) := by decide +kernel
theorem dX11_moves_49 : decode cX11_moves 49 = .ok (.if_icmp .ne 6, 3) := by decide +kernel
theorem dX11_moves_52 : decode cX11_moves 52 = .ok (.iload 5, 2) := by decide +kernel
theorem dX11_moves_54 : decode cX11_moves 54 = .ok (.ireturn, 1) := by decide +kernel
theorem dX11_moves_55 : decode cX11_moves 55 = .ok (.aload_n 0, 1) := by decide +kernel
theorem dX11_moves_56 : decode cX11_moves 56 = .ok (.getfield 55, 3) := by decide +kernel
theorem dX11_moves_59 : decode cX11_moves 59 = .ok (.getfield 173, 3) := by decide +kernel
theorem dX11_moves_62 : decode cX11_moves 62 = .ok (.iload_n 3, 1) := by decide +kernel
theorem dX11_moves_63 : decode cX11_moves 63 = .ok (.iaload, 1) := by decide +kernel
theorem dX11_moves_64 : decode cX11_moves 64 = .ok (.ireturn, 1) := by decide +kernel
theorem dX10_nightsToTurn_0 : decode cX10_nightsToTurn 0 = .ok (.aload_n 0, 1) := by decide +kernel
theorem dX10_nightsToTurn_1 : decode cX10_nightsToTurn 1 = .ok (.getfield 12, 3) := by decide +kernel
theorem dX10_nightsToTurn_4 : decode cX10_nightsToTurn 4 = .ok (.aload_n 1, 1) := by decide +kernel
theorem dX10_nightsToTurn_5 : decode cX10_nightsToTurn 5 = .ok (.invokevirtual 25, 3) := by decide +kernel
theorem dX10_nightsToTurn_8 : decode cX10_nightsToTurn 8 = .ok (.aload_n 0, 1) := by decide +kernel
theorem dX10_nightsToTurn_9 : decode cX10_nightsToTurn 9 = .ok (.getfield 12, 3) := by decide +kernel
theorem dX10_nightsToTurn_12 : decode cX10_nightsToTurn 12 = .ok (.iload_n 2, 1) := by decide +kernel
theorem dX10_nightsToTurn_13 : decode cX10_nightsToTurn 13 = .ok (.invokevirtual 29, 3) := by decide +kernel
theorem dX10_nightsToTurn_16 : decode cX10_nightsToTurn 16 = .ok (.ifCond .le 7, 3) := by decide +kernel
theorem dX10_nightsToTurn_19 : decode cX10_nightsToTurn 19 = .ok (.iconst 1, 1) := by decide +kernel
theorem dX10_nightsToTurn_20 : decode cX10_nightsToTurn 20 = .ok (.goto 4, 3) := by decide +kernel
theorem dX10_nightsToTurn_23 : decode cX10_nightsToTurn 23 = .ok (.iconst 0, 1) := by decide +kernel
theorem dX10_nightsToTurn_24 : decode cX10_nightsToTurn 24 = .ok (.istore_n 3, 1) := by decide +kernel
theorem dX10_nightsToTurn_25 : decode cX10_nightsToTurn 25 = .ok (.iconst 1, 1) := by decide +kernel
theorem dX10_nightsToTurn_26 : decode cX10_nightsToTurn 26 = .ok (.istore 4, 2) := by decide +kernel
theorem dX10_nightsToTurn_28 : decode cX10_nightsToTurn 28 = .ok (.iload 4, 2) := by decide +kernel
theorem dX10_nightsToTurn_30 : decode cX10_nightsToTurn 30 = .ok (.bipush 40, 2) := by decide +kernel
theorem dX10_nightsToTurn_32 : decode cX10_nightsToTurn 32 = .ok (.if_icmp .gt 39, 3) := by decide +kernel
theorem dX10_nightsToTurn_35 : decode cX10_nightsToTurn 35 = .ok (.aload_n 0, 1) := by decide +kernel
theorem dX10_nightsToTurn_36 : decode cX10_nightsToTurn 36 = .ok (.getfield 12, 3) := by decide +kernel
theorem dX10_nightsToTurn_39 : decode cX10_nightsToTurn 39 = .ok (.invokevirtual 98, 3) := by decide +kernel
theorem dX10_nightsToTurn_42 : decode cX10_nightsToTurn 42 = .ok (.aload_n 0, 1) := by decide +kernel
theorem dX10_nightsToTurn_43 : decode cX10_nightsToTurn 43 = .ok (.getfield 12, 3) := by decide +kernel
theorem dX10_nightsToTurn_46 : decode cX10_nightsToTurn 46 = .ok (.iload_n 2, 1) := by decide +kernel
theorem dX10_nightsToTurn_47 : decode cX10_nightsToTurn 47 = .ok (.invokevirtual 29, 3) := by decide +kernel
theorem dX10_nightsToTurn_50 : decode cX10_nightsToTurn 50 = .ok (.ifCond .le 7, 3) := by decide +kernel
theorem dX10_nightsToTurn_53 : decode cX10_nightsToTurn 53 = .ok (.iconst 1, 1) := by decide +kernel
theorem dX10_nightsToTurn_54 : decode cX10_nightsToTurn 54 = .ok (.goto 4, 3) := by decide +kernel
theorem dX10_nightsToTurn_57 : decode cX10_nightsToTurn 57 = .ok (.iconst 0, 1) := by decide +kernel
theorem dX10_nightsToTurn_58 : decode cX10_nightsToTurn 58 = .ok (.iload_n 3, 1) := by decide +kernel
theorem dX10_nightsToTurn_59 : decode cX10_nightsToTurn 59 = .ok (.if_icmp .eq 6, 3) := by decide +kernel
theorem dX10_nightsToTurn_62 : decode cX10_nightsToTurn 62 = .ok (.iload 4, 2) := by decide +kernel
theorem dX10_nightsToTurn_64 : decode cX10_nightsToTurn 64 = .ok (.ireturn, 1) := by decide +kernel
theorem dX10_nightsToTurn_65 : decode cX10_nightsToTurn 65 = .ok (.iinc 4 1, 3) := by decide +kernel
theorem dX10_nightsToTurn_68 : decode cX10_nightsToTurn 68 = .ok (.goto (-40), 3) := by decide +kernel
theorem dX10_nightsToTurn_71 : decode cX10_nightsToTurn 71 = .ok (.iconst (-1), 1) := by decide +kernel
theorem dX10_nightsToTurn_72 : decode cX10_nightsToTurn 72 = .ok (.ireturn, 1) := by decide +kernel
theorem dX11_turn_0 : decode cX11_turn 0 = .ok (.aload_n 0, 1) := by decide +kernel
theorem dX11_turn_1 : decode cX11_turn 1 = .ok (.iload_n 1, 1) := by decide +kernel
theorem dX11_turn_2 : decode cX11_turn 2 = .ok (.iload_n 2, 1) := by decide +kernel
theorem dX11_turn_3 : decode cX11_turn 3 = .ok (.invokevirtual 115, 3) := by decide +kernel
theorem dX11_turn_6 : decode cX11_turn 6 = .ok (.astore_n 3, 1) := by decide +kernel
theorem dX11_turn_7 : decode cX11_turn 7 = .ok (.aload_n 3, 1) := by decide +kernel
theorem dX11_turn_8 : decode cX11_turn 8 = .ok (.ifnonnull 7, 3) := by decide +kernel
theorem dX11_turn_11 : decode cX11_turn 11 = .ok (.iconst (-1), 1) := by decide +kernel
theorem dX11_turn_12 : decode cX11_turn 12 = .ok (.goto 12, 3) := by decide +kernel
theorem dX11_turn_15 : decode cX11_turn 15 = .ok (.aload_n 0, 1) := by decide +kernel
theorem dX11_turn_16 : decode cX11_turn 16 = .ok (.getfield 48, 3) := by decide +kernel
theorem dX11_turn_19 : decode cX11_turn 19 = .ok (.aload_n 3, 1) := by decide +kernel
theorem dX11_turn_20 : decode cX11_turn 20 = .ok (.iload_n 2, 1) := by decide +kernel
theorem dX11_turn_21 : decode cX11_turn 21 = .ok (.invokevirtual 181, 3) := by decide +kernel
theorem dX11_turn_24 : decode cX11_turn 24 = .ok (.ireturn, 1) := by decide +kernel
theorem dX10_nearestOf_0 : decode cX10_nearestOf 0 = .ok (.iconst (-1), 1) := by decide +kernel
theorem dX10_nearestOf_1 : decode cX10_nearestOf 1 = .ok (.istore_n 3, 1) := by decide +kernel
theorem dX10_nearestOf_2 : decode cX10_nearestOf 2 = .ok (.bipush 7, 2) := by decide +kernel
theorem dX10_nearestOf_4 : decode cX10_nearestOf 4 = .ok (.istore 4, 2) := by decide +kernel
theorem dX10_nearestOf_6 : decode cX10_nearestOf 6 = .ok (.iconst 0, 1) := by decide +kernel
theorem dX10_nearestOf_7 : decode cX10_nearestOf 7 = .ok (.istore 5, 2) := by decide +kernel
theorem dX10_nearestOf_9 : decode cX10_nearestOf 9 = .ok (.iload 5, 2) := by decide +kernel
theorem dX10_nearestOf_11 : decode cX10_nearestOf 11 = .ok (.bipush 64, 2) := by decide +kernel
theorem dX10_nearestOf_13 : decode cX10_nearestOf 13 = .ok (.if_icmp .ge 41, 3) := by decide +kernel
theorem dX10_nearestOf_16 : decode cX10_nearestOf 16 = .ok (.iload 5, 2) := by decide +kernel
theorem dX10_nearestOf_18 : decode cX10_nearestOf 18 = .ok (.iload_n 2, 1) := by decide +kernel
theorem dX10_nearestOf_19 : decode cX10_nearestOf 19 = .ok (.ixor, 1) := by decide +kernel
theorem dX10_nearestOf_20 : decode cX10_nearestOf 20 = .ok (.invokestatic 60, 3) := by decide +kernel
theorem dX10_nearestOf_23 : decode cX10_nearestOf 23 = .ok (.istore 6, 2) := by decide +kernel
theorem dX10_nearestOf_25 : decode cX10_nearestOf 25 = .ok (.iload 6, 2) := by decide +kernel
theorem dX10_nearestOf_27 : decode cX10_nearestOf 27 = .ok (.iload 4, 2) := by decide +kernel
theorem dX10_nearestOf_29 : decode cX10_nearestOf 29 = .ok (.if_icmp .ge 19, 3) := by decide +kernel
theorem dX10_nearestOf_32 : decode cX10_nearestOf 32 = .ok (.lload_n 0, 1) := by decide +kernel
theorem dX10_nearestOf_33 : decode cX10_nearestOf 33 = .ok (.iload 5, 2) := by decide +kernel
theorem dX10_nearestOf_35 : decode cX10_nearestOf 35 = .ok (.invokestatic 56, 3) := by decide +kernel
theorem dX10_nearestOf_38 : decode cX10_nearestOf 38 = .ok (.ifCond .eq 10, 3) := by decide +kernel
theorem dX10_nearestOf_41 : decode cX10_nearestOf 41 = .ok (.iload 6, 2) := by decide +kernel
theorem dX10_nearestOf_43 : decode cX10_nearestOf 43 = .ok (.istore 4, 2) := by decide +kernel
theorem dX10_nearestOf_45 : decode cX10_nearestOf 45 = .ok (.iload 5, 2) := by decide +kernel
theorem dX10_nearestOf_47 : decode cX10_nearestOf 47 = .ok (.istore_n 3, 1) := by decide +kernel
theorem dX10_nearestOf_48 : decode cX10_nearestOf 48 = .ok (.iinc 5 1, 3) := by decide +kernel
theorem dX10_nearestOf_51 : decode cX10_nearestOf 51 = .ok (.goto (-42), 3) := by decide +kernel
theorem dX10_nearestOf_54 : decode cX10_nearestOf 54 = .ok (.iload_n 3, 1) := by decide +kernel
theorem dX10_nearestOf_55 : decode cX10_nearestOf 55 = .ok (.ireturn, 1) := by decide +kernel
theorem dX11_nearest_0 : decode cX11_nearest 0 = .ok (.aload_n 0, 1) := by decide +kernel
theorem dX11_nearest_1 : decode cX11_nearest 1 = .ok (.iload_n 1, 1) := by decide +kernel
theorem dX11_nearest_2 : decode cX11_nearest 2 = .ok (.iload_n 2, 1) := by decide +kernel
theorem dX11_nearest_3 : decode cX11_nearest 3 = .ok (.invokevirtual 115, 3) := by decide +kernel
theorem dX11_nearest_6 : decode cX11_nearest 6 = .ok (.astore_n 3, 1) := by decide +kernel
theorem dX11_nearest_7 : decode cX11_nearest 7 = .ok (.aload_n 3, 1) := by decide +kernel
theorem dX11_nearest_8 : decode cX11_nearest 8 = .ok (.ifnonnull 7, 3) := by decide +kernel
theorem dX11_nearest_11 : decode cX11_nearest 11 = .ok (.iconst (-1), 1) := by decide +kernel
theorem dX11_nearest_12 : decode cX11_nearest 12 = .ok (.goto 15, 3) := by decide +kernel
theorem dX11_nearest_15 : decode cX11_nearest 15 = .ok (.aload_n 0, 1) := by decide +kernel
theorem dX11_nearest_16 : decode cX11_nearest 16 = .ok (.getfield 48, 3) := by decide +kernel
theorem dX11_nearest_19 : decode cX11_nearest 19 = .ok (.aload_n 3, 1) := by decide +kernel
theorem dX11_nearest_20 : decode cX11_nearest 20 = .ok (.invokevirtual 158, 3) := by decide +kernel
theorem dX11_nearest_23 : decode cX11_nearest 23 = .ok (.iload_n 2, 1) := by decide +kernel
theorem dX11_nearest_24 : decode cX11_nearest 24 = .ok (.invokestatic 184, 3) := by decide +kernel
theorem dX11_nearest_27 : decode cX11_nearest 27 = .ok (.ireturn, 1) := by decide +kernel
theorem dX2_sounds_0 : decode cX2_sounds 0 = .ok (.aload_n 0, 1) := by decide +kernel
theorem dX2_sounds_1 : decode cX2_sounds 1 = .ok (.getfield 12, 3) := by decide +kernel
theorem dX2_sounds_4 : decode cX2_sounds 4 = .ok (.iload_n 1, 1) := by decide +kernel
theorem dX2_sounds_5 : decode cX2_sounds 5 = .ok (.invokevirtual 61, 3) := by decide +kernel
theorem dX2_sounds_8 : decode cX2_sounds 8 = .ok (.ifCond .eq 25, 3) := by decide +kernel
theorem dX2_sounds_11 : decode cX2_sounds 11 = .ok (.aload_n 0, 1) := by decide +kernel
theorem dX2_sounds_12 : decode cX2_sounds 12 = .ok (.iload_n 1, 1) := by decide +kernel
theorem dX2_sounds_13 : decode cX2_sounds 13 = .ok (.iload_n 2, 1) := by decide +kernel
theorem dX2_sounds_14 : decode cX2_sounds 14 = .ok (.invokevirtual 95, 3) := by decide +kernel
theorem dX2_sounds_17 : decode cX2_sounds 17 = .ok (.aload_n 0, 1) := by decide +kernel
theorem dX2_sounds_18 : decode cX2_sounds 18 = .ok (.getfield 12, 3) := by decide +kernel
theorem dX2_sounds_21 : decode cX2_sounds 21 = .ok (.getfield 98, 3) := by decide +kernel
theorem dX2_sounds_24 : decode cX2_sounds 24 = .ok (.iload_n 1, 1) := by decide +kernel
theorem dX2_sounds_25 : decode cX2_sounds 25 = .ok (.iaload, 1) := by decide +kernel
theorem dX2_sounds_26 : decode cX2_sounds 26 = .ok (.if_icmp .lt 7, 3) := by decide +kernel
theorem dX2_sounds_29 : decode cX2_sounds 29 = .ok (.iconst 1, 1) := by decide +kernel
theorem dX2_sounds_30 : decode cX2_sounds 30 = .ok (.goto 4, 3) := by decide +kernel
theorem dX2_sounds_33 : decode cX2_sounds 33 = .ok (.iconst 0, 1) := by decide +kernel
theorem dX2_sounds_34 : decode cX2_sounds 34 = .ok (.ireturn, 1) := by decide +kernel
theorem dX5_wins_0 : decode cX5_wins 0 = .ok (.iload_n 1, 1) := by decide +kernel
theorem dX5_wins_1 : decode cX5_wins 1 = .ok (.ifCond .lt 31, 3) := by decide +kernel
theorem dX5_wins_4 : decode cX5_wins 4 = .ok (.iload_n 1, 1) := by decide +kernel
theorem dX5_wins_5 : decode cX5_wins 5 = .ok (.aload_n 0, 1) := by decide +kernel
theorem dX5_wins_6 : decode cX5_wins 6 = .ok (.getfield 18, 3) := by decide +kernel
theorem dX5_wins_9 : decode cX5_wins 9 = .ok (.arraylength, 1) := by decide +kernel
theorem dX5_wins_10 : decode cX5_wins 10 = .ok (.if_icmp .ge 22, 3) := by decide +kernel
theorem dX5_wins_13 : decode cX5_wins 13 = .ok (.iconst 2, 1) := by decide +kernel
theorem dX5_wins_14 : decode cX5_wins 14 = .ok (.aload_n 0, 1) := by decide +kernel
theorem dX5_wins_15 : decode cX5_wins 15 = .ok (.getfield 18, 3) := by decide +kernel
theorem dX5_wins_18 : decode cX5_wins 18 = .ok (.iload_n 1, 1) := by decide +kernel
theorem dX5_wins_19 : decode cX5_wins 19 = .ok (.iaload, 1) := by decide +kernel
theorem dX5_wins_20 : decode cX5_wins 20 = .ok (.imul, 1) := by decide +kernel
theorem dX5_wins_21 : decode cX5_wins 21 = .ok (.aload_n 0, 1) := by decide +kernel
theorem dX5_wins_22 : decode cX5_wins 22 = .ok (.getfield 32, 3) := by decide +kernel
theorem dX5_wins_25 : decode cX5_wins 25 = .ok (.if_icmp .le 7, 3) := by decide +kernel
theorem dX5_wins_28 : decode cX5_wins 28 = .ok (.iconst 1, 1) := by decide +kernel
theorem dX5_wins_29 : decode cX5_wins 29 = .ok (.goto 4, 3) := by decide +kernel
theorem dX5_wins_32 : decode cX5_wins 32 = .ok (.iconst 0, 1) := by decide +kernel
theorem dX5_wins_33 : decode cX5_wins 33 = .ok (.ireturn, 1) := by decide +kernel
theorem dX5_isSwing_0 : decode cX5_isSwing 0 = .ok (.iconst 1, 1) := by decide +kernel
theorem dX5_isSwing_1 : decode cX5_isSwing 1 = .ok (.iload_n 2, 1) := by decide +kernel
theorem dX5_isSwing_2 : decode cX5_isSwing 2 = .ok (.ishl, 1) := by decide +kernel
theorem dX5_isSwing_3 : decode cX5_isSwing 3 = .ok (.istore_n 3, 1) := by decide +kernel
theorem dX5_isSwing_4 : decode cX5_isSwing 4 = .ok (.iload_n 1, 1) := by decide +kernel
theorem dX5_isSwing_5 : decode cX5_isSwing 5 = .ok (.iload_n 3, 1) := by decide +kernel
theorem dX5_isSwing_6 : decode cX5_isSwing 6 = .ok (.iand, 1) := by decide +kernel
theorem dX5_isSwing_7 : decode cX5_isSwing 7 = .ok (.ifCond .ne 25, 3) := by decide +kernel
theorem dX5_isSwing_10 : decode cX5_isSwing 10 = .ok (.aload_n 0, 1) := by decide +kernel
theorem dX5_isSwing_11 : decode cX5_isSwing 11 = .ok (.iload_n 1, 1) := by decide +kernel
theorem dX5_isSwing_12 : decode cX5_isSwing 12 = .ok (.invokevirtual 39, 3) := by decide +kernel
theorem dX5_isSwing_15 : decode cX5_isSwing 15 = .ok (.ifCond .ne 17, 3) := by decide +kernel
theorem dX5_isSwing_18 : decode cX5_isSwing 18 = .ok (.aload_n 0, 1) := by decide +kernel
theorem dX5_isSwing_19 : decode cX5_isSwing 19 = .ok (.iload_n 1, 1) := by decide +kernel
theorem dX5_isSwing_20 : decode cX5_isSwing 20 = .ok (.iload_n 3, 1) := by decide +kernel
theorem dX5_isSwing_21 : decode cX5_isSwing 21 = .ok (.ior, 1) := by decide +kernel
theorem dX5_isSwing_22 : decode cX5_isSwing 22 = .ok (.invokevirtual 39, 3) := by decide +kernel
theorem dX5_isSwing_25 : decode cX5_isSwing 25 = .ok (.ifCond .eq 7, 3) := by decide +kernel
theorem dX5_isSwing_28 : decode cX5_isSwing 28 = .ok (.iconst 1, 1) := by decide +kernel
theorem dX5_isSwing_29 : decode cX5_isSwing 29 = .ok (.goto 4, 3) := by decide +kernel
theorem dX5_isSwing_32 : decode cX5_isSwing 32 = .ok (.iconst 0, 1) := by decide +kernel
theorem dX5_isSwing_33 : decode cX5_isSwing 33 = .ok (.ireturn, 1) := by decide +kernel
theorem dX5_countSwings_0 : decode cX5_countSwings 0 = .ok (.iconst 0, 1) := by decide +kernel
theorem dX5_countSwings_1 : decode cX5_countSwings 1 = .ok (.istore_n 2, 1) := by decide +kernel
theorem dX5_countSwings_2 : decode cX5_countSwings 2 = .ok (.iconst 0, 1) := by decide +kernel
theorem dX5_countSwings_3 : decode cX5_countSwings 3 = .ok (.istore_n 3, 1) := by decide +kernel
theorem dX5_countSwings_4 : decode cX5_countSwings 4 = .ok (.iload_n 3, 1) := by decide +kernel
theorem dX5_countSwings_5 : decode cX5_countSwings 5 = .ok (.aload_n 0, 1) := by decide +kernel
theorem dX5_countSwings_6 : decode cX5_countSwings 6 = .ok (.getfield 28, 3) := by decide +kernel
theorem dX5_countSwings_9 : decode cX5_countSwings 9 = .ok (.if_icmp .ge 21, 3) := by decide +kernel
theorem dX5_countSwings_12 : decode cX5_countSwings 12 = .ok (.aload_n 0, 1) := by decide +kernel
theorem dX5_countSwings_13 : decode cX5_countSwings 13 = .ok (.iload_n 3, 1) := by decide +kernel
theorem dX5_countSwings_14 : decode cX5_countSwings 14 = .ok (.iload_n 1, 1) := by decide +kernel
theorem dX5_countSwings_15 : decode cX5_countSwings 15 = .ok (.invokevirtual 43, 3) := by decide +kernel
theorem dX5_countSwings_18 : decode cX5_countSwings 18 = .ok (.ifCond .eq 6, 3) := by decide +kernel
theorem dX5_countSwings_21 : decode cX5_countSwings 21 = .ok (.iinc 2 1, 3) := by decide +kernel
theorem dX5_countSwings_24 : decode cX5_countSwings 24 = .ok (.iinc 3 1, 3) := by decide +kernel
theorem dX5_countSwings_27 : decode cX5_countSwings 27 = .ok (.goto (-23), 3) := by decide +kernel
theorem dX5_countSwings_30 : decode cX5_countSwings 30 = .ok (.iload_n 2, 1) := by decide +kernel
theorem dX5_countSwings_31 : decode cX5_countSwings 31 = .ok (.ireturn, 1) := by decide +kernel
