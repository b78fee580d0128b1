theorem dX1_putThree_0 : decode cX1_putThree 0 = .ok (.aload_n 0, 1) := by decide +kernel
theorem dX1_putThree_1 : decode cX1_putThree 1 = .ok (.aload_n 1, 1) := by decide +kernel
theorem dX1_putThree_2 : decode cX1_putThree 2 = .ok (.invokevirtual 48, 3) := by decide +kernel
theorem dX1_putThree_5 : decode cX1_putThree 5 = .ok (.aload_n 0, 1) := by decide +kernel
theorem dX1_putThree_6 : decode cX1_putThree 6 = .ok (.iload_n 2, 1) := by decide +kernel
theorem dX1_putThree_7 : decode cX1_putThree 7 = .ok (.invokevirtual 78, 3) := by decide +kernel
theorem dX1_putThree_10 : decode cX1_putThree 10 = .ok (.aload_n 0, 1) := by decide +kernel
theorem dX1_putThree_11 : decode cX1_putThree 11 = .ok (.iload_n 3, 1) := by decide +kernel
theorem dX1_putThree_12 : decode cX1_putThree 12 = .ok (.invokevirtual 78, 3) := by decide +kernel
theorem dX1_putThree_15 : decode cX1_putThree 15 = .ok (.aload_n 0, 1) := by decide +kernel
theorem dX1_putThree_16 : decode cX1_putThree 16 = .ok (.iload 4, 2) := by decide +kernel
theorem dX1_putThree_18 : decode cX1_putThree 18 = .ok (.invokevirtual 78, 3) := by decide +kernel
theorem dX1_putThree_21 : decode cX1_putThree 21 = .ok (.aload_n 0, 1) := by decide +kernel
theorem dX1_putThree_22 : decode cX1_putThree 22 = .ok (.getfield 30, 3) := by decide +kernel
theorem dX1_putThree_25 : decode cX1_putThree 25 = .ok (.ireturn, 1) := by decide +kernel
theorem dX10_chancesOf_0 : decode cX10_chancesOf 0 = .ok (.lconst 0, 1) := by decide +kernel
theorem dX10_chancesOf_1 : decode cX10_chancesOf 1 = .ok (.lstore_n 3, 1) := by decide +kernel
theorem dX10_chancesOf_2 : decode cX10_chancesOf 2 = .ok (.iconst 0, 1) := by decide +kernel
theorem dX10_chancesOf_3 : decode cX10_chancesOf 3 = .ok (.istore 5, 2) := by decide +kernel
theorem dX10_chancesOf_5 : decode cX10_chancesOf 5 = .ok (.iload 5, 2) := by decide +kernel
theorem dX10_chancesOf_7 : decode cX10_chancesOf 7 = .ok (.bipush 64, 2) := by decide +kernel
theorem dX10_chancesOf_9 : decode cX10_chancesOf 9 = .ok (.if_icmp .ge 67, 3) := by decide +kernel
theorem dX10_chancesOf_12 : decode cX10_chancesOf 12 = .ok (.lload_n 0, 1) := by decide +kernel
theorem dX10_chancesOf_13 : decode cX10_chancesOf 13 = .ok (.iload 5, 2) := by decide +kernel
theorem dX10_chancesOf_15 : decode cX10_chancesOf 15 = .ok (.invokestatic 56, 3) := by decide +kernel
theorem dX10_chancesOf_18 : decode cX10_chancesOf 18 = .ok (.ifCond .eq 52, 3) := by decide +kernel
theorem dX10_chancesOf_21 : decode cX10_chancesOf 21 = .ok (.lconst 1, 1) := by decide +kernel
theorem dX10_chancesOf_22 : decode cX10_chancesOf 22 = .ok (.lstore 6, 2) := by decide +kernel
theorem dX10_chancesOf_24 : decode cX10_chancesOf 24 = .ok (.iconst 0, 1) := by decide +kernel
theorem dX10_chancesOf_25 : decode cX10_chancesOf 25 = .ok (.istore 8, 2) := by decide +kernel
theorem dX10_chancesOf_27 : decode cX10_chancesOf 27 = .ok (.iload 8, 2) := by decide +kernel
theorem dX10_chancesOf_29 : decode cX10_chancesOf 29 = .ok (.bipush 6, 2) := by decide +kernel
theorem dX10_chancesOf_31 : decode cX10_chancesOf 31 = .ok (.if_icmp .ge 34, 3) := by decide +kernel
theorem dX10_chancesOf_34 : decode cX10_chancesOf 34 = .ok (.lload 6, 2) := by decide +kernel
theorem dX10_chancesOf_36 : decode cX10_chancesOf 36 = .ok (.iload 5, 2) := by decide +kernel
theorem dX10_chancesOf_38 : decode cX10_chancesOf 38 = .ok (.iload 8, 2) := by decide +kernel
theorem dX10_chancesOf_40 : decode cX10_chancesOf 40 = .ok (.ishr, 1) := by decide +kernel
theorem dX10_chancesOf_41 : decode cX10_chancesOf 41 = .ok (.iconst 1, 1) := by decide +kernel
theorem dX10_chancesOf_42 : decode cX10_chancesOf 42 = .ok (.iand, 1) := by decide +kernel
theorem dX10_chancesOf_43 : decode cX10_chancesOf 43 = .ok (.ifCond .eq 8, 3) := by decide +kernel
theorem dX10_chancesOf_46 : decode cX10_chancesOf 46 = .ok (.iload_n 2, 1) := by decide +kernel
theorem dX10_chancesOf_47 : decode cX10_chancesOf 47 = .ok (.i2l, 1) := by decide +kernel
theorem dX10_chancesOf_48 : decode cX10_chancesOf 48 = .ok (.goto 8, 3) := by decide +kernel
theorem dX10_chancesOf_51 : decode cX10_chancesOf 51 = .ok (.bipush 10, 2) := by decide +kernel
theorem dX10_chancesOf_53 : decode cX10_chancesOf 53 = .ok (.iload_n 2, 1) := by decide +kernel
theorem dX10_chancesOf_54 : decode cX10_chancesOf 54 = .ok (.isub, 1) := by decide +kernel
theorem dX10_chancesOf_55 : decode cX10_chancesOf 55 = .ok (.i2l, 1) := by decide +kernel
theorem dX10_chancesOf_56 : decode cX10_chancesOf 56 = .ok (.lmul, 1) := by decide +kernel
theorem dX10_chancesOf_57 : decode cX10_chancesOf 57 = .ok (.lstore 6, 2) := by decide +kernel
theorem dX10_chancesOf_59 : decode cX10_chancesOf 59 = .ok (.iinc 8 1, 3) := by decide +kernel
theorem dX10_chancesOf_62 : decode cX10_chancesOf 62 = .ok (.goto (-35), 3) := by decide +kernel
theorem dX10_chancesOf_65 : decode cX10_chancesOf 65 = .ok (.lload_n 3, 1) := by decide +kernel
theorem dX10_chancesOf_66 : decode cX10_chancesOf 66 = .ok (.lload 6, 2) := by decide +kernel
theorem dX10_chancesOf_68 : decode cX10_chancesOf 68 = .ok (.ladd, 1) := by decide +kernel
theorem dX10_chancesOf_69 : decode cX10_chancesOf 69 = .ok (.lstore_n 3, 1) := by decide +kernel
theorem dX10_chancesOf_70 : decode cX10_chancesOf 70 = .ok (.iinc 5 1, 3) := by decide +kernel
theorem dX10_chancesOf_73 : decode cX10_chancesOf 73 = .ok (.goto (-68), 3) := by decide +kernel
theorem dX10_chancesOf_76 : decode cX10_chancesOf 76 = .ok (.lload_n 3, 1) := by decide +kernel
theorem dX10_chancesOf_77 : decode cX10_chancesOf 77 = .ok (.lreturn, 1) := by decide +kernel
theorem dX11_odds_0 : decode cX11_odds 0 = .ok (.aload_n 0, 1) := by decide +kernel
theorem dX11_odds_1 : decode cX11_odds 1 = .ok (.getfield 10, 3) := by decide +kernel
theorem dX11_odds_4 : decode cX11_odds 4 = .ok (.iload_n 1, 1) := by decide +kernel
theorem dX11_odds_5 : decode cX11_odds 5 = .ok (.invokevirtual 105, 3) := by decide +kernel
theorem dX11_odds_8 : decode cX11_odds 8 = .ok (.astore 4, 2) := by decide +kernel
theorem dX11_odds_10 : decode cX11_odds 10 = .ok (.aload 4, 2) := by decide +kernel
theorem dX11_odds_12 : decode cX11_odds 12 = .ok (.ifnull 13, 3) := by decide +kernel
theorem dX11_odds_15 : decode cX11_odds 15 = .ok (.iload_n 2, 1) := by decide +kernel
theorem dX11_odds_16 : decode cX11_odds 16 = .ok (.ifCond .lt 9, 3) := by decide +kernel
theorem dX11_odds_19 : decode cX11_odds 19 = .ok (.iload_n 2, 1) := by decide +kernel
theorem dX11_odds_20 : decode cX11_odds 20 = .ok (.bipush 10, 2) := by decide +kernel
theorem dX11_odds_22 : decode cX11_odds 22 = .ok (.if_icmp .le 7, 3) := by decide +kernel
theorem dX11_odds_25 : decode cX11_odds 25 = .ok (.ldc2_w 209, 3) := by decide +kernel
theorem dX11_odds_28 : decode cX11_odds 28 = .ok (.lreturn, 1) := by decide +kernel
theorem dX11_odds_29 : decode cX11_odds 29 = .ok (.aload_n 0, 1) := by decide +kernel
theorem dX11_odds_30 : decode cX11_odds 30 = .ok (.getfield 48, 3) := by decide +kernel
theorem dX11_odds_33 : decode cX11_odds 33 = .ok (.aload 4, 2) := by decide +kernel
theorem dX11_odds_35 : decode cX11_odds 35 = .ok (.invokevirtual 158, 3) := by decide +kernel
theorem dX11_odds_38 : decode cX11_odds 38 = .ok (.iload_n 2, 1) := by decide +kernel
theorem dX11_odds_39 : decode cX11_odds 39 = .ok (.invokestatic 295, 3) := by decide +kernel
theorem dX11_odds_42 : decode cX11_odds 42 = .ok (.lstore 5, 2) := by decide +kernel
theorem dX11_odds_44 : decode cX11_odds 44 = .ok (.lload 5, 2) := by decide +kernel
theorem dX11_odds_46 : decode cX11_odds 46 = .ok (.bipush 6, 2) := by decide +kernel
theorem dX11_odds_48 : decode cX11_odds 48 = .ok (.invokestatic 215, 3) := by decide +kernel
theorem dX11_odds_51 : decode cX11_odds 51 = .ok (.iload_n 3, 1) := by decide +kernel
theorem dX11_odds_52 : decode cX11_odds 52 = .ok (.invokestatic 219, 3) := by decide +kernel
theorem dX11_odds_55 : decode cX11_odds 55 = .ok (.lreturn, 1) := by decide +kernel
theorem dX5_difference_0 : decode cX5_difference 0 = .ok (.iload_n 1, 1) := by decide +kernel
theorem dX5_difference_1 : decode cX5_difference 1 = .ok (.ifCond .lt 31, 3) := by decide +kernel
theorem dX5_difference_4 : decode cX5_difference 4 = .ok (.iload_n 1, 1) := by decide +kernel
theorem dX5_difference_5 : decode cX5_difference 5 = .ok (.aload_n 0, 1) := by decide +kernel
theorem dX5_difference_6 : decode cX5_difference 6 = .ok (.getfield 18, 3) := by decide +kernel
theorem dX5_difference_9 : decode cX5_difference 9 = .ok (.arraylength, 1) := by decide +kernel
theorem dX5_difference_10 : decode cX5_difference 10 = .ok (.if_icmp .ge 22, 3) := by decide +kernel
theorem dX5_difference_13 : decode cX5_difference 13 = .ok (.aload_n 0, 1) := by decide +kernel
theorem dX5_difference_14 : decode cX5_difference 14 = .ok (.getfield 32, 3) := by decide +kernel
theorem dX5_difference_17 : decode cX5_difference 17 = .ok (.iconst 2, 1) := by decide +kernel
theorem dX5_difference_18 : decode cX5_difference 18 = .ok (.aload_n 0, 1) := by decide +kernel
theorem dX5_difference_19 : decode cX5_difference 19 = .ok (.getfield 18, 3) := by decide +kernel
theorem dX5_difference_22 : decode cX5_difference 22 = .ok (.iload_n 1, 1) := by decide +kernel
theorem dX5_difference_23 : decode cX5_difference 23 = .ok (.iaload, 1) := by decide +kernel
theorem dX5_difference_24 : decode cX5_difference 24 = .ok (.imul, 1) := by decide +kernel
theorem dX5_difference_25 : decode cX5_difference 25 = .ok (.isub, 1) := by decide +kernel
theorem dX5_difference_26 : decode cX5_difference 26 = .ok (.invokestatic 59, 3) := by decide +kernel
theorem dX5_difference_29 : decode cX5_difference 29 = .ok (.goto 4, 3) := by decide +kernel
theorem dX5_difference_32 : decode cX5_difference 32 = .ok (.iconst (-1), 1) := by decide +kernel
theorem dX5_difference_33 : decode cX5_difference 33 = .ok (.ireturn, 1) := by decide +kernel
theorem dX5_evenestSet_0 : decode cX5_evenestSet 0 = .ok (.iconst 0, 1) := by decide +kernel
theorem dX5_evenestSet_1 : decode cX5_evenestSet 1 = .ok (.istore_n 1, 1) := by decide +kernel
theorem dX5_evenestSet_2 : decode cX5_evenestSet 2 = .ok (.iconst 1, 1) := by decide +kernel
theorem dX5_evenestSet_3 : decode cX5_evenestSet 3 = .ok (.istore_n 2, 1) := by decide +kernel
theorem dX5_evenestSet_4 : decode cX5_evenestSet 4 = .ok (.iload_n 2, 1) := by decide +kernel
theorem dX5_evenestSet_5 : decode cX5_evenestSet 5 = .ok (.aload_n 0, 1) := by decide +kernel
theorem dX5_evenestSet_6 : decode cX5_evenestSet 6 = .ok (.getfield 28, 3) := by decide +kernel
theorem dX5_evenestSet_9 : decode cX5_evenestSet 9 = .ok (.if_icmp .ge 24, 3) := by decide +kernel
theorem dX5_evenestSet_12 : decode cX5_evenestSet 12 = .ok (.aload_n 0, 1) := by decide +kernel
theorem dX5_evenestSet_13 : decode cX5_evenestSet 13 = .ok (.iload_n 2, 1) := by decide +kernel
theorem dX5_evenestSet_14 : decode cX5_evenestSet 14 = .ok (.invokevirtual 64, 3) := by decide +kernel
theorem dX5_evenestSet_17 : decode cX5_evenestSet 17 = .ok (.aload_n 0, 1) := by decide +kernel
theorem dX5_evenestSet_18 : decode cX5_evenestSet 18 = .ok (.iload_n 1, 1) := by decide +kernel
theorem dX5_evenestSet_19 : decode cX5_evenestSet 19 = .ok (.invokevirtual 64, 3) := by decide +kernel
theorem dX5_evenestSet_22 : decode cX5_evenestSet 22 = .ok (.if_icmp .ge 5, 3) := by decide +kernel
theorem dX5_evenestSet_25 : decode cX5_evenestSet 25 = .ok (.iload_n 2, 1) := by decide +kernel
theorem dX5_evenestSet_26 : decode cX5_evenestSet 26 = .ok (.istore_n 1, 1) := by decide +kernel
theorem dX5_evenestSet_27 : decode cX5_evenestSet 27 = .ok (.iinc 2 1, 3) := by decide +kernel
theorem dX5_evenestSet_30 : decode cX5_evenestSet 30 = .ok (.goto (-26), 3) := by decide +kernel
theorem dX5_evenestSet_33 : decode cX5_evenestSet 33 = .ok (.iload_n 1, 1) := by decide +kernel
theorem dX5_evenestSet_34 : decode cX5_evenestSet 34 = .ok (.ireturn, 1) := by decide +kernel
theorem dX5_vetoes_0 : decode cX5_vetoes 0 = .ok (.iconst 0, 1) := by decide +kernel
theorem dX5_vetoes_1 : decode cX5_vetoes 1 = .ok (.istore_n 1, 1) := by decide +kernel
theorem dX5_vetoes_2 : decode cX5_vetoes 2 = .ok (.iconst 0, 1) := by decide +kernel
theorem dX5_vetoes_3 : decode cX5_vetoes 3 = .ok (.istore_n 2, 1) := by decide +kernel
theorem dX5_vetoes_4 : decode cX5_vetoes 4 = .ok (.iload_n 2, 1) := by decide +kernel
theorem dX5_vetoes_5 : decode cX5_vetoes 5 = .ok (.aload_n 0, 1) := by decide +kernel
theorem dX5_vetoes_6 : decode cX5_vetoes 6 = .ok (.getfield 27, 3) := by decide +kernel
theorem dX5_vetoes_9 : decode cX5_vetoes 9 = .ok (.if_icmp .ge 32, 3) := by decide +kernel
theorem dX5_vetoes_12 : decode cX5_vetoes 12 = .ok (.aload_n 0, 1) := by decide +kernel
theorem dX5_vetoes_13 : decode cX5_vetoes 13 = .ok (.aload_n 0, 1) := by decide +kernel
theorem dX5_vetoes_14 : decode cX5_vetoes 14 = .ok (.getfield 28, 3) := by decide +kernel
theorem dX5_vetoes_17 : decode cX5_vetoes 17 = .ok (.iconst 1, 1) := by decide +kernel
theorem dX5_vetoes_18 : decode cX5_vetoes 18 = .ok (.isub, 1) := by decide +kernel
theorem dX5_vetoes_19 : decode cX5_vetoes 19 = .ok (.iconst 1, 1) := by decide +kernel
theorem dX5_vetoes_20 : decode cX5_vetoes 20 = .ok (.iload_n 2, 1) := by decide +kernel
theorem dX5_vetoes_21 : decode cX5_vetoes 21 = .ok (.ishl, 1) := by decide +kernel
theorem dX5_vetoes_22 : decode cX5_vetoes 22 = .ok (.isub, 1) := by decide +kernel
theorem dX5_vetoes_23 : decode cX5_vetoes 23 = .ok (.invokevirtual 39, 3) := by decide +kernel
theorem dX5_vetoes_26 : decode cX5_vetoes 26 = .ok (.ifCond .ne 9, 3) := by decide +kernel
theorem dX5_vetoes_29 : decode cX5_vetoes 29 = .ok (.iload_n 1, 1) := by decide +kernel
theorem dX5_vetoes_30 : decode cX5_vetoes 30 = .ok (.iconst 1, 1) := by decide +kernel
theorem dX5_vetoes_31 : decode cX5_vetoes 31 = .ok (.iload_n 2, 1) := by decide +kernel
theorem dX5_vetoes_32 : decode cX5_vetoes 32 = .ok (.ishl, 1) := by decide +kernel
theorem dX5_vetoes_33 : decode cX5_vetoes 33 = .ok (.ior, 1) := by decide +kernel
theorem dX5_vetoes_34 : decode cX5_vetoes 34 = .ok (.istore_n 1, 1) := by decide +kernel
theorem dX5_vetoes_35 : decode cX5_vetoes 35 = .ok (.iinc 2 1, 3) := by decide +kernel
theorem dX5_vetoes_38 : decode cX5_vetoes 38 = .ok (.goto (-34), 3) := by decide +kernel
theorem dX5_vetoes_41 : decode cX5_vetoes 41 = .ok (.iload_n 1, 1) := by decide +kernel
theorem dX5_vetoes_42 : decode cX5_vetoes 42 = .ok (.ireturn, 1) := by decide +kernel
theorem dX5_idle_0 : decode cX5_idle 0 = .ok (.iconst 0, 1) := by decide +kernel
theorem dX5_idle_1 : decode cX5_idle 1 = .ok (.istore_n 1, 1) := by decide +kernel
theorem dX5_idle_2 : decode cX5_idle 2 = .ok (.iconst 0, 1) := by decide +kernel
theorem dX5_idle_3 : decode cX5_idle 3 = .ok (.istore_n 2, 1) := by decide +kernel
theorem dX5_idle_4 : decode cX5_idle 4 = .ok (.iload_n 2, 1) := by decide +kernel
theorem dX5_idle_5 : decode cX5_idle 5 = .ok (.aload_n 0, 1) := by decide +kernel
theorem dX5_idle_6 : decode cX5_idle 6 = .ok (.getfield 27, 3) := by decide +kernel
theorem dX5_idle_9 : decode cX5_idle 9 = .ok (.if_icmp .ge 24, 3) := by decide +kernel
theorem dX5_idle_12 : decode cX5_idle 12 = .ok (.aload_n 0, 1) := by decide +kernel
theorem dX5_idle_13 : decode cX5_idle 13 = .ok (.getfield 9, 3) := by decide +kernel
theorem dX5_idle_16 : decode cX5_idle 16 = .ok (.iload_n 2, 1) := by decide +kernel
theorem dX5_idle_17 : decode cX5_idle 17 = .ok (.iaload, 1) := by decide +kernel
theorem dX5_idle_18 : decode cX5_idle 18 = .ok (.ifCond .ne 9, 3) := by decide +kernel
theorem dX5_idle_21 : decode cX5_idle 21 = .ok (.iload_n 1, 1) := by decide +kernel
theorem dX5_idle_22 : decode cX5_idle 22 = .ok (.iconst 1, 1) := by decide +kernel
theorem dX5_idle_23 : decode cX5_idle 23 = .ok (.iload_n 2, 1) := by decide +kernel
theorem dX5_idle_24 : decode cX5_idle 24 = .ok (.ishl, 1) := by decide +kernel
theorem dX5_idle_25 : decode cX5_idle 25 = .ok (.ior, 1) := by decide +kernel
theorem dX5_idle_26 : decode cX5_idle 26 = .ok (.istore_n 1, 1) := by decide +kernel
theorem dX5_idle_27 : decode cX5_idle 27 = .ok (.iinc 2 1, 3) := by decide +kernel
theorem dX5_idle_30 : decode cX5_idle 30 = .ok (.goto (-26), 3) := by decide +kernel
theorem dX5_idle_33 : decode cX5_idle 33 = .ok (.iload_n 1, 1) := by decide +kernel
theorem dX5_idle_34 : decode cX5_idle 34 = .ok (.ireturn, 1) := by decide +kernel
theorem dX5_alike_0 : decode cX5_alike 0 = .ok (.iconst 0, 1) := by decide +kernel
theorem dX5_alike_1 : decode cX5_alike 1 = .ok (.istore_n 1, 1) := by decide +kernel
theorem dX5_alike_2 : decode cX5_alike 2 = .ok (.iconst 0, 1) := by decide +kernel
theorem dX5_alike_3 : decode cX5_alike 3 = .ok (.istore_n 2, 1) := by decide +kernel
theorem dX5_alike_4 : decode cX5_alike 4 = .ok (.iload_n 2, 1) := by decide +kernel
theorem dX5_alike_5 : decode cX5_alike 5 = .ok (.aload_n 0, 1) := by decide +kernel
theorem dX5_alike_6 : decode cX5_alike 6 = .ok (.getfield 27, 3) := by decide +kernel
theorem dX5_alike_9 : decode cX5_alike 9 = .ok (.if_icmp .ge 60, 3) := by decide +kernel
theorem dX5_alike_12 : decode cX5_alike 12 = .ok (.iload_n 2, 1) := by decide +kernel
theorem dX5_alike_13 : decode cX5_alike 13 = .ok (.iconst 1, 1) := by decide +kernel
theorem dX5_alike_14 : decode cX5_alike 14 = .ok (.iadd, 1) := by decide +kernel
theorem dX5_alike_15 : decode cX5_alike 15 = .ok (.istore_n 3, 1) := by decide +kernel
theorem dX5_alike_16 : decode cX5_alike 16 = .ok (.iload_n 3, 1) := by decide +kernel
theorem dX5_alike_17 : decode cX5_alike 17 = .ok (.aload_n 0, 1) := by decide +kernel
theorem dX5_alike_18 : decode cX5_alike 18 = .ok (.getfield 27, 3) := by decide +kernel
theorem dX5_alike_21 : decode cX5_alike 21 = .ok (.if_icmp .ge 42, 3) := by decide +kernel
theorem dX5_alike_24 : decode cX5_alike 24 = .ok (.aload_n 0, 1) := by decide +kernel
theorem dX5_alike_25 : decode cX5_alike 25 = .ok (.getfield 9, 3) := by decide +kernel
theorem dX5_alike_28 : decode cX5_alike 28 = .ok (.iload_n 2, 1) := by decide +kernel
theorem dX5_alike_29 : decode cX5_alike 29 = .ok (.iaload, 1) := by decide +kernel
theorem dX5_alike_30 : decode cX5_alike 30 = .ok (.aload_n 0, 1) := by decide +kernel
theorem dX5_alike_31 : decode cX5_alike 31 = .ok (.getfield 9, 3) := by decide +kernel
theorem dX5_alike_34 : decode cX5_alike 34 = .ok (.iload_n 3, 1) := by decide +kernel
theorem dX5_alike_35 : decode cX5_alike 35 = .ok (.iaload, 1) := by decide +kernel
theorem dX5_alike_36 : decode cX5_alike 36 = .ok (.if_icmp .ne 21, 3) := by decide +kernel
theorem dX5_alike_39 : decode cX5_alike 39 = .ok (.aload_n 0, 1) := by decide +kernel
theorem dX5_alike_40 : decode cX5_alike 40 = .ok (.getfield 15, 3) := by decide +kernel
theorem dX5_alike_43 : decode cX5_alike 43 = .ok (.iload_n 2, 1) := by decide +kernel
theorem dX5_alike_44 : decode cX5_alike 44 = .ok (.iaload, 1) := by decide +kernel
theorem dX5_alike_45 : decode cX5_alike 45 = .ok (.aload_n 0, 1) := by decide +kernel
theorem dX5_alike_46 : decode cX5_alike 46 = .ok (.getfield 15, 3) := by decide +kernel
theorem dX5_alike_49 : decode cX5_alike 49 = .ok (.iload_n 3, 1) := by decide +kernel
theorem dX5_alike_50 : decode cX5_alike 50 = .ok (.iaload, 1) := by decide +kernel
theorem dX5_alike_51 : decode cX5_alike 51 = .ok (.if_icmp .eq 6, 3) := by decide +kernel
theorem dX5_alike_54 : decode cX5_alike 54 = .ok (.iinc 1 1, 3) := by decide +kernel
theorem dX5_alike_57 : decode cX5_alike 57 = .ok (.iinc 3 1, 3) := by decide +kernel
theorem dX5_alike_60 : decode cX5_alike 60 = .ok (.goto (-44), 3) := by decide +kernel
theorem dX5_alike_63 : decode cX5_alike 63 = .ok (.iinc 2 1, 3) := by decide +kernel
theorem dX5_alike_66 : decode cX5_alike 66 = .ok (.goto (-62), 3) := by decide +kernel
theorem dX5_alike_69 : decode cX5_alike 69 = .ok (.iload_n 1, 1) := by decide +kernel
theorem dX5_alike_70 : decode cX5_alike 70 = .ok (.ireturn, 1) := by decide +kernel
theorem dX11_weigh_0 : decode cX11_weigh 0 = .ok (.aload_n 0, 1) := by decide +kernel
theorem dX11_weigh_1 : decode cX11_weigh 1 = .ok (.getfield 10, 3) := by decide +kernel
theorem dX11_weigh_4 : decode cX11_weigh 4 = .ok (.iload_n 1, 1) := by decide +kernel
theorem dX11_weigh_5 : decode cX11_weigh 5 = .ok (.invokevirtual 105, 3) := by decide +kernel
theorem dX11_weigh_8 : decode cX11_weigh 8 = .ok (.astore_n 3, 1) := by decide +kernel
theorem dX11_weigh_9 : decode cX11_weigh 9 = .ok (.aload_n 3, 1) := by decide +kernel
theorem dX11_weigh_10 : decode cX11_weigh 10 = .ok (.ifnonnull 5, 3) := by decide +kernel
theorem dX11_weigh_13 : decode cX11_weigh 13 = .ok (.iconst (-1), 1) := by decide +kernel
theorem dX11_weigh_14 : decode cX11_weigh 14 = .ok (.ireturn, 1) := by decide +kernel
theorem dX11_weigh_15 : decode cX11_weigh 15 = .ok (.aload_n 0, 1) := by decide +kernel
theorem dX11_weigh_16 : decode cX11_weigh 16 = .ok (.getfield 69, 3) := by decide +kernel
theorem dX11_weigh_19 : decode cX11_weigh 19 = .ok (.aload_n 3, 1) := by decide +kernel
theorem dX11_weigh_20 : decode cX11_weigh 20 = .ok (.invokevirtual 195, 3) := by decide +kernel
theorem dX11_weigh_23 : decode cX11_weigh 23 = .ok (.iload_n 2, 1) := by decide +kernel
theorem dX11_weigh_24 : decode cX11_weigh 24 = .ok (.tableswitch 83 0 4 #[36, 44, 59, 67, 75], 36) := by decide +kernel
theorem dX11_weigh_60 : decode cX11_weigh 60 = .ok (.aload_n 0, 1) := by decide +kernel
theorem dX11_weigh_61 : decode cX11_weigh 61 = .ok (.getfield 69, 3) := by decide +kernel
theorem dX11_weigh_64 : decode cX11_weigh 64 = .ok (.invokevirtual 299, 3) := by decide +kernel
theorem dX11_weigh_67 : decode cX11_weigh 67 = .ok (.ireturn, 1) := by decide +kernel
theorem dX11_weigh_68 : decode cX11_weigh 68 = .ok (.aload_n 0, 1) := by decide +kernel
theorem dX11_weigh_69 : decode cX11_weigh 69 = .ok (.getfield 69, 3) := by decide +kernel
theorem dX11_weigh_72 : decode cX11_weigh 72 = .ok (.aload_n 0, 1) := by decide +kernel
theorem dX11_weigh_73 : decode cX11_weigh 73 = .ok (.getfield 69, 3) := by decide +kernel
theorem dX11_weigh_76 : decode cX11_weigh 76 = .ok (.invokevirtual 299, 3) := by decide +kernel
theorem dX11_weigh_79 : decode cX11_weigh 79 = .ok (.invokevirtual 302, 3) := by decide +kernel
theorem dX11_weigh_82 : decode cX11_weigh 82 = .ok (.ireturn, 1) := by decide +kernel
theorem dX11_weigh_83 : decode cX11_weigh 83 = .ok (.aload_n 0, 1) := by decide +kernel
theorem dX11_weigh_84 : decode cX11_weigh 84 = .ok (.getfield 69, 3) := by decide +kernel
theorem dX11_weigh_87 : decode cX11_weigh 87 = .ok (.invokevirtual 305, 3) := by decide +kernel
theorem dX11_weigh_90 : decode cX11_weigh 90 = .ok (.ireturn, 1) := by decide +kernel
theorem dX11_weigh_91 : decode cX11_weigh 91 = .ok (.aload_n 0, 1) := by decide +kernel
theorem dX11_weigh_92 : decode cX11_weigh 92 = .ok (.getfield 69, 3) := by decide +kernel
theorem dX11_weigh_95 : decode cX11_weigh 95 = .ok (.invokevirtual 308, 3) := by decide +kernel
theorem dX11_weigh_98 : decode cX11_weigh 98 = .ok (.ireturn, 1) := by decide +kernel
theorem dX11_weigh_99 : decode cX11_weigh 99 = .ok (.aload_n 0, 1) := by decide +kernel
theorem dX11_weigh_100 : decode cX11_weigh 100 = .ok (.getfield 69, 3) := by decide +kernel
theorem dX11_weigh_103 : decode cX11_weigh 103 = .ok (.invokevirtual 311, 3) := by decide +kernel
theorem dX11_weigh_106 : decode cX11_weigh 106 = .ok (.ireturn, 1) := by decide +kernel
theorem dX11_weigh_107 : decode cX11_weigh 107 = .ok (.iconst (-1), 1) := by decide +kernel
theorem dX11_weigh_108 : decode cX11_weigh 108 = .ok (.ireturn, 1) := by decide +kernel
theorem dX1_mostNays_0 : decode cX1_mostNays 0 = .ok (.iconst (-1), 1) := by decide +kernel
theorem dX1_mostNays_1 : decode cX1_mostNays 1 = .ok (.istore_n 1, 1) := by decide +kernel
theorem dX1_mostNays_2 : decode cX1_mostNays 2 = .ok (.iconst 0, 1) := by decide +kernel
theorem dX1_mostNays_3 : decode cX1_mostNays 3 = .ok (.istore_n 2, 1) := by decide +kernel
theorem dX1_mostNays_4 : decode cX1_mostNays 4 = .ok (.iload_n 2, 1) := by decide +kernel
theorem dX1_mostNays_5 : decode cX1_mostNays 5 = .ok (.aload_n 0, 1) := by decide +kernel
theorem dX1_mostNays_6 : decode cX1_mostNays 6 = .ok (.getfield 12, 3) := by decide +kernel
theorem dX1_mostNays_9 : decode cX1_mostNays 9 = .ok (.getfield 109, 3) := by decide +kernel
theorem dX1_mostNays_12 : decode cX1_mostNays 12 = .ok (.getfield 113, 3) := by decide +kernel
theorem dX1_mostNays_15 : decode cX1_mostNays 15 = .ok (.if_icmp .ge 35, 3) := by decide +kernel
theorem dX1_mostNays_18 : decode cX1_mostNays 18 = .ok (.aload_n 0, 1) := by decide +kernel
theorem dX1_mostNays_19 : decode cX1_mostNays 19 = .ok (.getfield 18, 3) := by decide +kernel
theorem dX1_mostNays_22 : decode cX1_mostNays 22 = .ok (.iload_n 2, 1) := by decide +kernel
theorem dX1_mostNays_23 : decode cX1_mostNays 23 = .ok (.iaload, 1) := by decide +kernel
theorem dX1_mostNays_24 : decode cX1_mostNays 24 = .ok (.iload_n 1, 1) := by decide +kernel
theorem dX1_mostNays_25 : decode cX1_mostNays 25 = .ok (.iconst (-1), 1) := by decide +kernel
theorem dX1_mostNays_26 : decode cX1_mostNays 26 = .ok (.if_icmp .ne 7, 3) := by decide +kernel
theorem dX1_mostNays_29 : decode cX1_mostNays 29 = .ok (.iconst 0, 1) := by decide +kernel
theorem dX1_mostNays_30 : decode cX1_mostNays 30 = .ok (.goto 9, 3) := by decide +kernel
theorem dX1_mostNays_33 : decode cX1_mostNays 33 = .ok (.aload_n 0, 1) := by decide +kernel
theorem dX1_mostNays_34 : decode cX1_mostNays 34 = .ok (.getfield 18, 3) := by decide +kernel
theorem dX1_mostNays_37 : decode cX1_mostNays 37 = .ok (.iload_n 1, 1) := by decide +kernel
theorem dX1_mostNays_38 : decode cX1_mostNays 38 = .ok (.iaload, 1) := by decide +kernel
theorem dX1_mostNays_39 : decode cX1_mostNays 39 = .ok (.if_icmp .le 5, 3) := by decide +kernel
theorem dX1_mostNays_42 : decode cX1_mostNays 42 = .ok (.iload_n 2, 1) := by decide +kernel
theorem dX1_mostNays_43 : decode cX1_mostNays 43 = .ok (.istore_n 1, 1) := by decide +kernel
theorem dX1_mostNays_44 : decode cX1_mostNays 44 = .ok (.iinc 2 1, 3) := by decide +kernel
theorem dX1_mostNays_47 : decode cX1_mostNays 47 = .ok (.goto (-43), 3) := by decide +kernel
theorem dX1_mostNays_50 : decode cX1_mostNays 50 = .ok (.iload_n 1, 1) := by decide +kernel
theorem dX1_mostNays_51 : decode cX1_mostNays 51 = .ok (.ireturn, 1) := by decide +kernel
theorem dX11_after_0 : decode cX11_after 0 = .ok (.aload_n 0, 1) := by decide +kernel
theorem dX11_after_1 : decode cX11_after 1 = .ok (.getfield 10, 3) := by decide +kernel
theorem dX11_after_4 : decode cX11_after 4 = .ok (.iload_n 1, 1) := by decide +kernel
theorem dX11_after_5 : decode cX11_after 5 = .ok (.invokevirtual 105, 3) := by decide +kernel
theorem dX11_after_8 : decode cX11_after 8 = .ok (.astore 4, 2) := by decide +kernel
theorem dX11_after_10 : decode cX11_after 10 = .ok (.aload_n 0, 1) := by decide +kernel
theorem dX11_after_11 : decode cX11_after 11 = .ok (.getfield 10, 3) := by decide +kernel
theorem dX11_after_14 : decode cX11_after 14 = .ok (.iload_n 2, 1) := by decide +kernel
theorem dX11_after_15 : decode cX11_after 15 = .ok (.invokevirtual 142, 3) := by decide +kernel
theorem dX11_after_18 : decode cX11_after 18 = .ok (.astore 5, 2) := by decide +kernel
theorem dX11_after_20 : decode cX11_after 20 = .ok (.aload 4, 2) := by decide +kernel
theorem dX11_after_22 : decode cX11_after 22 = .ok (.ifnull 8, 3) := by decide +kernel
theorem dX11_after_25 : decode cX11_after 25 = .ok (.aload 5, 2) := by decide +kernel
theorem dX11_after_27 : decode cX11_after 27 = .ok (.ifnonnull 6, 3) := by decide +kernel
theorem dX11_after_30 : decode cX11_after 30 = .ok (.bipush (-2), 2) := by decide +kernel
theorem dX11_after_32 : decode cX11_after 32 = .ok (.ireturn, 1) := by decide +kernel
theorem dX11_after_33 : decode cX11_after 33 = .ok (.aload_n 0, 1) := by decide +kernel
theorem dX11_after_34 : decode cX11_after 34 = .ok (.getfield 41, 3) := by decide +kernel
theorem dX11_after_37 : decode cX11_after 37 = .ok (.aload 4, 2) := by decide +kernel
theorem dX11_after_39 : decode cX11_after 39 = .ok (.aload 5, 2) := by decide +kernel
theorem dX11_after_41 : decode cX11_after 41 = .ok (.aload 5, 2) := by decide +kernel
theorem dX11_after_43 : decode cX11_after 43 = .ok (.getfield 150, 3) := by decide +kernel
theorem dX11_after_46 : decode cX11_after 46 = .ok (.invokevirtual 153, 3) := by decide +kernel
theorem dX11_after_49 : decode cX11_after 49 = .ok (.pop, 1) := by decide +kernel
theorem dX11_after_50 : decode cX11_after 50 = .ok (.iload_n 3, 1) := by decide +kernel
theorem dX11_after_51 : decode cX11_after 51 = .ok (.ifCond .ne 11, 3) := by decide +kernel
theorem dX11_after_54 : decode cX11_after 54 = .ok (.aload_n 0, 1) := by decide +kernel
theorem dX11_after_55 : decode cX11_after 55 = .ok (.getfield 41, 3) := by decide +kernel
theorem dX11_after_58 : decode cX11_after 58 = .ok (.getfield 314, 3) := by decide +kernel
theorem dX11_after_61 : decode cX11_after 61 = .ok (.ireturn, 1) := by decide +kernel
theorem dX11_after_62 : decode cX11_after 62 = .ok (.iload_n 3, 1) := by decide +kernel
theorem dX11_after_63 : decode cX11_after 63 = .ok (.iconst 1, 1) := by decide +kernel
theorem dX11_after_64 : decode cX11_after 64 = .ok (.if_icmp .ne 11, 3) := by decide +kernel
theorem dX11_after_67 : decode cX11_after 67 = .ok (.aload_n 0, 1) := by decide +kernel
theorem dX11_after_68 : decode cX11_after 68 = .ok (.getfield 41, 3) := by decide +kernel
theorem dX11_after_71 : decode cX11_after 71 = .ok (.invokevirtual 317, 3) := by decide +kernel
theorem dX11_after_74 : decode cX11_after 74 = .ok (.ireturn, 1) := by decide +kernel
theorem dX11_after_75 : decode cX11_after 75 = .ok (.iload_n 3, 1) := by decide +kernel
theorem dX11_after_76 : decode cX11_after 76 = .ok (.iconst 2, 1) := by decide +kernel
theorem dX11_after_77 : decode cX11_after 77 = .ok (.if_icmp .ne 13, 3) := by decide +kernel
theorem dX11_after_80 : decode cX11_after 80 = .ok (.aload_n 0, 1) := by decide +kernel
theorem dX11_after_81 : decode cX11_after 81 = .ok (.getfield 41, 3) := by decide +kernel
theorem dX11_after_84 : decode cX11_after 84 = .ok (.getfield 320, 3) := by decide +kernel
theorem dX11_after_87 : decode cX11_after 87 = .ok (.goto 5, 3) := by decide +kernel
theorem dX11_after_90 : decode cX11_after 90 = .ok (.bipush (-2), 2) := by decide +kernel
theorem dX11_after_92 : decode cX11_after 92 = .ok (.ireturn, 1) := by decide +kernel
theorem dX11_bears_0 : decode cX11_bears 0 = .ok (.aload_n 0, 1) := by decide +kernel
theorem dX11_bears_1 : decode cX11_bears 1 = .ok (.getfield 10, 3) := by decide +kernel
theorem dX11_bears_4 : decode cX11_bears 4 = .ok (.iload_n 1, 1) := by decide +kernel
theorem dX11_bears_5 : decode cX11_bears 5 = .ok (.invokevirtual 223, 3) := by decide +kernel
theorem dX11_bears_8 : decode cX11_bears 8 = .ok (.astore 4, 2) := by decide +kernel
theorem dX11_bears_10 : decode cX11_bears 10 = .ok (.aload 4, 2) := by decide +kernel
theorem dX11_bears_12 : decode cX11_bears 12 = .ok (.ifnull 21, 3) := by decide +kernel
theorem dX11_bears_15 : decode cX11_bears 15 = .ok (.iload_n 2, 1) := by decide +kernel
theorem dX11_bears_16 : decode cX11_bears 16 = .ok (.ifCond .lt 17, 3) := by decide +kernel
theorem dX11_bears_19 : decode cX11_bears 19 = .ok (.iload_n 2, 1) := by decide +kernel
theorem dX11_bears_20 : decode cX11_bears 20 = .ok (.iconst 3, 1) := by decide +kernel
theorem dX11_bears_21 : decode cX11_bears 21 = .ok (.if_icmp .ge 12, 3) := by decide +kernel
theorem dX11_bears_24 : decode cX11_bears 24 = .ok (.aload 4, 2) := by decide +kernel
theorem dX11_bears_26 : decode cX11_bears 26 = .ok (.iload_n 2, 1) := by decide +kernel
theorem dX11_bears_27 : decode cX11_bears 27 = .ok (.invokevirtual 323, 3) := by decide +kernel
theorem dX11_bears_30 : decode cX11_bears 30 = .ok (.ifCond .ne 5, 3) := by decide +kernel
theorem dX11_bears_33 : decode cX11_bears 33 = .ok (.iconst (-1), 1) := by decide +kernel
theorem dX11_bears_34 : decode cX11_bears 34 = .ok (.ireturn, 1) := by decide +kernel
theorem dX11_bears_35 : decode cX11_bears 35 = .ok (.iload_n 3, 1) := by decide +kernel
theorem dX11_bears_36 : decode cX11_bears 36 = .ok (.ifCond .eq 12, 3) := by decide +kernel
theorem dX11_bears_39 : decode cX11_bears 39 = .ok (.aload 4, 2) := by decide +kernel
theorem dX11_bears_41 : decode cX11_bears 41 = .ok (.iload_n 2, 1) := by decide +kernel
theorem dX11_bears_42 : decode cX11_bears 42 = .ok (.invokevirtual 326, 3) := by decide +kernel
theorem dX11_bears_45 : decode cX11_bears 45 = .ok (.goto 9, 3) := by decide +kernel
theorem dX11_bears_48 : decode cX11_bears 48 = .ok (.aload 4, 2) := by decide +kernel
theorem dX11_bears_50 : decode cX11_bears 50 = .ok (.iload_n 2, 1) := by decide +kernel
theorem dX11_bears_51 : decode cX11_bears 51 = .ok (.invokevirtual 329, 3) := by decide +kernel
theorem dX11_bears_54 : decode cX11_bears 54 = .ok (.ireturn, 1) := by decide +kernel
theorem dX10_agreements_0 : decode cX10_agreements 0 = .ok (.aload_n 1, 1) := by decide +kernel
theorem dX10_agreements_1 : decode cX10_agreements 1 = .ok (.iload_n 2, 1) := by decide +kernel
theorem dX10_agreements_2 : decode cX10_agreements 2 = .ok (.invokevirtual 40, 3) := by decide +kernel
theorem dX10_agreements_5 : decode cX10_agreements 5 = .ok (.ifCond .eq 11, 3) := by decide +kernel
theorem dX10_agreements_8 : decode cX10_agreements 8 = .ok (.aload_n 1, 1) := by decide +kernel
theorem dX10_agreements_9 : decode cX10_agreements 9 = .ok (.iload_n 3, 1) := by decide +kernel
theorem dX10_agreements_10 : decode cX10_agreements 10 = .ok (.invokevirtual 40, 3) := by decide +kernel
theorem dX10_agreements_13 : decode cX10_agreements 13 = .ok (.ifCond .ne 5, 3) := by decide +kernel
theorem dX10_agreements_16 : decode cX10_agreements 16 = .ok (.iconst (-1), 1) := by decide +kernel
theorem dX10_agreements_17 : decode cX10_agreements 17 = .ok (.ireturn, 1) := by decide +kernel
theorem dX10_agreements_18 : decode cX10_agreements 18 = .ok (.aload_n 0, 1) := by decide +kernel
theorem dX10_agreements_19 : decode cX10_agreements 19 = .ok (.getfield 12, 3) := by decide +kernel
theorem dX10_agreements_22 : decode cX10_agreements 22 = .ok (.aload_n 1, 1) := by decide +kernel
theorem dX10_agreements_23 : decode cX10_agreements 23 = .ok (.invokevirtual 25, 3) := by decide +kernel
theorem dX10_agreements_26 : decode cX10_agreements 26 = .ok (.iconst 0, 1) := by decide +kernel
theorem dX10_agreements_27 : decode cX10_agreements 27 = .ok (.istore 4, 2) := by decide +kernel
theorem dX10_agreements_29 : decode cX10_agreements 29 = .ok (.iconst 0, 1) := by decide +kernel
theorem dX10_agreements_30 : decode cX10_agreements 30 = .ok (.istore 5, 2) := by decide +kernel
theorem dX10_agreements_32 : decode cX10_agreements 32 = .ok (.iload 5, 2) := by decide +kernel
theorem dX10_agreements_34 : decode cX10_agreements 34 = .ok (.bipush 64, 2) := by decide +kernel
theorem dX10_agreements_36 : decode cX10_agreements 36 = .ok (.if_icmp .ge 55, 3) := by decide +kernel
theorem dX10_agreements_39 : decode cX10_agreements 39 = .ok (.aload_n 0, 1) := by decide +kernel
theorem dX10_agreements_40 : decode cX10_agreements 40 = .ok (.getfield 12, 3) := by decide +kernel
theorem dX10_agreements_43 : decode cX10_agreements 43 = .ok (.iload 5, 2) := by decide +kernel
theorem dX10_agreements_45 : decode cX10_agreements 45 = .ok (.invokevirtual 29, 3) := by decide +kernel
theorem dX10_agreements_48 : decode cX10_agreements 48 = .ok (.pop, 1) := by decide +kernel
theorem dX10_agreements_49 : decode cX10_agreements 49 = .ok (.aload_n 0, 1) := by decide +kernel
theorem dX10_agreements_50 : decode cX10_agreements 50 = .ok (.getfield 12, 3) := by decide +kernel
theorem dX10_agreements_53 : decode cX10_agreements 53 = .ok (.getfield 46, 3) := by decide +kernel
theorem dX10_agreements_56 : decode cX10_agreements 56 = .ok (.iload_n 2, 1) := by decide +kernel
theorem dX10_agreements_57 : decode cX10_agreements 57 = .ok (.iaload, 1) := by decide +kernel
theorem dX10_agreements_58 : decode cX10_agreements 58 = .ok (.ifCond .eq 27, 3) := by decide +kernel
theorem dX10_agreements_61 : decode cX10_agreements 61 = .ok (.aload_n 0, 1) := by decide +kernel
theorem dX10_agreements_62 : decode cX10_agreements 62 = .ok (.getfield 12, 3) := by decide +kernel
theorem dX10_agreements_65 : decode cX10_agreements 65 = .ok (.getfield 46, 3) := by decide +kernel
theorem dX10_agreements_68 : decode cX10_agreements 68 = .ok (.iload_n 2, 1) := by decide +kernel
theorem dX10_agreements_69 : decode cX10_agreements 69 = .ok (.iaload, 1) := by decide +kernel
theorem dX10_agreements_70 : decode cX10_agreements 70 = .ok (.aload_n 0, 1) := by decide +kernel
theorem dX10_agreements_71 : decode cX10_agreements 71 = .ok (.getfield 12, 3) := by decide +kernel
theorem dX10_agreements_74 : decode cX10_agreements 74 = .ok (.getfield 46, 3) := by decide +kernel
theorem dX10_agreements_77 : decode cX10_agreements 77 = .ok (.iload_n 3, 1) := by decide +kernel
theorem dX10_agreements_78 : decode cX10_agreements 78 = .ok (.iaload, 1) := by decide +kernel
theorem dX10_agreements_79 : decode cX10_agreements 79 = .ok (.if_icmp .ne 6, 3) := by decide +kernel
theorem dX10_agreements_82 : decode cX10_agreements 82 = .ok (.iinc 4 1, 3) := by decide +kernel
theorem dX10_agreements_85 : decode cX10_agreements 85 = .ok (.iinc 5 1, 3) := by decide +kernel
theorem dX10_agreements_88 : decode cX10_agreements 88 = .ok (.goto (-56), 3) := by decide +kernel
theorem dX10_agreements_91 : decode cX10_agreements 91 = .ok (.iload 4, 2) := by decide +kernel
theorem dX10_agreements_93 : decode cX10_agreements 93 = .ok (.ireturn, 1) := by decide +kernel
theorem dX11_kin_0 : decode cX11_kin 0 = .ok (.aload_n 0, 1) := by decide +kernel
theorem dX11_kin_1 : decode cX11_kin 1 = .ok (.getfield 10, 3) := by decide +kernel
theorem dX11_kin_4 : decode cX11_kin 4 = .ok (.iload_n 1, 1) := by decide +kernel
theorem dX11_kin_5 : decode cX11_kin 5 = .ok (.invokevirtual 105, 3) := by decide +kernel
theorem dX11_kin_8 : decode cX11_kin 8 = .ok (.astore 4, 2) := by decide +kernel
theorem dX11_kin_10 : decode cX11_kin 10 = .ok (.aload 4, 2) := by decide +kernel
theorem dX11_kin_12 : decode cX11_kin 12 = .ok (.ifnonnull 7, 3) := by decide +kernel
theorem dX11_kin_15 : decode cX11_kin 15 = .ok (.iconst (-1), 1) := by decide +kernel
theorem dX11_kin_16 : decode cX11_kin 16 = .ok (.goto 14, 3) := by decide +kernel
theorem dX11_kin_19 : decode cX11_kin 19 = .ok (.aload_n 0, 1) := by decide +kernel
theorem dX11_kin_20 : decode cX11_kin 20 = .ok (.getfield 48, 3) := by decide +kernel
theorem dX11_kin_23 : decode cX11_kin 23 = .ok (.aload 4, 2) := by decide +kernel
theorem dX11_kin_25 : decode cX11_kin 25 = .ok (.iload_n 2, 1) := by decide +kernel
theorem dX11_kin_26 : decode cX11_kin 26 = .ok (.iload_n 3, 1) := by decide +kernel
theorem dX11_kin_27 : decode cX11_kin 27 = .ok (.invokevirtual 332, 3) := by decide +kernel
theorem dX11_kin_30 : decode cX11_kin 30 = .ok (.ireturn, 1) := by decide +kernel
theorem dX7_firstTrade_0 : decode cX7_firstTrade 0 = .ok (.aload_n 0, 1) := by decide +kernel
theorem dX7_firstTrade_1 : decode cX7_firstTrade 1 = .ok (.getfield 18, 3) := by decide +kernel
theorem dX7_firstTrade_4 : decode cX7_firstTrade 4 = .ok (.aload_n 1, 1) := by decide +kernel
theorem dX7_firstTrade_5 : decode cX7_firstTrade 5 = .ok (.invokevirtual 22, 3) := by decide +kernel
theorem dX7_firstTrade_8 : decode cX7_firstTrade 8 = .ok (.aload_n 0, 1) := by decide +kernel
theorem dX7_firstTrade_9 : decode cX7_firstTrade 9 = .ok (.getfield 18, 3) := by decide +kernel
theorem dX7_firstTrade_12 : decode cX7_firstTrade 12 = .ok (.iload_n 2, 1) := by decide +kernel
theorem dX7_firstTrade_13 : decode cX7_firstTrade 13 = .ok (.invokevirtual 30, 3) := by decide +kernel
theorem dX7_firstTrade_16 : decode cX7_firstTrade 16 = .ok (.ifCond .le 7, 3) := by decide +kernel
theorem dX7_firstTrade_19 : decode cX7_firstTrade 19 = .ok (.iconst 1, 1) := by decide +kernel
theorem dX7_firstTrade_20 : decode cX7_firstTrade 20 = .ok (.goto 4, 3) := by decide +kernel
theorem dX7_firstTrade_23 : decode cX7_firstTrade 23 = .ok (.iconst 0, 1) := by decide +kernel
theorem dX7_firstTrade_24 : decode cX7_firstTrade 24 = .ok (.istore_n 3, 1) := by decide +kernel
theorem dX7_firstTrade_25 : decode cX7_firstTrade 25 = .ok (.iconst 0, 1) := by decide +kernel
theorem dX7_firstTrade_26 : decode cX7_firstTrade 26 = .ok (.istore 4, 2) := by decide +kernel
theorem dX7_firstTrade_28 : decode cX7_firstTrade 28 = .ok (.iload 4, 2) := by decide +kernel
theorem dX7_firstTrade_30 : decode cX7_firstTrade 30 = .ok (.aload_n 1, 1) := by decide +kernel
theorem dX7_firstTrade_31 : decode cX7_firstTrade 31 = .ok (.getfield 37, 3) := by decide +kernel
theorem dX7_firstTrade_34 : decode cX7_firstTrade 34 = .ok (.if_icmp .ge 123, 3) := by decide +kernel
theorem dX7_firstTrade_37 : decode cX7_firstTrade 37 = .ok (.iload 4, 2) := by decide +kernel
theorem dX7_firstTrade_39 : decode cX7_firstTrade 39 = .ok (.iconst 1, 1) := by decide +kernel
theorem dX7_firstTrade_40 : decode cX7_firstTrade 40 = .ok (.iadd, 1) := by decide +kernel
theorem dX7_firstTrade_41 : decode cX7_firstTrade 41 = .ok (.istore 5, 2) := by decide +kernel
theorem dX7_firstTrade_43 : decode cX7_firstTrade 43 = .ok (.iload 5, 2) := by decide +kernel
theorem dX7_firstTrade_45 : decode cX7_firstTrade 45 = .ok (.aload_n 1, 1) := by decide +kernel
theorem dX7_firstTrade_46 : decode cX7_firstTrade 46 = .ok (.getfield 37, 3) := by decide +kernel
theorem dX7_firstTrade_49 : decode cX7_firstTrade 49 = .ok (.if_icmp .ge 102, 3) := by decide +kernel
theorem dX7_firstTrade_52 : decode cX7_firstTrade 52 = .ok (.aload_n 0, 1) := by decide +kernel
theorem dX7_firstTrade_53 : decode cX7_firstTrade 53 = .ok (.getfield 18, 3) := by decide +kernel
theorem dX7_firstTrade_56 : decode cX7_firstTrade 56 = .ok (.iload 4, 2) := by decide +kernel
theorem dX7_firstTrade_58 : decode cX7_firstTrade 58 = .ok (.aload_n 1, 1) := by decide +kernel
theorem dX7_firstTrade_59 : decode cX7_firstTrade 59 = .ok (.getfield 53, 3) := by decide +kernel
theorem dX7_firstTrade_62 : decode cX7_firstTrade 62 = .ok (.iload 5, 2) := by decide +kernel
theorem dX7_firstTrade_64 : decode cX7_firstTrade 64 = .ok (.iaload, 1) := by decide +kernel
theorem dX7_firstTrade_65 : decode cX7_firstTrade 65 = .ok (.invokevirtual 62, 3) := by decide +kernel
theorem dX7_firstTrade_68 : decode cX7_firstTrade 68 = .ok (.aload_n 0, 1) := by decide +kernel
theorem dX7_firstTrade_69 : decode cX7_firstTrade 69 = .ok (.getfield 18, 3) := by decide +kernel
theorem dX7_firstTrade_72 : decode cX7_firstTrade 72 = .ok (.iload 5, 2) := by decide +kernel
theorem dX7_firstTrade_74 : decode cX7_firstTrade 74 = .ok (.aload_n 1, 1) := by decide +kernel
theorem dX7_firstTrade_75 : decode cX7_firstTrade 75 = .ok (.getfield 53, 3) := by decide +kernel
theorem dX7_firstTrade_78 : decode cX7_firstTrade 78 = .ok (.iload 4, 2) := by decide +kernel
theorem dX7_firstTrade_80 : decode cX7_firstTrade 80 = .ok (.iaload, 1) := by decide +kernel
theorem dX7_firstTrade_81 : decode cX7_firstTrade 81 = .ok (.invokevirtual 62, 3) := by decide +kernel
theorem dX7_firstTrade_84 : decode cX7_firstTrade 84 = .ok (.aload_n 0, 1) := by decide +kernel
theorem dX7_firstTrade_85 : decode cX7_firstTrade 85 = .ok (.getfield 18, 3) := by decide +kernel
theorem dX7_firstTrade_88 : decode cX7_firstTrade 88 = .ok (.iload_n 2, 1) := by decide +kernel
theorem dX7_firstTrade_89 : decode cX7_firstTrade 89 = .ok (.invokevirtual 30, 3) := by decide +kernel
theorem dX7_firstTrade_92 : decode cX7_firstTrade 92 = .ok (.ifCond .le 7, 3) := by decide +kernel
theorem dX7_firstTrade_95 : decode cX7_firstTrade 95 = .ok (.iconst 1, 1) := by decide +kernel
theorem dX7_firstTrade_96 : decode cX7_firstTrade 96 = .ok (.goto 4, 3) := by decide +kernel
theorem dX7_firstTrade_99 : decode cX7_firstTrade 99 = .ok (.iconst 0, 1) := by decide +kernel
theorem dX7_firstTrade_100 : decode cX7_firstTrade 100 = .ok (.iload_n 3, 1) := by decide +kernel
theorem dX7_firstTrade_101 : decode cX7_firstTrade 101 = .ok (.if_icmp .eq 12, 3) := by decide +kernel
theorem dX7_firstTrade_104 : decode cX7_firstTrade 104 = .ok (.bipush 10, 2) := by decide +kernel
theorem dX7_firstTrade_106 : decode cX7_firstTrade 106 = .ok (.iload 4, 2) := by decide +kernel
theorem dX7_firstTrade_108 : decode cX7_firstTrade 108 = .ok (.imul, 1) := by decide +kernel
theorem dX7_firstTrade_109 : decode cX7_firstTrade 109 = .ok (.iload 5, 2) := by decide +kernel
theorem dX7_firstTrade_111 : decode cX7_firstTrade 111 = .ok (.iadd, 1) := by decide +kernel
theorem dX7_firstTrade_112 : decode cX7_firstTrade 112 = .ok (.ireturn, 1) := by decide +kernel
theorem dX7_firstTrade_113 : decode cX7_firstTrade 113 = .ok (.aload_n 0, 1) := by decide +kernel
theorem dX7_firstTrade_114 : decode cX7_firstTrade 114 = .ok (.getfield 18, 3) := by decide +kernel
theorem dX7_firstTrade_117 : decode cX7_firstTrade 117 = .ok (.iload 4, 2) := by decide +kernel
theorem dX7_firstTrade_119 : decode cX7_firstTrade 119 = .ok (.aload_n 1, 1) := by decide +kernel
theorem dX7_firstTrade_120 : decode cX7_firstTrade 120 = .ok (.getfield 53, 3) := by decide +kernel
theorem dX7_firstTrade_123 : decode cX7_firstTrade 123 = .ok (.iload 4, 2) := by decide +kernel
theorem dX7_firstTrade_125 : decode cX7_firstTrade 125 = .ok (.iaload, 1) := by decide +kernel
theorem dX7_firstTrade_126 : decode cX7_firstTrade 126 = .ok (.invokevirtual 62, 3) := by decide +kernel
theorem dX7_firstTrade_129 : decode cX7_firstTrade 129 = .ok (.aload_n 0, 1) := by decide +kernel
theorem dX7_firstTrade_130 : decode cX7_firstTrade 130 = .ok (.getfield 18, 3) := by decide +kernel
theorem dX7_firstTrade_133 : decode cX7_firstTrade 133 = .ok (.iload 5, 2) := by decide +kernel
theorem dX7_firstTrade_135 : decode cX7_firstTrade 135 = .ok (.aload_n 1, 1) := by decide +kernel
theorem dX7_firstTrade_136 : decode cX7_firstTrade 136 = .ok (.getfield 53, 3) := by decide +kernel
theorem dX7_firstTrade_139 : decode cX7_firstTrade 139 = .ok (.iload 5, 2) := by decide +kernel
theorem dX7_firstTrade_141 : decode cX7_firstTrade 141 = .ok (.iaload, 1) := by decide +kernel
theorem dX7_firstTrade_142 : decode cX7_firstTrade 142 = .ok (.invokevirtual 62, 3) := by decide +kernel
theorem dX7_firstTrade_145 : decode cX7_firstTrade 145 = .ok (.iinc 5 1, 3) := by decide +kernel
theorem dX7_firstTrade_148 : decode cX7_firstTrade 148 = .ok (.goto (-105), 3) := by decide +kernel
theorem dX7_firstTrade_151 : decode cX7_firstTrade 151 = .ok (.iinc 4 1, 3) := by decide +kernel
theorem dX7_firstTrade_154 : decode cX7_firstTrade 154 = .ok (.goto (-126), 3) := by decide +kernel
theorem dX7_firstTrade_157 : decode cX7_firstTrade 157 = .ok (.iconst (-1), 1) := by decide +kernel
theorem dX7_firstTrade_158 : decode cX7_firstTrade 158 = .ok (.ireturn, 1) := by decide +kernel
theorem dX11_trade_0 : decode cX11_trade 0 = .ok (.aload_n 0, 1) := by decide +kernel
theorem dX11_trade_1 : decode cX11_trade 1 = .ok (.iload_n 1, 1) := by decide +kernel
theorem dX11_trade_2 : decode cX11_trade 2 = .ok (.iload_n 2, 1) := by decide +kernel
theorem dX11_trade_3 : decode cX11_trade 3 = .ok (.invokevirtual 115, 3) := by decide +kernel
theorem dX11_trade_6 : decode cX11_trade 6 = .ok (.astore_n 3, 1) := by decide +kernel
theorem dX11_trade_7 : decode cX11_trade 7 = .ok (.aload_n 3, 1) := by decide +kernel
theorem dX11_trade_8 : decode cX11_trade 8 = .ok (.ifnonnull 7, 3) := by decide +kernel
theorem dX11_trade_11 : decode cX11_trade 11 = .ok (.iconst (-1), 1) := by decide +kernel
theorem dX11_trade_12 : decode cX11_trade 12 = .ok (.goto 12, 3) := by decide +kernel
theorem dX11_trade_15 : decode cX11_trade 15 = .ok (.aload_n 0, 1) := by decide +kernel
theorem dX11_trade_16 : decode cX11_trade 16 = .ok (.getfield 55, 3) := by decide +kernel
theorem dX11_trade_19 : decode cX11_trade 19 = .ok (.aload_n 3, 1) := by decide +kernel
theorem dX11_trade_20 : decode cX11_trade 20 = .ok (.iload_n 2, 1) := by decide +kernel
theorem dX11_trade_21 : decode cX11_trade 21 = .ok (.invokevirtual 335, 3) := by decide +kernel
theorem dX11_trade_24 : decode cX11_trade 24 = .ok (.ireturn, 1) := by decide +kernel
theorem dX3_makeOaken_0 : decode cX3_makeOaken 0 = .ok (.iconst 0, 1) := by decide +kernel
theorem dX3_makeOaken_1 : decode cX3_makeOaken 1 = .ok (.istore_n 3, 1) := by decide +kernel
theorem dX3_makeOaken_2 : decode cX3_makeOaken 2 = .ok (.iload_n 3, 1) := by decide +kernel
theorem dX3_makeOaken_3 : decode cX3_makeOaken 3 = .ok (.aload_n 1, 1) := by decide +kernel
theorem dX3_makeOaken_4 : decode cX3_makeOaken 4 = .ok (.getfield 44, 3) := by decide +kernel
theorem dX3_makeOaken_7 : decode cX3_makeOaken 7 = .ok (.if_icmp .ge 39, 3) := by decide +kernel
theorem dX3_makeOaken_10 : decode cX3_makeOaken 10 = .ok (.aload_n 0, 1) := by decide +kernel
theorem dX3_makeOaken_11 : decode cX3_makeOaken 11 = .ok (.getfield 18, 3) := by decide +kernel
theorem dX3_makeOaken_14 : decode cX3_makeOaken 14 = .ok (.getfield 40, 3) := by decide +kernel
theorem dX3_makeOaken_17 : decode cX3_makeOaken 17 = .ok (.getfield 87, 3) := by decide +kernel
theorem dX3_makeOaken_20 : decode cX3_makeOaken 20 = .ok (.iload_n 3, 1) := by decide +kernel
theorem dX3_makeOaken_21 : decode cX3_makeOaken 21 = .ok (.iload_n 2, 1) := by decide +kernel
theorem dX3_makeOaken_22 : decode cX3_makeOaken 22 = .ok (.iload_n 3, 1) := by decide +kernel
theorem dX3_makeOaken_23 : decode cX3_makeOaken 23 = .ok (.ishr, 1) := by decide +kernel
theorem dX3_makeOaken_24 : decode cX3_makeOaken 24 = .ok (.iconst 1, 1) := by decide +kernel
theorem dX3_makeOaken_25 : decode cX3_makeOaken 25 = .ok (.iand, 1) := by decide +kernel
theorem dX3_makeOaken_26 : decode cX3_makeOaken 26 = .ok (.ifCond .eq 7, 3) := by decide +kernel
theorem dX3_makeOaken_29 : decode cX3_makeOaken 29 = .ok (.iconst 0, 1) := by decide +kernel
theorem dX3_makeOaken_30 : decode cX3_makeOaken 30 = .ok (.goto 9, 3) := by decide +kernel
theorem dX3_makeOaken_33 : decode cX3_makeOaken 33 = .ok (.aload_n 1, 1) := by decide +kernel
theorem dX3_makeOaken_34 : decode cX3_makeOaken 34 = .ok (.getfield 87, 3) := by decide +kernel
theorem dX3_makeOaken_37 : decode cX3_makeOaken 37 = .ok (.iload_n 3, 1) := by decide +kernel
theorem dX3_makeOaken_38 : decode cX3_makeOaken 38 = .ok (.iaload, 1) := by decide +kernel
theorem dX3_makeOaken_39 : decode cX3_makeOaken 39 = .ok (.iastore, 1) := by decide +kernel
theorem dX3_makeOaken_40 : decode cX3_makeOaken 40 = .ok (.iinc 3 1, 3) := by decide +kernel
theorem dX3_makeOaken_43 : decode cX3_makeOaken 43 = .ok (.goto (-41), 3) := by decide +kernel
theorem dX3_makeOaken_46 : decode cX3_makeOaken 46 = .ok (.return_, 1) := by decide +kernel
theorem dX3_fewestOaken_0 : decode cX3_fewestOaken 0 = .ok (.aload_n 0, 1) := by decide +kernel
theorem dX3_fewestOaken_1 : decode cX3_fewestOaken 1 = .ok (.getfield 18, 3) := by decide +kernel
theorem dX3_fewestOaken_4 : decode cX3_fewestOaken 4 = .ok (.aload_n 1, 1) := by decide +kernel
theorem dX3_fewestOaken_5 : decode cX3_fewestOaken 5 = .ok (.invokevirtual 22, 3) := by decide +kernel
theorem dX3_fewestOaken_8 : decode cX3_fewestOaken 8 = .ok (.aload_n 0, 1) := by decide +kernel
theorem dX3_fewestOaken_9 : decode cX3_fewestOaken 9 = .ok (.getfield 18, 3) := by decide +kernel
theorem dX3_fewestOaken_12 : decode cX3_fewestOaken 12 = .ok (.iload_n 2, 1) := by decide +kernel
theorem dX3_fewestOaken_13 : decode cX3_fewestOaken 13 = .ok (.invokevirtual 30, 3) := by decide +kernel
theorem dX3_fewestOaken_16 : decode cX3_fewestOaken 16 = .ok (.ifCond .le 7, 3) := by decide +kernel
theorem dX3_fewestOaken_19 : decode cX3_fewestOaken 19 = .ok (.iconst 1, 1) := by decide +kernel
theorem dX3_fewestOaken_20 : decode cX3_fewestOaken 20 = .ok (.goto 4, 3) := by decide +kernel
theorem dX3_fewestOaken_23 : decode cX3_fewestOaken 23 = .ok (.iconst 0, 1) := by decide +kernel
theorem dX3_fewestOaken_24 : decode cX3_fewestOaken 24 = .ok (.istore_n 3, 1) := by decide +kernel
theorem dX3_fewestOaken_25 : decode cX3_fewestOaken 25 = .ok (.iconst (-1), 1) := by decide +kernel
theorem dX3_fewestOaken_26 : decode cX3_fewestOaken 26 = .ok (.istore 4, 2) := by decide +kernel
theorem dX3_fewestOaken_28 : decode cX3_fewestOaken 28 = .ok (.bipush 9, 2) := by decide +kernel
theorem dX3_fewestOaken_30 : decode cX3_fewestOaken 30 = .ok (.istore 5, 2) := by decide +kernel
theorem dX3_fewestOaken_32 : decode cX3_fewestOaken 32 = .ok (.iconst 1, 1) := by decide +kernel
theorem dX3_fewestOaken_33 : decode cX3_fewestOaken 33 = .ok (.istore 6, 2) := by decide +kernel
theorem dX3_fewestOaken_35 : decode cX3_fewestOaken 35 = .ok (.iload 6, 2) := by decide +kernel
theorem dX3_fewestOaken_37 : decode cX3_fewestOaken 37 = .ok (.iconst 1, 1) := by decide +kernel
theorem dX3_fewestOaken_38 : decode cX3_fewestOaken 38 = .ok (.aload_n 1, 1) := by decide +kernel
theorem dX3_fewestOaken_39 : decode cX3_fewestOaken 39 = .ok (.getfield 44, 3) := by decide +kernel
theorem dX3_fewestOaken_42 : decode cX3_fewestOaken 42 = .ok (.ishl, 1) := by decide +kernel
theorem dX3_fewestOaken_43 : decode cX3_fewestOaken 43 = .ok (.if_icmp .ge 58, 3) := by decide +kernel
theorem dX3_fewestOaken_46 : decode cX3_fewestOaken 46 = .ok (.iload 6, 2) := by decide +kernel
theorem dX3_fewestOaken_48 : decode cX3_fewestOaken 48 = .ok (.invokestatic 78, 3) := by decide +kernel
theorem dX3_fewestOaken_51 : decode cX3_fewestOaken 51 = .ok (.istore 7, 2) := by decide +kernel
theorem dX3_fewestOaken_53 : decode cX3_fewestOaken 53 = .ok (.iload 7, 2) := by decide +kernel
theorem dX3_fewestOaken_55 : decode cX3_fewestOaken 55 = .ok (.iload 5, 2) := by decide +kernel
theorem dX3_fewestOaken_57 : decode cX3_fewestOaken 57 = .ok (.if_icmp .ge 38, 3) := by decide +kernel
theorem dX3_fewestOaken_60 : decode cX3_fewestOaken 60 = .ok (.aload_n 0, 1) := by decide +kernel
theorem dX3_fewestOaken_61 : decode cX3_fewestOaken 61 = .ok (.aload_n 1, 1) := by decide +kernel
theorem dX3_fewestOaken_62 : decode cX3_fewestOaken 62 = .ok (.iload 6, 2) := by decide +kernel
theorem dX3_fewestOaken_64 : decode cX3_fewestOaken 64 = .ok (.invokevirtual 83, 3) := by decide +kernel
theorem dX3_fewestOaken_67 : decode cX3_fewestOaken 67 = .ok (.aload_n 0, 1) := by decide +kernel
theorem dX3_fewestOaken_68 : decode cX3_fewestOaken 68 = .ok (.getfield 18, 3) := by decide +kernel
theorem dX3_fewestOaken_71 : decode cX3_fewestOaken 71 = .ok (.iload_n 2, 1) := by decide +kernel
theorem dX3_fewestOaken_72 : decode cX3_fewestOaken 72 = .ok (.invokevirtual 30, 3) := by decide +kernel
theorem dX3_fewestOaken_75 : decode cX3_fewestOaken 75 = .ok (.ifCond .le 7, 3) := by decide +kernel
theorem dX3_fewestOaken_78 : decode cX3_fewestOaken 78 = .ok (.iconst 1, 1) := by decide +kernel
theorem dX3_fewestOaken_79 : decode cX3_fewestOaken 79 = .ok (.goto 4, 3) := by decide +kernel
theorem dX3_fewestOaken_82 : decode cX3_fewestOaken 82 = .ok (.iconst 0, 1) := by decide +kernel
theorem dX3_fewestOaken_83 : decode cX3_fewestOaken 83 = .ok (.iload_n 3, 1) := by decide +kernel
theorem dX3_fewestOaken_84 : decode cX3_fewestOaken 84 = .ok (.if_icmp .eq 11, 3) := by decide +kernel
theorem dX3_fewestOaken_87 : decode cX3_fewestOaken 87 = .ok (.iload 6, 2) := by decide +kernel
theorem dX3_fewestOaken_89 : decode cX3_fewestOaken 89 = .ok (.istore 4, 2) := by decide +kernel
theorem dX3_fewestOaken_91 : decode cX3_fewestOaken 91 = .ok (.iload 7, 2) := by decide +kernel
theorem dX3_fewestOaken_93 : decode cX3_fewestOaken 93 = .ok (.istore 5, 2) := by decide +kernel
theorem dX3_fewestOaken_95 : decode cX3_fewestOaken 95 = .ok (.iinc 6 1, 3) := by decide +kernel
theorem dX3_fewestOaken_98 : decode cX3_fewestOaken 98 = .ok (.goto (-63), 3) := by decide +kernel
theorem dX3_fewestOaken_101 : decode cX3_fewestOaken 101 = .ok (.iload 4, 2) := by decide +kernel
theorem dX3_fewestOaken_103 : decode cX3_fewestOaken 103 = .ok (.ireturn, 1) := by decide +kernel
theorem dX11_oaken_0 : decode cX11_oaken 0 = .ok (.aload_n 0, 1) := by decide +kernel
theorem dX11_oaken_1 : decode cX11_oaken 1 = .ok (.iload_n 1, 1) := by decide +kernel
theorem dX11_oaken_2 : decode cX11_oaken 2 = .ok (.iload_n 2, 1) := by decide +kernel
theorem dX11_oaken_3 : decode cX11_oaken 3 = .ok (.invokevirtual 115, 3) := by decide +kernel
theorem dX11_oaken_6 : decode cX11_oaken 6 = .ok (.astore_n 3, 1) := by decide +kernel
theorem dX11_oaken_7 : decode cX11_oaken 7 = .ok (.aload_n 3, 1) := by decide +kernel
theorem dX11_oaken_8 : decode cX11_oaken 8 = .ok (.ifnonnull 7, 3) := by decide +kernel
theorem dX11_oaken_11 : decode cX11_oaken 11 = .ok (.iconst (-1), 1) := by decide +kernel
theorem dX11_oaken_12 : decode cX11_oaken 12 = .ok (.goto 12, 3) := by decide +kernel
theorem dX11_oaken_15 : decode cX11_oaken 15 = .ok (.aload_n 0, 1) := by decide +kernel
theorem dX11_oaken_16 : decode cX11_oaken 16 = .ok (.getfield 62, 3) := by decide +kernel
theorem dX11_oaken_19 : decode cX11_oaken 19 = .ok (.aload_n 3, 1) := by decide +kernel
theorem dX11_oaken_20 : decode cX11_oaken 20 = .ok (.iload_n 2, 1) := by decide +kernel
theorem dX11_oaken_21 : decode cX11_oaken 21 = .ok (.invokevirtual 338, 3) := by decide +kernel
theorem dX11_oaken_24 : decode cX11_oaken 24 = .ok (.ireturn, 1) := by decide +kernel
theorem dX10_oneStepFurther_0 : decode cX10_oneStepFurther 0 = .ok (.lload_n 0, 1) := by decide +kernel
theorem dX10_oneStepFurther_1 : decode cX10_oneStepFurther 1 = .ok (.lstore 4, 2) := by decide +kernel
theorem dX10_oneStepFurther_3 : decode cX10_oneStepFurther 3 = .ok (.iconst 0, 1) := by decide +kernel
theorem dX10_oneStepFurther_4 : decode cX10_oneStepFurther 4 = .ok (.istore 6, 2) := by decide +kernel
theorem dX10_oneStepFurther_6 : decode cX10_oneStepFurther 6 = .ok (.iload 6, 2) := by decide +kernel
theorem dX10_oneStepFurther_8 : decode cX10_oneStepFurther 8 = .ok (.bipush 64, 2) := by decide +kernel
theorem dX10_oneStepFurther_10 : decode cX10_oneStepFurther 10 = .ok (.if_icmp .ge 48, 3) := by decide +kernel
theorem dX10_oneStepFurther_13 : decode cX10_oneStepFurther 13 = .ok (.iconst 0, 1) := by decide +kernel
theorem dX10_oneStepFurther_14 : decode cX10_oneStepFurther 14 = .ok (.istore 7, 2) := by decide +kernel
theorem dX10_oneStepFurther_16 : decode cX10_oneStepFurther 16 = .ok (.iload 7, 2) := by decide +kernel
theorem dX10_oneStepFurther_18 : decode cX10_oneStepFurther 18 = .ok (.bipush 6, 2) := by decide +kernel
theorem dX10_oneStepFurther_20 : decode cX10_oneStepFurther 20 = .ok (.if_icmp .ge 32, 3) := by decide +kernel
theorem dX10_oneStepFurther_23 : decode cX10_oneStepFurther 23 = .ok (.lload_n 0, 1) := by decide +kernel
theorem dX10_oneStepFurther_24 : decode cX10_oneStepFurther 24 = .ok (.iload 6, 2) := by decide +kernel
theorem dX10_oneStepFurther_26 : decode cX10_oneStepFurther 26 = .ok (.invokestatic 56, 3) := by decide +kernel
theorem dX10_oneStepFurther_29 : decode cX10_oneStepFurther 29 = .ok (.ifCond .eq 23, 3) := by decide +kernel
theorem dX10_oneStepFurther_32 : decode cX10_oneStepFurther 32 = .ok (.lload 4, 2) := by decide +kernel
theorem dX10_oneStepFurther_34 : decode cX10_oneStepFurther 34 = .ok (.lconst 1, 1) := by decide +kernel
theorem dX10_oneStepFurther_35 : decode cX10_oneStepFurther 35 = .ok (.iload 6, 2) := by decide +kernel
theorem dX10_oneStepFurther_37 : decode cX10_oneStepFurther 37 = .ok (.iconst 1, 1) := by decide +kernel
theorem dX10_oneStepFurther_38 : decode cX10_oneStepFurther 38 = .ok (.iload 7, 2) := by decide +kernel
theorem dX10_oneStepFurther_40 : decode cX10_oneStepFurther 40 = .ok (.ishl, 1) := by decide +kernel
theorem dX10_oneStepFurther_41 : decode cX10_oneStepFurther 41 = .ok (.ixor, 1) := by decide +kernel
theorem dX10_oneStepFurther_42 : decode cX10_oneStepFurther 42 = .ok (.lshl, 1) := by decide +kernel
theorem dX10_oneStepFurther_43 : decode cX10_oneStepFurther 43 = .ok (.lor, 1) := by decide +kernel
theorem dX10_oneStepFurther_44 : decode cX10_oneStepFurther 44 = .ok (.lstore 4, 2) := by decide +kernel
theorem dX10_oneStepFurther_46 : decode cX10_oneStepFurther 46 = .ok (.iinc 7 1, 3) := by decide +kernel
theorem dX10_oneStepFurther_49 : decode cX10_oneStepFurther 49 = .ok (.goto (-33), 3) := by decide +kernel
theorem dX10_oneStepFurther_52 : decode cX10_oneStepFurther 52 = .ok (.iinc 6 1, 3) := by decide +kernel
theorem dX10_oneStepFurther_55 : decode cX10_oneStepFurther 55 = .ok (.goto (-49), 3) := by decide +kernel
theorem dX10_oneStepFurther_58 : decode cX10_oneStepFurther 58 = .ok (.lload 4, 2) := by decide +kernel
theorem dX10_oneStepFurther_60 : decode cX10_oneStepFurther 60 = .ok (.lload_n 2, 1) := by decide +kernel
theorem dX10_oneStepFurther_61 : decode cX10_oneStepFurther 61 = .ok (.land, 1) := by decide +kernel
theorem dX10_oneStepFurther_62 : decode cX10_oneStepFurther 62 = .ok (.lreturn, 1) := by decide +kernel
theorem dX10_stepsWithin_0 : decode cX10_stepsWithin 0 = .ok (.lconst 1, 1) := by decide +kernel
theorem dX10_stepsWithin_1 : decode cX10_stepsWithin 1 = .ok (.iload_n 2, 1) := by decide +kernel
theorem dX10_stepsWithin_2 : decode cX10_stepsWithin 2 = .ok (.lshl, 1) := by decide +kernel
theorem dX10_stepsWithin_3 : decode cX10_stepsWithin 3 = .ok (.lload_n 0, 1) := by decide +kernel
theorem dX10_stepsWithin_4 : decode cX10_stepsWithin 4 = .ok (.land, 1) := by decide +kernel
theorem dX10_stepsWithin_5 : decode cX10_stepsWithin 5 = .ok (.lstore 4, 2) := by decide +kernel
theorem dX10_stepsWithin_7 : decode cX10_stepsWithin 7 = .ok (.iconst 0, 1) := by decide +kernel
theorem dX10_stepsWithin_8 : decode cX10_stepsWithin 8 = .ok (.istore 6, 2) := by decide +kernel
theorem dX10_stepsWithin_10 : decode cX10_stepsWithin 10 = .ok (.iload 6, 2) := by decide +kernel
theorem dX10_stepsWithin_12 : decode cX10_stepsWithin 12 = .ok (.bipush 64, 2) := by decide +kernel
theorem dX10_stepsWithin_14 : decode cX10_stepsWithin 14 = .ok (.if_icmp .ge 29, 3) := by decide +kernel
theorem dX10_stepsWithin_17 : decode cX10_stepsWithin 17 = .ok (.lload 4, 2) := by decide +kernel
theorem dX10_stepsWithin_19 : decode cX10_stepsWithin 19 = .ok (.iload_n 3, 1) := by decide +kernel
theorem dX10_stepsWithin_20 : decode cX10_stepsWithin 20 = .ok (.invokestatic 56, 3) := by decide +kernel
theorem dX10_stepsWithin_23 : decode cX10_stepsWithin 23 = .ok (.ifCond .eq 6, 3) := by decide +kernel
theorem dX10_stepsWithin_26 : decode cX10_stepsWithin 26 = .ok (.iload 6, 2) := by decide +kernel
theorem dX10_stepsWithin_28 : decode cX10_stepsWithin 28 = .ok (.ireturn, 1) := by decide +kernel
theorem dX10_stepsWithin_29 : decode cX10_stepsWithin 29 = .ok (.lload 4, 2) := by decide +kernel
theorem dX10_stepsWithin_31 : decode cX10_stepsWithin 31 = .ok (.lload_n 0, 1) := by decide +kernel
theorem dX10_stepsWithin_32 : decode cX10_stepsWithin 32 = .ok (.invokestatic 64, 3) := by decide +kernel
theorem dX10_stepsWithin_35 : decode cX10_stepsWithin 35 = .ok (.lstore 4, 2) := by decide +kernel
theorem dX10_stepsWithin_37 : decode cX10_stepsWithin 37 = .ok (.iinc 6 1, 3) := by decide +kernel
theorem dX10_stepsWithin_40 : decode cX10_stepsWithin 40 = .ok (.goto (-30), 3) := by decide +kernel
theorem dX10_stepsWithin_43 : decode cX10_stepsWithin 43 = .ok (.iconst (-1), 1) := by decide +kernel
theorem dX10_stepsWithin_44 : decode cX10_stepsWithin 44 = .ok (.ireturn, 1) := by decide +kernel
theorem dX11_walk_0 : decode cX11_walk 0 = .ok (.aload_n 0, 1) := by decide +kernel
theorem dX11_walk_1 : decode cX11_walk 1 = .ok (.iload_n 1, 1) := by decide +kernel
theorem dX11_walk_2 : decode cX11_walk 2 = .ok (.iload_n 2, 1) := by decide +kernel
theorem dX11_walk_3 : decode cX11_walk 3 = .ok (.invokevirtual 115, 3) := by decide +kernel
theorem dX11_walk_6 : decode cX11_walk 6 = .ok (.astore 4, 2) := by decide +kernel
theorem dX11_walk_8 : decode cX11_walk 8 = .ok (.aload 4, 2) := by decide +kernel
theorem dX11_walk_10 : decode cX11_walk 10 = .ok (.ifnull 10, 3) := by decide +kernel
theorem dX11_walk_13 : decode cX11_walk 13 = .ok (.iload_n 3, 1) := by decide +kernel
theorem dX11_walk_14 : decode cX11_walk 14 = .ok (.invokestatic 280, 3) := by decide +kernel
theorem dX11_walk_17 : decode cX11_walk 17 = .ok (.ifCond .ne 5, 3) := by decide +kernel
theorem dX11_walk_20 : decode cX11_walk 20 = .ok (.iconst (-1), 1) := by decide +kernel
theorem dX11_walk_21 : decode cX11_walk 21 = .ok (.ireturn, 1) := by decide +kernel
theorem dX11_walk_22 : decode cX11_walk 22 = .ok (.aload_n 0, 1) := by decide +kernel
theorem dX11_walk_23 : decode cX11_walk 23 = .ok (.getfield 48, 3) := by decide +kernel
theorem dX11_walk_26 : decode cX11_walk 26 = .ok (.aload 4, 2) := by decide +kernel
theorem dX11_walk_28 : decode cX11_walk 28 = .ok (.invokevirtual 158, 3) := by decide +kernel
theorem dX11_walk_31 : decode cX11_walk 31 = .ok (.iload_n 2, 1) := by decide +kernel
theorem dX11_walk_32 : decode cX11_walk 32 = .ok (.iload_n 3, 1) := by decide +kernel
theorem dX11_walk_33 : decode cX11_walk 33 = .ok (.invokestatic 341, 3) := by decide +kernel
theorem dX11_walk_36 : decode cX11_walk 36 = .ok (.ireturn, 1) := by decide +kernel
