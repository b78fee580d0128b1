theorem dX12_sleeps_0 : decode cX12_sleeps 0 = .ok (.iconst 0, 1) := by decide +kernel
theorem dX12_sleeps_1 : decode cX12_sleeps 1 = .ok (.istore_n 1, 1) := by decide +kernel
theorem dX12_sleeps_2 : decode cX12_sleeps 2 = .ok (.iload_n 1, 1) := by decide +kernel
theorem dX12_sleeps_3 : decode cX12_sleeps 3 = .ok (.aload_n 0, 1) := by decide +kernel
theorem dX12_sleeps_4 : decode cX12_sleeps 4 = .ok (.getfield 159, 3) := by decide +kernel
theorem dX12_sleeps_7 : decode cX12_sleeps 7 = .ok (.if_icmp .ge 73, 3) := by decide +kernel
theorem dX12_sleeps_10 : decode cX12_sleeps 10 = .ok (.aload_n 0, 1) := by decide +kernel
theorem dX12_sleeps_11 : decode cX12_sleeps 11 = .ok (.getfield 20, 3) := by decide +kernel
theorem dX12_sleeps_14 : decode cX12_sleeps 14 = .ok (.iload_n 1, 1) := by decide +kernel
theorem dX12_sleeps_15 : decode cX12_sleeps 15 = .ok (.iaload, 1) := by decide +kernel
theorem dX12_sleeps_16 : decode cX12_sleeps 16 = .ok (.aload_n 0, 1) := by decide +kernel
theorem dX12_sleeps_17 : decode cX12_sleeps 17 = .ok (.iload_n 1, 1) := by decide +kernel
theorem dX12_sleeps_18 : decode cX12_sleeps 18 = .ok (.iconst 1, 1) := by decide +kernel
theorem dX12_sleeps_19 : decode cX12_sleeps 19 = .ok (.invokevirtual 171, 3) := by decide +kernel
theorem dX12_sleeps_22 : decode cX12_sleeps 22 = .ok (.iconst 2, 1) := by decide +kernel
theorem dX12_sleeps_23 : decode cX12_sleeps 23 = .ok (.if_icmp .ne 7, 3) := by decide +kernel
theorem dX12_sleeps_26 : decode cX12_sleeps 26 = .ok (.iconst 2, 1) := by decide +kernel
theorem dX12_sleeps_27 : decode cX12_sleeps 27 = .ok (.goto 4, 3) := by decide +kernel
theorem dX12_sleeps_30 : decode cX12_sleeps 30 = .ok (.iconst 1, 1) := by decide +kernel
theorem dX12_sleeps_31 : decode cX12_sleeps 31 = .ok (.iadd, 1) := by decide +kernel
theorem dX12_sleeps_32 : decode cX12_sleeps 32 = .ok (.istore_n 2, 1) := by decide +kernel
theorem dX12_sleeps_33 : decode cX12_sleeps 33 = .ok (.aload_n 0, 1) := by decide +kernel
theorem dX12_sleeps_34 : decode cX12_sleeps 34 = .ok (.getfield 20, 3) := by decide +kernel
theorem dX12_sleeps_37 : decode cX12_sleeps 37 = .ok (.iload_n 1, 1) := by decide +kernel
theorem dX12_sleeps_38 : decode cX12_sleeps 38 = .ok (.iload_n 2, 1) := by decide +kernel
theorem dX12_sleeps_39 : decode cX12_sleeps 39 = .ok (.bipush 99, 2) := by decide +kernel
theorem dX12_sleeps_41 : decode cX12_sleeps 41 = .ok (.if_icmp .ge 7, 3) := by decide +kernel
theorem dX12_sleeps_44 : decode cX12_sleeps 44 = .ok (.iload_n 2, 1) := by decide +kernel
theorem dX12_sleeps_45 : decode cX12_sleeps 45 = .ok (.goto 5, 3) := by decide +kernel
theorem dX12_sleeps_48 : decode cX12_sleeps 48 = .ok (.bipush 99, 2) := by decide +kernel
theorem dX12_sleeps_50 : decode cX12_sleeps 50 = .ok (.iastore, 1) := by decide +kernel
theorem dX12_sleeps_51 : decode cX12_sleeps 51 = .ok (.aload_n 0, 1) := by decide +kernel
theorem dX12_sleeps_52 : decode cX12_sleeps 52 = .ok (.getfield 23, 3) := by decide +kernel
theorem dX12_sleeps_55 : decode cX12_sleeps 55 = .ok (.iload_n 1, 1) := by decide +kernel
theorem dX12_sleeps_56 : decode cX12_sleeps 56 = .ok (.dup2, 1) := by decide +kernel
theorem dX12_sleeps_57 : decode cX12_sleeps 57 = .ok (.iaload, 1) := by decide +kernel
theorem dX12_sleeps_58 : decode cX12_sleeps 58 = .ok (.aload_n 0, 1) := by decide +kernel
theorem dX12_sleeps_59 : decode cX12_sleeps 59 = .ok (.getfield 23, 3) := by decide +kernel
theorem dX12_sleeps_62 : decode cX12_sleeps 62 = .ok (.iload_n 1, 1) := by decide +kernel
theorem dX12_sleeps_63 : decode cX12_sleeps 63 = .ok (.iaload, 1) := by decide +kernel
theorem dX12_sleeps_64 : decode cX12_sleeps 64 = .ok (.ifCond .le 7, 3) := by decide +kernel
theorem dX12_sleeps_67 : decode cX12_sleeps 67 = .ok (.iconst 1, 1) := by decide +kernel
theorem dX12_sleeps_68 : decode cX12_sleeps 68 = .ok (.goto 4, 3) := by decide +kernel
theorem dX12_sleeps_71 : decode cX12_sleeps 71 = .ok (.iconst 0, 1) := by decide +kernel
theorem dX12_sleeps_72 : decode cX12_sleeps 72 = .ok (.isub, 1) := by decide +kernel
theorem dX12_sleeps_73 : decode cX12_sleeps 73 = .ok (.iastore, 1) := by decide +kernel
theorem dX12_sleeps_74 : decode cX12_sleeps 74 = .ok (.iinc 1 1, 3) := by decide +kernel
theorem dX12_sleeps_77 : decode cX12_sleeps 77 = .ok (.goto (-75), 3) := by decide +kernel
theorem dX12_sleeps_80 : decode cX12_sleeps 80 = .ok (.return_, 1) := by decide +kernel
theorem dX12_does_0 : decode cX12_does 0 = .ok (.iload_n 1, 1) := by decide +kernel
theorem dX12_does_1 : decode cX12_does 1 = .ok (.tableswitch 87 0 6 #[43, 50, 56, 62, 68, 75, 81], 43) := by decide +kernel
theorem dX12_does_44 : decode cX12_does 44 = .ok (.aload_n 0, 1) := by decide +kernel
theorem dX12_does_45 : decode cX12_does 45 = .ok (.iload_n 2, 1) := by decide +kernel
theorem dX12_does_46 : decode cX12_does 46 = .ok (.invokevirtual 234, 3) := by decide +kernel
theorem dX12_does_49 : decode cX12_does 49 = .ok (.iconst 1, 1) := by decide +kernel
theorem dX12_does_50 : decode cX12_does 50 = .ok (.ireturn, 1) := by decide +kernel
theorem dX12_does_51 : decode cX12_does 51 = .ok (.aload_n 0, 1) := by decide +kernel
theorem dX12_does_52 : decode cX12_does 52 = .ok (.iload_n 2, 1) := by decide +kernel
theorem dX12_does_53 : decode cX12_does 53 = .ok (.invokevirtual 238, 3) := by decide +kernel
theorem dX12_does_56 : decode cX12_does 56 = .ok (.ireturn, 1) := by decide +kernel
theorem dX12_does_57 : decode cX12_does 57 = .ok (.aload_n 0, 1) := by decide +kernel
theorem dX12_does_58 : decode cX12_does 58 = .ok (.iload_n 2, 1) := by decide +kernel
theorem dX12_does_59 : decode cX12_does 59 = .ok (.invokevirtual 241, 3) := by decide +kernel
theorem dX12_does_62 : decode cX12_does 62 = .ok (.ireturn, 1) := by decide +kernel
theorem dX12_does_63 : decode cX12_does 63 = .ok (.aload_n 0, 1) := by decide +kernel
theorem dX12_does_64 : decode cX12_does 64 = .ok (.iload_n 2, 1) := by decide +kernel
theorem dX12_does_65 : decode cX12_does 65 = .ok (.invokevirtual 243, 3) := by decide +kernel
theorem dX12_does_68 : decode cX12_does 68 = .ok (.ireturn, 1) := by decide +kernel
theorem dX12_does_69 : decode cX12_does 69 = .ok (.aload_n 0, 1) := by decide +kernel
theorem dX12_does_70 : decode cX12_does 70 = .ok (.iload_n 2, 1) := by decide +kernel
theorem dX12_does_71 : decode cX12_does 71 = .ok (.iload_n 3, 1) := by decide +kernel
theorem dX12_does_72 : decode cX12_does 72 = .ok (.invokevirtual 246, 3) := by decide +kernel
theorem dX12_does_75 : decode cX12_does 75 = .ok (.ireturn, 1) := by decide +kernel
theorem dX12_does_76 : decode cX12_does 76 = .ok (.aload_n 0, 1) := by decide +kernel
theorem dX12_does_77 : decode cX12_does 77 = .ok (.iconst 1, 1) := by decide +kernel
theorem dX12_does_78 : decode cX12_does 78 = .ok (.invokevirtual 249, 3) := by decide +kernel
theorem dX12_does_81 : decode cX12_does 81 = .ok (.ireturn, 1) := by decide +kernel
theorem dX12_does_82 : decode cX12_does 82 = .ok (.aload_n 0, 1) := by decide +kernel
theorem dX12_does_83 : decode cX12_does 83 = .ok (.iconst (-1), 1) := by decide +kernel
theorem dX12_does_84 : decode cX12_does 84 = .ok (.invokevirtual 249, 3) := by decide +kernel
theorem dX12_does_87 : decode cX12_does 87 = .ok (.ireturn, 1) := by decide +kernel
theorem dX12_does_88 : decode cX12_does 88 = .ok (.aload_n 0, 1) := by decide +kernel
theorem dX12_does_89 : decode cX12_does 89 = .ok (.invokevirtual 252, 3) := by decide +kernel
theorem dX12_does_92 : decode cX12_does 92 = .ok (.iconst 1, 1) := by decide +kernel
theorem dX12_does_93 : decode cX12_does 93 = .ok (.ireturn, 1) := by decide +kernel
theorem dX12_runs_0 : decode cX12_runs 0 = .ok (.aload_n 0, 1) := by decide +kernel
theorem dX12_runs_1 : decode cX12_runs 1 = .ok (.invokevirtual 255, 3) := by decide +kernel
theorem dX12_runs_4 : decode cX12_runs 4 = .ok (.aload_n 0, 1) := by decide +kernel
theorem dX12_runs_5 : decode cX12_runs 5 = .ok (.getfield 231, 3) := by decide +kernel
theorem dX12_runs_8 : decode cX12_runs 8 = .ok (.iload_n 1, 1) := by decide +kernel
theorem dX12_runs_9 : decode cX12_runs 9 = .ok (.if_icmp .ge 93, 3) := by decide +kernel
theorem dX12_runs_12 : decode cX12_runs 12 = .ok (.aload_n 0, 1) := by decide +kernel
theorem dX12_runs_13 : decode cX12_runs 13 = .ok (.getfield 231, 3) := by decide +kernel
theorem dX12_runs_16 : decode cX12_runs 16 = .ok (.aload_n 0, 1) := by decide +kernel
theorem dX12_runs_17 : decode cX12_runs 17 = .ok (.getfield 7, 3) := by decide +kernel
theorem dX12_runs_20 : decode cX12_runs 20 = .ok (.aload_n 0, 1) := by decide +kernel
theorem dX12_runs_21 : decode cX12_runs 21 = .ok (.getfield 219, 3) := by decide +kernel
theorem dX12_runs_24 : decode cX12_runs 24 = .ok (.iaload, 1) := by decide +kernel
theorem dX12_runs_25 : decode cX12_runs 25 = .ok (.if_icmp .ge 77, 3) := by decide +kernel
theorem dX12_runs_28 : decode cX12_runs 28 = .ok (.aload_n 0, 1) := by decide +kernel
theorem dX12_runs_29 : decode cX12_runs 29 = .ok (.aload_n 0, 1) := by decide +kernel
theorem dX12_runs_30 : decode cX12_runs 30 = .ok (.getfield 7, 3) := by decide +kernel
theorem dX12_runs_33 : decode cX12_runs 33 = .ok (.aload_n 0, 1) := by decide +kernel
theorem dX12_runs_34 : decode cX12_runs 34 = .ok (.getfield 219, 3) := by decide +kernel
theorem dX12_runs_37 : decode cX12_runs 37 = .ok (.iconst 1, 1) := by decide +kernel
theorem dX12_runs_38 : decode cX12_runs 38 = .ok (.iadd, 1) := by decide +kernel
theorem dX12_runs_39 : decode cX12_runs 39 = .ok (.iconst 3, 1) := by decide +kernel
theorem dX12_runs_40 : decode cX12_runs 40 = .ok (.aload_n 0, 1) := by decide +kernel
theorem dX12_runs_41 : decode cX12_runs 41 = .ok (.getfield 231, 3) := by decide +kernel
theorem dX12_runs_44 : decode cX12_runs 44 = .ok (.imul, 1) := by decide +kernel
theorem dX12_runs_45 : decode cX12_runs 45 = .ok (.iadd, 1) := by decide +kernel
theorem dX12_runs_46 : decode cX12_runs 46 = .ok (.iaload, 1) := by decide +kernel
theorem dX12_runs_47 : decode cX12_runs 47 = .ok (.aload_n 0, 1) := by decide +kernel
theorem dX12_runs_48 : decode cX12_runs 48 = .ok (.getfield 7, 3) := by decide +kernel
theorem dX12_runs_51 : decode cX12_runs 51 = .ok (.aload_n 0, 1) := by decide +kernel
theorem dX12_runs_52 : decode cX12_runs 52 = .ok (.getfield 219, 3) := by decide +kernel
theorem dX12_runs_55 : decode cX12_runs 55 = .ok (.iconst 2, 1) := by decide +kernel
theorem dX12_runs_56 : decode cX12_runs 56 = .ok (.iadd, 1) := by decide +kernel
theorem dX12_runs_57 : decode cX12_runs 57 = .ok (.iconst 3, 1) := by decide +kernel
theorem dX12_runs_58 : decode cX12_runs 58 = .ok (.aload_n 0, 1) := by decide +kernel
theorem dX12_runs_59 : decode cX12_runs 59 = .ok (.getfield 231, 3) := by decide +kernel
theorem dX12_runs_62 : decode cX12_runs 62 = .ok (.imul, 1) := by decide +kernel
theorem dX12_runs_63 : decode cX12_runs 63 = .ok (.iadd, 1) := by decide +kernel
theorem dX12_runs_64 : decode cX12_runs 64 = .ok (.iaload, 1) := by decide +kernel
theorem dX12_runs_65 : decode cX12_runs 65 = .ok (.aload_n 0, 1) := by decide +kernel
theorem dX12_runs_66 : decode cX12_runs 66 = .ok (.getfield 7, 3) := by decide +kernel
theorem dX12_runs_69 : decode cX12_runs 69 = .ok (.aload_n 0, 1) := by decide +kernel
theorem dX12_runs_70 : decode cX12_runs 70 = .ok (.getfield 219, 3) := by decide +kernel
theorem dX12_runs_73 : decode cX12_runs 73 = .ok (.iconst 3, 1) := by decide +kernel
theorem dX12_runs_74 : decode cX12_runs 74 = .ok (.iadd, 1) := by decide +kernel
theorem dX12_runs_75 : decode cX12_runs 75 = .ok (.iconst 3, 1) := by decide +kernel
theorem dX12_runs_76 : decode cX12_runs 76 = .ok (.aload_n 0, 1) := by decide +kernel
theorem dX12_runs_77 : decode cX12_runs 77 = .ok (.getfield 231, 3) := by decide +kernel
theorem dX12_runs_80 : decode cX12_runs 80 = .ok (.imul, 1) := by decide +kernel
theorem dX12_runs_81 : decode cX12_runs 81 = .ok (.iadd, 1) := by decide +kernel
theorem dX12_runs_82 : decode cX12_runs 82 = .ok (.iaload, 1) := by decide +kernel
theorem dX12_runs_83 : decode cX12_runs 83 = .ok (.invokevirtual 258, 3) := by decide +kernel
theorem dX12_runs_86 : decode cX12_runs 86 = .ok (.ifCond .eq 16, 3) := by decide +kernel
theorem dX12_runs_89 : decode cX12_runs 89 = .ok (.aload_n 0, 1) := by decide +kernel
theorem dX12_runs_90 : decode cX12_runs 90 = .ok (.dup, 1) := by decide +kernel
theorem dX12_runs_91 : decode cX12_runs 91 = .ok (.getfield 231, 3) := by decide +kernel
theorem dX12_runs_94 : decode cX12_runs 94 = .ok (.iconst 1, 1) := by decide +kernel
theorem dX12_runs_95 : decode cX12_runs 95 = .ok (.iadd, 1) := by decide +kernel
theorem dX12_runs_96 : decode cX12_runs 96 = .ok (.putfield 231, 3) := by decide +kernel
theorem dX12_runs_99 : decode cX12_runs 99 = .ok (.goto (-95), 3) := by decide +kernel
theorem dX12_runs_102 : decode cX12_runs 102 = .ok (.return_, 1) := by decide +kernel
theorem dX12_stop_0 : decode cX12_stop 0 = .ok (.aload_n 0, 1) := by decide +kernel
theorem dX12_stop_1 : decode cX12_stop 1 = .ok (.iload_n 1, 1) := by decide +kernel
theorem dX12_stop_2 : decode cX12_stop 2 = .ok (.invokevirtual 165, 3) := by decide +kernel
theorem dX12_stop_5 : decode cX12_stop 5 = .ok (.ifCond .eq 11, 3) := by decide +kernel
theorem dX12_stop_8 : decode cX12_stop 8 = .ok (.aload_n 0, 1) := by decide +kernel
theorem dX12_stop_9 : decode cX12_stop 9 = .ok (.iload_n 2, 1) := by decide +kernel
theorem dX12_stop_10 : decode cX12_stop 10 = .ok (.invokevirtual 222, 3) := by decide +kernel
theorem dX12_stop_13 : decode cX12_stop 13 = .ok (.ifCond .ne 5, 3) := by decide +kernel
theorem dX12_stop_16 : decode cX12_stop 16 = .ok (.iconst (-1), 1) := by decide +kernel
theorem dX12_stop_17 : decode cX12_stop 17 = .ok (.ireturn, 1) := by decide +kernel
theorem dX12_stop_18 : decode cX12_stop 18 = .ok (.aload_n 0, 1) := by decide +kernel
theorem dX12_stop_19 : decode cX12_stop 19 = .ok (.bipush 40, 2) := by decide +kernel
theorem dX12_stop_21 : decode cX12_stop 21 = .ok (.invokevirtual 261, 3) := by decide +kernel
theorem dX12_stop_24 : decode cX12_stop 24 = .ok (.aload_n 0, 1) := by decide +kernel
theorem dX12_stop_25 : decode cX12_stop 25 = .ok (.getfield 231, 3) := by decide +kernel
theorem dX12_stop_28 : decode cX12_stop 28 = .ok (.ireturn, 1) := by decide +kernel
theorem dX12_nowOf_0 : decode cX12_nowOf 0 = .ok (.iload_n 1, 1) := by decide +kernel
theorem dX12_nowOf_1 : decode cX12_nowOf 1 = .ok (.tableswitch 69 0 5 #[39, 44, 49, 54, 59, 64], 39) := by decide +kernel
theorem dX12_nowOf_40 : decode cX12_nowOf 40 = .ok (.aload_n 0, 1) := by decide +kernel
theorem dX12_nowOf_41 : decode cX12_nowOf 41 = .ok (.getfield 225, 3) := by decide +kernel
theorem dX12_nowOf_44 : decode cX12_nowOf 44 = .ok (.ireturn, 1) := by decide +kernel
theorem dX12_nowOf_45 : decode cX12_nowOf 45 = .ok (.aload_n 0, 1) := by decide +kernel
theorem dX12_nowOf_46 : decode cX12_nowOf 46 = .ok (.getfield 228, 3) := by decide +kernel
theorem dX12_nowOf_49 : decode cX12_nowOf 49 = .ok (.ireturn, 1) := by decide +kernel
theorem dX12_nowOf_50 : decode cX12_nowOf 50 = .ok (.aload_n 0, 1) := by decide +kernel
theorem dX12_nowOf_51 : decode cX12_nowOf 51 = .ok (.getfield 180, 3) := by decide +kernel
theorem dX12_nowOf_54 : decode cX12_nowOf 54 = .ok (.ireturn, 1) := by decide +kernel
theorem dX12_nowOf_55 : decode cX12_nowOf 55 = .ok (.aload_n 0, 1) := by decide +kernel
theorem dX12_nowOf_56 : decode cX12_nowOf 56 = .ok (.getfield 183, 3) := by decide +kernel
theorem dX12_nowOf_59 : decode cX12_nowOf 59 = .ok (.ireturn, 1) := by decide +kernel
theorem dX12_nowOf_60 : decode cX12_nowOf 60 = .ok (.aload_n 0, 1) := by decide +kernel
theorem dX12_nowOf_61 : decode cX12_nowOf 61 = .ok (.getfield 201, 3) := by decide +kernel
theorem dX12_nowOf_64 : decode cX12_nowOf 64 = .ok (.ireturn, 1) := by decide +kernel
theorem dX12_nowOf_65 : decode cX12_nowOf 65 = .ok (.aload_n 0, 1) := by decide +kernel
theorem dX12_nowOf_66 : decode cX12_nowOf 66 = .ok (.getfield 204, 3) := by decide +kernel
theorem dX12_nowOf_69 : decode cX12_nowOf 69 = .ok (.ireturn, 1) := by decide +kernel
theorem dX12_nowOf_70 : decode cX12_nowOf 70 = .ok (.iload_n 1, 1) := by decide +kernel
theorem dX12_nowOf_71 : decode cX12_nowOf 71 = .ok (.bipush 10, 2) := by decide +kernel
theorem dX12_nowOf_73 : decode cX12_nowOf 73 = .ok (.irem, 1) := by decide +kernel
theorem dX12_nowOf_74 : decode cX12_nowOf 74 = .ok (.istore_n 2, 1) := by decide +kernel
theorem dX12_nowOf_75 : decode cX12_nowOf 75 = .ok (.iload_n 1, 1) := by decide +kernel
theorem dX12_nowOf_76 : decode cX12_nowOf 76 = .ok (.bipush 40, 2) := by decide +kernel
theorem dX12_nowOf_78 : decode cX12_nowOf 78 = .ok (.bipush 49, 2) := by decide +kernel
theorem dX12_nowOf_80 : decode cX12_nowOf 80 = .ok (.invokestatic 106, 3) := by decide +kernel
theorem dX12_nowOf_83 : decode cX12_nowOf 83 = .ok (.ifCond .eq 23, 3) := by decide +kernel
theorem dX12_nowOf_86 : decode cX12_nowOf 86 = .ok (.aload_n 0, 1) := by decide +kernel
theorem dX12_nowOf_87 : decode cX12_nowOf 87 = .ok (.iload_n 2, 1) := by decide +kernel
theorem dX12_nowOf_88 : decode cX12_nowOf 88 = .ok (.invokevirtual 174, 3) := by decide +kernel
theorem dX12_nowOf_91 : decode cX12_nowOf 91 = .ok (.ifCond .eq 12, 3) := by decide +kernel
theorem dX12_nowOf_94 : decode cX12_nowOf 94 = .ok (.aload_n 0, 1) := by decide +kernel
theorem dX12_nowOf_95 : decode cX12_nowOf 95 = .ok (.getfield 26, 3) := by decide +kernel
theorem dX12_nowOf_98 : decode cX12_nowOf 98 = .ok (.iload_n 2, 1) := by decide +kernel
theorem dX12_nowOf_99 : decode cX12_nowOf 99 = .ok (.iaload, 1) := by decide +kernel
theorem dX12_nowOf_100 : decode cX12_nowOf 100 = .ok (.goto 5, 3) := by decide +kernel
theorem dX12_nowOf_103 : decode cX12_nowOf 103 = .ok (.bipush (-2), 2) := by decide +kernel
theorem dX12_nowOf_105 : decode cX12_nowOf 105 = .ok (.ireturn, 1) := by decide +kernel
theorem dX12_nowOf_106 : decode cX12_nowOf 106 = .ok (.iload_n 1, 1) := by decide +kernel
theorem dX12_nowOf_107 : decode cX12_nowOf 107 = .ok (.bipush 10, 2) := by decide +kernel
theorem dX12_nowOf_109 : decode cX12_nowOf 109 = .ok (.bipush 39, 2) := by decide +kernel
theorem dX12_nowOf_111 : decode cX12_nowOf 111 = .ok (.invokestatic 106, 3) := by decide +kernel
theorem dX12_nowOf_114 : decode cX12_nowOf 114 = .ok (.ifCond .eq 11, 3) := by decide +kernel
theorem dX12_nowOf_117 : decode cX12_nowOf 117 = .ok (.aload_n 0, 1) := by decide +kernel
theorem dX12_nowOf_118 : decode cX12_nowOf 118 = .ok (.iload_n 2, 1) := by decide +kernel
theorem dX12_nowOf_119 : decode cX12_nowOf 119 = .ok (.invokevirtual 168, 3) := by decide +kernel
theorem dX12_nowOf_122 : decode cX12_nowOf 122 = .ok (.ifCond .ne 6, 3) := by decide +kernel
theorem dX12_nowOf_125 : decode cX12_nowOf 125 = .ok (.bipush (-2), 2) := by decide +kernel
theorem dX12_nowOf_127 : decode cX12_nowOf 127 = .ok (.ireturn, 1) := by decide +kernel
theorem dX12_nowOf_128 : decode cX12_nowOf 128 = .ok (.iload_n 1, 1) := by decide +kernel
theorem dX12_nowOf_129 : decode cX12_nowOf 129 = .ok (.bipush 20, 2) := by decide +kernel
theorem dX12_nowOf_131 : decode cX12_nowOf 131 = .ok (.if_icmp .ge 12, 3) := by decide +kernel
theorem dX12_nowOf_134 : decode cX12_nowOf 134 = .ok (.aload_n 0, 1) := by decide +kernel
theorem dX12_nowOf_135 : decode cX12_nowOf 135 = .ok (.getfield 20, 3) := by decide +kernel
theorem dX12_nowOf_138 : decode cX12_nowOf 138 = .ok (.iload_n 2, 1) := by decide +kernel
theorem dX12_nowOf_139 : decode cX12_nowOf 139 = .ok (.iaload, 1) := by decide +kernel
theorem dX12_nowOf_140 : decode cX12_nowOf 140 = .ok (.goto 23, 3) := by decide +kernel
theorem dX12_nowOf_143 : decode cX12_nowOf 143 = .ok (.iload_n 1, 1) := by decide +kernel
theorem dX12_nowOf_144 : decode cX12_nowOf 144 = .ok (.bipush 30, 2) := by decide +kernel
theorem dX12_nowOf_146 : decode cX12_nowOf 146 = .ok (.if_icmp .ge 12, 3) := by decide +kernel
theorem dX12_nowOf_149 : decode cX12_nowOf 149 = .ok (.aload_n 0, 1) := by decide +kernel
theorem dX12_nowOf_150 : decode cX12_nowOf 150 = .ok (.getfield 23, 3) := by decide +kernel
theorem dX12_nowOf_153 : decode cX12_nowOf 153 = .ok (.iload_n 2, 1) := by decide +kernel
theorem dX12_nowOf_154 : decode cX12_nowOf 154 = .ok (.iaload, 1) := by decide +kernel
theorem dX12_nowOf_155 : decode cX12_nowOf 155 = .ok (.goto 8, 3) := by decide +kernel
theorem dX12_nowOf_158 : decode cX12_nowOf 158 = .ok (.aload_n 0, 1) := by decide +kernel
theorem dX12_nowOf_159 : decode cX12_nowOf 159 = .ok (.iload_n 2, 1) := by decide +kernel
theorem dX12_nowOf_160 : decode cX12_nowOf 160 = .ok (.invokevirtual 189, 3) := by decide +kernel
theorem dX12_nowOf_163 : decode cX12_nowOf 163 = .ok (.ireturn, 1) := by decide +kernel
theorem dX12_state_0 : decode cX12_state 0 = .ok (.aload_n 0, 1) := by decide +kernel
theorem dX12_state_1 : decode cX12_state 1 = .ok (.iload_n 1, 1) := by decide +kernel
theorem dX12_state_2 : decode cX12_state 2 = .ok (.invokevirtual 165, 3) := by decide +kernel
theorem dX12_state_5 : decode cX12_state 5 = .ok (.ifCond .eq 20, 3) := by decide +kernel
theorem dX12_state_8 : decode cX12_state 8 = .ok (.aload_n 0, 1) := by decide +kernel
theorem dX12_state_9 : decode cX12_state 9 = .ok (.iload_n 2, 1) := by decide +kernel
theorem dX12_state_10 : decode cX12_state 10 = .ok (.invokevirtual 222, 3) := by decide +kernel
theorem dX12_state_13 : decode cX12_state 13 = .ok (.ifCond .eq 12, 3) := by decide +kernel
theorem dX12_state_16 : decode cX12_state 16 = .ok (.iload_n 3, 1) := by decide +kernel
theorem dX12_state_17 : decode cX12_state 17 = .ok (.ifCond .lt 8, 3) := by decide +kernel
theorem dX12_state_20 : decode cX12_state 20 = .ok (.iload 4, 2) := by decide +kernel
theorem dX12_state_22 : decode cX12_state 22 = .ok (.ifCond .ge 6, 3) := by decide +kernel
theorem dX12_state_25 : decode cX12_state 25 = .ok (.bipush (-2), 2) := by decide +kernel
theorem dX12_state_27 : decode cX12_state 27 = .ok (.ireturn, 1) := by decide +kernel
theorem dX12_state_28 : decode cX12_state 28 = .ok (.aload_n 0, 1) := by decide +kernel
theorem dX12_state_29 : decode cX12_state 29 = .ok (.iload_n 3, 1) := by decide +kernel
theorem dX12_state_30 : decode cX12_state 30 = .ok (.invokevirtual 261, 3) := by decide +kernel
theorem dX12_state_33 : decode cX12_state 33 = .ok (.aload_n 0, 1) := by decide +kernel
theorem dX12_state_34 : decode cX12_state 34 = .ok (.getfield 231, 3) := by decide +kernel
theorem dX12_state_37 : decode cX12_state 37 = .ok (.iload_n 3, 1) := by decide +kernel
theorem dX12_state_38 : decode cX12_state 38 = .ok (.if_icmp .ne 12, 3) := by decide +kernel
theorem dX12_state_41 : decode cX12_state 41 = .ok (.aload_n 0, 1) := by decide +kernel
theorem dX12_state_42 : decode cX12_state 42 = .ok (.iload 4, 2) := by decide +kernel
theorem dX12_state_44 : decode cX12_state 44 = .ok (.invokevirtual 264, 3) := by decide +kernel
theorem dX12_state_47 : decode cX12_state 47 = .ok (.goto 5, 3) := by decide +kernel
theorem dX12_state_50 : decode cX12_state 50 = .ok (.bipush (-2), 2) := by decide +kernel
theorem dX12_state_52 : decode cX12_state 52 = .ok (.ireturn, 1) := by decide +kernel
theorem dX12_after_0 : decode cX12_after 0 = .ok (.aload_n 0, 1) := by decide +kernel
theorem dX12_after_1 : decode cX12_after 1 = .ok (.iload_n 1, 1) := by decide +kernel
theorem dX12_after_2 : decode cX12_after 2 = .ok (.invokevirtual 165, 3) := by decide +kernel
theorem dX12_after_5 : decode cX12_after 5 = .ok (.ifCond .eq 20, 3) := by decide +kernel
theorem dX12_after_8 : decode cX12_after 8 = .ok (.aload_n 0, 1) := by decide +kernel
theorem dX12_after_9 : decode cX12_after 9 = .ok (.iload_n 2, 1) := by decide +kernel
theorem dX12_after_10 : decode cX12_after 10 = .ok (.invokevirtual 222, 3) := by decide +kernel
theorem dX12_after_13 : decode cX12_after 13 = .ok (.ifCond .eq 12, 3) := by decide +kernel
theorem dX12_after_16 : decode cX12_after 16 = .ok (.iload_n 3, 1) := by decide +kernel
theorem dX12_after_17 : decode cX12_after 17 = .ok (.iconst 0, 1) := by decide +kernel
theorem dX12_after_18 : decode cX12_after 18 = .ok (.iconst 2, 1) := by decide +kernel
theorem dX12_after_19 : decode cX12_after 19 = .ok (.invokestatic 106, 3) := by decide +kernel
theorem dX12_after_22 : decode cX12_after 22 = .ok (.ifCond .ne 6, 3) := by decide +kernel
theorem dX12_after_25 : decode cX12_after 25 = .ok (.bipush (-2), 2) := by decide +kernel
theorem dX12_after_27 : decode cX12_after 27 = .ok (.ireturn, 1) := by decide +kernel
theorem dX12_after_28 : decode cX12_after 28 = .ok (.iconst 0, 1) := by decide +kernel
theorem dX12_after_29 : decode cX12_after 29 = .ok (.istore 4, 2) := by decide +kernel
theorem dX12_after_31 : decode cX12_after 31 = .ok (.iload 4, 2) := by decide +kernel
theorem dX12_after_33 : decode cX12_after 33 = .ok (.bipush 8, 2) := by decide +kernel
theorem dX12_after_35 : decode cX12_after 35 = .ok (.if_icmp .ge 17, 3) := by decide +kernel
theorem dX12_after_38 : decode cX12_after 38 = .ok (.aload_n 0, 1) := by decide +kernel
theorem dX12_after_39 : decode cX12_after 39 = .ok (.getfield 32, 3) := by decide +kernel
theorem dX12_after_42 : decode cX12_after 42 = .ok (.iload 4, 2) := by decide +kernel
theorem dX12_after_44 : decode cX12_after 44 = .ok (.iconst 0, 1) := by decide +kernel
theorem dX12_after_45 : decode cX12_after 45 = .ok (.iastore, 1) := by decide +kernel
theorem dX12_after_46 : decode cX12_after 46 = .ok (.iinc 4 1, 3) := by decide +kernel
theorem dX12_after_49 : decode cX12_after 49 = .ok (.goto (-18), 3) := by decide +kernel
theorem dX12_after_52 : decode cX12_after 52 = .ok (.aload_n 0, 1) := by decide +kernel
theorem dX12_after_53 : decode cX12_after 53 = .ok (.invokevirtual 255, 3) := by decide +kernel
theorem dX12_after_56 : decode cX12_after 56 = .ok (.iconst (-1), 1) := by decide +kernel
theorem dX12_after_57 : decode cX12_after 57 = .ok (.istore 4, 2) := by decide +kernel
theorem dX12_after_59 : decode cX12_after 59 = .ok (.iconst 0, 1) := by decide +kernel
theorem dX12_after_60 : decode cX12_after 60 = .ok (.istore 5, 2) := by decide +kernel
theorem dX12_after_62 : decode cX12_after 62 = .ok (.iconst 0, 1) := by decide +kernel
theorem dX12_after_63 : decode cX12_after 63 = .ok (.istore 6, 2) := by decide +kernel
theorem dX12_after_65 : decode cX12_after 65 = .ok (.iconst 0, 1) := by decide +kernel
theorem dX12_after_66 : decode cX12_after 66 = .ok (.istore 7, 2) := by decide +kernel
theorem dX12_after_68 : decode cX12_after 68 = .ok (.iload 7, 2) := by decide +kernel
theorem dX12_after_70 : decode cX12_after 70 = .ok (.aload_n 0, 1) := by decide +kernel
theorem dX12_after_71 : decode cX12_after 71 = .ok (.getfield 7, 3) := by decide +kernel
theorem dX12_after_74 : decode cX12_after 74 = .ok (.aload_n 0, 1) := by decide +kernel
theorem dX12_after_75 : decode cX12_after 75 = .ok (.getfield 219, 3) := by decide +kernel
theorem dX12_after_78 : decode cX12_after 78 = .ok (.iaload, 1) := by decide +kernel
theorem dX12_after_79 : decode cX12_after 79 = .ok (.if_icmp .ge 174, 3) := by decide +kernel
theorem dX12_after_82 : decode cX12_after 82 = .ok (.aload_n 0, 1) := by decide +kernel
theorem dX12_after_83 : decode cX12_after 83 = .ok (.getfield 219, 3) := by decide +kernel
theorem dX12_after_86 : decode cX12_after 86 = .ok (.iconst 1, 1) := by decide +kernel
theorem dX12_after_87 : decode cX12_after 87 = .ok (.iadd, 1) := by decide +kernel
theorem dX12_after_88 : decode cX12_after 88 = .ok (.iconst 3, 1) := by decide +kernel
theorem dX12_after_89 : decode cX12_after 89 = .ok (.iload 7, 2) := by decide +kernel
theorem dX12_after_91 : decode cX12_after 91 = .ok (.imul, 1) := by decide +kernel
theorem dX12_after_92 : decode cX12_after 92 = .ok (.iadd, 1) := by decide +kernel
theorem dX12_after_93 : decode cX12_after 93 = .ok (.istore 8, 2) := by decide +kernel
theorem dX12_after_95 : decode cX12_after 95 = .ok (.aload_n 0, 1) := by decide +kernel
theorem dX12_after_96 : decode cX12_after 96 = .ok (.getfield 228, 3) := by decide +kernel
theorem dX12_after_99 : decode cX12_after 99 = .ok (.istore 9, 2) := by decide +kernel
theorem dX12_after_101 : decode cX12_after 101 = .ok (.aload_n 0, 1) := by decide +kernel
theorem dX12_after_102 : decode cX12_after 102 = .ok (.aload_n 0, 1) := by decide +kernel
theorem dX12_after_103 : decode cX12_after 103 = .ok (.getfield 7, 3) := by decide +kernel
theorem dX12_after_106 : decode cX12_after 106 = .ok (.iload 8, 2) := by decide +kernel
theorem dX12_after_108 : decode cX12_after 108 = .ok (.iaload, 1) := by decide +kernel
theorem dX12_after_109 : decode cX12_after 109 = .ok (.aload_n 0, 1) := by decide +kernel
theorem dX12_after_110 : decode cX12_after 110 = .ok (.getfield 7, 3) := by decide +kernel
theorem dX12_after_113 : decode cX12_after 113 = .ok (.iload 8, 2) := by decide +kernel
theorem dX12_after_115 : decode cX12_after 115 = .ok (.iconst 1, 1) := by decide +kernel
theorem dX12_after_116 : decode cX12_after 116 = .ok (.iadd, 1) := by decide +kernel
theorem dX12_after_117 : decode cX12_after 117 = .ok (.iaload, 1) := by decide +kernel
theorem dX12_after_118 : decode cX12_after 118 = .ok (.aload_n 0, 1) := by decide +kernel
theorem dX12_after_119 : decode cX12_after 119 = .ok (.getfield 7, 3) := by decide +kernel
theorem dX12_after_122 : decode cX12_after 122 = .ok (.iload 8, 2) := by decide +kernel
theorem dX12_after_124 : decode cX12_after 124 = .ok (.iconst 2, 1) := by decide +kernel
theorem dX12_after_125 : decode cX12_after 125 = .ok (.iadd, 1) := by decide +kernel
theorem dX12_after_126 : decode cX12_after 126 = .ok (.iaload, 1) := by decide +kernel
theorem dX12_after_127 : decode cX12_after 127 = .ok (.invokevirtual 258, 3) := by decide +kernel
theorem dX12_after_130 : decode cX12_after 130 = .ok (.ifCond .ne 6, 3) := by decide +kernel
theorem dX12_after_133 : decode cX12_after 133 = .ok (.goto 120, 3) := by decide +kernel
theorem dX12_after_136 : decode cX12_after 136 = .ok (.iload 4, 2) := by decide +kernel
theorem dX12_after_138 : decode cX12_after 138 = .ok (.iconst (-1), 1) := by decide +kernel
theorem dX12_after_139 : decode cX12_after 139 = .ok (.if_icmp .ne 16, 3) := by decide +kernel
theorem dX12_after_142 : decode cX12_after 142 = .ok (.aload_n 0, 1) := by decide +kernel
theorem dX12_after_143 : decode cX12_after 143 = .ok (.getfield 183, 3) := by decide +kernel
theorem dX12_after_146 : decode cX12_after 146 = .ok (.ifCond .eq 9, 3) := by decide +kernel
theorem dX12_after_149 : decode cX12_after 149 = .ok (.iload 7, 2) := by decide +kernel
theorem dX12_after_151 : decode cX12_after 151 = .ok (.iconst 1, 1) := by decide +kernel
theorem dX12_after_152 : decode cX12_after 152 = .ok (.iadd, 1) := by decide +kernel
theorem dX12_after_153 : decode cX12_after 153 = .ok (.istore 4, 2) := by decide +kernel
theorem dX12_after_155 : decode cX12_after 155 = .ok (.aload_n 0, 1) := by decide +kernel
theorem dX12_after_156 : decode cX12_after 156 = .ok (.getfield 7, 3) := by decide +kernel
theorem dX12_after_159 : decode cX12_after 159 = .ok (.iload 8, 2) := by decide +kernel
theorem dX12_after_161 : decode cX12_after 161 = .ok (.iaload, 1) := by decide +kernel
theorem dX12_after_162 : decode cX12_after 162 = .ok (.ifCond .eq 6, 3) := by decide +kernel
theorem dX12_after_165 : decode cX12_after 165 = .ok (.goto 82, 3) := by decide +kernel
theorem dX12_after_168 : decode cX12_after 168 = .ok (.aload_n 0, 1) := by decide +kernel
theorem dX12_after_169 : decode cX12_after 169 = .ok (.getfield 228, 3) := by decide +kernel
theorem dX12_after_172 : decode cX12_after 172 = .ok (.iload 9, 2) := by decide +kernel
theorem dX12_after_174 : decode cX12_after 174 = .ok (.if_icmp .le 10, 3) := by decide +kernel
theorem dX12_after_177 : decode cX12_after 177 = .ok (.iload 6, 2) := by decide +kernel
theorem dX12_after_179 : decode cX12_after 179 = .ok (.iconst 1, 1) := by decide +kernel
theorem dX12_after_180 : decode cX12_after 180 = .ok (.iadd, 1) := by decide +kernel
theorem dX12_after_181 : decode cX12_after 181 = .ok (.goto 4, 3) := by decide +kernel
theorem dX12_after_184 : decode cX12_after 184 = .ok (.iconst 0, 1) := by decide +kernel
theorem dX12_after_185 : decode cX12_after 185 = .ok (.istore 6, 2) := by decide +kernel
theorem dX12_after_187 : decode cX12_after 187 = .ok (.iload 6, 2) := by decide +kernel
theorem dX12_after_189 : decode cX12_after 189 = .ok (.iload 5, 2) := by decide +kernel
theorem dX12_after_191 : decode cX12_after 191 = .ok (.if_icmp .le 8, 3) := by decide +kernel
theorem dX12_after_194 : decode cX12_after 194 = .ok (.iload 6, 2) := by decide +kernel
theorem dX12_after_196 : decode cX12_after 196 = .ok (.goto 5, 3) := by decide +kernel
theorem dX12_after_199 : decode cX12_after 199 = .ok (.iload 5, 2) := by decide +kernel
theorem dX12_after_201 : decode cX12_after 201 = .ok (.istore 5, 2) := by decide +kernel
theorem dX12_after_203 : decode cX12_after 203 = .ok (.iconst 0, 1) := by decide +kernel
theorem dX12_after_204 : decode cX12_after 204 = .ok (.istore 10, 2) := by decide +kernel
theorem dX12_after_206 : decode cX12_after 206 = .ok (.iload 10, 2) := by decide +kernel
theorem dX12_after_208 : decode cX12_after 208 = .ok (.aload_n 0, 1) := by decide +kernel
theorem dX12_after_209 : decode cX12_after 209 = .ok (.getfield 159, 3) := by decide +kernel
theorem dX12_after_212 : decode cX12_after 212 = .ok (.if_icmp .ge 35, 3) := by decide +kernel
theorem dX12_after_215 : decode cX12_after 215 = .ok (.aload_n 0, 1) := by decide +kernel
theorem dX12_after_216 : decode cX12_after 216 = .ok (.getfield 32, 3) := by decide +kernel
theorem dX12_after_219 : decode cX12_after 219 = .ok (.iload 10, 2) := by decide +kernel
theorem dX12_after_221 : decode cX12_after 221 = .ok (.dup2, 1) := by decide +kernel
theorem dX12_after_222 : decode cX12_after 222 = .ok (.iaload, 1) := by decide +kernel
theorem dX12_after_223 : decode cX12_after 223 = .ok (.aload_n 0, 1) := by decide +kernel
theorem dX12_after_224 : decode cX12_after 224 = .ok (.getfield 29, 3) := by decide +kernel
theorem dX12_after_227 : decode cX12_after 227 = .ok (.iload 10, 2) := by decide +kernel
theorem dX12_after_229 : decode cX12_after 229 = .ok (.iaload, 1) := by decide +kernel
theorem dX12_after_230 : decode cX12_after 230 = .ok (.iconst 2, 1) := by decide +kernel
theorem dX12_after_231 : decode cX12_after 231 = .ok (.if_icmp .ne 7, 3) := by decide +kernel
theorem dX12_after_234 : decode cX12_after 234 = .ok (.iconst 1, 1) := by decide +kernel
theorem dX12_after_235 : decode cX12_after 235 = .ok (.goto 4, 3) := by decide +kernel
theorem dX12_after_238 : decode cX12_after 238 = .ok (.iconst 0, 1) := by decide +kernel
theorem dX12_after_239 : decode cX12_after 239 = .ok (.iadd, 1) := by decide +kernel
theorem dX12_after_240 : decode cX12_after 240 = .ok (.iastore, 1) := by decide +kernel
theorem dX12_after_241 : decode cX12_after 241 = .ok (.iinc 10 1, 3) := by decide +kernel
theorem dX12_after_244 : decode cX12_after 244 = .ok (.goto (-38), 3) := by decide +kernel
theorem dX12_after_247 : decode cX12_after 247 = .ok (.iinc 7 1, 3) := by decide +kernel
theorem dX12_after_250 : decode cX12_after 250 = .ok (.goto (-182), 3) := by decide +kernel
theorem dX12_after_253 : decode cX12_after 253 = .ok (.iconst 0, 1) := by decide +kernel
theorem dX12_after_254 : decode cX12_after 254 = .ok (.istore 7, 2) := by decide +kernel
theorem dX12_after_256 : decode cX12_after 256 = .ok (.iconst 1, 1) := by decide +kernel
theorem dX12_after_257 : decode cX12_after 257 = .ok (.istore 8, 2) := by decide +kernel
theorem dX12_after_259 : decode cX12_after 259 = .ok (.iload 8, 2) := by decide +kernel
theorem dX12_after_261 : decode cX12_after 261 = .ok (.aload_n 0, 1) := by decide +kernel
theorem dX12_after_262 : decode cX12_after 262 = .ok (.getfield 159, 3) := by decide +kernel
theorem dX12_after_265 : decode cX12_after 265 = .ok (.if_icmp .ge 35, 3) := by decide +kernel
theorem dX12_after_268 : decode cX12_after 268 = .ok (.aload_n 0, 1) := by decide +kernel
theorem dX12_after_269 : decode cX12_after 269 = .ok (.getfield 32, 3) := by decide +kernel
theorem dX12_after_272 : decode cX12_after 272 = .ok (.iload 8, 2) := by decide +kernel
theorem dX12_after_274 : decode cX12_after 274 = .ok (.iaload, 1) := by decide +kernel
theorem dX12_after_275 : decode cX12_after 275 = .ok (.aload_n 0, 1) := by decide +kernel
theorem dX12_after_276 : decode cX12_after 276 = .ok (.getfield 32, 3) := by decide +kernel
theorem dX12_after_279 : decode cX12_after 279 = .ok (.iload 7, 2) := by decide +kernel
theorem dX12_after_281 : decode cX12_after 281 = .ok (.iaload, 1) := by decide +kernel
theorem dX12_after_282 : decode cX12_after 282 = .ok (.if_icmp .le 8, 3) := by decide +kernel
theorem dX12_after_285 : decode cX12_after 285 = .ok (.iload 8, 2) := by decide +kernel
theorem dX12_after_287 : decode cX12_after 287 = .ok (.goto 5, 3) := by decide +kernel
theorem dX12_after_290 : decode cX12_after 290 = .ok (.iload 7, 2) := by decide +kernel
theorem dX12_after_292 : decode cX12_after 292 = .ok (.istore 7, 2) := by decide +kernel
theorem dX12_after_294 : decode cX12_after 294 = .ok (.iinc 8 1, 3) := by decide +kernel
theorem dX12_after_297 : decode cX12_after 297 = .ok (.goto (-38), 3) := by decide +kernel
theorem dX12_after_300 : decode cX12_after 300 = .ok (.iload_n 3, 1) := by decide +kernel
theorem dX12_after_301 : decode cX12_after 301 = .ok (.ifCond .ne 8, 3) := by decide +kernel
theorem dX12_after_304 : decode cX12_after 304 = .ok (.iload 4, 2) := by decide +kernel
theorem dX12_after_306 : decode cX12_after 306 = .ok (.goto 29, 3) := by decide +kernel
theorem dX12_after_309 : decode cX12_after 309 = .ok (.iload_n 3, 1) := by decide +kernel
theorem dX12_after_310 : decode cX12_after 310 = .ok (.iconst 2, 1) := by decide +kernel
theorem dX12_after_311 : decode cX12_after 311 = .ok (.if_icmp .ne 8, 3) := by decide +kernel
theorem dX12_after_314 : decode cX12_after 314 = .ok (.iload 5, 2) := by decide +kernel
theorem dX12_after_316 : decode cX12_after 316 = .ok (.goto 19, 3) := by decide +kernel
theorem dX12_after_319 : decode cX12_after 319 = .ok (.aload_n 0, 1) := by decide +kernel
theorem dX12_after_320 : decode cX12_after 320 = .ok (.getfield 32, 3) := by decide +kernel
theorem dX12_after_323 : decode cX12_after 323 = .ok (.iload 7, 2) := by decide +kernel
theorem dX12_after_325 : decode cX12_after 325 = .ok (.iaload, 1) := by decide +kernel
theorem dX12_after_326 : decode cX12_after 326 = .ok (.ifCond .ne 7, 3) := by decide +kernel
theorem dX12_after_329 : decode cX12_after 329 = .ok (.iconst (-1), 1) := by decide +kernel
theorem dX12_after_330 : decode cX12_after 330 = .ok (.goto 5, 3) := by decide +kernel
theorem dX12_after_333 : decode cX12_after 333 = .ok (.iload 7, 2) := by decide +kernel
theorem dX12_after_335 : decode cX12_after 335 = .ok (.ireturn, 1) := by decide +kernel
theorem dX12_carried_0 : decode cX12_carried 0 = .ok (.aload_n 0, 1) := by decide +kernel
theorem dX12_carried_1 : decode cX12_carried 1 = .ok (.iload_n 1, 1) := by decide +kernel
theorem dX12_carried_2 : decode cX12_carried 2 = .ok (.invokevirtual 165, 3) := by decide +kernel
theorem dX12_carried_5 : decode cX12_carried 5 = .ok (.ifCond .eq 8, 3) := by decide +kernel
theorem dX12_carried_8 : decode cX12_carried 8 = .ok (.iload_n 2, 1) := by decide +kernel
theorem dX12_carried_9 : decode cX12_carried 9 = .ok (.iconst (-1), 1) := by decide +kernel
theorem dX12_carried_10 : decode cX12_carried 10 = .ok (.if_icmp .ge 5, 3) := by decide +kernel
theorem dX12_carried_13 : decode cX12_carried 13 = .ok (.iconst (-1), 1) := by decide +kernel
theorem dX12_carried_14 : decode cX12_carried 14 = .ok (.ireturn, 1) := by decide +kernel
theorem dX12_carried_15 : decode cX12_carried 15 = .ok (.aload_n 0, 1) := by decide +kernel
theorem dX12_carried_16 : decode cX12_carried 16 = .ok (.invokevirtual 213, 3) := by decide +kernel
theorem dX12_carried_19 : decode cX12_carried 19 = .ok (.iconst 0, 1) := by decide +kernel
theorem dX12_carried_20 : decode cX12_carried 20 = .ok (.istore_n 3, 1) := by decide +kernel
theorem dX12_carried_21 : decode cX12_carried 21 = .ok (.iconst 0, 1) := by decide +kernel
theorem dX12_carried_22 : decode cX12_carried 22 = .ok (.istore 4, 2) := by decide +kernel
theorem dX12_carried_24 : decode cX12_carried 24 = .ok (.iload 4, 2) := by decide +kernel
theorem dX12_carried_26 : decode cX12_carried 26 = .ok (.bipush 64, 2) := by decide +kernel
theorem dX12_carried_28 : decode cX12_carried 28 = .ok (.if_icmp .ge 32, 3) := by decide +kernel
theorem dX12_carried_31 : decode cX12_carried 31 = .ok (.aload_n 0, 1) := by decide +kernel
theorem dX12_carried_32 : decode cX12_carried 32 = .ok (.iload 4, 2) := by decide +kernel
theorem dX12_carried_34 : decode cX12_carried 34 = .ok (.invokevirtual 216, 3) := by decide +kernel
theorem dX12_carried_37 : decode cX12_carried 37 = .ok (.ifCond .ne 6, 3) := by decide +kernel
theorem dX12_carried_40 : decode cX12_carried 40 = .ok (.goto 14, 3) := by decide +kernel
theorem dX12_carried_43 : decode cX12_carried 43 = .ok (.iload_n 3, 1) := by decide +kernel
theorem dX12_carried_44 : decode cX12_carried 44 = .ok (.iload_n 2, 1) := by decide +kernel
theorem dX12_carried_45 : decode cX12_carried 45 = .ok (.if_icmp .ne 6, 3) := by decide +kernel
theorem dX12_carried_48 : decode cX12_carried 48 = .ok (.iload 4, 2) := by decide +kernel
theorem dX12_carried_50 : decode cX12_carried 50 = .ok (.ireturn, 1) := by decide +kernel
theorem dX12_carried_51 : decode cX12_carried 51 = .ok (.iinc 3 1, 3) := by decide +kernel
theorem dX12_carried_54 : decode cX12_carried 54 = .ok (.iinc 4 1, 3) := by decide +kernel
theorem dX12_carried_57 : decode cX12_carried 57 = .ok (.goto (-33), 3) := by decide +kernel
theorem dX12_carried_60 : decode cX12_carried 60 = .ok (.iload_n 2, 1) := by decide +kernel
theorem dX12_carried_61 : decode cX12_carried 61 = .ok (.iconst (-1), 1) := by decide +kernel
theorem dX12_carried_62 : decode cX12_carried 62 = .ok (.if_icmp .ne 7, 3) := by decide +kernel
theorem dX12_carried_65 : decode cX12_carried 65 = .ok (.iload_n 3, 1) := by decide +kernel
theorem dX12_carried_66 : decode cX12_carried 66 = .ok (.goto 4, 3) := by decide +kernel
theorem dX12_carried_69 : decode cX12_carried 69 = .ok (.iconst (-1), 1) := by decide +kernel
theorem dX12_carried_70 : decode cX12_carried 70 = .ok (.ireturn, 1) := by decide +kernel
theorem dX12_nearest_0 : decode cX12_nearest 0 = .ok (.aload_n 0, 1) := by decide +kernel
theorem dX12_nearest_1 : decode cX12_nearest 1 = .ok (.iload_n 1, 1) := by decide +kernel
theorem dX12_nearest_2 : decode cX12_nearest 2 = .ok (.invokevirtual 165, 3) := by decide +kernel
theorem dX12_nearest_5 : decode cX12_nearest 5 = .ok (.ifCond .eq 10, 3) := by decide +kernel
theorem dX12_nearest_8 : decode cX12_nearest 8 = .ok (.iload_n 2, 1) := by decide +kernel
theorem dX12_nearest_9 : decode cX12_nearest 9 = .ok (.invokestatic 210, 3) := by decide +kernel
theorem dX12_nearest_12 : decode cX12_nearest 12 = .ok (.ifCond .ne 5, 3) := by decide +kernel
theorem dX12_nearest_15 : decode cX12_nearest 15 = .ok (.iconst (-1), 1) := by decide +kernel
theorem dX12_nearest_16 : decode cX12_nearest 16 = .ok (.ireturn, 1) := by decide +kernel
theorem dX12_nearest_17 : decode cX12_nearest 17 = .ok (.aload_n 0, 1) := by decide +kernel
theorem dX12_nearest_18 : decode cX12_nearest 18 = .ok (.invokevirtual 213, 3) := by decide +kernel
theorem dX12_nearest_21 : decode cX12_nearest 21 = .ok (.iconst (-1), 1) := by decide +kernel
theorem dX12_nearest_22 : decode cX12_nearest 22 = .ok (.istore_n 3, 1) := by decide +kernel
theorem dX12_nearest_23 : decode cX12_nearest 23 = .ok (.iconst 0, 1) := by decide +kernel
theorem dX12_nearest_24 : decode cX12_nearest 24 = .ok (.istore 4, 2) := by decide +kernel
theorem dX12_nearest_26 : decode cX12_nearest 26 = .ok (.iload 4, 2) := by decide +kernel
theorem dX12_nearest_28 : decode cX12_nearest 28 = .ok (.bipush 64, 2) := by decide +kernel
theorem dX12_nearest_30 : decode cX12_nearest 30 = .ok (.if_icmp .ge 42, 3) := by decide +kernel
theorem dX12_nearest_33 : decode cX12_nearest 33 = .ok (.aload_n 0, 1) := by decide +kernel
theorem dX12_nearest_34 : decode cX12_nearest 34 = .ok (.iload 4, 2) := by decide +kernel
theorem dX12_nearest_36 : decode cX12_nearest 36 = .ok (.invokevirtual 216, 3) := by decide +kernel
theorem dX12_nearest_39 : decode cX12_nearest 39 = .ok (.ifCond .eq 27, 3) := by decide +kernel
theorem dX12_nearest_42 : decode cX12_nearest 42 = .ok (.iload_n 3, 1) := by decide +kernel
theorem dX12_nearest_43 : decode cX12_nearest 43 = .ok (.iconst (-1), 1) := by decide +kernel
theorem dX12_nearest_44 : decode cX12_nearest 44 = .ok (.if_icmp .eq 19, 3) := by decide +kernel
theorem dX12_nearest_47 : decode cX12_nearest 47 = .ok (.iload 4, 2) := by decide +kernel
theorem dX12_nearest_49 : decode cX12_nearest 49 = .ok (.iload_n 2, 1) := by decide +kernel
theorem dX12_nearest_50 : decode cX12_nearest 50 = .ok (.ixor, 1) := by decide +kernel
theorem dX12_nearest_51 : decode cX12_nearest 51 = .ok (.invokestatic 195, 3) := by decide +kernel
theorem dX12_nearest_54 : decode cX12_nearest 54 = .ok (.iload_n 3, 1) := by decide +kernel
theorem dX12_nearest_55 : decode cX12_nearest 55 = .ok (.iload_n 2, 1) := by decide +kernel
theorem dX12_nearest_56 : decode cX12_nearest 56 = .ok (.ixor, 1) := by decide +kernel
theorem dX12_nearest_57 : decode cX12_nearest 57 = .ok (.invokestatic 195, 3) := by decide +kernel
theorem dX12_nearest_60 : decode cX12_nearest 60 = .ok (.if_icmp .ge 6, 3) := by decide +kernel
theorem dX12_nearest_63 : decode cX12_nearest 63 = .ok (.iload 4, 2) := by decide +kernel
theorem dX12_nearest_65 : decode cX12_nearest 65 = .ok (.istore_n 3, 1) := by decide +kernel
theorem dX12_nearest_66 : decode cX12_nearest 66 = .ok (.iinc 4 1, 3) := by decide +kernel
theorem dX12_nearest_69 : decode cX12_nearest 69 = .ok (.goto (-43), 3) := by decide +kernel
theorem dX12_nearest_72 : decode cX12_nearest 72 = .ok (.iload_n 3, 1) := by decide +kernel
theorem dX12_nearest_73 : decode cX12_nearest 73 = .ok (.ireturn, 1) := by decide +kernel
theorem dX12_isSeat_0 : decode cX12_isSeat 0 = .ok (.iload_n 2, 1) := by decide +kernel
theorem dX12_isSeat_1 : decode cX12_isSeat 1 = .ok (.aload_n 0, 1) := by decide +kernel
theorem dX12_isSeat_2 : decode cX12_isSeat 2 = .ok (.iload_n 1, 1) := by decide +kernel
theorem dX12_isSeat_3 : decode cX12_isSeat 3 = .ok (.iconst 1, 1) := by decide +kernel
theorem dX12_isSeat_4 : decode cX12_isSeat 4 = .ok (.invokevirtual 177, 3) := by decide +kernel
theorem dX12_isSeat_7 : decode cX12_isSeat 7 = .ok (.if_icmp .eq 21, 3) := by decide +kernel
theorem dX12_isSeat_10 : decode cX12_isSeat 10 = .ok (.iload_n 2, 1) := by decide +kernel
theorem dX12_isSeat_11 : decode cX12_isSeat 11 = .ok (.bipush 8, 2) := by decide +kernel
theorem dX12_isSeat_13 : decode cX12_isSeat 13 = .ok (.if_icmp .eq 11, 3) := by decide +kernel
theorem dX12_isSeat_16 : decode cX12_isSeat 16 = .ok (.aload_n 0, 1) := by decide +kernel
theorem dX12_isSeat_17 : decode cX12_isSeat 17 = .ok (.iload_n 2, 1) := by decide +kernel
theorem dX12_isSeat_18 : decode cX12_isSeat 18 = .ok (.invokevirtual 168, 3) := by decide +kernel
theorem dX12_isSeat_21 : decode cX12_isSeat 21 = .ok (.ifCond .eq 7, 3) := by decide +kernel
theorem dX12_isSeat_24 : decode cX12_isSeat 24 = .ok (.iconst 1, 1) := by decide +kernel
theorem dX12_isSeat_25 : decode cX12_isSeat 25 = .ok (.goto 4, 3) := by decide +kernel
theorem dX12_isSeat_28 : decode cX12_isSeat 28 = .ok (.iconst 0, 1) := by decide +kernel
theorem dX12_isSeat_29 : decode cX12_isSeat 29 = .ok (.ireturn, 1) := by decide +kernel
theorem dX12_isAhead_0 : decode cX12_isAhead 0 = .ok (.iconst 0, 1) := by decide +kernel
theorem dX12_isAhead_1 : decode cX12_isAhead 1 = .ok (.istore_n 1, 1) := by decide +kernel
theorem dX12_isAhead_2 : decode cX12_isAhead 2 = .ok (.iload_n 1, 1) := by decide +kernel
theorem dX12_isAhead_3 : decode cX12_isAhead 3 = .ok (.aload_n 0, 1) := by decide +kernel
theorem dX12_isAhead_4 : decode cX12_isAhead 4 = .ok (.getfield 162, 3) := by decide +kernel
theorem dX12_isAhead_7 : decode cX12_isAhead 7 = .ok (.if_icmp .ge 45, 3) := by decide +kernel
theorem dX12_isAhead_10 : decode cX12_isAhead 10 = .ok (.aload_n 0, 1) := by decide +kernel
theorem dX12_isAhead_11 : decode cX12_isAhead 11 = .ok (.getfield 26, 3) := by decide +kernel
theorem dX12_isAhead_14 : decode cX12_isAhead 14 = .ok (.iload_n 1, 1) := by decide +kernel
theorem dX12_isAhead_15 : decode cX12_isAhead 15 = .ok (.iaload, 1) := by decide +kernel
theorem dX12_isAhead_16 : decode cX12_isAhead 16 = .ok (.aload_n 0, 1) := by decide +kernel
theorem dX12_isAhead_17 : decode cX12_isAhead 17 = .ok (.getfield 35, 3) := by decide +kernel
theorem dX12_isAhead_20 : decode cX12_isAhead 20 = .ok (.iload_n 1, 1) := by decide +kernel
theorem dX12_isAhead_21 : decode cX12_isAhead 21 = .ok (.iaload, 1) := by decide +kernel
theorem dX12_isAhead_22 : decode cX12_isAhead 22 = .ok (.if_icmp .eq 24, 3) := by decide +kernel
theorem dX12_isAhead_25 : decode cX12_isAhead 25 = .ok (.aload_n 0, 1) := by decide +kernel
theorem dX12_isAhead_26 : decode cX12_isAhead 26 = .ok (.getfield 26, 3) := by decide +kernel
theorem dX12_isAhead_29 : decode cX12_isAhead 29 = .ok (.iload_n 1, 1) := by decide +kernel
theorem dX12_isAhead_30 : decode cX12_isAhead 30 = .ok (.iaload, 1) := by decide +kernel
theorem dX12_isAhead_31 : decode cX12_isAhead 31 = .ok (.aload_n 0, 1) := by decide +kernel
theorem dX12_isAhead_32 : decode cX12_isAhead 32 = .ok (.getfield 35, 3) := by decide +kernel
theorem dX12_isAhead_35 : decode cX12_isAhead 35 = .ok (.iload_n 1, 1) := by decide +kernel
theorem dX12_isAhead_36 : decode cX12_isAhead 36 = .ok (.iaload, 1) := by decide +kernel
theorem dX12_isAhead_37 : decode cX12_isAhead 37 = .ok (.if_icmp .ge 7, 3) := by decide +kernel
theorem dX12_isAhead_40 : decode cX12_isAhead 40 = .ok (.iconst 1, 1) := by decide +kernel
theorem dX12_isAhead_41 : decode cX12_isAhead 41 = .ok (.goto 4, 3) := by decide +kernel
theorem dX12_isAhead_44 : decode cX12_isAhead 44 = .ok (.iconst 0, 1) := by decide +kernel
theorem dX12_isAhead_45 : decode cX12_isAhead 45 = .ok (.ireturn, 1) := by decide +kernel
theorem dX12_isAhead_46 : decode cX12_isAhead 46 = .ok (.iinc 1 1, 3) := by decide +kernel
theorem dX12_isAhead_49 : decode cX12_isAhead 49 = .ok (.goto (-47), 3) := by decide +kernel
theorem dX12_isAhead_52 : decode cX12_isAhead 52 = .ok (.iconst 0, 1) := by decide +kernel
theorem dX12_isAhead_53 : decode cX12_isAhead 53 = .ok (.ireturn, 1) := by decide +kernel
theorem dX12_areMoved_0 : decode cX12_areMoved 0 = .ok (.iconst 0, 1) := by decide +kernel
theorem dX12_areMoved_1 : decode cX12_areMoved 1 = .ok (.istore_n 3, 1) := by decide +kernel
theorem dX12_areMoved_2 : decode cX12_areMoved 2 = .ok (.iconst 0, 1) := by decide +kernel
theorem dX12_areMoved_3 : decode cX12_areMoved 3 = .ok (.istore 4, 2) := by decide +kernel
theorem dX12_areMoved_5 : decode cX12_areMoved 5 = .ok (.iload 4, 2) := by decide +kernel
theorem dX12_areMoved_7 : decode cX12_areMoved 7 = .ok (.aload_n 0, 1) := by decide +kernel
theorem dX12_areMoved_8 : decode cX12_areMoved 8 = .ok (.getfield 162, 3) := by decide +kernel
theorem dX12_areMoved_11 : decode cX12_areMoved 11 = .ok (.if_icmp .ge 204, 3) := by decide +kernel
theorem dX12_areMoved_14 : decode cX12_areMoved 14 = .ok (.iconst 0, 1) := by decide +kernel
theorem dX12_areMoved_15 : decode cX12_areMoved 15 = .ok (.istore 5, 2) := by decide +kernel
theorem dX12_areMoved_17 : decode cX12_areMoved 17 = .ok (.iload 5, 2) := by decide +kernel
theorem dX12_areMoved_19 : decode cX12_areMoved 19 = .ok (.bipush 8, 2) := by decide +kernel
theorem dX12_areMoved_21 : decode cX12_areMoved 21 = .ok (.if_icmp .gt 188, 3) := by decide +kernel
theorem dX12_areMoved_24 : decode cX12_areMoved 24 = .ok (.aload_n 0, 1) := by decide +kernel
theorem dX12_areMoved_25 : decode cX12_areMoved 25 = .ok (.iload 4, 2) := by decide +kernel
theorem dX12_areMoved_27 : decode cX12_areMoved 27 = .ok (.iload 5, 2) := by decide +kernel
theorem dX12_areMoved_29 : decode cX12_areMoved 29 = .ok (.invokevirtual 267, 3) := by decide +kernel
theorem dX12_areMoved_32 : decode cX12_areMoved 32 = .ok (.ifCond .ne 6, 3) := by decide +kernel
theorem dX12_areMoved_35 : decode cX12_areMoved 35 = .ok (.goto 168, 3) := by decide +kernel
theorem dX12_areMoved_38 : decode cX12_areMoved 38 = .ok (.iload_n 2, 1) := by decide +kernel
theorem dX12_areMoved_39 : decode cX12_areMoved 39 = .ok (.ifCond .eq 10, 3) := by decide +kernel
theorem dX12_areMoved_42 : decode cX12_areMoved 42 = .ok (.iload 4, 2) := by decide +kernel
theorem dX12_areMoved_44 : decode cX12_areMoved 44 = .ok (.iconst 1, 1) := by decide +kernel
theorem dX12_areMoved_45 : decode cX12_areMoved 45 = .ok (.iadd, 1) := by decide +kernel
theorem dX12_areMoved_46 : decode cX12_areMoved 46 = .ok (.goto 5, 3) := by decide +kernel
theorem dX12_areMoved_49 : decode cX12_areMoved 49 = .ok (.iload 4, 2) := by decide +kernel
theorem dX12_areMoved_51 : decode cX12_areMoved 51 = .ok (.istore 6, 2) := by decide +kernel
theorem dX12_areMoved_53 : decode cX12_areMoved 53 = .ok (.iload 6, 2) := by decide +kernel
theorem dX12_areMoved_55 : decode cX12_areMoved 55 = .ok (.iload_n 2, 1) := by decide +kernel
theorem dX12_areMoved_56 : decode cX12_areMoved 56 = .ok (.ifCond .eq 10, 3) := by decide +kernel
theorem dX12_areMoved_59 : decode cX12_areMoved 59 = .ok (.aload_n 0, 1) := by decide +kernel
theorem dX12_areMoved_60 : decode cX12_areMoved 60 = .ok (.getfield 162, 3) := by decide +kernel
theorem dX12_areMoved_63 : decode cX12_areMoved 63 = .ok (.goto 7, 3) := by decide +kernel
theorem dX12_areMoved_66 : decode cX12_areMoved 66 = .ok (.iload 4, 2) := by decide +kernel
theorem dX12_areMoved_68 : decode cX12_areMoved 68 = .ok (.iconst 1, 1) := by decide +kernel
theorem dX12_areMoved_69 : decode cX12_areMoved 69 = .ok (.iadd, 1) := by decide +kernel
theorem dX12_areMoved_70 : decode cX12_areMoved 70 = .ok (.if_icmp .ge 133, 3) := by decide +kernel
theorem dX12_areMoved_73 : decode cX12_areMoved 73 = .ok (.iconst 0, 1) := by decide +kernel
theorem dX12_areMoved_74 : decode cX12_areMoved 74 = .ok (.istore 7, 2) := by decide +kernel
theorem dX12_areMoved_76 : decode cX12_areMoved 76 = .ok (.iload 7, 2) := by decide +kernel
theorem dX12_areMoved_78 : decode cX12_areMoved 78 = .ok (.iload_n 2, 1) := by decide +kernel
theorem dX12_areMoved_79 : decode cX12_areMoved 79 = .ok (.ifCond .eq 8, 3) := by decide +kernel
theorem dX12_areMoved_82 : decode cX12_areMoved 82 = .ok (.bipush 8, 2) := by decide +kernel
theorem dX12_areMoved_84 : decode cX12_areMoved 84 = .ok (.goto 4, 3) := by decide +kernel
theorem dX12_areMoved_87 : decode cX12_areMoved 87 = .ok (.iconst 0, 1) := by decide +kernel
theorem dX12_areMoved_88 : decode cX12_areMoved 88 = .ok (.if_icmp .gt 109, 3) := by decide +kernel
theorem dX12_areMoved_91 : decode cX12_areMoved 91 = .ok (.iload_n 2, 1) := by decide +kernel
theorem dX12_areMoved_92 : decode cX12_areMoved 92 = .ok (.ifCond .eq 17, 3) := by decide +kernel
theorem dX12_areMoved_95 : decode cX12_areMoved 95 = .ok (.aload_n 0, 1) := by decide +kernel
theorem dX12_areMoved_96 : decode cX12_areMoved 96 = .ok (.iload 6, 2) := by decide +kernel
theorem dX12_areMoved_98 : decode cX12_areMoved 98 = .ok (.iload 7, 2) := by decide +kernel
theorem dX12_areMoved_100 : decode cX12_areMoved 100 = .ok (.invokevirtual 267, 3) := by decide +kernel
theorem dX12_areMoved_103 : decode cX12_areMoved 103 = .ok (.ifCond .ne 6, 3) := by decide +kernel
theorem dX12_areMoved_106 : decode cX12_areMoved 106 = .ok (.goto 85, 3) := by decide +kernel
theorem dX12_areMoved_109 : decode cX12_areMoved 109 = .ok (.aload_n 0, 1) := by decide +kernel
theorem dX12_areMoved_110 : decode cX12_areMoved 110 = .ok (.invokevirtual 213, 3) := by decide +kernel
theorem dX12_areMoved_113 : decode cX12_areMoved 113 = .ok (.iload_n 2, 1) := by decide +kernel
theorem dX12_areMoved_114 : decode cX12_areMoved 114 = .ok (.ifCond .eq 12, 3) := by decide +kernel
theorem dX12_areMoved_117 : decode cX12_areMoved 117 = .ok (.aload_n 0, 1) := by decide +kernel
theorem dX12_areMoved_118 : decode cX12_areMoved 118 = .ok (.getfield 26, 3) := by decide +kernel
theorem dX12_areMoved_121 : decode cX12_areMoved 121 = .ok (.iload 6, 2) := by decide +kernel
theorem dX12_areMoved_123 : decode cX12_areMoved 123 = .ok (.iload 7, 2) := by decide +kernel
theorem dX12_areMoved_125 : decode cX12_areMoved 125 = .ok (.iastore, 1) := by decide +kernel
theorem dX12_areMoved_126 : decode cX12_areMoved 126 = .ok (.aload_n 0, 1) := by decide +kernel
theorem dX12_areMoved_127 : decode cX12_areMoved 127 = .ok (.getfield 26, 3) := by decide +kernel
theorem dX12_areMoved_130 : decode cX12_areMoved 130 = .ok (.iload 4, 2) := by decide +kernel
theorem dX12_areMoved_132 : decode cX12_areMoved 132 = .ok (.iload 5, 2) := by decide +kernel
theorem dX12_areMoved_134 : decode cX12_areMoved 134 = .ok (.iastore, 1) := by decide +kernel
theorem dX12_areMoved_135 : decode cX12_areMoved 135 = .ok (.aload_n 0, 1) := by decide +kernel
theorem dX12_areMoved_136 : decode cX12_areMoved 136 = .ok (.iload_n 1, 1) := by decide +kernel
theorem dX12_areMoved_137 : decode cX12_areMoved 137 = .ok (.invokevirtual 216, 3) := by decide +kernel
theorem dX12_areMoved_140 : decode cX12_areMoved 140 = .ok (.ifCond .eq 51, 3) := by decide +kernel
theorem dX12_areMoved_143 : decode cX12_areMoved 143 = .ok (.iload_n 3, 1) := by decide +kernel
theorem dX12_areMoved_144 : decode cX12_areMoved 144 = .ok (.ifCond .eq 13, 3) := by decide +kernel
theorem dX12_areMoved_147 : decode cX12_areMoved 147 = .ok (.aload_n 0, 1) := by decide +kernel
theorem dX12_areMoved_148 : decode cX12_areMoved 148 = .ok (.invokevirtual 270, 3) := by decide +kernel
theorem dX12_areMoved_151 : decode cX12_areMoved 151 = .ok (.ifCond .ne 6, 3) := by decide +kernel
theorem dX12_areMoved_154 : decode cX12_areMoved 154 = .ok (.goto 37, 3) := by decide +kernel
theorem dX12_areMoved_157 : decode cX12_areMoved 157 = .ok (.iconst 1, 1) := by decide +kernel
theorem dX12_areMoved_158 : decode cX12_areMoved 158 = .ok (.istore_n 3, 1) := by decide +kernel
theorem dX12_areMoved_159 : decode cX12_areMoved 159 = .ok (.iconst 0, 1) := by decide +kernel
theorem dX12_areMoved_160 : decode cX12_areMoved 160 = .ok (.istore 8, 2) := by decide +kernel
theorem dX12_areMoved_162 : decode cX12_areMoved 162 = .ok (.iload 8, 2) := by decide +kernel
theorem dX12_areMoved_164 : decode cX12_areMoved 164 = .ok (.aload_n 0, 1) := by decide +kernel
theorem dX12_areMoved_165 : decode cX12_areMoved 165 = .ok (.getfield 162, 3) := by decide +kernel
theorem dX12_areMoved_168 : decode cX12_areMoved 168 = .ok (.if_icmp .ge 23, 3) := by decide +kernel
theorem dX12_areMoved_171 : decode cX12_areMoved 171 = .ok (.aload_n 0, 1) := by decide +kernel
theorem dX12_areMoved_172 : decode cX12_areMoved 172 = .ok (.getfield 35, 3) := by decide +kernel
theorem dX12_areMoved_175 : decode cX12_areMoved 175 = .ok (.iload 8, 2) := by decide +kernel
theorem dX12_areMoved_177 : decode cX12_areMoved 177 = .ok (.aload_n 0, 1) := by decide +kernel
theorem dX12_areMoved_178 : decode cX12_areMoved 178 = .ok (.getfield 26, 3) := by decide +kernel
theorem dX12_areMoved_181 : decode cX12_areMoved 181 = .ok (.iload 8, 2) := by decide +kernel
theorem dX12_areMoved_183 : decode cX12_areMoved 183 = .ok (.iaload, 1) := by decide +kernel
theorem dX12_areMoved_184 : decode cX12_areMoved 184 = .ok (.iastore, 1) := by decide +kernel
theorem dX12_areMoved_185 : decode cX12_areMoved 185 = .ok (.iinc 8 1, 3) := by decide +kernel
theorem dX12_areMoved_188 : decode cX12_areMoved 188 = .ok (.goto (-26), 3) := by decide +kernel
theorem dX12_areMoved_191 : decode cX12_areMoved 191 = .ok (.iinc 7 1, 3) := by decide +kernel
theorem dX12_areMoved_194 : decode cX12_areMoved 194 = .ok (.goto (-118), 3) := by decide +kernel
theorem dX12_areMoved_197 : decode cX12_areMoved 197 = .ok (.iinc 6 1, 3) := by decide +kernel
theorem dX12_areMoved_200 : decode cX12_areMoved 200 = .ok (.goto (-147), 3) := by decide +kernel
theorem dX12_areMoved_203 : decode cX12_areMoved 203 = .ok (.iinc 5 1, 3) := by decide +kernel
theorem dX12_areMoved_206 : decode cX12_areMoved 206 = .ok (.goto (-189), 3) := by decide +kernel
theorem dX12_areMoved_209 : decode cX12_areMoved 209 = .ok (.iinc 4 1, 3) := by decide +kernel
theorem dX12_areMoved_212 : decode cX12_areMoved 212 = .ok (.goto (-207), 3) := by decide +kernel
theorem dX12_areMoved_215 : decode cX12_areMoved 215 = .ok (.iload_n 3, 1) := by decide +kernel
theorem dX12_areMoved_216 : decode cX12_areMoved 216 = .ok (.ireturn, 1) := by decide +kernel
