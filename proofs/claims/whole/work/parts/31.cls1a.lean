theorem dX0_copyFrom_0 : decode cX0_copyFrom 0 = .ok (.aload_n 0, 1) := by decide +kernel
theorem dX0_copyFrom_1 : decode cX0_copyFrom 1 = .ok (.aload_n 1, 1) := by decide +kernel
theorem dX0_copyFrom_2 : decode cX0_copyFrom 2 = .ok (.getfield 40, 3) := by decide +kernel
theorem dX0_copyFrom_5 : decode cX0_copyFrom 5 = .ok (.putfield 40, 3) := by decide +kernel
theorem dX0_copyFrom_8 : decode cX0_copyFrom 8 = .ok (.aload_n 0, 1) := by decide +kernel
theorem dX0_copyFrom_9 : decode cX0_copyFrom 9 = .ok (.aload_n 1, 1) := by decide +kernel
theorem dX0_copyFrom_10 : decode cX0_copyFrom 10 = .ok (.getfield 43, 3) := by decide +kernel
theorem dX0_copyFrom_13 : decode cX0_copyFrom 13 = .ok (.putfield 43, 3) := by decide +kernel
theorem dX0_copyFrom_16 : decode cX0_copyFrom 16 = .ok (.aload_n 0, 1) := by decide +kernel
theorem dX0_copyFrom_17 : decode cX0_copyFrom 17 = .ok (.aload_n 1, 1) := by decide +kernel
theorem dX0_copyFrom_18 : decode cX0_copyFrom 18 = .ok (.getfield 9, 3) := by decide +kernel
theorem dX0_copyFrom_21 : decode cX0_copyFrom 21 = .ok (.putfield 9, 3) := by decide +kernel
theorem dX0_copyFrom_24 : decode cX0_copyFrom 24 = .ok (.aload_n 1, 1) := by decide +kernel
theorem dX0_copyFrom_25 : decode cX0_copyFrom 25 = .ok (.getfield 15, 3) := by decide +kernel
theorem dX0_copyFrom_28 : decode cX0_copyFrom 28 = .ok (.iconst 0, 1) := by decide +kernel
theorem dX0_copyFrom_29 : decode cX0_copyFrom 29 = .ok (.aload_n 0, 1) := by decide +kernel
theorem dX0_copyFrom_30 : decode cX0_copyFrom 30 = .ok (.getfield 15, 3) := by decide +kernel
theorem dX0_copyFrom_33 : decode cX0_copyFrom 33 = .ok (.iconst 0, 1) := by decide +kernel
theorem dX0_copyFrom_34 : decode cX0_copyFrom 34 = .ok (.bipush 8, 2) := by decide +kernel
theorem dX0_copyFrom_36 : decode cX0_copyFrom 36 = .ok (.invokestatic 64, 3) := by decide +kernel
theorem dX0_copyFrom_39 : decode cX0_copyFrom 39 = .ok (.aload_n 1, 1) := by decide +kernel
theorem dX0_copyFrom_40 : decode cX0_copyFrom 40 = .ok (.getfield 19, 3) := by decide +kernel
theorem dX0_copyFrom_43 : decode cX0_copyFrom 43 = .ok (.iconst 0, 1) := by decide +kernel
theorem dX0_copyFrom_44 : decode cX0_copyFrom 44 = .ok (.aload_n 0, 1) := by decide +kernel
theorem dX0_copyFrom_45 : decode cX0_copyFrom 45 = .ok (.getfield 19, 3) := by decide +kernel
theorem dX0_copyFrom_48 : decode cX0_copyFrom 48 = .ok (.iconst 0, 1) := by decide +kernel
theorem dX0_copyFrom_49 : decode cX0_copyFrom 49 = .ok (.bipush 8, 2) := by decide +kernel
theorem dX0_copyFrom_51 : decode cX0_copyFrom 51 = .ok (.invokestatic 64, 3) := by decide +kernel
theorem dX0_copyFrom_54 : decode cX0_copyFrom 54 = .ok (.aload_n 1, 1) := by decide +kernel
theorem dX0_copyFrom_55 : decode cX0_copyFrom 55 = .ok (.getfield 22, 3) := by decide +kernel
theorem dX0_copyFrom_58 : decode cX0_copyFrom 58 = .ok (.iconst 0, 1) := by decide +kernel
theorem dX0_copyFrom_59 : decode cX0_copyFrom 59 = .ok (.aload_n 0, 1) := by decide +kernel
theorem dX0_copyFrom_60 : decode cX0_copyFrom 60 = .ok (.getfield 22, 3) := by decide +kernel
theorem dX0_copyFrom_63 : decode cX0_copyFrom 63 = .ok (.iconst 0, 1) := by decide +kernel
theorem dX0_copyFrom_64 : decode cX0_copyFrom 64 = .ok (.bipush 8, 2) := by decide +kernel
theorem dX0_copyFrom_66 : decode cX0_copyFrom 66 = .ok (.invokestatic 64, 3) := by decide +kernel
theorem dX0_copyFrom_69 : decode cX0_copyFrom 69 = .ok (.aload_n 1, 1) := by decide +kernel
theorem dX0_copyFrom_70 : decode cX0_copyFrom 70 = .ok (.getfield 25, 3) := by decide +kernel
theorem dX0_copyFrom_73 : decode cX0_copyFrom 73 = .ok (.iconst 0, 1) := by decide +kernel
theorem dX0_copyFrom_74 : decode cX0_copyFrom 74 = .ok (.aload_n 0, 1) := by decide +kernel
theorem dX0_copyFrom_75 : decode cX0_copyFrom 75 = .ok (.getfield 25, 3) := by decide +kernel
theorem dX0_copyFrom_78 : decode cX0_copyFrom 78 = .ok (.iconst 0, 1) := by decide +kernel
theorem dX0_copyFrom_79 : decode cX0_copyFrom 79 = .ok (.bipush 8, 2) := by decide +kernel
theorem dX0_copyFrom_81 : decode cX0_copyFrom 81 = .ok (.invokestatic 64, 3) := by decide +kernel
theorem dX0_copyFrom_84 : decode cX0_copyFrom 84 = .ok (.aload_n 1, 1) := by decide +kernel
theorem dX0_copyFrom_85 : decode cX0_copyFrom 85 = .ok (.getfield 28, 3) := by decide +kernel
theorem dX0_copyFrom_88 : decode cX0_copyFrom 88 = .ok (.iconst 0, 1) := by decide +kernel
theorem dX0_copyFrom_89 : decode cX0_copyFrom 89 = .ok (.aload_n 0, 1) := by decide +kernel
theorem dX0_copyFrom_90 : decode cX0_copyFrom 90 = .ok (.getfield 28, 3) := by decide +kernel
theorem dX0_copyFrom_93 : decode cX0_copyFrom 93 = .ok (.iconst 0, 1) := by decide +kernel
theorem dX0_copyFrom_94 : decode cX0_copyFrom 94 = .ok (.bipush 8, 2) := by decide +kernel
theorem dX0_copyFrom_96 : decode cX0_copyFrom 96 = .ok (.invokestatic 64, 3) := by decide +kernel
theorem dX0_copyFrom_99 : decode cX0_copyFrom 99 = .ok (.aload_n 1, 1) := by decide +kernel
theorem dX0_copyFrom_100 : decode cX0_copyFrom 100 = .ok (.getfield 31, 3) := by decide +kernel
theorem dX0_copyFrom_103 : decode cX0_copyFrom 103 = .ok (.iconst 0, 1) := by decide +kernel
theorem dX0_copyFrom_104 : decode cX0_copyFrom 104 = .ok (.aload_n 0, 1) := by decide +kernel
theorem dX0_copyFrom_105 : decode cX0_copyFrom 105 = .ok (.getfield 31, 3) := by decide +kernel
theorem dX0_copyFrom_108 : decode cX0_copyFrom 108 = .ok (.iconst 0, 1) := by decide +kernel
theorem dX0_copyFrom_109 : decode cX0_copyFrom 109 = .ok (.bipush 8, 2) := by decide +kernel
theorem dX0_copyFrom_111 : decode cX0_copyFrom 111 = .ok (.invokestatic 64, 3) := by decide +kernel
theorem dX0_copyFrom_114 : decode cX0_copyFrom 114 = .ok (.aload_n 1, 1) := by decide +kernel
theorem dX0_copyFrom_115 : decode cX0_copyFrom 115 = .ok (.getfield 34, 3) := by decide +kernel
theorem dX0_copyFrom_118 : decode cX0_copyFrom 118 = .ok (.iconst 0, 1) := by decide +kernel
theorem dX0_copyFrom_119 : decode cX0_copyFrom 119 = .ok (.aload_n 0, 1) := by decide +kernel
theorem dX0_copyFrom_120 : decode cX0_copyFrom 120 = .ok (.getfield 34, 3) := by decide +kernel
theorem dX0_copyFrom_123 : decode cX0_copyFrom 123 = .ok (.iconst 0, 1) := by decide +kernel
theorem dX0_copyFrom_124 : decode cX0_copyFrom 124 = .ok (.bipush 6, 2) := by decide +kernel
theorem dX0_copyFrom_126 : decode cX0_copyFrom 126 = .ok (.invokestatic 64, 3) := by decide +kernel
theorem dX0_copyFrom_129 : decode cX0_copyFrom 129 = .ok (.aload_n 1, 1) := by decide +kernel
theorem dX0_copyFrom_130 : decode cX0_copyFrom 130 = .ok (.getfield 37, 3) := by decide +kernel
theorem dX0_copyFrom_133 : decode cX0_copyFrom 133 = .ok (.iconst 0, 1) := by decide +kernel
theorem dX0_copyFrom_134 : decode cX0_copyFrom 134 = .ok (.aload_n 0, 1) := by decide +kernel
theorem dX0_copyFrom_135 : decode cX0_copyFrom 135 = .ok (.getfield 37, 3) := by decide +kernel
theorem dX0_copyFrom_138 : decode cX0_copyFrom 138 = .ok (.iconst 0, 1) := by decide +kernel
theorem dX0_copyFrom_139 : decode cX0_copyFrom 139 = .ok (.bipush 6, 2) := by decide +kernel
theorem dX0_copyFrom_141 : decode cX0_copyFrom 141 = .ok (.invokestatic 64, 3) := by decide +kernel
theorem dX0_copyFrom_144 : decode cX0_copyFrom 144 = .ok (.return_, 1) := by decide +kernel
theorem dX8_copyFrom_0 : decode cX8_copyFrom 0 = .ok (.aload_n 0, 1) := by decide +kernel
theorem dX8_copyFrom_1 : decode cX8_copyFrom 1 = .ok (.aload_n 1, 1) := by decide +kernel
theorem dX8_copyFrom_2 : decode cX8_copyFrom 2 = .ok (.getfield 21, 3) := by decide +kernel
theorem dX8_copyFrom_5 : decode cX8_copyFrom 5 = .ok (.putfield 21, 3) := by decide +kernel
theorem dX8_copyFrom_8 : decode cX8_copyFrom 8 = .ok (.aload_n 1, 1) := by decide +kernel
theorem dX8_copyFrom_9 : decode cX8_copyFrom 9 = .ok (.getfield 9, 3) := by decide +kernel
theorem dX8_copyFrom_12 : decode cX8_copyFrom 12 = .ok (.iconst 0, 1) := by decide +kernel
theorem dX8_copyFrom_13 : decode cX8_copyFrom 13 = .ok (.aload_n 0, 1) := by decide +kernel
theorem dX8_copyFrom_14 : decode cX8_copyFrom 14 = .ok (.getfield 9, 3) := by decide +kernel
theorem dX8_copyFrom_17 : decode cX8_copyFrom 17 = .ok (.iconst 0, 1) := by decide +kernel
theorem dX8_copyFrom_18 : decode cX8_copyFrom 18 = .ok (.bipush 40, 2) := by decide +kernel
theorem dX8_copyFrom_20 : decode cX8_copyFrom 20 = .ok (.invokestatic 25, 3) := by decide +kernel
theorem dX8_copyFrom_23 : decode cX8_copyFrom 23 = .ok (.aload_n 1, 1) := by decide +kernel
theorem dX8_copyFrom_24 : decode cX8_copyFrom 24 = .ok (.getfield 15, 3) := by decide +kernel
theorem dX8_copyFrom_27 : decode cX8_copyFrom 27 = .ok (.iconst 0, 1) := by decide +kernel
theorem dX8_copyFrom_28 : decode cX8_copyFrom 28 = .ok (.aload_n 0, 1) := by decide +kernel
theorem dX8_copyFrom_29 : decode cX8_copyFrom 29 = .ok (.getfield 15, 3) := by decide +kernel
theorem dX8_copyFrom_32 : decode cX8_copyFrom 32 = .ok (.iconst 0, 1) := by decide +kernel
theorem dX8_copyFrom_33 : decode cX8_copyFrom 33 = .ok (.bipush 40, 2) := by decide +kernel
theorem dX8_copyFrom_35 : decode cX8_copyFrom 35 = .ok (.invokestatic 25, 3) := by decide +kernel
theorem dX8_copyFrom_38 : decode cX8_copyFrom 38 = .ok (.aload_n 1, 1) := by decide +kernel
theorem dX8_copyFrom_39 : decode cX8_copyFrom 39 = .ok (.getfield 18, 3) := by decide +kernel
theorem dX8_copyFrom_42 : decode cX8_copyFrom 42 = .ok (.iconst 0, 1) := by decide +kernel
theorem dX8_copyFrom_43 : decode cX8_copyFrom 43 = .ok (.aload_n 0, 1) := by decide +kernel
theorem dX8_copyFrom_44 : decode cX8_copyFrom 44 = .ok (.getfield 18, 3) := by decide +kernel
theorem dX8_copyFrom_47 : decode cX8_copyFrom 47 = .ok (.iconst 0, 1) := by decide +kernel
theorem dX8_copyFrom_48 : decode cX8_copyFrom 48 = .ok (.bipush 40, 2) := by decide +kernel
theorem dX8_copyFrom_50 : decode cX8_copyFrom 50 = .ok (.invokestatic 25, 3) := by decide +kernel
theorem dX8_copyFrom_53 : decode cX8_copyFrom 53 = .ok (.return_, 1) := by decide +kernel
theorem dX4_copyFrom_0 : decode cX4_copyFrom 0 = .ok (.aload_n 0, 1) := by decide +kernel
theorem dX4_copyFrom_1 : decode cX4_copyFrom 1 = .ok (.aload_n 1, 1) := by decide +kernel
theorem dX4_copyFrom_2 : decode cX4_copyFrom 2 = .ok (.getfield 24, 3) := by decide +kernel
theorem dX4_copyFrom_5 : decode cX4_copyFrom 5 = .ok (.putfield 24, 3) := by decide +kernel
theorem dX4_copyFrom_8 : decode cX4_copyFrom 8 = .ok (.aload_n 1, 1) := by decide +kernel
theorem dX4_copyFrom_9 : decode cX4_copyFrom 9 = .ok (.getfield 9, 3) := by decide +kernel
theorem dX4_copyFrom_12 : decode cX4_copyFrom 12 = .ok (.iconst 0, 1) := by decide +kernel
theorem dX4_copyFrom_13 : decode cX4_copyFrom 13 = .ok (.aload_n 0, 1) := by decide +kernel
theorem dX4_copyFrom_14 : decode cX4_copyFrom 14 = .ok (.getfield 9, 3) := by decide +kernel
theorem dX4_copyFrom_17 : decode cX4_copyFrom 17 = .ok (.iconst 0, 1) := by decide +kernel
theorem dX4_copyFrom_18 : decode cX4_copyFrom 18 = .ok (.bipush 8, 2) := by decide +kernel
theorem dX4_copyFrom_20 : decode cX4_copyFrom 20 = .ok (.invokestatic 59, 3) := by decide +kernel
theorem dX4_copyFrom_23 : decode cX4_copyFrom 23 = .ok (.aload_n 1, 1) := by decide +kernel
theorem dX4_copyFrom_24 : decode cX4_copyFrom 24 = .ok (.getfield 15, 3) := by decide +kernel
theorem dX4_copyFrom_27 : decode cX4_copyFrom 27 = .ok (.iconst 0, 1) := by decide +kernel
theorem dX4_copyFrom_28 : decode cX4_copyFrom 28 = .ok (.aload_n 0, 1) := by decide +kernel
theorem dX4_copyFrom_29 : decode cX4_copyFrom 29 = .ok (.getfield 15, 3) := by decide +kernel
theorem dX4_copyFrom_32 : decode cX4_copyFrom 32 = .ok (.iconst 0, 1) := by decide +kernel
theorem dX4_copyFrom_33 : decode cX4_copyFrom 33 = .ok (.bipush 8, 2) := by decide +kernel
theorem dX4_copyFrom_35 : decode cX4_copyFrom 35 = .ok (.invokestatic 59, 3) := by decide +kernel
theorem dX4_copyFrom_38 : decode cX4_copyFrom 38 = .ok (.aload_n 1, 1) := by decide +kernel
theorem dX4_copyFrom_39 : decode cX4_copyFrom 39 = .ok (.getfield 18, 3) := by decide +kernel
theorem dX4_copyFrom_42 : decode cX4_copyFrom 42 = .ok (.iconst 0, 1) := by decide +kernel
theorem dX4_copyFrom_43 : decode cX4_copyFrom 43 = .ok (.aload_n 0, 1) := by decide +kernel
theorem dX4_copyFrom_44 : decode cX4_copyFrom 44 = .ok (.getfield 18, 3) := by decide +kernel
theorem dX4_copyFrom_47 : decode cX4_copyFrom 47 = .ok (.iconst 0, 1) := by decide +kernel
theorem dX4_copyFrom_48 : decode cX4_copyFrom 48 = .ok (.bipush 8, 2) := by decide +kernel
theorem dX4_copyFrom_50 : decode cX4_copyFrom 50 = .ok (.invokestatic 59, 3) := by decide +kernel
theorem dX4_copyFrom_53 : decode cX4_copyFrom 53 = .ok (.aload_n 1, 1) := by decide +kernel
theorem dX4_copyFrom_54 : decode cX4_copyFrom 54 = .ok (.getfield 21, 3) := by decide +kernel
theorem dX4_copyFrom_57 : decode cX4_copyFrom 57 = .ok (.iconst 0, 1) := by decide +kernel
theorem dX4_copyFrom_58 : decode cX4_copyFrom 58 = .ok (.aload_n 0, 1) := by decide +kernel
theorem dX4_copyFrom_59 : decode cX4_copyFrom 59 = .ok (.getfield 21, 3) := by decide +kernel
theorem dX4_copyFrom_62 : decode cX4_copyFrom 62 = .ok (.iconst 0, 1) := by decide +kernel
theorem dX4_copyFrom_63 : decode cX4_copyFrom 63 = .ok (.bipush 8, 2) := by decide +kernel
theorem dX4_copyFrom_65 : decode cX4_copyFrom 65 = .ok (.invokestatic 59, 3) := by decide +kernel
theorem dX4_copyFrom_68 : decode cX4_copyFrom 68 = .ok (.return_, 1) := by decide +kernel
theorem dX9_keep_0 : decode cX9_keep 0 = .ok (.iload_n 1, 1) := by decide +kernel
theorem dX9_keep_1 : decode cX9_keep 1 = .ok (.ifCond .lt 17, 3) := by decide +kernel
theorem dX9_keep_4 : decode cX9_keep 4 = .ok (.iload_n 1, 1) := by decide +kernel
theorem dX9_keep_5 : decode cX9_keep 5 = .ok (.iconst 3, 1) := by decide +kernel
theorem dX9_keep_6 : decode cX9_keep 6 = .ok (.if_icmp .ge 12, 3) := by decide +kernel
theorem dX9_keep_9 : decode cX9_keep 9 = .ok (.iload_n 2, 1) := by decide +kernel
theorem dX9_keep_10 : decode cX9_keep 10 = .ok (.ifCond .lt 8, 3) := by decide +kernel
theorem dX9_keep_13 : decode cX9_keep 13 = .ok (.iload_n 2, 1) := by decide +kernel
theorem dX9_keep_14 : decode cX9_keep 14 = .ok (.iconst 2, 1) := by decide +kernel
theorem dX9_keep_15 : decode cX9_keep 15 = .ok (.if_icmp .lt 4, 3) := by decide +kernel
theorem dX9_keep_18 : decode cX9_keep 18 = .ok (.return_, 1) := by decide +kernel
theorem dX9_keep_19 : decode cX9_keep 19 = .ok (.iload_n 1, 1) := by decide +kernel
theorem dX9_keep_20 : decode cX9_keep 20 = .ok (.ifCond .ne 19, 3) := by decide +kernel
theorem dX9_keep_23 : decode cX9_keep 23 = .ok (.aload_n 0, 1) := by decide +kernel
theorem dX9_keep_24 : decode cX9_keep 24 = .ok (.getfield 25, 3) := by decide +kernel
theorem dX9_keep_27 : decode cX9_keep 27 = .ok (.iload_n 2, 1) := by decide +kernel
theorem dX9_keep_28 : decode cX9_keep 28 = .ok (.aaload, 1) := by decide +kernel
theorem dX9_keep_29 : decode cX9_keep 29 = .ok (.aload_n 3, 1) := by decide +kernel
theorem dX9_keep_30 : decode cX9_keep 30 = .ok (.getfield 47, 3) := by decide +kernel
theorem dX9_keep_33 : decode cX9_keep 33 = .ok (.invokevirtual 53, 3) := by decide +kernel
theorem dX9_keep_36 : decode cX9_keep 36 = .ok (.goto 37, 3) := by decide +kernel
theorem dX9_keep_39 : decode cX9_keep 39 = .ok (.iload_n 1, 1) := by decide +kernel
theorem dX9_keep_40 : decode cX9_keep 40 = .ok (.iconst 1, 1) := by decide +kernel
theorem dX9_keep_41 : decode cX9_keep 41 = .ok (.if_icmp .ne 19, 3) := by decide +kernel
theorem dX9_keep_44 : decode cX9_keep 44 = .ok (.aload_n 0, 1) := by decide +kernel
theorem dX9_keep_45 : decode cX9_keep 45 = .ok (.getfield 31, 3) := by decide +kernel
theorem dX9_keep_48 : decode cX9_keep 48 = .ok (.iload_n 2, 1) := by decide +kernel
theorem dX9_keep_49 : decode cX9_keep 49 = .ok (.aaload, 1) := by decide +kernel
theorem dX9_keep_50 : decode cX9_keep 50 = .ok (.aload_n 3, 1) := by decide +kernel
theorem dX9_keep_51 : decode cX9_keep 51 = .ok (.getfield 57, 3) := by decide +kernel
theorem dX9_keep_54 : decode cX9_keep 54 = .ok (.invokevirtual 61, 3) := by decide +kernel
theorem dX9_keep_57 : decode cX9_keep 57 = .ok (.goto 16, 3) := by decide +kernel
theorem dX9_keep_60 : decode cX9_keep 60 = .ok (.aload_n 0, 1) := by decide +kernel
theorem dX9_keep_61 : decode cX9_keep 61 = .ok (.getfield 37, 3) := by decide +kernel
theorem dX9_keep_64 : decode cX9_keep 64 = .ok (.iload_n 2, 1) := by decide +kernel
theorem dX9_keep_65 : decode cX9_keep 65 = .ok (.aaload, 1) := by decide +kernel
theorem dX9_keep_66 : decode cX9_keep 66 = .ok (.aload_n 3, 1) := by decide +kernel
theorem dX9_keep_67 : decode cX9_keep 67 = .ok (.getfield 64, 3) := by decide +kernel
theorem dX9_keep_70 : decode cX9_keep 70 = .ok (.invokevirtual 68, 3) := by decide +kernel
theorem dX9_keep_73 : decode cX9_keep 73 = .ok (.aload_n 0, 1) := by decide +kernel
theorem dX9_keep_74 : decode cX9_keep 74 = .ok (.getfield 19, 3) := by decide +kernel
theorem dX9_keep_77 : decode cX9_keep 77 = .ok (.iload_n 1, 1) := by decide +kernel
theorem dX9_keep_78 : decode cX9_keep 78 = .ok (.aload_n 0, 1) := by decide +kernel
theorem dX9_keep_79 : decode cX9_keep 79 = .ok (.getfield 19, 3) := by decide +kernel
theorem dX9_keep_82 : decode cX9_keep 82 = .ok (.iload_n 1, 1) := by decide +kernel
theorem dX9_keep_83 : decode cX9_keep 83 = .ok (.iaload, 1) := by decide +kernel
theorem dX9_keep_84 : decode cX9_keep 84 = .ok (.iload_n 2, 1) := by decide +kernel
theorem dX9_keep_85 : decode cX9_keep 85 = .ok (.iconst 1, 1) := by decide +kernel
theorem dX9_keep_86 : decode cX9_keep 86 = .ok (.iadd, 1) := by decide +kernel
theorem dX9_keep_87 : decode cX9_keep 87 = .ok (.invokestatic 71, 3) := by decide +kernel
theorem dX9_keep_90 : decode cX9_keep 90 = .ok (.iastore, 1) := by decide +kernel
theorem dX9_keep_91 : decode cX9_keep 91 = .ok (.return_, 1) := by decide +kernel
theorem dX11_fault_0 : decode cX11_fault 0 = .ok (.iload_n 1, 1) := by decide +kernel
theorem dX11_fault_1 : decode cX11_fault 1 = .ok (.ifCond .ne 11, 3) := by decide +kernel
theorem dX11_fault_4 : decode cX11_fault 4 = .ok (.aload_n 0, 1) := by decide +kernel
theorem dX11_fault_5 : decode cX11_fault 5 = .ok (.getfield 10, 3) := by decide +kernel
theorem dX11_fault_8 : decode cX11_fault 8 = .ok (.getfield 81, 3) := by decide +kernel
theorem dX11_fault_11 : decode cX11_fault 11 = .ok (.ireturn, 1) := by decide +kernel
theorem dX11_fault_12 : decode cX11_fault 12 = .ok (.iload_n 1, 1) := by decide +kernel
theorem dX11_fault_13 : decode cX11_fault 13 = .ok (.iconst 1, 1) := by decide +kernel
theorem dX11_fault_14 : decode cX11_fault 14 = .ok (.if_icmp .ne 13, 3) := by decide +kernel
theorem dX11_fault_17 : decode cX11_fault 17 = .ok (.aload_n 0, 1) := by decide +kernel
theorem dX11_fault_18 : decode cX11_fault 18 = .ok (.getfield 10, 3) := by decide +kernel
theorem dX11_fault_21 : decode cX11_fault 21 = .ok (.getfield 84, 3) := by decide +kernel
theorem dX11_fault_24 : decode cX11_fault 24 = .ok (.goto 4, 3) := by decide +kernel
theorem dX11_fault_27 : decode cX11_fault 27 = .ok (.iconst (-1), 1) := by decide +kernel
theorem dX11_fault_28 : decode cX11_fault 28 = .ok (.ireturn, 1) := by decide +kernel
theorem dX9_isThere_0 : decode cX9_isThere 0 = .ok (.iload_n 2, 1) := by decide +kernel
theorem dX9_isThere_1 : decode cX9_isThere 1 = .ok (.ifCond .lt 22, 3) := by decide +kernel
theorem dX9_isThere_4 : decode cX9_isThere 4 = .ok (.iload_n 2, 1) := by decide +kernel
theorem dX9_isThere_5 : decode cX9_isThere 5 = .ok (.iconst 2, 1) := by decide +kernel
theorem dX9_isThere_6 : decode cX9_isThere 6 = .ok (.if_icmp .ge 17, 3) := by decide +kernel
theorem dX9_isThere_9 : decode cX9_isThere 9 = .ok (.iload_n 2, 1) := by decide +kernel
theorem dX9_isThere_10 : decode cX9_isThere 10 = .ok (.aload_n 0, 1) := by decide +kernel
theorem dX9_isThere_11 : decode cX9_isThere 11 = .ok (.getfield 19, 3) := by decide +kernel
theorem dX9_isThere_14 : decode cX9_isThere 14 = .ok (.iload_n 1, 1) := by decide +kernel
theorem dX9_isThere_15 : decode cX9_isThere 15 = .ok (.iaload, 1) := by decide +kernel
theorem dX9_isThere_16 : decode cX9_isThere 16 = .ok (.if_icmp .ge 7, 3) := by decide +kernel
theorem dX9_isThere_19 : decode cX9_isThere 19 = .ok (.iconst 1, 1) := by decide +kernel
theorem dX9_isThere_20 : decode cX9_isThere 20 = .ok (.goto 4, 3) := by decide +kernel
theorem dX9_isThere_23 : decode cX9_isThere 23 = .ok (.iconst 0, 1) := by decide +kernel
theorem dX9_isThere_24 : decode cX9_isThere 24 = .ok (.ireturn, 1) := by decide +kernel
theorem dX9_chamberAt_0 : decode cX9_chamberAt 0 = .ok (.aload_n 0, 1) := by decide +kernel
theorem dX9_chamberAt_1 : decode cX9_chamberAt 1 = .ok (.iconst 0, 1) := by decide +kernel
theorem dX9_chamberAt_2 : decode cX9_chamberAt 2 = .ok (.iload_n 1, 1) := by decide +kernel
theorem dX9_chamberAt_3 : decode cX9_chamberAt 3 = .ok (.invokevirtual 77, 3) := by decide +kernel
theorem dX9_chamberAt_6 : decode cX9_chamberAt 6 = .ok (.ifCond .eq 12, 3) := by decide +kernel
theorem dX9_chamberAt_9 : decode cX9_chamberAt 9 = .ok (.aload_n 0, 1) := by decide +kernel
theorem dX9_chamberAt_10 : decode cX9_chamberAt 10 = .ok (.getfield 25, 3) := by decide +kernel
theorem dX9_chamberAt_13 : decode cX9_chamberAt 13 = .ok (.iload_n 1, 1) := by decide +kernel
theorem dX9_chamberAt_14 : decode cX9_chamberAt 14 = .ok (.aaload, 1) := by decide +kernel
theorem dX9_chamberAt_15 : decode cX9_chamberAt 15 = .ok (.goto 4, 3) := by decide +kernel
theorem dX9_chamberAt_18 : decode cX9_chamberAt 18 = .ok (.aconst_null, 1) := by decide +kernel
theorem dX9_chamberAt_19 : decode cX9_chamberAt 19 = .ok (.areturn, 1) := by decide +kernel
theorem dX0_tellWhole_0 : decode cX0_tellWhole 0 = .ok (.iload_n 1, 1) := by decide +kernel
theorem dX0_tellWhole_1 : decode cX0_tellWhole 1 = .ok (.ifCond .ne 8, 3) := by decide +kernel
theorem dX0_tellWhole_4 : decode cX0_tellWhole 4 = .ok (.aload_n 0, 1) := by decide +kernel
theorem dX0_tellWhole_5 : decode cX0_tellWhole 5 = .ok (.getfield 40, 3) := by decide +kernel
theorem dX0_tellWhole_8 : decode cX0_tellWhole 8 = .ok (.ireturn, 1) := by decide +kernel
theorem dX0_tellWhole_9 : decode cX0_tellWhole 9 = .ok (.iload_n 1, 1) := by decide +kernel
theorem dX0_tellWhole_10 : decode cX0_tellWhole 10 = .ok (.iconst 1, 1) := by decide +kernel
theorem dX0_tellWhole_11 : decode cX0_tellWhole 11 = .ok (.if_icmp .ne 8, 3) := by decide +kernel
theorem dX0_tellWhole_14 : decode cX0_tellWhole 14 = .ok (.aload_n 0, 1) := by decide +kernel
theorem dX0_tellWhole_15 : decode cX0_tellWhole 15 = .ok (.getfield 43, 3) := by decide +kernel
theorem dX0_tellWhole_18 : decode cX0_tellWhole 18 = .ok (.ireturn, 1) := by decide +kernel
theorem dX0_tellWhole_19 : decode cX0_tellWhole 19 = .ok (.iload_n 1, 1) := by decide +kernel
theorem dX0_tellWhole_20 : decode cX0_tellWhole 20 = .ok (.iconst 2, 1) := by decide +kernel
theorem dX0_tellWhole_21 : decode cX0_tellWhole 21 = .ok (.if_icmp .ne 10, 3) := by decide +kernel
theorem dX0_tellWhole_24 : decode cX0_tellWhole 24 = .ok (.aload_n 0, 1) := by decide +kernel
theorem dX0_tellWhole_25 : decode cX0_tellWhole 25 = .ok (.getfield 9, 3) := by decide +kernel
theorem dX0_tellWhole_28 : decode cX0_tellWhole 28 = .ok (.goto 4, 3) := by decide +kernel
theorem dX0_tellWhole_31 : decode cX0_tellWhole 31 = .ok (.iconst (-1), 1) := by decide +kernel
theorem dX0_tellWhole_32 : decode cX0_tellWhole 32 = .ok (.ireturn, 1) := by decide +kernel
theorem dX0_tellPiece_0 : decode cX0_tellPiece 0 = .ok (.aload_n 0, 1) := by decide +kernel
theorem dX0_tellPiece_1 : decode cX0_tellPiece 1 = .ok (.iload_n 2, 1) := by decide +kernel
theorem dX0_tellPiece_2 : decode cX0_tellPiece 2 = .ok (.invokevirtual 46, 3) := by decide +kernel
theorem dX0_tellPiece_5 : decode cX0_tellPiece 5 = .ok (.ifCond .ne 5, 3) := by decide +kernel
theorem dX0_tellPiece_8 : decode cX0_tellPiece 8 = .ok (.iconst (-1), 1) := by decide +kernel
theorem dX0_tellPiece_9 : decode cX0_tellPiece 9 = .ok (.ireturn, 1) := by decide +kernel
theorem dX0_tellPiece_10 : decode cX0_tellPiece 10 = .ok (.iload_n 1, 1) := by decide +kernel
theorem dX0_tellPiece_11 : decode cX0_tellPiece 11 = .ok (.tableswitch 79 1 6 #[37, 44, 51, 58, 65, 72], 37) := by decide +kernel
theorem dX0_tellPiece_48 : decode cX0_tellPiece 48 = .ok (.aload_n 0, 1) := by decide +kernel
theorem dX0_tellPiece_49 : decode cX0_tellPiece 49 = .ok (.getfield 15, 3) := by decide +kernel
theorem dX0_tellPiece_52 : decode cX0_tellPiece 52 = .ok (.iload_n 2, 1) := by decide +kernel
theorem dX0_tellPiece_53 : decode cX0_tellPiece 53 = .ok (.iaload, 1) := by decide +kernel
theorem dX0_tellPiece_54 : decode cX0_tellPiece 54 = .ok (.ireturn, 1) := by decide +kernel
theorem dX0_tellPiece_55 : decode cX0_tellPiece 55 = .ok (.aload_n 0, 1) := by decide +kernel
theorem dX0_tellPiece_56 : decode cX0_tellPiece 56 = .ok (.getfield 19, 3) := by decide +kernel
theorem dX0_tellPiece_59 : decode cX0_tellPiece 59 = .ok (.iload_n 2, 1) := by decide +kernel
theorem dX0_tellPiece_60 : decode cX0_tellPiece 60 = .ok (.iaload, 1) := by decide +kernel
theorem dX0_tellPiece_61 : decode cX0_tellPiece 61 = .ok (.ireturn, 1) := by decide +kernel
theorem dX0_tellPiece_62 : decode cX0_tellPiece 62 = .ok (.aload_n 0, 1) := by decide +kernel
theorem dX0_tellPiece_63 : decode cX0_tellPiece 63 = .ok (.getfield 22, 3) := by decide +kernel
theorem dX0_tellPiece_66 : decode cX0_tellPiece 66 = .ok (.iload_n 2, 1) := by decide +kernel
theorem dX0_tellPiece_67 : decode cX0_tellPiece 67 = .ok (.iaload, 1) := by decide +kernel
theorem dX0_tellPiece_68 : decode cX0_tellPiece 68 = .ok (.ireturn, 1) := by decide +kernel
theorem dX0_tellPiece_69 : decode cX0_tellPiece 69 = .ok (.aload_n 0, 1) := by decide +kernel
theorem dX0_tellPiece_70 : decode cX0_tellPiece 70 = .ok (.getfield 25, 3) := by decide +kernel
theorem dX0_tellPiece_73 : decode cX0_tellPiece 73 = .ok (.iload_n 2, 1) := by decide +kernel
theorem dX0_tellPiece_74 : decode cX0_tellPiece 74 = .ok (.iaload, 1) := by decide +kernel
theorem dX0_tellPiece_75 : decode cX0_tellPiece 75 = .ok (.ireturn, 1) := by decide +kernel
theorem dX0_tellPiece_76 : decode cX0_tellPiece 76 = .ok (.aload_n 0, 1) := by decide +kernel
theorem dX0_tellPiece_77 : decode cX0_tellPiece 77 = .ok (.getfield 28, 3) := by decide +kernel
theorem dX0_tellPiece_80 : decode cX0_tellPiece 80 = .ok (.iload_n 2, 1) := by decide +kernel
theorem dX0_tellPiece_81 : decode cX0_tellPiece 81 = .ok (.iaload, 1) := by decide +kernel
theorem dX0_tellPiece_82 : decode cX0_tellPiece 82 = .ok (.ireturn, 1) := by decide +kernel
theorem dX0_tellPiece_83 : decode cX0_tellPiece 83 = .ok (.aload_n 0, 1) := by decide +kernel
theorem dX0_tellPiece_84 : decode cX0_tellPiece 84 = .ok (.getfield 31, 3) := by decide +kernel
theorem dX0_tellPiece_87 : decode cX0_tellPiece 87 = .ok (.iload_n 2, 1) := by decide +kernel
theorem dX0_tellPiece_88 : decode cX0_tellPiece 88 = .ok (.iaload, 1) := by decide +kernel
theorem dX0_tellPiece_89 : decode cX0_tellPiece 89 = .ok (.ireturn, 1) := by decide +kernel
theorem dX0_tellPiece_90 : decode cX0_tellPiece 90 = .ok (.iconst (-1), 1) := by decide +kernel
theorem dX0_tellPiece_91 : decode cX0_tellPiece 91 = .ok (.ireturn, 1) := by decide +kernel
theorem dX0_hasPerson_0 : decode cX0_hasPerson 0 = .ok (.iload_n 1, 1) := by decide +kernel
theorem dX0_hasPerson_1 : decode cX0_hasPerson 1 = .ok (.ifCond .lt 15, 3) := by decide +kernel
theorem dX0_hasPerson_4 : decode cX0_hasPerson 4 = .ok (.iload_n 1, 1) := by decide +kernel
theorem dX0_hasPerson_5 : decode cX0_hasPerson 5 = .ok (.aload_n 0, 1) := by decide +kernel
theorem dX0_hasPerson_6 : decode cX0_hasPerson 6 = .ok (.getfield 43, 3) := by decide +kernel
theorem dX0_hasPerson_9 : decode cX0_hasPerson 9 = .ok (.if_icmp .ge 7, 3) := by decide +kernel
theorem dX0_hasPerson_12 : decode cX0_hasPerson 12 = .ok (.iconst 1, 1) := by decide +kernel
theorem dX0_hasPerson_13 : decode cX0_hasPerson 13 = .ok (.goto 4, 3) := by decide +kernel
theorem dX0_hasPerson_16 : decode cX0_hasPerson 16 = .ok (.iconst 0, 1) := by decide +kernel
theorem dX0_hasPerson_17 : decode cX0_hasPerson 17 = .ok (.ireturn, 1) := by decide +kernel
theorem dX0_tellPerson_0 : decode cX0_tellPerson 0 = .ok (.aload_n 0, 1) := by decide +kernel
theorem dX0_tellPerson_1 : decode cX0_tellPerson 1 = .ok (.iload_n 2, 1) := by decide +kernel
theorem dX0_tellPerson_2 : decode cX0_tellPerson 2 = .ok (.invokevirtual 61, 3) := by decide +kernel
theorem dX0_tellPerson_5 : decode cX0_tellPerson 5 = .ok (.ifCond .ne 5, 3) := by decide +kernel
theorem dX0_tellPerson_8 : decode cX0_tellPerson 8 = .ok (.iconst (-1), 1) := by decide +kernel
theorem dX0_tellPerson_9 : decode cX0_tellPerson 9 = .ok (.ireturn, 1) := by decide +kernel
theorem dX0_tellPerson_10 : decode cX0_tellPerson 10 = .ok (.iload_n 1, 1) := by decide +kernel
theorem dX0_tellPerson_11 : decode cX0_tellPerson 11 = .ok (.bipush 7, 2) := by decide +kernel
theorem dX0_tellPerson_13 : decode cX0_tellPerson 13 = .ok (.if_icmp .ne 12, 3) := by decide +kernel
theorem dX0_tellPerson_16 : decode cX0_tellPerson 16 = .ok (.aload_n 0, 1) := by decide +kernel
theorem dX0_tellPerson_17 : decode cX0_tellPerson 17 = .ok (.getfield 34, 3) := by decide +kernel
theorem dX0_tellPerson_20 : decode cX0_tellPerson 20 = .ok (.iload_n 2, 1) := by decide +kernel
theorem dX0_tellPerson_21 : decode cX0_tellPerson 21 = .ok (.iaload, 1) := by decide +kernel
theorem dX0_tellPerson_22 : decode cX0_tellPerson 22 = .ok (.goto 9, 3) := by decide +kernel
theorem dX0_tellPerson_25 : decode cX0_tellPerson 25 = .ok (.aload_n 0, 1) := by decide +kernel
theorem dX0_tellPerson_26 : decode cX0_tellPerson 26 = .ok (.getfield 37, 3) := by decide +kernel
theorem dX0_tellPerson_29 : decode cX0_tellPerson 29 = .ok (.iload_n 2, 1) := by decide +kernel
theorem dX0_tellPerson_30 : decode cX0_tellPerson 30 = .ok (.iaload, 1) := by decide +kernel
theorem dX0_tellPerson_31 : decode cX0_tellPerson 31 = .ok (.ireturn, 1) := by decide +kernel
theorem dX0_tell_0 : decode cX0_tell 0 = .ok (.iload_n 1, 1) := by decide +kernel
theorem dX0_tell_1 : decode cX0_tell 1 = .ok (.ifCond .lt 9, 3) := by decide +kernel
theorem dX0_tell_4 : decode cX0_tell 4 = .ok (.iload_n 1, 1) := by decide +kernel
theorem dX0_tell_5 : decode cX0_tell 5 = .ok (.bipush 90, 2) := by decide +kernel
theorem dX0_tell_7 : decode cX0_tell 7 = .ok (.if_icmp .lt 5, 3) := by decide +kernel
theorem dX0_tell_10 : decode cX0_tell 10 = .ok (.iconst (-1), 1) := by decide +kernel
theorem dX0_tell_11 : decode cX0_tell 11 = .ok (.ireturn, 1) := by decide +kernel
theorem dX0_tell_12 : decode cX0_tell 12 = .ok (.iload_n 1, 1) := by decide +kernel
theorem dX0_tell_13 : decode cX0_tell 13 = .ok (.bipush 10, 2) := by decide +kernel
theorem dX0_tell_15 : decode cX0_tell 15 = .ok (.if_icmp .ge 9, 3) := by decide +kernel
theorem dX0_tell_18 : decode cX0_tell 18 = .ok (.aload_n 0, 1) := by decide +kernel
theorem dX0_tell_19 : decode cX0_tell 19 = .ok (.iload_n 1, 1) := by decide +kernel
theorem dX0_tell_20 : decode cX0_tell 20 = .ok (.invokevirtual 50, 3) := by decide +kernel
theorem dX0_tell_23 : decode cX0_tell 23 = .ok (.ireturn, 1) := by decide +kernel
theorem dX0_tell_24 : decode cX0_tell 24 = .ok (.iload_n 1, 1) := by decide +kernel
theorem dX0_tell_25 : decode cX0_tell 25 = .ok (.bipush 10, 2) := by decide +kernel
theorem dX0_tell_27 : decode cX0_tell 27 = .ok (.irem, 1) := by decide +kernel
theorem dX0_tell_28 : decode cX0_tell 28 = .ok (.istore_n 2, 1) := by decide +kernel
theorem dX0_tell_29 : decode cX0_tell 29 = .ok (.iload_n 1, 1) := by decide +kernel
theorem dX0_tell_30 : decode cX0_tell 30 = .ok (.bipush 70, 2) := by decide +kernel
theorem dX0_tell_32 : decode cX0_tell 32 = .ok (.if_icmp .ge 15, 3) := by decide +kernel
theorem dX0_tell_35 : decode cX0_tell 35 = .ok (.aload_n 0, 1) := by decide +kernel
theorem dX0_tell_36 : decode cX0_tell 36 = .ok (.iload_n 1, 1) := by decide +kernel
theorem dX0_tell_37 : decode cX0_tell 37 = .ok (.bipush 10, 2) := by decide +kernel
theorem dX0_tell_39 : decode cX0_tell 39 = .ok (.idiv, 1) := by decide +kernel
theorem dX0_tell_40 : decode cX0_tell 40 = .ok (.iload_n 2, 1) := by decide +kernel
theorem dX0_tell_41 : decode cX0_tell 41 = .ok (.invokevirtual 54, 3) := by decide +kernel
theorem dX0_tell_44 : decode cX0_tell 44 = .ok (.goto 12, 3) := by decide +kernel
theorem dX0_tell_47 : decode cX0_tell 47 = .ok (.aload_n 0, 1) := by decide +kernel
theorem dX0_tell_48 : decode cX0_tell 48 = .ok (.iload_n 1, 1) := by decide +kernel
theorem dX0_tell_49 : decode cX0_tell 49 = .ok (.bipush 10, 2) := by decide +kernel
theorem dX0_tell_51 : decode cX0_tell 51 = .ok (.idiv, 1) := by decide +kernel
theorem dX0_tell_52 : decode cX0_tell 52 = .ok (.iload_n 2, 1) := by decide +kernel
theorem dX0_tell_53 : decode cX0_tell 53 = .ok (.invokevirtual 58, 3) := by decide +kernel
theorem dX0_tell_56 : decode cX0_tell 56 = .ok (.ireturn, 1) := by decide +kernel
theorem dX11_chamber_0 : decode cX11_chamber 0 = .ok (.aload_n 0, 1) := by decide +kernel
theorem dX11_chamber_1 : decode cX11_chamber 1 = .ok (.getfield 10, 3) := by decide +kernel
theorem dX11_chamber_4 : decode cX11_chamber 4 = .ok (.iload_n 1, 1) := by decide +kernel
theorem dX11_chamber_5 : decode cX11_chamber 5 = .ok (.invokevirtual 105, 3) := by decide +kernel
theorem dX11_chamber_8 : decode cX11_chamber 8 = .ok (.astore_n 3, 1) := by decide +kernel
theorem dX11_chamber_9 : decode cX11_chamber 9 = .ok (.aload_n 3, 1) := by decide +kernel
theorem dX11_chamber_10 : decode cX11_chamber 10 = .ok (.ifnonnull 7, 3) := by decide +kernel
theorem dX11_chamber_13 : decode cX11_chamber 13 = .ok (.iconst (-1), 1) := by decide +kernel
theorem dX11_chamber_14 : decode cX11_chamber 14 = .ok (.goto 8, 3) := by decide +kernel
theorem dX11_chamber_17 : decode cX11_chamber 17 = .ok (.aload_n 3, 1) := by decide +kernel
theorem dX11_chamber_18 : decode cX11_chamber 18 = .ok (.iload_n 2, 1) := by decide +kernel
theorem dX11_chamber_19 : decode cX11_chamber 19 = .ok (.invokevirtual 109, 3) := by decide +kernel
theorem dX11_chamber_22 : decode cX11_chamber 22 = .ok (.ireturn, 1) := by decide +kernel
theorem dX11_isMotion_0 : decode cX11_isMotion 0 = .ok (.iload_n 0, 1) := by decide +kernel
theorem dX11_isMotion_1 : decode cX11_isMotion 1 = .ok (.ifCond .lt 13, 3) := by decide +kernel
theorem dX11_isMotion_4 : decode cX11_isMotion 4 = .ok (.iload_n 0, 1) := by decide +kernel
theorem dX11_isMotion_5 : decode cX11_isMotion 5 = .ok (.bipush 64, 2) := by decide +kernel
theorem dX11_isMotion_7 : decode cX11_isMotion 7 = .ok (.if_icmp .ge 7, 3) := by decide +kernel
theorem dX11_isMotion_10 : decode cX11_isMotion 10 = .ok (.iconst 1, 1) := by decide +kernel
theorem dX11_isMotion_11 : decode cX11_isMotion 11 = .ok (.goto 4, 3) := by decide +kernel
theorem dX11_isMotion_14 : decode cX11_isMotion 14 = .ok (.iconst 0, 1) := by decide +kernel
theorem dX11_isMotion_15 : decode cX11_isMotion 15 = .ok (.ireturn, 1) := by decide +kernel
theorem dX11_asked_0 : decode cX11_asked 0 = .ok (.iload_n 2, 1) := by decide +kernel
theorem dX11_asked_1 : decode cX11_asked 1 = .ok (.invokestatic 280, 3) := by decide +kernel
theorem dX11_asked_4 : decode cX11_asked 4 = .ok (.ifCond .eq 14, 3) := by decide +kernel
theorem dX11_asked_7 : decode cX11_asked 7 = .ok (.aload_n 0, 1) := by decide +kernel
theorem dX11_asked_8 : decode cX11_asked 8 = .ok (.getfield 10, 3) := by decide +kernel
theorem dX11_asked_11 : decode cX11_asked 11 = .ok (.iload_n 1, 1) := by decide +kernel
theorem dX11_asked_12 : decode cX11_asked 12 = .ok (.invokevirtual 105, 3) := by decide +kernel
theorem dX11_asked_15 : decode cX11_asked 15 = .ok (.goto 4, 3) := by decide +kernel
theorem dX11_asked_18 : decode cX11_asked 18 = .ok (.aconst_null, 1) := by decide +kernel
theorem dX11_asked_19 : decode cX11_asked 19 = .ok (.areturn, 1) := by decide +kernel
theorem dJ7_fill_53178_0 : decode cJ7_fill_53178 0 = .ok (.iconst 0, 1) := by decide +kernel
theorem dJ7_fill_53178_1 : decode cJ7_fill_53178 1 = .ok (.istore_n 2, 1) := by decide +kernel
theorem dJ7_fill_53178_2 : decode cJ7_fill_53178 2 = .ok (.aload_n 0, 1) := by decide +kernel
theorem dJ7_fill_53178_3 : decode cJ7_fill_53178 3 = .ok (.arraylength, 1) := by decide +kernel
theorem dJ7_fill_53178_4 : decode cJ7_fill_53178 4 = .ok (.istore_n 3, 1) := by decide +kernel
theorem dJ7_fill_53178_5 : decode cJ7_fill_53178 5 = .ok (.iload_n 2, 1) := by decide +kernel
theorem dJ7_fill_53178_6 : decode cJ7_fill_53178 6 = .ok (.iload_n 3, 1) := by decide +kernel
theorem dJ7_fill_53178_7 : decode cJ7_fill_53178 7 = .ok (.if_icmp .ge 13, 3) := by decide +kernel
theorem dJ7_fill_53178_10 : decode cJ7_fill_53178 10 = .ok (.aload_n 0, 1) := by decide +kernel
theorem dJ7_fill_53178_11 : decode cJ7_fill_53178 11 = .ok (.iload_n 2, 1) := by decide +kernel
theorem dJ7_fill_53178_12 : decode cJ7_fill_53178 12 = .ok (.iload_n 1, 1) := by decide +kernel
theorem dJ7_fill_53178_13 : decode cJ7_fill_53178 13 = .ok (.iastore, 1) := by decide +kernel
theorem dJ7_fill_53178_14 : decode cJ7_fill_53178 14 = .ok (.iinc 2 1, 3) := by decide +kernel
theorem dJ7_fill_53178_17 : decode cJ7_fill_53178 17 = .ok (.goto (-12), 3) := by decide +kernel
theorem dJ7_fill_53178_20 : decode cJ7_fill_53178 20 = .ok (.return_, 1) := by decide +kernel
theorem dX2_putLoad_0 : decode cX2_putLoad 0 = .ok (.aload_n 0, 1) := by decide +kernel
theorem dX2_putLoad_1 : decode cX2_putLoad 1 = .ok (.getfield 12, 3) := by decide +kernel
theorem dX2_putLoad_4 : decode cX2_putLoad 4 = .ok (.iload_n 1, 1) := by decide +kernel
theorem dX2_putLoad_5 : decode cX2_putLoad 5 = .ok (.invokevirtual 61, 3) := by decide +kernel
theorem dX2_putLoad_8 : decode cX2_putLoad 8 = .ok (.ifCond .eq 13, 3) := by decide +kernel
theorem dX2_putLoad_11 : decode cX2_putLoad 11 = .ok (.aload_n 0, 1) := by decide +kernel
theorem dX2_putLoad_12 : decode cX2_putLoad 12 = .ok (.getfield 22, 3) := by decide +kernel
theorem dX2_putLoad_15 : decode cX2_putLoad 15 = .ok (.iload_n 1, 1) := by decide +kernel
theorem dX2_putLoad_16 : decode cX2_putLoad 16 = .ok (.dup2, 1) := by decide +kernel
theorem dX2_putLoad_17 : decode cX2_putLoad 17 = .ok (.iaload, 1) := by decide +kernel
theorem dX2_putLoad_18 : decode cX2_putLoad 18 = .ok (.iload_n 2, 1) := by decide +kernel
theorem dX2_putLoad_19 : decode cX2_putLoad 19 = .ok (.iadd, 1) := by decide +kernel
theorem dX2_putLoad_20 : decode cX2_putLoad 20 = .ok (.iastore, 1) := by decide +kernel
theorem dX2_putLoad_21 : decode cX2_putLoad 21 = .ok (.return_, 1) := by decide +kernel
theorem dX2_enter_0 : decode cX2_enter 0 = .ok (.aload_n 0, 1) := by decide +kernel
theorem dX2_enter_1 : decode cX2_enter 1 = .ok (.getfield 12, 3) := by decide +kernel
theorem dX2_enter_4 : decode cX2_enter 4 = .ok (.aload_n 1, 1) := by decide +kernel
theorem dX2_enter_5 : decode cX2_enter 5 = .ok (.invokevirtual 28, 3) := by decide +kernel
theorem dX2_enter_8 : decode cX2_enter 8 = .ok (.aload_n 0, 1) := by decide +kernel
theorem dX2_enter_9 : decode cX2_enter 9 = .ok (.getfield 18, 3) := by decide +kernel
theorem dX2_enter_12 : decode cX2_enter 12 = .ok (.iconst 0, 1) := by decide +kernel
theorem dX2_enter_13 : decode cX2_enter 13 = .ok (.invokestatic 32, 3) := by decide +kernel
theorem dX2_enter_16 : decode cX2_enter 16 = .ok (.aload_n 0, 1) := by decide +kernel
theorem dX2_enter_17 : decode cX2_enter 17 = .ok (.getfield 22, 3) := by decide +kernel
theorem dX2_enter_20 : decode cX2_enter 20 = .ok (.iconst 0, 1) := by decide +kernel
theorem dX2_enter_21 : decode cX2_enter 21 = .ok (.invokestatic 32, 3) := by decide +kernel
theorem dX2_enter_24 : decode cX2_enter 24 = .ok (.aload_n 0, 1) := by decide +kernel
theorem dX2_enter_25 : decode cX2_enter 25 = .ok (.iconst 0, 1) := by decide +kernel
theorem dX2_enter_26 : decode cX2_enter 26 = .ok (.putfield 38, 3) := by decide +kernel
theorem dX2_enter_29 : decode cX2_enter 29 = .ok (.aload_n 0, 1) := by decide +kernel
theorem dX2_enter_30 : decode cX2_enter 30 = .ok (.iconst 0, 1) := by decide +kernel
theorem dX2_enter_31 : decode cX2_enter 31 = .ok (.putfield 42, 3) := by decide +kernel
theorem dX2_enter_34 : decode cX2_enter 34 = .ok (.aload_n 0, 1) := by decide +kernel
theorem dX2_enter_35 : decode cX2_enter 35 = .ok (.iconst 0, 1) := by decide +kernel
theorem dX2_enter_36 : decode cX2_enter 36 = .ok (.putfield 45, 3) := by decide +kernel
theorem dX2_enter_39 : decode cX2_enter 39 = .ok (.iconst 0, 1) := by decide +kernel
theorem dX2_enter_40 : decode cX2_enter 40 = .ok (.istore_n 2, 1) := by decide +kernel
theorem dX2_enter_41 : decode cX2_enter 41 = .ok (.iload_n 2, 1) := by decide +kernel
theorem dX2_enter_42 : decode cX2_enter 42 = .ok (.aload_n 0, 1) := by decide +kernel
theorem dX2_enter_43 : decode cX2_enter 43 = .ok (.getfield 12, 3) := by decide +kernel
theorem dX2_enter_46 : decode cX2_enter 46 = .ok (.getfield 48, 3) := by decide +kernel
theorem dX2_enter_49 : decode cX2_enter 49 = .ok (.if_icmp .ge 31, 3) := by decide +kernel
theorem dX2_enter_52 : decode cX2_enter 52 = .ok (.aload_n 0, 1) := by decide +kernel
theorem dX2_enter_53 : decode cX2_enter 53 = .ok (.aload_n 0, 1) := by decide +kernel
theorem dX2_enter_54 : decode cX2_enter 54 = .ok (.getfield 12, 3) := by decide +kernel
theorem dX2_enter_57 : decode cX2_enter 57 = .ok (.getfield 51, 3) := by decide +kernel
theorem dX2_enter_60 : decode cX2_enter 60 = .ok (.iload_n 2, 1) := by decide +kernel
theorem dX2_enter_61 : decode cX2_enter 61 = .ok (.iaload, 1) := by decide +kernel
theorem dX2_enter_62 : decode cX2_enter 62 = .ok (.aload_n 0, 1) := by decide +kernel
theorem dX2_enter_63 : decode cX2_enter 63 = .ok (.getfield 12, 3) := by decide +kernel
theorem dX2_enter_66 : decode cX2_enter 66 = .ok (.getfield 54, 3) := by decide +kernel
theorem dX2_enter_69 : decode cX2_enter 69 = .ok (.iload_n 2, 1) := by decide +kernel
theorem dX2_enter_70 : decode cX2_enter 70 = .ok (.iaload, 1) := by decide +kernel
theorem dX2_enter_71 : decode cX2_enter 71 = .ok (.invokevirtual 57, 3) := by decide +kernel
theorem dX2_enter_74 : decode cX2_enter 74 = .ok (.iinc 2 1, 3) := by decide +kernel
theorem dX2_enter_77 : decode cX2_enter 77 = .ok (.goto (-36), 3) := by decide +kernel
theorem dX2_enter_80 : decode cX2_enter 80 = .ok (.return_, 1) := by decide +kernel
theorem dX2_isOver_0 : decode cX2_isOver 0 = .ok (.aload_n 0, 1) := by decide +kernel
theorem dX2_isOver_1 : decode cX2_isOver 1 = .ok (.getfield 38, 3) := by decide +kernel
theorem dX2_isOver_4 : decode cX2_isOver 4 = .ok (.iload_n 1, 1) := by decide +kernel
theorem dX2_isOver_5 : decode cX2_isOver 5 = .ok (.ishr, 1) := by decide +kernel
theorem dX2_isOver_6 : decode cX2_isOver 6 = .ok (.iconst 1, 1) := by decide +kernel
theorem dX2_isOver_7 : decode cX2_isOver 7 = .ok (.iand, 1) := by decide +kernel
theorem dX2_isOver_8 : decode cX2_isOver 8 = .ok (.ifCond .eq 7, 3) := by decide +kernel
theorem dX2_isOver_11 : decode cX2_isOver 11 = .ok (.iconst 1, 1) := by decide +kernel
theorem dX2_isOver_12 : decode cX2_isOver 12 = .ok (.goto 4, 3) := by decide +kernel
theorem dX2_isOver_15 : decode cX2_isOver 15 = .ok (.iconst 0, 1) := by decide +kernel
theorem dX2_isOver_16 : decode cX2_isOver 16 = .ok (.ireturn, 1) := by decide +kernel
theorem dJ6_bitCount_0f7a4_0 : decode cJ6_bitCount_0f7a4 0 = .ok (.iload_n 0, 1) := by decide +kernel
theorem dJ6_bitCount_0f7a4_1 : decode cJ6_bitCount_0f7a4 1 = .ok (.iload_n 0, 1) := by decide +kernel
theorem dJ6_bitCount_0f7a4_2 : decode cJ6_bitCount_0f7a4 2 = .ok (.iconst 1, 1) := by decide +kernel
theorem dJ6_bitCount_0f7a4_3 : decode cJ6_bitCount_0f7a4 3 = .ok (.iushr, 1) := by decide +kernel
theorem dJ6_bitCount_0f7a4_4 : decode cJ6_bitCount_0f7a4 4 = .ok (.ldc_w 265, 3) := by decide +kernel
theorem dJ6_bitCount_0f7a4_7 : decode cJ6_bitCount_0f7a4 7 = .ok (.iand, 1) := by decide +kernel
theorem dJ6_bitCount_0f7a4_8 : decode cJ6_bitCount_0f7a4 8 = .ok (.isub, 1) := by decide +kernel
theorem dJ6_bitCount_0f7a4_9 : decode cJ6_bitCount_0f7a4 9 = .ok (.istore_n 0, 1) := by decide +kernel
theorem dJ6_bitCount_0f7a4_10 : decode cJ6_bitCount_0f7a4 10 = .ok (.iload_n 0, 1) := by decide +kernel
theorem dJ6_bitCount_0f7a4_11 : decode cJ6_bitCount_0f7a4 11 = .ok (.ldc_w 266, 3) := by decide +kernel
theorem dJ6_bitCount_0f7a4_14 : decode cJ6_bitCount_0f7a4 14 = .ok (.iand, 1) := by decide +kernel
theorem dJ6_bitCount_0f7a4_15 : decode cJ6_bitCount_0f7a4 15 = .ok (.iload_n 0, 1) := by decide +kernel
theorem dJ6_bitCount_0f7a4_16 : decode cJ6_bitCount_0f7a4 16 = .ok (.iconst 2, 1) := by decide +kernel
theorem dJ6_bitCount_0f7a4_17 : decode cJ6_bitCount_0f7a4 17 = .ok (.iushr, 1) := by decide +kernel
theorem dJ6_bitCount_0f7a4_18 : decode cJ6_bitCount_0f7a4 18 = .ok (.ldc_w 266, 3) := by decide +kernel
theorem dJ6_bitCount_0f7a4_21 : decode cJ6_bitCount_0f7a4 21 = .ok (.iand, 1) := by decide +kernel
theorem dJ6_bitCount_0f7a4_22 : decode cJ6_bitCount_0f7a4 22 = .ok (.iadd, 1) := by decide +kernel
theorem dJ6_bitCount_0f7a4_23 : decode cJ6_bitCount_0f7a4 23 = .ok (.istore_n 0, 1) := by decide +kernel
theorem dJ6_bitCount_0f7a4_24 : decode cJ6_bitCount_0f7a4 24 = .ok (.iload_n 0, 1) := by decide +kernel
theorem dJ6_bitCount_0f7a4_25 : decode cJ6_bitCount_0f7a4 25 = .ok (.iload_n 0, 1) := by decide +kernel
theorem dJ6_bitCount_0f7a4_26 : decode cJ6_bitCount_0f7a4 26 = .ok (.iconst 4, 1) := by decide +kernel
theorem dJ6_bitCount_0f7a4_27 : decode cJ6_bitCount_0f7a4 27 = .ok (.iushr, 1) := by decide +kernel
theorem dJ6_bitCount_0f7a4_28 : decode cJ6_bitCount_0f7a4 28 = .ok (.iadd, 1) := by decide +kernel
theorem dJ6_bitCount_0f7a4_29 : decode cJ6_bitCount_0f7a4 29 = .ok (.ldc_w 267, 3) := by decide +kernel
theorem dJ6_bitCount_0f7a4_32 : decode cJ6_bitCount_0f7a4 32 = .ok (.iand, 1) := by decide +kernel
theorem dJ6_bitCount_0f7a4_33 : decode cJ6_bitCount_0f7a4 33 = .ok (.istore_n 0, 1) := by decide +kernel
theorem dJ6_bitCount_0f7a4_34 : decode cJ6_bitCount_0f7a4 34 = .ok (.iload_n 0, 1) := by decide +kernel
theorem dJ6_bitCount_0f7a4_35 : decode cJ6_bitCount_0f7a4 35 = .ok (.iload_n 0, 1) := by decide +kernel
theorem dJ6_bitCount_0f7a4_36 : decode cJ6_bitCount_0f7a4 36 = .ok (.bipush 8, 2) := by decide +kernel
theorem dJ6_bitCount_0f7a4_38 : decode cJ6_bitCount_0f7a4 38 = .ok (.iushr, 1) := by decide +kernel
theorem dJ6_bitCount_0f7a4_39 : decode cJ6_bitCount_0f7a4 39 = .ok (.iadd, 1) := by decide +kernel
theorem dJ6_bitCount_0f7a4_40 : decode cJ6_bitCount_0f7a4 40 = .ok (.istore_n 0, 1) := by decide +kernel
theorem dJ6_bitCount_0f7a4_41 : decode cJ6_bitCount_0f7a4 41 = .ok (.iload_n 0, 1) := by decide +kernel
theorem dJ6_bitCount_0f7a4_42 : decode cJ6_bitCount_0f7a4 42 = .ok (.iload_n 0, 1) := by decide +kernel
theorem dJ6_bitCount_0f7a4_43 : decode cJ6_bitCount_0f7a4 43 = .ok (.bipush 16, 2) := by decide +kernel
theorem dJ6_bitCount_0f7a4_45 : decode cJ6_bitCount_0f7a4 45 = .ok (.iushr, 1) := by decide +kernel
theorem dJ6_bitCount_0f7a4_46 : decode cJ6_bitCount_0f7a4 46 = .ok (.iadd, 1) := by decide +kernel
theorem dJ6_bitCount_0f7a4_47 : decode cJ6_bitCount_0f7a4 47 = .ok (.istore_n 0, 1) := by decide +kernel
theorem dJ6_bitCount_0f7a4_48 : decode cJ6_bitCount_0f7a4 48 = .ok (.iload_n 0, 1) := by decide +kernel
theorem dJ6_bitCount_0f7a4_49 : decode cJ6_bitCount_0f7a4 49 = .ok (.bipush 63, 2) := by decide +kernel
theorem dJ6_bitCount_0f7a4_51 : decode cJ6_bitCount_0f7a4 51 = .ok (.iand, 1) := by decide +kernel
theorem dJ6_bitCount_0f7a4_52 : decode cJ6_bitCount_0f7a4 52 = .ok (.ireturn, 1) := by decide +kernel
theorem dX2_loud_0 : decode cX2_loud 0 = .ok (.aload_n 0, 1) := by decide +kernel
theorem dX2_loud_1 : decode cX2_loud 1 = .ok (.getfield 12, 3) := by decide +kernel
theorem dX2_loud_4 : decode cX2_loud 4 = .ok (.iload_n 1, 1) := by decide +kernel
theorem dX2_loud_5 : decode cX2_loud 5 = .ok (.invokevirtual 61, 3) := by decide +kernel
theorem dX2_loud_8 : decode cX2_loud 8 = .ok (.ifCond .ne 5, 3) := by decide +kernel
theorem dX2_loud_11 : decode cX2_loud 11 = .ok (.iconst 0, 1) := by decide +kernel
theorem dX2_loud_12 : decode cX2_loud 12 = .ok (.ireturn, 1) := by decide +kernel
theorem dX2_loud_13 : decode cX2_loud 13 = .ok (.iload_n 2, 1) := by decide +kernel
theorem dX2_loud_14 : decode cX2_loud 14 = .ok (.aload_n 0, 1) := by decide +kernel
theorem dX2_loud_15 : decode cX2_loud 15 = .ok (.getfield 12, 3) := by decide +kernel
theorem dX2_loud_18 : decode cX2_loud 18 = .ok (.getfield 71, 3) := by decide +kernel
theorem dX2_loud_21 : decode cX2_loud 21 = .ok (.iload_n 1, 1) := by decide +kernel
theorem dX2_loud_22 : decode cX2_loud 22 = .ok (.iaload, 1) := by decide +kernel
theorem dX2_loud_23 : decode cX2_loud 23 = .ok (.iand, 1) := by decide +kernel
theorem dX2_loud_24 : decode cX2_loud 24 = .ok (.invokestatic 74, 3) := by decide +kernel
theorem dX2_loud_27 : decode cX2_loud 27 = .ok (.istore_n 3, 1) := by decide +kernel
theorem dX2_loud_28 : decode cX2_loud 28 = .ok (.aload_n 0, 1) := by decide +kernel
theorem dX2_loud_29 : decode cX2_loud 29 = .ok (.getfield 22, 3) := by decide +kernel
theorem dX2_loud_32 : decode cX2_loud 32 = .ok (.iload_n 1, 1) := by decide +kernel
theorem dX2_loud_33 : decode cX2_loud 33 = .ok (.iaload, 1) := by decide +kernel
theorem dX2_loud_34 : decode cX2_loud 34 = .ok (.aload_n 0, 1) := by decide +kernel
theorem dX2_loud_35 : decode cX2_loud 35 = .ok (.getfield 12, 3) := by decide +kernel
theorem dX2_loud_38 : decode cX2_loud 38 = .ok (.getfield 80, 3) := by decide +kernel
theorem dX2_loud_41 : decode cX2_loud 41 = .ok (.iload_n 1, 1) := by decide +kernel
theorem dX2_loud_42 : decode cX2_loud 42 = .ok (.iaload, 1) := by decide +kernel
theorem dX2_loud_43 : decode cX2_loud 43 = .ok (.iadd, 1) := by decide +kernel
theorem dX2_loud_44 : decode cX2_loud 44 = .ok (.aload_n 0, 1) := by decide +kernel
theorem dX2_loud_45 : decode cX2_loud 45 = .ok (.getfield 12, 3) := by decide +kernel
theorem dX2_loud_48 : decode cX2_loud 48 = .ok (.getfield 83, 3) := by decide +kernel
theorem dX2_loud_51 : decode cX2_loud 51 = .ok (.aload_n 0, 1) := by decide +kernel
theorem dX2_loud_52 : decode cX2_loud 52 = .ok (.getfield 12, 3) := by decide +kernel
theorem dX2_loud_55 : decode cX2_loud 55 = .ok (.getfield 86, 3) := by decide +kernel
theorem dX2_loud_58 : decode cX2_loud 58 = .ok (.iload_n 1, 1) := by decide +kernel
theorem dX2_loud_59 : decode cX2_loud 59 = .ok (.iaload, 1) := by decide +kernel
theorem dX2_loud_60 : decode cX2_loud 60 = .ok (.imul, 1) := by decide +kernel
theorem dX2_loud_61 : decode cX2_loud 61 = .ok (.iadd, 1) := by decide +kernel
theorem dX2_loud_62 : decode cX2_loud 62 = .ok (.iconst 3, 1) := by decide +kernel
theorem dX2_loud_63 : decode cX2_loud 63 = .ok (.iload_n 3, 1) := by decide +kernel
theorem dX2_loud_64 : decode cX2_loud 64 = .ok (.imul, 1) := by decide +kernel
theorem dX2_loud_65 : decode cX2_loud 65 = .ok (.iadd, 1) := by decide +kernel
theorem dX2_loud_66 : decode cX2_loud 66 = .ok (.iconst 4, 1) := by decide +kernel
theorem dX2_loud_67 : decode cX2_loud 67 = .ok (.aload_n 0, 1) := by decide +kernel
theorem dX2_loud_68 : decode cX2_loud 68 = .ok (.getfield 18, 3) := by decide +kernel
theorem dX2_loud_71 : decode cX2_loud 71 = .ok (.iload_n 1, 1) := by decide +kernel
theorem dX2_loud_72 : decode cX2_loud 72 = .ok (.iaload, 1) := by decide +kernel
theorem dX2_loud_73 : decode cX2_loud 73 = .ok (.imul, 1) := by decide +kernel
theorem dX2_loud_74 : decode cX2_loud 74 = .ok (.isub, 1) := by decide +kernel
theorem dX2_loud_75 : decode cX2_loud 75 = .ok (.istore 4, 2) := by decide +kernel
theorem dX2_loud_77 : decode cX2_loud 77 = .ok (.iconst 0, 1) := by decide +kernel
theorem dX2_loud_78 : decode cX2_loud 78 = .ok (.iload 4, 2) := by decide +kernel
theorem dX2_loud_80 : decode cX2_loud 80 = .ok (.invokestatic 89, 3) := by decide +kernel
theorem dX2_loud_83 : decode cX2_loud 83 = .ok (.ireturn, 1) := by decide +kernel
theorem dX2_says_0 : decode cX2_says 0 = .ok (.aload_n 0, 1) := by decide +kernel
theorem dX2_says_1 : decode cX2_says 1 = .ok (.getfield 12, 3) := by decide +kernel
theorem dX2_says_4 : decode cX2_says 4 = .ok (.getfield 110, 3) := by decide +kernel
theorem dX2_says_7 : decode cX2_says 7 = .ok (.iload_n 1, 1) := by decide +kernel
theorem dX2_says_8 : decode cX2_says 8 = .ok (.iaload, 1) := by decide +kernel
theorem dX2_says_9 : decode cX2_says 9 = .ok (.iconst 3, 1) := by decide +kernel
theorem dX2_says_10 : decode cX2_says 10 = .ok (.if_icmp .ne 33, 3) := by decide +kernel
theorem dX2_says_13 : decode cX2_says 13 = .ok (.aload_n 0, 1) := by decide +kernel
theorem dX2_says_14 : decode cX2_says 14 = .ok (.getfield 42, 3) := by decide +kernel
theorem dX2_says_17 : decode cX2_says 17 = .ok (.aload_n 0, 1) := by decide +kernel
theorem dX2_says_18 : decode cX2_says 18 = .ok (.getfield 45, 3) := by decide +kernel
theorem dX2_says_21 : decode cX2_says 21 = .ok (.if_icmp .le 5, 3) := by decide +kernel
theorem dX2_says_24 : decode cX2_says 24 = .ok (.iconst 2, 1) := by decide +kernel
theorem dX2_says_25 : decode cX2_says 25 = .ok (.ireturn, 1) := by decide +kernel
theorem dX2_says_26 : decode cX2_says 26 = .ok (.aload_n 0, 1) := by decide +kernel
theorem dX2_says_27 : decode cX2_says 27 = .ok (.getfield 42, 3) := by decide +kernel
theorem dX2_says_30 : decode cX2_says 30 = .ok (.aload_n 0, 1) := by decide +kernel
theorem dX2_says_31 : decode cX2_says 31 = .ok (.getfield 45, 3) := by decide +kernel
theorem dX2_says_34 : decode cX2_says 34 = .ok (.if_icmp .ge 7, 3) := by decide +kernel
theorem dX2_says_37 : decode cX2_says 37 = .ok (.iconst 1, 1) := by decide +kernel
theorem dX2_says_38 : decode cX2_says 38 = .ok (.goto 4, 3) := by decide +kernel
theorem dX2_says_41 : decode cX2_says 41 = .ok (.iconst 0, 1) := by decide +kernel
theorem dX2_says_42 : decode cX2_says 42 = .ok (.ireturn, 1) := by decide +kernel
theorem dX2_says_43 : decode cX2_says 43 = .ok (.aload_n 0, 1) := by decide +kernel
theorem dX2_says_44 : decode cX2_says 44 = .ok (.getfield 12, 3) := by decide +kernel
theorem dX2_says_47 : decode cX2_says 47 = .ok (.getfield 110, 3) := by decide +kernel
theorem dX2_says_50 : decode cX2_says 50 = .ok (.iload_n 1, 1) := by decide +kernel
theorem dX2_says_51 : decode cX2_says 51 = .ok (.iaload, 1) := by decide +kernel
theorem dX2_says_52 : decode cX2_says 52 = .ok (.iconst 2, 1) := by decide +kernel
theorem dX2_says_53 : decode cX2_says 53 = .ok (.if_icmp .ne 14, 3) := by decide +kernel
theorem dX2_says_56 : decode cX2_says 56 = .ok (.aload_n 0, 1) := by decide +kernel
theorem dX2_says_57 : decode cX2_says 57 = .ok (.getfield 22, 3) := by decide +kernel
theorem dX2_says_60 : decode cX2_says 60 = .ok (.iload_n 1, 1) := by decide +kernel
theorem dX2_says_61 : decode cX2_says 61 = .ok (.iaload, 1) := by decide +kernel
theorem dX2_says_62 : decode cX2_says 62 = .ok (.ifCond .ne 5, 3) := by decide +kernel
theorem dX2_says_65 : decode cX2_says 65 = .ok (.iconst 0, 1) := by decide +kernel
theorem dX2_says_66 : decode cX2_says 66 = .ok (.ireturn, 1) := by decide +kernel
theorem dX2_says_67 : decode cX2_says 67 = .ok (.aload_n 0, 1) := by decide +kernel
theorem dX2_says_68 : decode cX2_says 68 = .ok (.iload_n 1, 1) := by decide +kernel
theorem dX2_says_69 : decode cX2_says 69 = .ok (.iload_n 2, 1) := by decide +kernel
theorem dX2_says_70 : decode cX2_says 70 = .ok (.invokevirtual 95, 3) := by decide +kernel
theorem dX2_says_73 : decode cX2_says 73 = .ok (.aload_n 0, 1) := by decide +kernel
theorem dX2_says_74 : decode cX2_says 74 = .ok (.getfield 12, 3) := by decide +kernel
theorem dX2_says_77 : decode cX2_says 77 = .ok (.getfield 98, 3) := by decide +kernel
theorem dX2_says_80 : decode cX2_says 80 = .ok (.iload_n 1, 1) := by decide +kernel
theorem dX2_says_81 : decode cX2_says 81 = .ok (.iaload, 1) := by decide +kernel
theorem dX2_says_82 : decode cX2_says 82 = .ok (.if_icmp .lt 22, 3) := by decide +kernel
theorem dX2_says_85 : decode cX2_says 85 = .ok (.aload_n 0, 1) := by decide +kernel
theorem dX2_says_86 : decode cX2_says 86 = .ok (.getfield 12, 3) := by decide +kernel
theorem dX2_says_89 : decode cX2_says 89 = .ok (.getfield 110, 3) := by decide +kernel
theorem dX2_says_92 : decode cX2_says 92 = .ok (.iload_n 1, 1) := by decide +kernel
theorem dX2_says_93 : decode cX2_says 93 = .ok (.iaload, 1) := by decide +kernel
theorem dX2_says_94 : decode cX2_says 94 = .ok (.iconst 1, 1) := by decide +kernel
theorem dX2_says_95 : decode cX2_says 95 = .ok (.if_icmp .ne 7, 3) := by decide +kernel
theorem dX2_says_98 : decode cX2_says 98 = .ok (.iconst 2, 1) := by decide +kernel
theorem dX2_says_99 : decode cX2_says 99 = .ok (.goto 4, 3) := by decide +kernel
theorem dX2_says_102 : decode cX2_says 102 = .ok (.iconst 1, 1) := by decide +kernel
theorem dX2_says_103 : decode cX2_says 103 = .ok (.ireturn, 1) := by decide +kernel
theorem dX2_says_104 : decode cX2_says 104 = .ok (.aload_n 0, 1) := by decide +kernel
theorem dX2_says_105 : decode cX2_says 105 = .ok (.getfield 12, 3) := by decide +kernel
theorem dX2_says_108 : decode cX2_says 108 = .ok (.getfield 110, 3) := by decide +kernel
theorem dX2_says_111 : decode cX2_says 111 = .ok (.iload_n 1, 1) := by decide +kernel
theorem dX2_says_112 : decode cX2_says 112 = .ok (.iaload, 1) := by decide +kernel
theorem dX2_says_113 : decode cX2_says 113 = .ok (.iconst 2, 1) := by decide +kernel
theorem dX2_says_114 : decode cX2_says 114 = .ok (.if_icmp .ne 7, 3) := by decide +kernel
theorem dX2_says_117 : decode cX2_says 117 = .ok (.iconst 2, 1) := by decide +kernel
theorem dX2_says_118 : decode cX2_says 118 = .ok (.goto 4, 3) := by decide +kernel
theorem dX2_says_121 : decode cX2_says 121 = .ok (.iconst 0, 1) := by decide +kernel
theorem dX2_says_122 : decode cX2_says 122 = .ok (.ireturn, 1) := by decide +kernel
