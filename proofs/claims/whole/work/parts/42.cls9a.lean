theorem dX3_waxFurther_0 : decode cX3_waxFurther 0 = .ok (.iload 4, 2) := by decide +kernel
theorem dX3_waxFurther_2 : decode cX3_waxFurther 2 = .ok (.iload 5, 2) := by decide +kernel
theorem dX3_waxFurther_4 : decode cX3_waxFurther 4 = .ok (.if_icmp .ge 18, 3) := by decide +kernel
theorem dX3_waxFurther_7 : decode cX3_waxFurther 7 = .ok (.iload 4, 2) := by decide +kernel
theorem dX3_waxFurther_9 : decode cX3_waxFurther 9 = .ok (.ifCond .lt 13, 3) := by decide +kernel
theorem dX3_waxFurther_12 : decode cX3_waxFurther 12 = .ok (.iload 4, 2) := by decide +kernel
theorem dX3_waxFurther_14 : decode cX3_waxFurther 14 = .ok (.aload_n 0, 1) := by decide +kernel
theorem dX3_waxFurther_15 : decode cX3_waxFurther 15 = .ok (.getfield 11, 3) := by decide +kernel
theorem dX3_waxFurther_18 : decode cX3_waxFurther 18 = .ok (.arraylength, 1) := by decide +kernel
theorem dX3_waxFurther_19 : decode cX3_waxFurther 19 = .ok (.if_icmp .lt 29, 3) := by decide +kernel
theorem dX3_waxFurther_22 : decode cX3_waxFurther 22 = .ok (.aload_n 0, 1) := by decide +kernel
theorem dX3_waxFurther_23 : decode cX3_waxFurther 23 = .ok (.getfield 18, 3) := by decide +kernel
theorem dX3_waxFurther_26 : decode cX3_waxFurther 26 = .ok (.iload_n 1, 1) := by decide +kernel
theorem dX3_waxFurther_27 : decode cX3_waxFurther 27 = .ok (.invokevirtual 30, 3) := by decide +kernel
theorem dX3_waxFurther_30 : decode cX3_waxFurther 30 = .ok (.ifCond .le 7, 3) := by decide +kernel
theorem dX3_waxFurther_33 : decode cX3_waxFurther 33 = .ok (.iconst 1, 1) := by decide +kernel
theorem dX3_waxFurther_34 : decode cX3_waxFurther 34 = .ok (.goto 4, 3) := by decide +kernel
theorem dX3_waxFurther_37 : decode cX3_waxFurther 37 = .ok (.iconst 0, 1) := by decide +kernel
theorem dX3_waxFurther_38 : decode cX3_waxFurther 38 = .ok (.iload_n 2, 1) := by decide +kernel
theorem dX3_waxFurther_39 : decode cX3_waxFurther 39 = .ok (.if_icmp .ne 7, 3) := by decide +kernel
theorem dX3_waxFurther_42 : decode cX3_waxFurther 42 = .ok (.iconst 1, 1) := by decide +kernel
theorem dX3_waxFurther_43 : decode cX3_waxFurther 43 = .ok (.goto 4, 3) := by decide +kernel
theorem dX3_waxFurther_46 : decode cX3_waxFurther 46 = .ok (.iconst 0, 1) := by decide +kernel
theorem dX3_waxFurther_47 : decode cX3_waxFurther 47 = .ok (.ireturn, 1) := by decide +kernel
theorem dX3_waxFurther_48 : decode cX3_waxFurther 48 = .ok (.iconst 0, 1) := by decide +kernel
theorem dX3_waxFurther_49 : decode cX3_waxFurther 49 = .ok (.iload_n 3, 1) := by decide +kernel
theorem dX3_waxFurther_50 : decode cX3_waxFurther 50 = .ok (.invokestatic 34, 3) := by decide +kernel
theorem dX3_waxFurther_53 : decode cX3_waxFurther 53 = .ok (.istore 6, 2) := by decide +kernel
theorem dX3_waxFurther_55 : decode cX3_waxFurther 55 = .ok (.iload 6, 2) := by decide +kernel
theorem dX3_waxFurther_57 : decode cX3_waxFurther 57 = .ok (.aload_n 0, 1) := by decide +kernel
theorem dX3_waxFurther_58 : decode cX3_waxFurther 58 = .ok (.getfield 18, 3) := by decide +kernel
theorem dX3_waxFurther_61 : decode cX3_waxFurther 61 = .ok (.getfield 40, 3) := by decide +kernel
theorem dX3_waxFurther_64 : decode cX3_waxFurther 64 = .ok (.getfield 44, 3) := by decide +kernel
theorem dX3_waxFurther_67 : decode cX3_waxFurther 67 = .ok (.if_icmp .ge 84, 3) := by decide +kernel
theorem dX3_waxFurther_70 : decode cX3_waxFurther 70 = .ok (.aload_n 0, 1) := by decide +kernel
theorem dX3_waxFurther_71 : decode cX3_waxFurther 71 = .ok (.getfield 18, 3) := by decide +kernel
theorem dX3_waxFurther_74 : decode cX3_waxFurther 74 = .ok (.getfield 50, 3) := by decide +kernel
theorem dX3_waxFurther_77 : decode cX3_waxFurther 77 = .ok (.iload 6, 2) := by decide +kernel
theorem dX3_waxFurther_79 : decode cX3_waxFurther 79 = .ok (.iaload, 1) := by decide +kernel
theorem dX3_waxFurther_80 : decode cX3_waxFurther 80 = .ok (.bipush 9, 2) := by decide +kernel
theorem dX3_waxFurther_82 : decode cX3_waxFurther 82 = .ok (.if_icmp .ge 63, 3) := by decide +kernel
theorem dX3_waxFurther_85 : decode cX3_waxFurther 85 = .ok (.aload_n 0, 1) := by decide +kernel
theorem dX3_waxFurther_86 : decode cX3_waxFurther 86 = .ok (.getfield 11, 3) := by decide +kernel
theorem dX3_waxFurther_89 : decode cX3_waxFurther 89 = .ok (.iload 4, 2) := by decide +kernel
theorem dX3_waxFurther_91 : decode cX3_waxFurther 91 = .ok (.iload 6, 2) := by decide +kernel
theorem dX3_waxFurther_93 : decode cX3_waxFurther 93 = .ok (.iastore, 1) := by decide +kernel
theorem dX3_waxFurther_94 : decode cX3_waxFurther 94 = .ok (.aload_n 0, 1) := by decide +kernel
theorem dX3_waxFurther_95 : decode cX3_waxFurther 95 = .ok (.getfield 18, 3) := by decide +kernel
theorem dX3_waxFurther_98 : decode cX3_waxFurther 98 = .ok (.getfield 50, 3) := by decide +kernel
theorem dX3_waxFurther_101 : decode cX3_waxFurther 101 = .ok (.iload 6, 2) := by decide +kernel
theorem dX3_waxFurther_103 : decode cX3_waxFurther 103 = .ok (.dup2, 1) := by decide +kernel
theorem dX3_waxFurther_104 : decode cX3_waxFurther 104 = .ok (.iaload, 1) := by decide +kernel
theorem dX3_waxFurther_105 : decode cX3_waxFurther 105 = .ok (.iconst 1, 1) := by decide +kernel
theorem dX3_waxFurther_106 : decode cX3_waxFurther 106 = .ok (.iadd, 1) := by decide +kernel
theorem dX3_waxFurther_107 : decode cX3_waxFurther 107 = .ok (.iastore, 1) := by decide +kernel
theorem dX3_waxFurther_108 : decode cX3_waxFurther 108 = .ok (.aload_n 0, 1) := by decide +kernel
theorem dX3_waxFurther_109 : decode cX3_waxFurther 109 = .ok (.iload_n 1, 1) := by decide +kernel
theorem dX3_waxFurther_110 : decode cX3_waxFurther 110 = .ok (.iload_n 2, 1) := by decide +kernel
theorem dX3_waxFurther_111 : decode cX3_waxFurther 111 = .ok (.iload 6, 2) := by decide +kernel
theorem dX3_waxFurther_113 : decode cX3_waxFurther 113 = .ok (.iload 4, 2) := by decide +kernel
theorem dX3_waxFurther_115 : decode cX3_waxFurther 115 = .ok (.iconst 1, 1) := by decide +kernel
theorem dX3_waxFurther_116 : decode cX3_waxFurther 116 = .ok (.iadd, 1) := by decide +kernel
theorem dX3_waxFurther_117 : decode cX3_waxFurther 117 = .ok (.iload 5, 2) := by decide +kernel
theorem dX3_waxFurther_119 : decode cX3_waxFurther 119 = .ok (.invokevirtual 26, 3) := by decide +kernel
theorem dX3_waxFurther_122 : decode cX3_waxFurther 122 = .ok (.istore 7, 2) := by decide +kernel
theorem dX3_waxFurther_124 : decode cX3_waxFurther 124 = .ok (.aload_n 0, 1) := by decide +kernel
theorem dX3_waxFurther_125 : decode cX3_waxFurther 125 = .ok (.getfield 18, 3) := by decide +kernel
theorem dX3_waxFurther_128 : decode cX3_waxFurther 128 = .ok (.getfield 50, 3) := by decide +kernel
theorem dX3_waxFurther_131 : decode cX3_waxFurther 131 = .ok (.iload 6, 2) := by decide +kernel
theorem dX3_waxFurther_133 : decode cX3_waxFurther 133 = .ok (.dup2, 1) := by decide +kernel
theorem dX3_waxFurther_134 : decode cX3_waxFurther 134 = .ok (.iaload, 1) := by decide +kernel
theorem dX3_waxFurther_135 : decode cX3_waxFurther 135 = .ok (.iconst 1, 1) := by decide +kernel
theorem dX3_waxFurther_136 : decode cX3_waxFurther 136 = .ok (.isub, 1) := by decide +kernel
theorem dX3_waxFurther_137 : decode cX3_waxFurther 137 = .ok (.iastore, 1) := by decide +kernel
theorem dX3_waxFurther_138 : decode cX3_waxFurther 138 = .ok (.iload 7, 2) := by decide +kernel
theorem dX3_waxFurther_140 : decode cX3_waxFurther 140 = .ok (.ifCond .eq 5, 3) := by decide +kernel
theorem dX3_waxFurther_143 : decode cX3_waxFurther 143 = .ok (.iconst 1, 1) := by decide +kernel
theorem dX3_waxFurther_144 : decode cX3_waxFurther 144 = .ok (.ireturn, 1) := by decide +kernel
theorem dX3_waxFurther_145 : decode cX3_waxFurther 145 = .ok (.iinc 6 1, 3) := by decide +kernel
theorem dX3_waxFurther_148 : decode cX3_waxFurther 148 = .ok (.goto (-93), 3) := by decide +kernel
theorem dX3_waxFurther_151 : decode cX3_waxFurther 151 = .ok (.iconst 0, 1) := by decide +kernel
theorem dX3_waxFurther_152 : decode cX3_waxFurther 152 = .ok (.ireturn, 1) := by decide +kernel
theorem dX3_endsCarriedBy_0 : decode cX3_endsCarriedBy 0 = .ok (.aload_n 0, 1) := by decide +kernel
theorem dX3_endsCarriedBy_1 : decode cX3_endsCarriedBy 1 = .ok (.getfield 18, 3) := by decide +kernel
theorem dX3_endsCarriedBy_4 : decode cX3_endsCarriedBy 4 = .ok (.getfield 40, 3) := by decide +kernel
theorem dX3_endsCarriedBy_7 : decode cX3_endsCarriedBy 7 = .ok (.iload_n 1, 1) := by decide +kernel
theorem dX3_endsCarriedBy_8 : decode cX3_endsCarriedBy 8 = .ok (.invokevirtual 65, 3) := by decide +kernel
theorem dX3_endsCarriedBy_11 : decode cX3_endsCarriedBy 11 = .ok (.ifCond .eq 17, 3) := by decide +kernel
theorem dX3_endsCarriedBy_14 : decode cX3_endsCarriedBy 14 = .ok (.aload_n 0, 1) := by decide +kernel
theorem dX3_endsCarriedBy_15 : decode cX3_endsCarriedBy 15 = .ok (.getfield 18, 3) := by decide +kernel
theorem dX3_endsCarriedBy_18 : decode cX3_endsCarriedBy 18 = .ok (.getfield 50, 3) := by decide +kernel
theorem dX3_endsCarriedBy_21 : decode cX3_endsCarriedBy 21 = .ok (.iload_n 1, 1) := by decide +kernel
theorem dX3_endsCarriedBy_22 : decode cX3_endsCarriedBy 22 = .ok (.iaload, 1) := by decide +kernel
theorem dX3_endsCarriedBy_23 : decode cX3_endsCarriedBy 23 = .ok (.bipush 9, 2) := by decide +kernel
theorem dX3_endsCarriedBy_25 : decode cX3_endsCarriedBy 25 = .ok (.if_icmp .lt 14, 3) := by decide +kernel
theorem dX3_endsCarriedBy_28 : decode cX3_endsCarriedBy 28 = .ok (.iload 4, 2) := by decide +kernel
theorem dX3_endsCarriedBy_30 : decode cX3_endsCarriedBy 30 = .ok (.ifCond .ne 7, 3) := by decide +kernel
theorem dX3_endsCarriedBy_33 : decode cX3_endsCarriedBy 33 = .ok (.iconst 1, 1) := by decide +kernel
theorem dX3_endsCarriedBy_34 : decode cX3_endsCarriedBy 34 = .ok (.goto 4, 3) := by decide +kernel
theorem dX3_endsCarriedBy_37 : decode cX3_endsCarriedBy 37 = .ok (.iconst 0, 1) := by decide +kernel
theorem dX3_endsCarriedBy_38 : decode cX3_endsCarriedBy 38 = .ok (.ireturn, 1) := by decide +kernel
theorem dX3_endsCarriedBy_39 : decode cX3_endsCarriedBy 39 = .ok (.aload_n 0, 1) := by decide +kernel
theorem dX3_endsCarriedBy_40 : decode cX3_endsCarriedBy 40 = .ok (.getfield 18, 3) := by decide +kernel
theorem dX3_endsCarriedBy_43 : decode cX3_endsCarriedBy 43 = .ok (.getfield 50, 3) := by decide +kernel
theorem dX3_endsCarriedBy_46 : decode cX3_endsCarriedBy 46 = .ok (.iload_n 1, 1) := by decide +kernel
theorem dX3_endsCarriedBy_47 : decode cX3_endsCarriedBy 47 = .ok (.dup2, 1) := by decide +kernel
theorem dX3_endsCarriedBy_48 : decode cX3_endsCarriedBy 48 = .ok (.iaload, 1) := by decide +kernel
theorem dX3_endsCarriedBy_49 : decode cX3_endsCarriedBy 49 = .ok (.iconst 1, 1) := by decide +kernel
theorem dX3_endsCarriedBy_50 : decode cX3_endsCarriedBy 50 = .ok (.iadd, 1) := by decide +kernel
theorem dX3_endsCarriedBy_51 : decode cX3_endsCarriedBy 51 = .ok (.iastore, 1) := by decide +kernel
theorem dX3_endsCarriedBy_52 : decode cX3_endsCarriedBy 52 = .ok (.aload_n 0, 1) := by decide +kernel
theorem dX3_endsCarriedBy_53 : decode cX3_endsCarriedBy 53 = .ok (.iload_n 2, 1) := by decide +kernel
theorem dX3_endsCarriedBy_54 : decode cX3_endsCarriedBy 54 = .ok (.iload_n 3, 1) := by decide +kernel
theorem dX3_endsCarriedBy_55 : decode cX3_endsCarriedBy 55 = .ok (.iconst 1, 1) := by decide +kernel
theorem dX3_endsCarriedBy_56 : decode cX3_endsCarriedBy 56 = .ok (.isub, 1) := by decide +kernel
theorem dX3_endsCarriedBy_57 : decode cX3_endsCarriedBy 57 = .ok (.iload 4, 2) := by decide +kernel
theorem dX3_endsCarriedBy_59 : decode cX3_endsCarriedBy 59 = .ok (.ifCond .ne 7, 3) := by decide +kernel
theorem dX3_endsCarriedBy_62 : decode cX3_endsCarriedBy 62 = .ok (.iconst 1, 1) := by decide +kernel
theorem dX3_endsCarriedBy_63 : decode cX3_endsCarriedBy 63 = .ok (.goto 4, 3) := by decide +kernel
theorem dX3_endsCarriedBy_66 : decode cX3_endsCarriedBy 66 = .ok (.iconst 0, 1) := by decide +kernel
theorem dX3_endsCarriedBy_67 : decode cX3_endsCarriedBy 67 = .ok (.invokevirtual 53, 3) := by decide +kernel
theorem dX3_endsCarriedBy_70 : decode cX3_endsCarriedBy 70 = .ok (.istore 5, 2) := by decide +kernel
theorem dX3_endsCarriedBy_72 : decode cX3_endsCarriedBy 72 = .ok (.aload_n 0, 1) := by decide +kernel
theorem dX3_endsCarriedBy_73 : decode cX3_endsCarriedBy 73 = .ok (.getfield 18, 3) := by decide +kernel
theorem dX3_endsCarriedBy_76 : decode cX3_endsCarriedBy 76 = .ok (.getfield 50, 3) := by decide +kernel
theorem dX3_endsCarriedBy_79 : decode cX3_endsCarriedBy 79 = .ok (.iload_n 1, 1) := by decide +kernel
theorem dX3_endsCarriedBy_80 : decode cX3_endsCarriedBy 80 = .ok (.dup2, 1) := by decide +kernel
theorem dX3_endsCarriedBy_81 : decode cX3_endsCarriedBy 81 = .ok (.iaload, 1) := by decide +kernel
theorem dX3_endsCarriedBy_82 : decode cX3_endsCarriedBy 82 = .ok (.iconst 1, 1) := by decide +kernel
theorem dX3_endsCarriedBy_83 : decode cX3_endsCarriedBy 83 = .ok (.isub, 1) := by decide +kernel
theorem dX3_endsCarriedBy_84 : decode cX3_endsCarriedBy 84 = .ok (.iastore, 1) := by decide +kernel
theorem dX3_endsCarriedBy_85 : decode cX3_endsCarriedBy 85 = .ok (.iload 5, 2) := by decide +kernel
theorem dX3_endsCarriedBy_87 : decode cX3_endsCarriedBy 87 = .ok (.ireturn, 1) := by decide +kernel
theorem dX3_endsCarried_0 : decode cX3_endsCarried 0 = .ok (.iload_n 2, 1) := by decide +kernel
theorem dX3_endsCarried_1 : decode cX3_endsCarried 1 = .ok (.ifCond .gt 20, 3) := by decide +kernel
theorem dX3_endsCarried_4 : decode cX3_endsCarried 4 = .ok (.aload_n 0, 1) := by decide +kernel
theorem dX3_endsCarried_5 : decode cX3_endsCarried 5 = .ok (.getfield 18, 3) := by decide +kernel
theorem dX3_endsCarried_8 : decode cX3_endsCarried 8 = .ok (.iload_n 1, 1) := by decide +kernel
theorem dX3_endsCarried_9 : decode cX3_endsCarried 9 = .ok (.invokevirtual 30, 3) := by decide +kernel
theorem dX3_endsCarried_12 : decode cX3_endsCarried 12 = .ok (.ifCond .le 7, 3) := by decide +kernel
theorem dX3_endsCarried_15 : decode cX3_endsCarried 15 = .ok (.iconst 1, 1) := by decide +kernel
theorem dX3_endsCarried_16 : decode cX3_endsCarried 16 = .ok (.goto 4, 3) := by decide +kernel
theorem dX3_endsCarried_19 : decode cX3_endsCarried 19 = .ok (.iconst 0, 1) := by decide +kernel
theorem dX3_endsCarried_20 : decode cX3_endsCarried 20 = .ok (.ireturn, 1) := by decide +kernel
theorem dX3_endsCarried_21 : decode cX3_endsCarried 21 = .ok (.aload_n 0, 1) := by decide +kernel
theorem dX3_endsCarried_22 : decode cX3_endsCarried 22 = .ok (.iload_n 1, 1) := by decide +kernel
theorem dX3_endsCarried_23 : decode cX3_endsCarried 23 = .ok (.iload_n 2, 1) := by decide +kernel
theorem dX3_endsCarried_24 : decode cX3_endsCarried 24 = .ok (.iconst 1, 1) := by decide +kernel
theorem dX3_endsCarried_25 : decode cX3_endsCarried 25 = .ok (.isub, 1) := by decide +kernel
theorem dX3_endsCarried_26 : decode cX3_endsCarried 26 = .ok (.iload_n 3, 1) := by decide +kernel
theorem dX3_endsCarried_27 : decode cX3_endsCarried 27 = .ok (.ifCond .ne 7, 3) := by decide +kernel
theorem dX3_endsCarried_30 : decode cX3_endsCarried 30 = .ok (.iconst 1, 1) := by decide +kernel
theorem dX3_endsCarried_31 : decode cX3_endsCarried 31 = .ok (.goto 4, 3) := by decide +kernel
theorem dX3_endsCarried_34 : decode cX3_endsCarried 34 = .ok (.iconst 0, 1) := by decide +kernel
theorem dX3_endsCarried_35 : decode cX3_endsCarried 35 = .ok (.invokevirtual 53, 3) := by decide +kernel
theorem dX3_endsCarried_38 : decode cX3_endsCarried 38 = .ok (.iload_n 3, 1) := by decide +kernel
theorem dX3_endsCarried_39 : decode cX3_endsCarried 39 = .ok (.if_icmp .ne 5, 3) := by decide +kernel
theorem dX3_endsCarried_42 : decode cX3_endsCarried 42 = .ok (.iload_n 3, 1) := by decide +kernel
theorem dX3_endsCarried_43 : decode cX3_endsCarried 43 = .ok (.ireturn, 1) := by decide +kernel
theorem dX3_endsCarried_44 : decode cX3_endsCarried 44 = .ok (.iconst 0, 1) := by decide +kernel
theorem dX3_endsCarried_45 : decode cX3_endsCarried 45 = .ok (.istore 4, 2) := by decide +kernel
theorem dX3_endsCarried_47 : decode cX3_endsCarried 47 = .ok (.iload 4, 2) := by decide +kernel
theorem dX3_endsCarried_49 : decode cX3_endsCarried 49 = .ok (.aload_n 0, 1) := by decide +kernel
theorem dX3_endsCarried_50 : decode cX3_endsCarried 50 = .ok (.getfield 18, 3) := by decide +kernel
theorem dX3_endsCarried_53 : decode cX3_endsCarried 53 = .ok (.getfield 40, 3) := by decide +kernel
theorem dX3_endsCarried_56 : decode cX3_endsCarried 56 = .ok (.getfield 44, 3) := by decide +kernel
theorem dX3_endsCarried_59 : decode cX3_endsCarried 59 = .ok (.if_icmp .ge 37, 3) := by decide +kernel
theorem dX3_endsCarried_62 : decode cX3_endsCarried 62 = .ok (.aload_n 0, 1) := by decide +kernel
theorem dX3_endsCarried_63 : decode cX3_endsCarried 63 = .ok (.getfield 18, 3) := by decide +kernel
theorem dX3_endsCarried_66 : decode cX3_endsCarried 66 = .ok (.iload 4, 2) := by decide +kernel
theorem dX3_endsCarried_68 : decode cX3_endsCarried 68 = .ok (.iload_n 1, 1) := by decide +kernel
theorem dX3_endsCarried_69 : decode cX3_endsCarried 69 = .ok (.invokevirtual 57, 3) := by decide +kernel
theorem dX3_endsCarried_72 : decode cX3_endsCarried 72 = .ok (.ifCond .eq 18, 3) := by decide +kernel
theorem dX3_endsCarried_75 : decode cX3_endsCarried 75 = .ok (.aload_n 0, 1) := by decide +kernel
theorem dX3_endsCarried_76 : decode cX3_endsCarried 76 = .ok (.iload 4, 2) := by decide +kernel
theorem dX3_endsCarried_78 : decode cX3_endsCarried 78 = .ok (.iload_n 1, 1) := by decide +kernel
theorem dX3_endsCarried_79 : decode cX3_endsCarried 79 = .ok (.iload_n 2, 1) := by decide +kernel
theorem dX3_endsCarried_80 : decode cX3_endsCarried 80 = .ok (.iload_n 3, 1) := by decide +kernel
theorem dX3_endsCarried_81 : decode cX3_endsCarried 81 = .ok (.invokevirtual 61, 3) := by decide +kernel
theorem dX3_endsCarried_84 : decode cX3_endsCarried 84 = .ok (.iload_n 3, 1) := by decide +kernel
theorem dX3_endsCarried_85 : decode cX3_endsCarried 85 = .ok (.if_icmp .ne 5, 3) := by decide +kernel
theorem dX3_endsCarried_88 : decode cX3_endsCarried 88 = .ok (.iload_n 3, 1) := by decide +kernel
theorem dX3_endsCarried_89 : decode cX3_endsCarried 89 = .ok (.ireturn, 1) := by decide +kernel
theorem dX3_endsCarried_90 : decode cX3_endsCarried 90 = .ok (.iinc 4 1, 3) := by decide +kernel
theorem dX3_endsCarried_93 : decode cX3_endsCarried 93 = .ok (.goto (-46), 3) := by decide +kernel
theorem dX3_endsCarried_96 : decode cX3_endsCarried 96 = .ok (.iload_n 3, 1) := by decide +kernel
theorem dX3_endsCarried_97 : decode cX3_endsCarried 97 = .ok (.ifCond .ne 7, 3) := by decide +kernel
theorem dX3_endsCarried_100 : decode cX3_endsCarried 100 = .ok (.iconst 1, 1) := by decide +kernel
theorem dX3_endsCarried_101 : decode cX3_endsCarried 101 = .ok (.goto 4, 3) := by decide +kernel
theorem dX3_endsCarried_104 : decode cX3_endsCarried 104 = .ok (.iconst 0, 1) := by decide +kernel
theorem dX3_endsCarried_105 : decode cX3_endsCarried 105 = .ok (.ireturn, 1) := by decide +kernel
theorem dX6_isSame_0 : decode cX6_isSame 0 = .ok (.iconst 0, 1) := by decide +kernel
theorem dX6_isSame_1 : decode cX6_isSame 1 = .ok (.istore_n 3, 1) := by decide +kernel
theorem dX6_isSame_2 : decode cX6_isSame 2 = .ok (.aload_n 0, 1) := by decide +kernel
theorem dX6_isSame_3 : decode cX6_isSame 3 = .ok (.getfield 82, 3) := by decide +kernel
theorem dX6_isSame_6 : decode cX6_isSame 6 = .ok (.iload_n 3, 1) := by decide +kernel
theorem dX6_isSame_7 : decode cX6_isSame 7 = .ok (.iadd, 1) := by decide +kernel
theorem dX6_isSame_8 : decode cX6_isSame 8 = .ok (.aload_n 0, 1) := by decide +kernel
theorem dX6_isSame_9 : decode cX6_isSame 9 = .ok (.getfield 61, 3) := by decide +kernel
theorem dX6_isSame_12 : decode cX6_isSame 12 = .ok (.if_icmp .ge 32, 3) := by decide +kernel
theorem dX6_isSame_15 : decode cX6_isSame 15 = .ok (.aload_n 1, 1) := by decide +kernel
theorem dX6_isSame_16 : decode cX6_isSame 16 = .ok (.iload_n 2, 1) := by decide +kernel
theorem dX6_isSame_17 : decode cX6_isSame 17 = .ok (.iload_n 3, 1) := by decide +kernel
theorem dX6_isSame_18 : decode cX6_isSame 18 = .ok (.iadd, 1) := by decide +kernel
theorem dX6_isSame_19 : decode cX6_isSame 19 = .ok (.invokevirtual 165, 3) := by decide +kernel
theorem dX6_isSame_22 : decode cX6_isSame 22 = .ok (.aload_n 0, 1) := by decide +kernel
theorem dX6_isSame_23 : decode cX6_isSame 23 = .ok (.getfield 32, 3) := by decide +kernel
theorem dX6_isSame_26 : decode cX6_isSame 26 = .ok (.aload_n 0, 1) := by decide +kernel
theorem dX6_isSame_27 : decode cX6_isSame 27 = .ok (.getfield 82, 3) := by decide +kernel
theorem dX6_isSame_30 : decode cX6_isSame 30 = .ok (.iload_n 3, 1) := by decide +kernel
theorem dX6_isSame_31 : decode cX6_isSame 31 = .ok (.iadd, 1) := by decide +kernel
theorem dX6_isSame_32 : decode cX6_isSame 32 = .ok (.baload, 1) := by decide +kernel
theorem dX6_isSame_33 : decode cX6_isSame 33 = .ok (.if_icmp .eq 5, 3) := by decide +kernel
theorem dX6_isSame_36 : decode cX6_isSame 36 = .ok (.iconst 0, 1) := by decide +kernel
theorem dX6_isSame_37 : decode cX6_isSame 37 = .ok (.ireturn, 1) := by decide +kernel
theorem dX6_isSame_38 : decode cX6_isSame 38 = .ok (.iinc 3 1, 3) := by decide +kernel
theorem dX6_isSame_41 : decode cX6_isSame 41 = .ok (.goto (-39), 3) := by decide +kernel
theorem dX6_isSame_44 : decode cX6_isSame 44 = .ok (.iconst 1, 1) := by decide +kernel
theorem dX6_isSame_45 : decode cX6_isSame 45 = .ok (.ireturn, 1) := by decide +kernel
theorem dX6_wordAmong_0 : decode cX6_wordAmong 0 = .ok (.aload_n 0, 1) := by decide +kernel
theorem dX6_wordAmong_1 : decode cX6_wordAmong 1 = .ok (.getfield 67, 3) := by decide +kernel
theorem dX6_wordAmong_4 : decode cX6_wordAmong 4 = .ok (.iconst 1, 1) := by decide +kernel
theorem dX6_wordAmong_5 : decode cX6_wordAmong 5 = .ok (.if_icmp .eq 5, 3) := by decide +kernel
theorem dX6_wordAmong_8 : decode cX6_wordAmong 8 = .ok (.iconst (-1), 1) := by decide +kernel
theorem dX6_wordAmong_9 : decode cX6_wordAmong 9 = .ok (.ireturn, 1) := by decide +kernel
theorem dX6_wordAmong_10 : decode cX6_wordAmong 10 = .ok (.iconst 0, 1) := by decide +kernel
theorem dX6_wordAmong_11 : decode cX6_wordAmong 11 = .ok (.istore_n 2, 1) := by decide +kernel
theorem dX6_wordAmong_12 : decode cX6_wordAmong 12 = .ok (.iconst 0, 1) := by decide +kernel
theorem dX6_wordAmong_13 : decode cX6_wordAmong 13 = .ok (.istore_n 3, 1) := by decide +kernel
theorem dX6_wordAmong_14 : decode cX6_wordAmong 14 = .ok (.iconst 0, 1) := by decide +kernel
theorem dX6_wordAmong_15 : decode cX6_wordAmong 15 = .ok (.istore 4, 2) := by decide +kernel
theorem dX6_wordAmong_17 : decode cX6_wordAmong 17 = .ok (.iload 4, 2) := by decide +kernel
theorem dX6_wordAmong_19 : decode cX6_wordAmong 19 = .ok (.aload_n 1, 1) := by decide +kernel
theorem dX6_wordAmong_20 : decode cX6_wordAmong 20 = .ok (.invokevirtual 160, 3) := by decide +kernel
theorem dX6_wordAmong_23 : decode cX6_wordAmong 23 = .ok (.if_icmp .ge 55, 3) := by decide +kernel
theorem dX6_wordAmong_26 : decode cX6_wordAmong 26 = .ok (.aload_n 1, 1) := by decide +kernel
theorem dX6_wordAmong_27 : decode cX6_wordAmong 27 = .ok (.iload 4, 2) := by decide +kernel
theorem dX6_wordAmong_29 : decode cX6_wordAmong 29 = .ok (.invokevirtual 165, 3) := by decide +kernel
theorem dX6_wordAmong_32 : decode cX6_wordAmong 32 = .ok (.bipush 32, 2) := by decide +kernel
theorem dX6_wordAmong_34 : decode cX6_wordAmong 34 = .ok (.if_icmp .ne 38, 3) := by decide +kernel
theorem dX6_wordAmong_37 : decode cX6_wordAmong 37 = .ok (.iload 4, 2) := by decide +kernel
theorem dX6_wordAmong_39 : decode cX6_wordAmong 39 = .ok (.iload_n 3, 1) := by decide +kernel
theorem dX6_wordAmong_40 : decode cX6_wordAmong 40 = .ok (.isub, 1) := by decide +kernel
theorem dX6_wordAmong_41 : decode cX6_wordAmong 41 = .ok (.aload_n 0, 1) := by decide +kernel
theorem dX6_wordAmong_42 : decode cX6_wordAmong 42 = .ok (.getfield 61, 3) := by decide +kernel
theorem dX6_wordAmong_45 : decode cX6_wordAmong 45 = .ok (.aload_n 0, 1) := by decide +kernel
theorem dX6_wordAmong_46 : decode cX6_wordAmong 46 = .ok (.getfield 82, 3) := by decide +kernel
theorem dX6_wordAmong_49 : decode cX6_wordAmong 49 = .ok (.isub, 1) := by decide +kernel
theorem dX6_wordAmong_50 : decode cX6_wordAmong 50 = .ok (.if_icmp .ne 14, 3) := by decide +kernel
theorem dX6_wordAmong_53 : decode cX6_wordAmong 53 = .ok (.aload_n 0, 1) := by decide +kernel
theorem dX6_wordAmong_54 : decode cX6_wordAmong 54 = .ok (.aload_n 1, 1) := by decide +kernel
theorem dX6_wordAmong_55 : decode cX6_wordAmong 55 = .ok (.iload_n 3, 1) := by decide +kernel
theorem dX6_wordAmong_56 : decode cX6_wordAmong 56 = .ok (.invokevirtual 169, 3) := by decide +kernel
theorem dX6_wordAmong_59 : decode cX6_wordAmong 59 = .ok (.ifCond .eq 5, 3) := by decide +kernel
theorem dX6_wordAmong_62 : decode cX6_wordAmong 62 = .ok (.iload_n 2, 1) := by decide +kernel
theorem dX6_wordAmong_63 : decode cX6_wordAmong 63 = .ok (.ireturn, 1) := by decide +kernel
theorem dX6_wordAmong_64 : decode cX6_wordAmong 64 = .ok (.iinc 2 1, 3) := by decide +kernel
theorem dX6_wordAmong_67 : decode cX6_wordAmong 67 = .ok (.iload 4, 2) := by decide +kernel
theorem dX6_wordAmong_69 : decode cX6_wordAmong 69 = .ok (.iconst 1, 1) := by decide +kernel
theorem dX6_wordAmong_70 : decode cX6_wordAmong 70 = .ok (.iadd, 1) := by decide +kernel
theorem dX6_wordAmong_71 : decode cX6_wordAmong 71 = .ok (.istore_n 3, 1) := by decide +kernel
theorem dX6_wordAmong_72 : decode cX6_wordAmong 72 = .ok (.iinc 4 1, 3) := by decide +kernel
theorem dX6_wordAmong_75 : decode cX6_wordAmong 75 = .ok (.goto (-58), 3) := by decide +kernel
theorem dX6_wordAmong_78 : decode cX6_wordAmong 78 = .ok (.iconst (-1), 1) := by decide +kernel
theorem dX6_wordAmong_79 : decode cX6_wordAmong 79 = .ok (.ireturn, 1) := by decide +kernel
theorem dX6_headOf_0 : decode cX6_headOf 0 = .ok (.iload_n 1, 1) := by decide +kernel
theorem dX6_headOf_1 : decode cX6_headOf 1 = .ok (.ifCond .ne 10, 3) := by decide +kernel
theorem dX6_headOf_4 : decode cX6_headOf 4 = .ok (.aload_n 0, 1) := by decide +kernel
theorem dX6_headOf_5 : decode cX6_headOf 5 = .ok (.ldc 114, 2) := by decide +kernel
theorem dX6_headOf_7 : decode cX6_headOf 7 = .ok (.invokevirtual 94, 3) := by decide +kernel
theorem dX6_headOf_10 : decode cX6_headOf 10 = .ok (.ireturn, 1) := by decide +kernel
theorem dX6_headOf_11 : decode cX6_headOf 11 = .ok (.aload_n 0, 1) := by decide +kernel
theorem dX6_headOf_12 : decode cX6_headOf 12 = .ok (.iload_n 1, 1) := by decide +kernel
theorem dX6_headOf_13 : decode cX6_headOf 13 = .ok (.iconst 1, 1) := by decide +kernel
theorem dX6_headOf_14 : decode cX6_headOf 14 = .ok (.if_icmp .ne 8, 3) := by decide +kernel
theorem dX6_headOf_17 : decode cX6_headOf 17 = .ok (.ldc 116, 2) := by decide +kernel
theorem dX6_headOf_19 : decode cX6_headOf 19 = .ok (.goto 5, 3) := by decide +kernel
theorem dX6_headOf_22 : decode cX6_headOf 22 = .ok (.ldc 118, 2) := by decide +kernel
theorem dX6_headOf_24 : decode cX6_headOf 24 = .ok (.invokevirtual 94, 3) := by decide +kernel
theorem dX6_headOf_27 : decode cX6_headOf 27 = .ok (.istore_n 2, 1) := by decide +kernel
theorem dX6_headOf_28 : decode cX6_headOf 28 = .ok (.iload_n 2, 1) := by decide +kernel
theorem dX6_headOf_29 : decode cX6_headOf 29 = .ok (.iconst (-1), 1) := by decide +kernel
theorem dX6_headOf_30 : decode cX6_headOf 30 = .ok (.if_icmp .ne 5, 3) := by decide +kernel
theorem dX6_headOf_33 : decode cX6_headOf 33 = .ok (.iconst (-1), 1) := by decide +kernel
theorem dX6_headOf_34 : decode cX6_headOf 34 = .ok (.ireturn, 1) := by decide +kernel
theorem dX6_headOf_35 : decode cX6_headOf 35 = .ok (.iload_n 2, 1) := by decide +kernel
theorem dX6_headOf_36 : decode cX6_headOf 36 = .ok (.iload_n 1, 1) := by decide +kernel
theorem dX6_headOf_37 : decode cX6_headOf 37 = .ok (.iconst 1, 1) := by decide +kernel
theorem dX6_headOf_38 : decode cX6_headOf 38 = .ok (.if_icmp .ne 8, 3) := by decide +kernel
theorem dX6_headOf_41 : decode cX6_headOf 41 = .ok (.bipush 7, 2) := by decide +kernel
theorem dX6_headOf_43 : decode cX6_headOf 43 = .ok (.goto 5, 3) := by decide +kernel
theorem dX6_headOf_46 : decode cX6_headOf 46 = .ok (.bipush 15, 2) := by decide +kernel
theorem dX6_headOf_48 : decode cX6_headOf 48 = .ok (.iadd, 1) := by decide +kernel
theorem dX6_headOf_49 : decode cX6_headOf 49 = .ok (.ireturn, 1) := by decide +kernel
theorem dX6_readNumbers_0 : decode cX6_readNumbers 0 = .ok (.iload_n 1, 1) := by decide +kernel
theorem dX6_readNumbers_1 : decode cX6_readNumbers 1 = .ok (.ifCond .lt 9, 3) := by decide +kernel
theorem dX6_readNumbers_4 : decode cX6_readNumbers 4 = .ok (.iload_n 1, 1) := by decide +kernel
theorem dX6_readNumbers_5 : decode cX6_readNumbers 5 = .ok (.bipush 17, 2) := by decide +kernel
theorem dX6_readNumbers_7 : decode cX6_readNumbers 7 = .ok (.if_icmp .lt 5, 3) := by decide +kernel
theorem dX6_readNumbers_10 : decode cX6_readNumbers 10 = .ok (.iconst 0, 1) := by decide +kernel
theorem dX6_readNumbers_11 : decode cX6_readNumbers 11 = .ok (.ireturn, 1) := by decide +kernel
theorem dX6_readNumbers_12 : decode cX6_readNumbers 12 = .ok (.iload_n 1, 1) := by decide +kernel
theorem dX6_readNumbers_13 : decode cX6_readNumbers 13 = .ok (.bipush 9, 2) := by decide +kernel
theorem dX6_readNumbers_15 : decode cX6_readNumbers 15 = .ok (.imul, 1) := by decide +kernel
theorem dX6_readNumbers_16 : decode cX6_readNumbers 16 = .ok (.istore_n 2, 1) := by decide +kernel
theorem dX6_readNumbers_17 : decode cX6_readNumbers 17 = .ok (.aload_n 0, 1) := by decide +kernel
theorem dX6_readNumbers_18 : decode cX6_readNumbers 18 = .ok (.getfield 36, 3) := by decide +kernel
theorem dX6_readNumbers_21 : decode cX6_readNumbers 21 = .ok (.iconst 0, 1) := by decide +kernel
theorem dX6_readNumbers_22 : decode cX6_readNumbers 22 = .ok (.iconst (-1), 1) := by decide +kernel
theorem dX6_readNumbers_23 : decode cX6_readNumbers 23 = .ok (.iastore, 1) := by decide +kernel
theorem dX6_readNumbers_24 : decode cX6_readNumbers 24 = .ok (.aload_n 0, 1) := by decide +kernel
theorem dX6_readNumbers_25 : decode cX6_readNumbers 25 = .ok (.getfield 36, 3) := by decide +kernel
theorem dX6_readNumbers_28 : decode cX6_readNumbers 28 = .ok (.iconst 1, 1) := by decide +kernel
theorem dX6_readNumbers_29 : decode cX6_readNumbers 29 = .ok (.iconst (-1), 1) := by decide +kernel
theorem dX6_readNumbers_30 : decode cX6_readNumbers 30 = .ok (.iastore, 1) := by decide +kernel
theorem dX6_readNumbers_31 : decode cX6_readNumbers 31 = .ok (.iconst 0, 1) := by decide +kernel
theorem dX6_readNumbers_32 : decode cX6_readNumbers 32 = .ok (.istore_n 3, 1) := by decide +kernel
theorem dX6_readNumbers_33 : decode cX6_readNumbers 33 = .ok (.iload_n 3, 1) := by decide +kernel
theorem dX6_readNumbers_34 : decode cX6_readNumbers 34 = .ok (.getstatic 108, 3) := by decide +kernel
theorem dX6_readNumbers_37 : decode cX6_readNumbers 37 = .ok (.iload_n 2, 1) := by decide +kernel
theorem dX6_readNumbers_38 : decode cX6_readNumbers 38 = .ok (.iaload, 1) := by decide +kernel
theorem dX6_readNumbers_39 : decode cX6_readNumbers 39 = .ok (.if_icmp .ge 83, 3) := by decide +kernel
theorem dX6_readNumbers_42 : decode cX6_readNumbers 42 = .ok (.iload_n 3, 1) := by decide +kernel
theorem dX6_readNumbers_43 : decode cX6_readNumbers 43 = .ok (.aload_n 0, 1) := by decide +kernel
theorem dX6_readNumbers_44 : decode cX6_readNumbers 44 = .ok (.getfield 36, 3) := by decide +kernel
theorem dX6_readNumbers_47 : decode cX6_readNumbers 47 = .ok (.arraylength, 1) := by decide +kernel
theorem dX6_readNumbers_48 : decode cX6_readNumbers 48 = .ok (.if_icmp .ge 74, 3) := by decide +kernel
theorem dX6_readNumbers_51 : decode cX6_readNumbers 51 = .ok (.aload_n 0, 1) := by decide +kernel
theorem dX6_readNumbers_52 : decode cX6_readNumbers 52 = .ok (.getfield 67, 3) := by decide +kernel
theorem dX6_readNumbers_55 : decode cX6_readNumbers 55 = .ok (.iconst 2, 1) := by decide +kernel
theorem dX6_readNumbers_56 : decode cX6_readNumbers 56 = .ok (.if_icmp .eq 5, 3) := by decide +kernel
theorem dX6_readNumbers_59 : decode cX6_readNumbers 59 = .ok (.iconst 0, 1) := by decide +kernel
theorem dX6_readNumbers_60 : decode cX6_readNumbers 60 = .ok (.ireturn, 1) := by decide +kernel
theorem dX6_readNumbers_61 : decode cX6_readNumbers 61 = .ok (.aload_n 0, 1) := by decide +kernel
theorem dX6_readNumbers_62 : decode cX6_readNumbers 62 = .ok (.getfield 111, 3) := by decide +kernel
theorem dX6_readNumbers_65 : decode cX6_readNumbers 65 = .ok (.getstatic 108, 3) := by decide +kernel
theorem dX6_readNumbers_68 : decode cX6_readNumbers 68 = .ok (.iload_n 2, 1) := by decide +kernel
theorem dX6_readNumbers_69 : decode cX6_readNumbers 69 = .ok (.iconst 1, 1) := by decide +kernel
theorem dX6_readNumbers_70 : decode cX6_readNumbers 70 = .ok (.iadd, 1) := by decide +kernel
theorem dX6_readNumbers_71 : decode cX6_readNumbers 71 = .ok (.iload_n 3, 1) := by decide +kernel
theorem dX6_readNumbers_72 : decode cX6_readNumbers 72 = .ok (.iadd, 1) := by decide +kernel
theorem dX6_readNumbers_73 : decode cX6_readNumbers 73 = .ok (.iaload, 1) := by decide +kernel
theorem dX6_readNumbers_74 : decode cX6_readNumbers 74 = .ok (.if_icmp .lt 19, 3) := by decide +kernel
theorem dX6_readNumbers_77 : decode cX6_readNumbers 77 = .ok (.aload_n 0, 1) := by decide +kernel
theorem dX6_readNumbers_78 : decode cX6_readNumbers 78 = .ok (.getfield 111, 3) := by decide +kernel
theorem dX6_readNumbers_81 : decode cX6_readNumbers 81 = .ok (.getstatic 108, 3) := by decide +kernel
theorem dX6_readNumbers_84 : decode cX6_readNumbers 84 = .ok (.iload_n 2, 1) := by decide +kernel
theorem dX6_readNumbers_85 : decode cX6_readNumbers 85 = .ok (.iconst 5, 1) := by decide +kernel
theorem dX6_readNumbers_86 : decode cX6_readNumbers 86 = .ok (.iadd, 1) := by decide +kernel
theorem dX6_readNumbers_87 : decode cX6_readNumbers 87 = .ok (.iload_n 3, 1) := by decide +kernel
theorem dX6_readNumbers_88 : decode cX6_readNumbers 88 = .ok (.iadd, 1) := by decide +kernel
theorem dX6_readNumbers_89 : decode cX6_readNumbers 89 = .ok (.iaload, 1) := by decide +kernel
theorem dX6_readNumbers_90 : decode cX6_readNumbers 90 = .ok (.if_icmp .le 12, 3) := by decide +kernel
theorem dX6_readNumbers_93 : decode cX6_readNumbers 93 = .ok (.aload_n 0, 1) := by decide +kernel
theorem dX6_readNumbers_94 : decode cX6_readNumbers 94 = .ok (.iconst 2, 1) := by decide +kernel
theorem dX6_readNumbers_95 : decode cX6_readNumbers 95 = .ok (.aload_n 0, 1) := by decide +kernel
theorem dX6_readNumbers_96 : decode cX6_readNumbers 96 = .ok (.getfield 82, 3) := by decide +kernel
theorem dX6_readNumbers_99 : decode cX6_readNumbers 99 = .ok (.invokevirtual 78, 3) := by decide +kernel
theorem dX6_readNumbers_102 : decode cX6_readNumbers 102 = .ok (.aload_n 0, 1) := by decide +kernel
theorem dX6_readNumbers_103 : decode cX6_readNumbers 103 = .ok (.getfield 36, 3) := by decide +kernel
theorem dX6_readNumbers_106 : decode cX6_readNumbers 106 = .ok (.iload_n 3, 1) := by decide +kernel
theorem dX6_readNumbers_107 : decode cX6_readNumbers 107 = .ok (.aload_n 0, 1) := by decide +kernel
theorem dX6_readNumbers_108 : decode cX6_readNumbers 108 = .ok (.getfield 111, 3) := by decide +kernel
theorem dX6_readNumbers_111 : decode cX6_readNumbers 111 = .ok (.iastore, 1) := by decide +kernel
theorem dX6_readNumbers_112 : decode cX6_readNumbers 112 = .ok (.aload_n 0, 1) := by decide +kernel
theorem dX6_readNumbers_113 : decode cX6_readNumbers 113 = .ok (.invokevirtual 64, 3) := by decide +kernel
theorem dX6_readNumbers_116 : decode cX6_readNumbers 116 = .ok (.iinc 3 1, 3) := by decide +kernel
theorem dX6_readNumbers_119 : decode cX6_readNumbers 119 = .ok (.goto (-86), 3) := by decide +kernel
theorem dX6_readNumbers_122 : decode cX6_readNumbers 122 = .ok (.iconst 1, 1) := by decide +kernel
theorem dX6_readNumbers_123 : decode cX6_readNumbers 123 = .ok (.ireturn, 1) := by decide +kernel
theorem dX6_readLine_0 : decode cX6_readLine 0 = .ok (.aload_n 0, 1) := by decide +kernel
theorem dX6_readLine_1 : decode cX6_readLine 1 = .ok (.getfield 82, 3) := by decide +kernel
theorem dX6_readLine_4 : decode cX6_readLine 4 = .ok (.istore_n 2, 1) := by decide +kernel
theorem dX6_readLine_5 : decode cX6_readLine 5 = .ok (.aload_n 0, 1) := by decide +kernel
theorem dX6_readLine_6 : decode cX6_readLine 6 = .ok (.iload_n 1, 1) := by decide +kernel
theorem dX6_readLine_7 : decode cX6_readLine 7 = .ok (.invokevirtual 85, 3) := by decide +kernel
theorem dX6_readLine_10 : decode cX6_readLine 10 = .ok (.istore_n 3, 1) := by decide +kernel
theorem dX6_readLine_11 : decode cX6_readLine 11 = .ok (.iload_n 3, 1) := by decide +kernel
theorem dX6_readLine_12 : decode cX6_readLine 12 = .ok (.iconst (-1), 1) := by decide +kernel
theorem dX6_readLine_13 : decode cX6_readLine 13 = .ok (.if_icmp .ne 8, 3) := by decide +kernel
theorem dX6_readLine_16 : decode cX6_readLine 16 = .ok (.aload_n 0, 1) := by decide +kernel
theorem dX6_readLine_17 : decode cX6_readLine 17 = .ok (.invokevirtual 89, 3) := by decide +kernel
theorem dX6_readLine_20 : decode cX6_readLine 20 = .ok (.return_, 1) := by decide +kernel
theorem dX6_readLine_21 : decode cX6_readLine 21 = .ok (.aload_n 0, 1) := by decide +kernel
theorem dX6_readLine_22 : decode cX6_readLine 22 = .ok (.invokevirtual 64, 3) := by decide +kernel
theorem dX6_readLine_25 : decode cX6_readLine 25 = .ok (.iconst (-1), 1) := by decide +kernel
theorem dX6_readLine_26 : decode cX6_readLine 26 = .ok (.istore 4, 2) := by decide +kernel
theorem dX6_readLine_28 : decode cX6_readLine 28 = .ok (.iload_n 3, 1) := by decide +kernel
theorem dX6_readLine_29 : decode cX6_readLine 29 = .ok (.iconst 4, 1) := by decide +kernel
theorem dX6_readLine_30 : decode cX6_readLine 30 = .ok (.if_icmp .ge 26, 3) := by decide +kernel
theorem dX6_readLine_33 : decode cX6_readLine 33 = .ok (.aload_n 0, 1) := by decide +kernel
theorem dX6_readLine_34 : decode cX6_readLine 34 = .ok (.ldc 92, 2) := by decide +kernel
theorem dX6_readLine_36 : decode cX6_readLine 36 = .ok (.invokevirtual 94, 3) := by decide +kernel
theorem dX6_readLine_39 : decode cX6_readLine 39 = .ok (.istore 4, 2) := by decide +kernel
theorem dX6_readLine_41 : decode cX6_readLine 41 = .ok (.iload 4, 2) := by decide +kernel
theorem dX6_readLine_43 : decode cX6_readLine 43 = .ok (.iconst (-1), 1) := by decide +kernel
theorem dX6_readLine_44 : decode cX6_readLine 44 = .ok (.if_icmp .ne 8, 3) := by decide +kernel
theorem dX6_readLine_47 : decode cX6_readLine 47 = .ok (.aload_n 0, 1) := by decide +kernel
theorem dX6_readLine_48 : decode cX6_readLine 48 = .ok (.invokevirtual 89, 3) := by decide +kernel
theorem dX6_readLine_51 : decode cX6_readLine 51 = .ok (.return_, 1) := by decide +kernel
theorem dX6_readLine_52 : decode cX6_readLine 52 = .ok (.aload_n 0, 1) := by decide +kernel
theorem dX6_readLine_53 : decode cX6_readLine 53 = .ok (.invokevirtual 64, 3) := by decide +kernel
theorem dX6_readLine_56 : decode cX6_readLine 56 = .ok (.aload_n 0, 1) := by decide +kernel
theorem dX6_readLine_57 : decode cX6_readLine 57 = .ok (.iload_n 3, 1) := by decide +kernel
theorem dX6_readLine_58 : decode cX6_readLine 58 = .ok (.invokevirtual 98, 3) := by decide +kernel
theorem dX6_readLine_61 : decode cX6_readLine 61 = .ok (.ifCond .eq 9, 3) := by decide +kernel
theorem dX6_readLine_64 : decode cX6_readLine 64 = .ok (.aload_n 0, 1) := by decide +kernel
theorem dX6_readLine_65 : decode cX6_readLine 65 = .ok (.iconst 3, 1) := by decide +kernel
theorem dX6_readLine_66 : decode cX6_readLine 66 = .ok (.iload_n 2, 1) := by decide +kernel
theorem dX6_readLine_67 : decode cX6_readLine 67 = .ok (.invokevirtual 78, 3) := by decide +kernel
theorem dX6_readLine_70 : decode cX6_readLine 70 = .ok (.aload_n 0, 1) := by decide +kernel
theorem dX6_readLine_71 : decode cX6_readLine 71 = .ok (.iload_n 3, 1) := by decide +kernel
theorem dX6_readLine_72 : decode cX6_readLine 72 = .ok (.invokevirtual 102, 3) := by decide +kernel
theorem dX6_readLine_75 : decode cX6_readLine 75 = .ok (.ifCond .eq 11, 3) := by decide +kernel
theorem dX6_readLine_78 : decode cX6_readLine 78 = .ok (.aload_n 0, 1) := by decide +kernel
theorem dX6_readLine_79 : decode cX6_readLine 79 = .ok (.getfield 67, 3) := by decide +kernel
theorem dX6_readLine_82 : decode cX6_readLine 82 = .ok (.iconst 3, 1) := by decide +kernel
theorem dX6_readLine_83 : decode cX6_readLine 83 = .ok (.if_icmp .eq 8, 3) := by decide +kernel
theorem dX6_readLine_86 : decode cX6_readLine 86 = .ok (.aload_n 0, 1) := by decide +kernel
theorem dX6_readLine_87 : decode cX6_readLine 87 = .ok (.invokevirtual 89, 3) := by decide +kernel
theorem dX6_readLine_90 : decode cX6_readLine 90 = .ok (.return_, 1) := by decide +kernel
theorem dX6_readLine_91 : decode cX6_readLine 91 = .ok (.aload_n 0, 1) := by decide +kernel
theorem dX6_readLine_92 : decode cX6_readLine 92 = .ok (.invokevirtual 64, 3) := by decide +kernel
theorem dX6_readLine_95 : decode cX6_readLine 95 = .ok (.aload_n 0, 1) := by decide +kernel
theorem dX6_readLine_96 : decode cX6_readLine 96 = .ok (.iload_n 3, 1) := by decide +kernel
theorem dX6_readLine_97 : decode cX6_readLine 97 = .ok (.iload 4, 2) := by decide +kernel
theorem dX6_readLine_99 : decode cX6_readLine 99 = .ok (.invokevirtual 105, 3) := by decide +kernel
theorem dX6_readLine_102 : decode cX6_readLine 102 = .ok (.return_, 1) := by decide +kernel
theorem dX6_read_0 : decode cX6_read 0 = .ok (.aload_n 0, 1) := by decide +kernel
theorem dX6_read_1 : decode cX6_read 1 = .ok (.getfield 12, 3) := by decide +kernel
theorem dX6_read_4 : decode cX6_read 4 = .ok (.invokevirtual 40, 3) := by decide +kernel
theorem dX6_read_7 : decode cX6_read 7 = .ok (.aload_n 0, 1) := by decide +kernel
theorem dX6_read_8 : decode cX6_read 8 = .ok (.getfield 21, 3) := by decide +kernel
theorem dX6_read_11 : decode cX6_read 11 = .ok (.invokevirtual 43, 3) := by decide +kernel
theorem dX6_read_14 : decode cX6_read 14 = .ok (.aload_n 0, 1) := by decide +kernel
theorem dX6_read_15 : decode cX6_read 15 = .ok (.getfield 28, 3) := by decide +kernel
theorem dX6_read_18 : decode cX6_read 18 = .ok (.invokevirtual 44, 3) := by decide +kernel
theorem dX6_read_21 : decode cX6_read 21 = .ok (.aload_n 0, 1) := by decide +kernel
theorem dX6_read_22 : decode cX6_read 22 = .ok (.iconst 0, 1) := by decide +kernel
theorem dX6_read_23 : decode cX6_read 23 = .ok (.putfield 45, 3) := by decide +kernel
theorem dX6_read_26 : decode cX6_read 26 = .ok (.aload_n 0, 1) := by decide +kernel
theorem dX6_read_27 : decode cX6_read 27 = .ok (.iconst (-1), 1) := by decide +kernel
theorem dX6_read_28 : decode cX6_read 28 = .ok (.putfield 49, 3) := by decide +kernel
theorem dX6_read_31 : decode cX6_read 31 = .ok (.aload_n 0, 1) := by decide +kernel
theorem dX6_read_32 : decode cX6_read 32 = .ok (.aload_n 2, 1) := by decide +kernel
theorem dX6_read_33 : decode cX6_read 33 = .ok (.putfield 32, 3) := by decide +kernel
theorem dX6_read_36 : decode cX6_read 36 = .ok (.aload_n 0, 1) := by decide +kernel
theorem dX6_read_37 : decode cX6_read 37 = .ok (.iload_n 3, 1) := by decide +kernel
theorem dX6_read_38 : decode cX6_read 38 = .ok (.aload_n 2, 1) := by decide +kernel
theorem dX6_read_39 : decode cX6_read 39 = .ok (.arraylength, 1) := by decide +kernel
theorem dX6_read_40 : decode cX6_read 40 = .ok (.invokestatic 52, 3) := by decide +kernel
theorem dX6_read_43 : decode cX6_read 43 = .ok (.putfield 58, 3) := by decide +kernel
theorem dX6_read_46 : decode cX6_read 46 = .ok (.aload_n 0, 1) := by decide +kernel
theorem dX6_read_47 : decode cX6_read 47 = .ok (.iconst 0, 1) := by decide +kernel
theorem dX6_read_48 : decode cX6_read 48 = .ok (.putfield 61, 3) := by decide +kernel
theorem dX6_read_51 : decode cX6_read 51 = .ok (.aload_n 0, 1) := by decide +kernel
theorem dX6_read_52 : decode cX6_read 52 = .ok (.invokevirtual 64, 3) := by decide +kernel
theorem dX6_read_55 : decode cX6_read 55 = .ok (.iconst 0, 1) := by decide +kernel
theorem dX6_read_56 : decode cX6_read 56 = .ok (.istore 4, 2) := by decide +kernel
theorem dX6_read_58 : decode cX6_read 58 = .ok (.iload 4, 2) := by decide +kernel
theorem dX6_read_60 : decode cX6_read 60 = .ok (.sipush 600, 3) := by decide +kernel
theorem dX6_read_63 : decode cX6_read 63 = .ok (.if_icmp .gt 29, 3) := by decide +kernel
theorem dX6_read_66 : decode cX6_read 66 = .ok (.aload_n 0, 1) := by decide +kernel
theorem dX6_read_67 : decode cX6_read 67 = .ok (.getfield 67, 3) := by decide +kernel
theorem dX6_read_70 : decode cX6_read 70 = .ok (.ifCond .eq 22, 3) := by decide +kernel
theorem dX6_read_73 : decode cX6_read 73 = .ok (.aload_n 0, 1) := by decide +kernel
theorem dX6_read_74 : decode cX6_read 74 = .ok (.getfield 45, 3) := by decide +kernel
theorem dX6_read_77 : decode cX6_read 77 = .ok (.iconst 1, 1) := by decide +kernel
theorem dX6_read_78 : decode cX6_read 78 = .ok (.if_icmp .eq 14, 3) := by decide +kernel
theorem dX6_read_81 : decode cX6_read 81 = .ok (.aload_n 0, 1) := by decide +kernel
theorem dX6_read_82 : decode cX6_read 82 = .ok (.iload_n 1, 1) := by decide +kernel
theorem dX6_read_83 : decode cX6_read 83 = .ok (.invokevirtual 70, 3) := by decide +kernel
theorem dX6_read_86 : decode cX6_read 86 = .ok (.iinc 4 1, 3) := by decide +kernel
theorem dX6_read_89 : decode cX6_read 89 = .ok (.goto (-31), 3) := by decide +kernel
theorem dX6_read_92 : decode cX6_read 92 = .ok (.iload_n 1, 1) := by decide +kernel
theorem dX6_read_93 : decode cX6_read 93 = .ok (.ifCond .ne 29, 3) := by decide +kernel
theorem dX6_read_96 : decode cX6_read 96 = .ok (.aload_n 0, 1) := by decide +kernel
theorem dX6_read_97 : decode cX6_read 97 = .ok (.getfield 45, 3) := by decide +kernel
theorem dX6_read_100 : decode cX6_read 100 = .ok (.ifCond .ne 22, 3) := by decide +kernel
theorem dX6_read_103 : decode cX6_read 103 = .ok (.aload_n 0, 1) := by decide +kernel
theorem dX6_read_104 : decode cX6_read 104 = .ok (.getfield 12, 3) := by decide +kernel
theorem dX6_read_107 : decode cX6_read 107 = .ok (.invokevirtual 74, 3) := by decide +kernel
theorem dX6_read_110 : decode cX6_read 110 = .ok (.ifCond .eq 12, 3) := by decide +kernel
theorem dX6_read_113 : decode cX6_read 113 = .ok (.aload_n 0, 1) := by decide +kernel
theorem dX6_read_114 : decode cX6_read 114 = .ok (.iconst 4, 1) := by decide +kernel
theorem dX6_read_115 : decode cX6_read 115 = .ok (.aload_n 0, 1) := by decide +kernel
theorem dX6_read_116 : decode cX6_read 116 = .ok (.getfield 58, 3) := by decide +kernel
theorem dX6_read_119 : decode cX6_read 119 = .ok (.invokevirtual 78, 3) := by decide +kernel
theorem dX6_read_122 : decode cX6_read 122 = .ok (.return_, 1) := by decide +kernel
theorem dX11_text_0 : decode cX11_text 0 = .ok (.aload_n 0, 1) := by decide +kernel
theorem dX11_text_1 : decode cX11_text 1 = .ok (.getfield 10, 3) := by decide +kernel
theorem dX11_text_4 : decode cX11_text 4 = .ok (.getfield 73, 3) := by decide +kernel
theorem dX11_text_7 : decode cX11_text 7 = .ok (.istore_n 3, 1) := by decide +kernel
theorem dX11_text_8 : decode cX11_text 8 = .ok (.aload_n 0, 1) := by decide +kernel
theorem dX11_text_9 : decode cX11_text 9 = .ok (.getfield 10, 3) := by decide +kernel
theorem dX11_text_12 : decode cX11_text 12 = .ok (.iconst 0, 1) := by decide +kernel
theorem dX11_text_13 : decode cX11_text 13 = .ok (.putfield 73, 3) := by decide +kernel
theorem dX11_text_16 : decode cX11_text 16 = .ok (.aload_n 0, 1) := by decide +kernel
theorem dX11_text_17 : decode cX11_text 17 = .ok (.getfield 10, 3) := by decide +kernel
theorem dX11_text_20 : decode cX11_text 20 = .ok (.iconst 0, 1) := by decide +kernel
theorem dX11_text_21 : decode cX11_text 21 = .ok (.putfield 81, 3) := by decide +kernel
theorem dX11_text_24 : decode cX11_text 24 = .ok (.aload_n 0, 1) := by decide +kernel
theorem dX11_text_25 : decode cX11_text 25 = .ok (.getfield 10, 3) := by decide +kernel
theorem dX11_text_28 : decode cX11_text 28 = .ok (.iconst (-1), 1) := by decide +kernel
theorem dX11_text_29 : decode cX11_text 29 = .ok (.putfield 84, 3) := by decide +kernel
theorem dX11_text_32 : decode cX11_text 32 = .ok (.aload_n 0, 1) := by decide +kernel
theorem dX11_text_33 : decode cX11_text 33 = .ok (.getfield 10, 3) := by decide +kernel
theorem dX11_text_36 : decode cX11_text 36 = .ok (.iload_n 1, 1) := by decide +kernel
theorem dX11_text_37 : decode cX11_text 37 = .ok (.iload_n 2, 1) := by decide +kernel
theorem dX11_text_38 : decode cX11_text 38 = .ok (.invokevirtual 87, 3) := by decide +kernel
theorem dX11_text_41 : decode cX11_text 41 = .ok (.istore 4, 2) := by decide +kernel
theorem dX11_text_43 : decode cX11_text 43 = .ok (.iload 4, 2) := by decide +kernel
theorem dX11_text_45 : decode cX11_text 45 = .ok (.iconst (-1), 1) := by decide +kernel
theorem dX11_text_46 : decode cX11_text 46 = .ok (.if_icmp .ne 6, 3) := by decide +kernel
theorem dX11_text_49 : decode cX11_text 49 = .ok (.bipush (-2), 2) := by decide +kernel
theorem dX11_text_51 : decode cX11_text 51 = .ok (.ireturn, 1) := by decide +kernel
theorem dX11_text_52 : decode cX11_text 52 = .ok (.aload_n 0, 1) := by decide +kernel
theorem dX11_text_53 : decode cX11_text 53 = .ok (.getfield 27, 3) := by decide +kernel
theorem dX11_text_56 : decode cX11_text 56 = .ok (.iload_n 1, 1) := by decide +kernel
theorem dX11_text_57 : decode cX11_text 57 = .ok (.aload_n 0, 1) := by decide +kernel
theorem dX11_text_58 : decode cX11_text 58 = .ok (.getfield 10, 3) := by decide +kernel
theorem dX11_text_61 : decode cX11_text 61 = .ok (.getfield 91, 3) := by decide +kernel
theorem dX11_text_64 : decode cX11_text 64 = .ok (.iload_n 3, 1) := by decide +kernel
theorem dX11_text_65 : decode cX11_text 65 = .ok (.invokevirtual 95, 3) := by decide +kernel
theorem dX11_text_68 : decode cX11_text 68 = .ok (.aload_n 0, 1) := by decide +kernel
theorem dX11_text_69 : decode cX11_text 69 = .ok (.getfield 10, 3) := by decide +kernel
theorem dX11_text_72 : decode cX11_text 72 = .ok (.aload_n 0, 1) := by decide +kernel
theorem dX11_text_73 : decode cX11_text 73 = .ok (.getfield 27, 3) := by decide +kernel
theorem dX11_text_76 : decode cX11_text 76 = .ok (.getfield 99, 3) := by decide +kernel
theorem dX11_text_79 : decode cX11_text 79 = .ok (.putfield 81, 3) := by decide +kernel
theorem dX11_text_82 : decode cX11_text 82 = .ok (.aload_n 0, 1) := by decide +kernel
theorem dX11_text_83 : decode cX11_text 83 = .ok (.getfield 10, 3) := by decide +kernel
theorem dX11_text_86 : decode cX11_text 86 = .ok (.aload_n 0, 1) := by decide +kernel
theorem dX11_text_87 : decode cX11_text 87 = .ok (.getfield 27, 3) := by decide +kernel
theorem dX11_text_90 : decode cX11_text 90 = .ok (.getfield 100, 3) := by decide +kernel
theorem dX11_text_93 : decode cX11_text 93 = .ok (.putfield 84, 3) := by decide +kernel
theorem dX11_text_96 : decode cX11_text 96 = .ok (.aload_n 0, 1) := by decide +kernel
theorem dX11_text_97 : decode cX11_text 97 = .ok (.getfield 27, 3) := by decide +kernel
theorem dX11_text_100 : decode cX11_text 100 = .ok (.getfield 99, 3) := by decide +kernel
theorem dX11_text_103 : decode cX11_text 103 = .ok (.ifCond .eq 5, 3) := by decide +kernel
theorem dX11_text_106 : decode cX11_text 106 = .ok (.iconst (-1), 1) := by decide +kernel
theorem dX11_text_107 : decode cX11_text 107 = .ok (.ireturn, 1) := by decide +kernel
theorem dX11_text_108 : decode cX11_text 108 = .ok (.aload_n 0, 1) := by decide +kernel
theorem dX11_text_109 : decode cX11_text 109 = .ok (.getfield 10, 3) := by decide +kernel
theorem dX11_text_112 : decode cX11_text 112 = .ok (.iload_n 1, 1) := by decide +kernel
theorem dX11_text_113 : decode cX11_text 113 = .ok (.iload 4, 2) := by decide +kernel
theorem dX11_text_115 : decode cX11_text 115 = .ok (.aload_n 0, 1) := by decide +kernel
theorem dX11_text_116 : decode cX11_text 116 = .ok (.getfield 27, 3) := by decide +kernel
theorem dX11_text_119 : decode cX11_text 119 = .ok (.invokevirtual 101, 3) := by decide +kernel
theorem dX11_text_122 : decode cX11_text 122 = .ok (.iload 4, 2) := by decide +kernel
theorem dX11_text_124 : decode cX11_text 124 = .ok (.ireturn, 1) := by decide +kernel
theorem dX3_fewestWaxes_0 : decode cX3_fewestWaxes 0 = .ok (.aload_n 0, 1) := by decide +kernel
theorem dX3_fewestWaxes_1 : decode cX3_fewestWaxes 1 = .ok (.getfield 18, 3) := by decide +kernel
theorem dX3_fewestWaxes_4 : decode cX3_fewestWaxes 4 = .ok (.aload_n 1, 1) := by decide +kernel
theorem dX3_fewestWaxes_5 : decode cX3_fewestWaxes 5 = .ok (.invokevirtual 22, 3) := by decide +kernel
theorem dX3_fewestWaxes_8 : decode cX3_fewestWaxes 8 = .ok (.iconst 0, 1) := by decide +kernel
theorem dX3_fewestWaxes_9 : decode cX3_fewestWaxes 9 = .ok (.istore 4, 2) := by decide +kernel
theorem dX3_fewestWaxes_11 : decode cX3_fewestWaxes 11 = .ok (.iload 4, 2) := by decide +kernel
theorem dX3_fewestWaxes_13 : decode cX3_fewestWaxes 13 = .ok (.iconst 3, 1) := by decide +kernel
theorem dX3_fewestWaxes_14 : decode cX3_fewestWaxes 14 = .ok (.if_icmp .gt 25, 3) := by decide +kernel
theorem dX3_fewestWaxes_17 : decode cX3_fewestWaxes 17 = .ok (.aload_n 0, 1) := by decide +kernel
theorem dX3_fewestWaxes_18 : decode cX3_fewestWaxes 18 = .ok (.iload_n 2, 1) := by decide +kernel
theorem dX3_fewestWaxes_19 : decode cX3_fewestWaxes 19 = .ok (.iload_n 3, 1) := by decide +kernel
theorem dX3_fewestWaxes_20 : decode cX3_fewestWaxes 20 = .ok (.iconst 0, 1) := by decide +kernel
theorem dX3_fewestWaxes_21 : decode cX3_fewestWaxes 21 = .ok (.iconst 0, 1) := by decide +kernel
theorem dX3_fewestWaxes_22 : decode cX3_fewestWaxes 22 = .ok (.iload 4, 2) := by decide +kernel
theorem dX3_fewestWaxes_24 : decode cX3_fewestWaxes 24 = .ok (.invokevirtual 26, 3) := by decide +kernel
theorem dX3_fewestWaxes_27 : decode cX3_fewestWaxes 27 = .ok (.ifCond .eq 6, 3) := by decide +kernel
theorem dX3_fewestWaxes_30 : decode cX3_fewestWaxes 30 = .ok (.iload 4, 2) := by decide +kernel
theorem dX3_fewestWaxes_32 : decode cX3_fewestWaxes 32 = .ok (.ireturn, 1) := by decide +kernel
theorem dX3_fewestWaxes_33 : decode cX3_fewestWaxes 33 = .ok (.iinc 4 1, 3) := by decide +kernel
theorem dX3_fewestWaxes_36 : decode cX3_fewestWaxes 36 = .ok (.goto (-25), 3) := by decide +kernel
theorem dX3_fewestWaxes_39 : decode cX3_fewestWaxes 39 = .ok (.iconst (-1), 1) := by decide +kernel
theorem dX3_fewestWaxes_40 : decode cX3_fewestWaxes 40 = .ok (.ireturn, 1) := by decide +kernel
theorem dX11_waxed_0 : decode cX11_waxed 0 = .ok (.aload_n 0, 1) := by decide +kernel
theorem dX11_waxed_1 : decode cX11_waxed 1 = .ok (.iload_n 1, 1) := by decide +kernel
theorem dX11_waxed_2 : decode cX11_waxed 2 = .ok (.iload_n 2, 1) := by decide +kernel
theorem dX11_waxed_3 : decode cX11_waxed 3 = .ok (.invokevirtual 115, 3) := by decide +kernel
theorem dX11_waxed_6 : decode cX11_waxed 6 = .ok (.astore 5, 2) := by decide +kernel
theorem dX11_waxed_8 : decode cX11_waxed 8 = .ok (.aload 5, 2) := by decide +kernel
theorem dX11_waxed_10 : decode cX11_waxed 10 = .ok (.ifnonnull 5, 3) := by decide +kernel
theorem dX11_waxed_13 : decode cX11_waxed 13 = .ok (.iconst (-1), 1) := by decide +kernel
theorem dX11_waxed_14 : decode cX11_waxed 14 = .ok (.ireturn, 1) := by decide +kernel
theorem dX11_waxed_15 : decode cX11_waxed 15 = .ok (.aload_n 0, 1) := by decide +kernel
theorem dX11_waxed_16 : decode cX11_waxed 16 = .ok (.getfield 62, 3) := by decide +kernel
theorem dX11_waxed_19 : decode cX11_waxed 19 = .ok (.aload 5, 2) := by decide +kernel
theorem dX11_waxed_21 : decode cX11_waxed 21 = .ok (.iload_n 2, 1) := by decide +kernel
theorem dX11_waxed_22 : decode cX11_waxed 22 = .ok (.iload_n 3, 1) := by decide +kernel
theorem dX11_waxed_23 : decode cX11_waxed 23 = .ok (.invokevirtual 176, 3) := by decide +kernel
theorem dX11_waxed_26 : decode cX11_waxed 26 = .ok (.istore 6, 2) := by decide +kernel
theorem dX11_waxed_28 : decode cX11_waxed 28 = .ok (.iload 4, 2) := by decide +kernel
theorem dX11_waxed_30 : decode cX11_waxed 30 = .ok (.iconst (-1), 1) := by decide +kernel
theorem dX11_waxed_31 : decode cX11_waxed 31 = .ok (.if_icmp .ne 6, 3) := by decide +kernel
theorem dX11_waxed_34 : decode cX11_waxed 34 = .ok (.iload 6, 2) := by decide +kernel
theorem dX11_waxed_36 : decode cX11_waxed 36 = .ok (.ireturn, 1) := by decide +kernel
theorem dX11_waxed_37 : decode cX11_waxed 37 = .ok (.iload 4, 2) := by decide +kernel
theorem dX11_waxed_39 : decode cX11_waxed 39 = .ok (.ifCond .lt 23, 3) := by decide +kernel
theorem dX11_waxed_42 : decode cX11_waxed 42 = .ok (.iload 4, 2) := by decide +kernel
theorem dX11_waxed_44 : decode cX11_waxed 44 = .ok (.iload 6, 2) := by decide +kernel
theorem dX11_waxed_46 : decode cX11_waxed 46 = .ok (.if_icmp .ge 16, 3) := by decide +kernel
theorem dX11_waxed_49 : decode cX11_waxed 49 = .ok (.aload_n 0, 1) := by decide +kernel
theorem dX11_waxed_50 : decode cX11_waxed 50 = .ok (.getfield 62, 3) := by decide +kernel
theorem dX11_waxed_53 : decode cX11_waxed 53 = .ok (.getfield 180, 3) := by decide +kernel
theorem dX11_waxed_56 : decode cX11_waxed 56 = .ok (.iload 4, 2) := by decide +kernel
theorem dX11_waxed_58 : decode cX11_waxed 58 = .ok (.iaload, 1) := by decide +kernel
theorem dX11_waxed_59 : decode cX11_waxed 59 = .ok (.goto 4, 3) := by decide +kernel
theorem dX11_waxed_62 : decode cX11_waxed 62 = .ok (.iconst (-1), 1) := by decide +kernel
theorem dX11_waxed_63 : decode cX11_waxed 63 = .ok (.ireturn, 1) := by decide +kernel
theorem dX3_firstChoice_0 : decode cX3_firstChoice 0 = .ok (.aload_n 0, 1) := by decide +kernel
theorem dX3_firstChoice_1 : decode cX3_firstChoice 1 = .ok (.getfield 18, 3) := by decide +kernel
theorem dX3_firstChoice_4 : decode cX3_firstChoice 4 = .ok (.aload_n 1, 1) := by decide +kernel
theorem dX3_firstChoice_5 : decode cX3_firstChoice 5 = .ok (.invokevirtual 22, 3) := by decide +kernel
theorem dX3_firstChoice_8 : decode cX3_firstChoice 8 = .ok (.iconst 0, 1) := by decide +kernel
theorem dX3_firstChoice_9 : decode cX3_firstChoice 9 = .ok (.istore 4, 2) := by decide +kernel
theorem dX3_firstChoice_11 : decode cX3_firstChoice 11 = .ok (.iload 4, 2) := by decide +kernel
theorem dX3_firstChoice_13 : decode cX3_firstChoice 13 = .ok (.aload_n 1, 1) := by decide +kernel
theorem dX3_firstChoice_14 : decode cX3_firstChoice 14 = .ok (.getfield 44, 3) := by decide +kernel
theorem dX3_firstChoice_17 : decode cX3_firstChoice 17 = .ok (.if_icmp .ge 24, 3) := by decide +kernel
theorem dX3_firstChoice_20 : decode cX3_firstChoice 20 = .ok (.aload_n 0, 1) := by decide +kernel
theorem dX3_firstChoice_21 : decode cX3_firstChoice 21 = .ok (.iload 4, 2) := by decide +kernel
theorem dX3_firstChoice_23 : decode cX3_firstChoice 23 = .ok (.iload_n 2, 1) := by decide +kernel
theorem dX3_firstChoice_24 : decode cX3_firstChoice 24 = .ok (.iload_n 3, 1) := by decide +kernel
theorem dX3_firstChoice_25 : decode cX3_firstChoice 25 = .ok (.iconst 1, 1) := by decide +kernel
theorem dX3_firstChoice_26 : decode cX3_firstChoice 26 = .ok (.invokevirtual 61, 3) := by decide +kernel
theorem dX3_firstChoice_29 : decode cX3_firstChoice 29 = .ok (.ifCond .eq 6, 3) := by decide +kernel
theorem dX3_firstChoice_32 : decode cX3_firstChoice 32 = .ok (.iload 4, 2) := by decide +kernel
theorem dX3_firstChoice_34 : decode cX3_firstChoice 34 = .ok (.ireturn, 1) := by decide +kernel
theorem dX3_firstChoice_35 : decode cX3_firstChoice 35 = .ok (.iinc 4 1, 3) := by decide +kernel
theorem dX3_firstChoice_38 : decode cX3_firstChoice 38 = .ok (.goto (-27), 3) := by decide +kernel
theorem dX3_firstChoice_41 : decode cX3_firstChoice 41 = .ok (.aload_n 0, 1) := by decide +kernel
theorem dX3_firstChoice_42 : decode cX3_firstChoice 42 = .ok (.iload_n 2, 1) := by decide +kernel
theorem dX3_firstChoice_43 : decode cX3_firstChoice 43 = .ok (.iload_n 3, 1) := by decide +kernel
theorem dX3_firstChoice_44 : decode cX3_firstChoice 44 = .ok (.iconst 1, 1) := by decide +kernel
theorem dX3_firstChoice_45 : decode cX3_firstChoice 45 = .ok (.isub, 1) := by decide +kernel
theorem dX3_firstChoice_46 : decode cX3_firstChoice 46 = .ok (.iconst 0, 1) := by decide +kernel
theorem dX3_firstChoice_47 : decode cX3_firstChoice 47 = .ok (.invokevirtual 53, 3) := by decide +kernel
theorem dX3_firstChoice_50 : decode cX3_firstChoice 50 = .ok (.ifCond .eq 8, 3) := by decide +kernel
theorem dX3_firstChoice_53 : decode cX3_firstChoice 53 = .ok (.bipush 8, 2) := by decide +kernel
theorem dX3_firstChoice_55 : decode cX3_firstChoice 55 = .ok (.goto 4, 3) := by decide +kernel
theorem dX3_firstChoice_58 : decode cX3_firstChoice 58 = .ok (.iconst (-1), 1) := by decide +kernel
theorem dX3_firstChoice_59 : decode cX3_firstChoice 59 = .ok (.ireturn, 1) := by decide +kernel
theorem dX3_lobbied_0 : decode cX3_lobbied 0 = .ok (.aload_n 0, 1) := by decide +kernel
theorem dX3_lobbied_1 : decode cX3_lobbied 1 = .ok (.getfield 18, 3) := by decide +kernel
theorem dX3_lobbied_4 : decode cX3_lobbied 4 = .ok (.aload_n 1, 1) := by decide +kernel
theorem dX3_lobbied_5 : decode cX3_lobbied 5 = .ok (.invokevirtual 22, 3) := by decide +kernel
theorem dX3_lobbied_8 : decode cX3_lobbied 8 = .ok (.aload_n 0, 1) := by decide +kernel
theorem dX3_lobbied_9 : decode cX3_lobbied 9 = .ok (.iload_n 2, 1) := by decide +kernel
theorem dX3_lobbied_10 : decode cX3_lobbied 10 = .ok (.iload_n 3, 1) := by decide +kernel
theorem dX3_lobbied_11 : decode cX3_lobbied 11 = .ok (.iconst 1, 1) := by decide +kernel
theorem dX3_lobbied_12 : decode cX3_lobbied 12 = .ok (.invokevirtual 53, 3) := by decide +kernel
theorem dX3_lobbied_15 : decode cX3_lobbied 15 = .ok (.ireturn, 1) := by decide +kernel
theorem dX11_lobby_0 : decode cX11_lobby 0 = .ok (.aload_n 0, 1) := by decide +kernel
theorem dX11_lobby_1 : decode cX11_lobby 1 = .ok (.iload_n 1, 1) := by decide +kernel
theorem dX11_lobby_2 : decode cX11_lobby 2 = .ok (.iload_n 2, 1) := by decide +kernel
theorem dX11_lobby_3 : decode cX11_lobby 3 = .ok (.invokevirtual 115, 3) := by decide +kernel
theorem dX11_lobby_6 : decode cX11_lobby 6 = .ok (.astore 5, 2) := by decide +kernel
theorem dX11_lobby_8 : decode cX11_lobby 8 = .ok (.aload 5, 2) := by decide +kernel
theorem dX11_lobby_10 : decode cX11_lobby 10 = .ok (.ifnull 12, 3) := by decide +kernel
theorem dX11_lobby_13 : decode cX11_lobby 13 = .ok (.iload_n 3, 1) := by decide +kernel
theorem dX11_lobby_14 : decode cX11_lobby 14 = .ok (.ifCond .lt 8, 3) := by decide +kernel
theorem dX11_lobby_17 : decode cX11_lobby 17 = .ok (.iload_n 3, 1) := by decide +kernel
theorem dX11_lobby_18 : decode cX11_lobby 18 = .ok (.iconst 4, 1) := by decide +kernel
theorem dX11_lobby_19 : decode cX11_lobby 19 = .ok (.if_icmp .le 6, 3) := by decide +kernel
theorem dX11_lobby_22 : decode cX11_lobby 22 = .ok (.bipush (-2), 2) := by decide +kernel
theorem dX11_lobby_24 : decode cX11_lobby 24 = .ok (.ireturn, 1) := by decide +kernel
theorem dX11_lobby_25 : decode cX11_lobby 25 = .ok (.iload 4, 2) := by decide +kernel
theorem dX11_lobby_27 : decode cX11_lobby 27 = .ok (.ifCond .eq 23, 3) := by decide +kernel
theorem dX11_lobby_30 : decode cX11_lobby 30 = .ok (.iload_n 3, 1) := by decide +kernel
theorem dX11_lobby_31 : decode cX11_lobby 31 = .ok (.ifCond .ne 7, 3) := by decide +kernel
theorem dX11_lobby_34 : decode cX11_lobby 34 = .ok (.iconst (-1), 1) := by decide +kernel
theorem dX11_lobby_35 : decode cX11_lobby 35 = .ok (.goto 14, 3) := by decide +kernel
theorem dX11_lobby_38 : decode cX11_lobby 38 = .ok (.aload_n 0, 1) := by decide +kernel
theorem dX11_lobby_39 : decode cX11_lobby 39 = .ok (.getfield 62, 3) := by decide +kernel
theorem dX11_lobby_42 : decode cX11_lobby 42 = .ok (.aload 5, 2) := by decide +kernel
theorem dX11_lobby_44 : decode cX11_lobby 44 = .ok (.iload_n 2, 1) := by decide +kernel
theorem dX11_lobby_45 : decode cX11_lobby 45 = .ok (.iload_n 3, 1) := by decide +kernel
theorem dX11_lobby_46 : decode cX11_lobby 46 = .ok (.invokevirtual 187, 3) := by decide +kernel
theorem dX11_lobby_49 : decode cX11_lobby 49 = .ok (.ireturn, 1) := by decide +kernel
theorem dX11_lobby_50 : decode cX11_lobby 50 = .ok (.aload_n 0, 1) := by decide +kernel
theorem dX11_lobby_51 : decode cX11_lobby 51 = .ok (.getfield 62, 3) := by decide +kernel
theorem dX11_lobby_54 : decode cX11_lobby 54 = .ok (.aload 5, 2) := by decide +kernel
theorem dX11_lobby_56 : decode cX11_lobby 56 = .ok (.iload_n 2, 1) := by decide +kernel
theorem dX11_lobby_57 : decode cX11_lobby 57 = .ok (.iload_n 3, 1) := by decide +kernel
theorem dX11_lobby_58 : decode cX11_lobby 58 = .ok (.invokevirtual 191, 3) := by decide +kernel
theorem dX11_lobby_61 : decode cX11_lobby 61 = .ok (.ifCond .eq 7, 3) := by decide +kernel
theorem dX11_lobby_64 : decode cX11_lobby 64 = .ok (.iconst 1, 1) := by decide +kernel
theorem dX11_lobby_65 : decode cX11_lobby 65 = .ok (.goto 4, 3) := by decide +kernel
theorem dX11_lobby_68 : decode cX11_lobby 68 = .ok (.iconst 0, 1) := by decide +kernel
theorem dX11_lobby_69 : decode cX11_lobby 69 = .ok (.ireturn, 1) := by decide +kernel
theorem dX5_part_0 : decode cX5_part 0 = .ok (.aload_n 0, 1) := by decide +kernel
theorem dX5_part_1 : decode cX5_part 1 = .ok (.getfield 27, 3) := by decide +kernel
theorem dX5_part_4 : decode cX5_part 4 = .ok (.iconst 1, 1) := by decide +kernel
theorem dX5_part_5 : decode cX5_part 5 = .ok (.if_icmp .lt 14, 3) := by decide +kernel
theorem dX5_part_8 : decode cX5_part 8 = .ok (.aload_n 0, 1) := by decide +kernel
theorem dX5_part_9 : decode cX5_part 9 = .ok (.getfield 27, 3) := by decide +kernel
theorem dX5_part_12 : decode cX5_part 12 = .ok (.getstatic 47, 3) := by decide +kernel
theorem dX5_part_15 : decode cX5_part 15 = .ok (.arraylength, 1) := by decide +kernel
theorem dX5_part_16 : decode cX5_part 16 = .ok (.if_icmp .lt 5, 3) := by decide +kernel
theorem dX5_part_19 : decode cX5_part 19 = .ok (.iconst (-1), 1) := by decide +kernel
theorem dX5_part_20 : decode cX5_part 20 = .ok (.ireturn, 1) := by decide +kernel
theorem dX5_part_21 : decode cX5_part 21 = .ok (.iconst 0, 1) := by decide +kernel
theorem dX5_part_22 : decode cX5_part 22 = .ok (.istore_n 3, 1) := by decide +kernel
theorem dX5_part_23 : decode cX5_part 23 = .ok (.iconst 0, 1) := by decide +kernel
theorem dX5_part_24 : decode cX5_part 24 = .ok (.istore 4, 2) := by decide +kernel
theorem dX5_part_26 : decode cX5_part 26 = .ok (.iload 4, 2) := by decide +kernel
theorem dX5_part_28 : decode cX5_part 28 = .ok (.aload_n 0, 1) := by decide +kernel
theorem dX5_part_29 : decode cX5_part 29 = .ok (.getfield 28, 3) := by decide +kernel
theorem dX5_part_32 : decode cX5_part 32 = .ok (.if_icmp .ge 58, 3) := by decide +kernel
theorem dX5_part_35 : decode cX5_part 35 = .ok (.iload 4, 2) := by decide +kernel
theorem dX5_part_37 : decode cX5_part 37 = .ok (.invokestatic 50, 3) := by decide +kernel
theorem dX5_part_40 : decode cX5_part 40 = .ok (.istore 5, 2) := by decide +kernel
theorem dX5_part_42 : decode cX5_part 42 = .ok (.iload 5, 2) := by decide +kernel
theorem dX5_part_44 : decode cX5_part 44 = .ok (.aload_n 0, 1) := by decide +kernel
theorem dX5_part_45 : decode cX5_part 45 = .ok (.getfield 27, 3) := by decide +kernel
theorem dX5_part_48 : decode cX5_part 48 = .ok (.if_icmp .ge 36, 3) := by decide +kernel
theorem dX5_part_51 : decode cX5_part 51 = .ok (.aload_n 0, 1) := by decide +kernel
theorem dX5_part_52 : decode cX5_part 52 = .ok (.iload 4, 2) := by decide +kernel
theorem dX5_part_54 : decode cX5_part 54 = .ok (.iload_n 1, 1) := by decide +kernel
theorem dX5_part_55 : decode cX5_part 55 = .ok (.invokevirtual 43, 3) := by decide +kernel
theorem dX5_part_58 : decode cX5_part 58 = .ok (.ifCond .eq 26, 3) := by decide +kernel
theorem dX5_part_61 : decode cX5_part 61 = .ok (.iload_n 3, 1) := by decide +kernel
theorem dX5_part_62 : decode cX5_part 62 = .ok (.getstatic 47, 3) := by decide +kernel
theorem dX5_part_65 : decode cX5_part 65 = .ok (.iload 5, 2) := by decide +kernel
theorem dX5_part_67 : decode cX5_part 67 = .ok (.iaload, 1) := by decide +kernel
theorem dX5_part_68 : decode cX5_part 68 = .ok (.getstatic 47, 3) := by decide +kernel
theorem dX5_part_71 : decode cX5_part 71 = .ok (.aload_n 0, 1) := by decide +kernel
theorem dX5_part_72 : decode cX5_part 72 = .ok (.getfield 27, 3) := by decide +kernel
theorem dX5_part_75 : decode cX5_part 75 = .ok (.iconst 1, 1) := by decide +kernel
theorem dX5_part_76 : decode cX5_part 76 = .ok (.isub, 1) := by decide +kernel
theorem dX5_part_77 : decode cX5_part 77 = .ok (.iload 5, 2) := by decide +kernel
theorem dX5_part_79 : decode cX5_part 79 = .ok (.isub, 1) := by decide +kernel
theorem dX5_part_80 : decode cX5_part 80 = .ok (.iaload, 1) := by decide +kernel
theorem dX5_part_81 : decode cX5_part 81 = .ok (.imul, 1) := by decide +kernel
theorem dX5_part_82 : decode cX5_part 82 = .ok (.iadd, 1) := by decide +kernel
theorem dX5_part_83 : decode cX5_part 83 = .ok (.istore_n 3, 1) := by decide +kernel
theorem dX5_part_84 : decode cX5_part 84 = .ok (.iinc 4 1, 3) := by decide +kernel
theorem dX5_part_87 : decode cX5_part 87 = .ok (.goto (-61), 3) := by decide +kernel
theorem dX5_part_90 : decode cX5_part 90 = .ok (.iload_n 3, 1) := by decide +kernel
theorem dX5_part_91 : decode cX5_part 91 = .ok (.i2l, 1) := by decide +kernel
theorem dX5_part_92 : decode cX5_part 92 = .ok (.getstatic 47, 3) := by decide +kernel
theorem dX5_part_95 : decode cX5_part 95 = .ok (.aload_n 0, 1) := by decide +kernel
theorem dX5_part_96 : decode cX5_part 96 = .ok (.getfield 27, 3) := by decide +kernel
theorem dX5_part_99 : decode cX5_part 99 = .ok (.iaload, 1) := by decide +kernel
theorem dX5_part_100 : decode cX5_part 100 = .ok (.i2l, 1) := by decide +kernel
theorem dX5_part_101 : decode cX5_part 101 = .ok (.iload_n 2, 1) := by decide +kernel
theorem dX5_part_102 : decode cX5_part 102 = .ok (.invokestatic 55, 3) := by decide +kernel
theorem dX5_part_105 : decode cX5_part 105 = .ok (.l2i, 1) := by decide +kernel
theorem dX5_part_106 : decode cX5_part 106 = .ok (.ireturn, 1) := by decide +kernel
theorem dX11_power_0 : decode cX11_power 0 = .ok (.aload_n 0, 1) := by decide +kernel
theorem dX11_power_1 : decode cX11_power 1 = .ok (.getfield 10, 3) := by decide +kernel
theorem dX11_power_4 : decode cX11_power 4 = .ok (.iload_n 1, 1) := by decide +kernel
theorem dX11_power_5 : decode cX11_power 5 = .ok (.invokevirtual 105, 3) := by decide +kernel
theorem dX11_power_8 : decode cX11_power 8 = .ok (.astore_n 3, 1) := by decide +kernel
theorem dX11_power_9 : decode cX11_power 9 = .ok (.aload_n 3, 1) := by decide +kernel
theorem dX11_power_10 : decode cX11_power 10 = .ok (.ifnonnull 5, 3) := by decide +kernel
theorem dX11_power_13 : decode cX11_power 13 = .ok (.iconst (-1), 1) := by decide +kernel
theorem dX11_power_14 : decode cX11_power 14 = .ok (.ireturn, 1) := by decide +kernel
theorem dX11_power_15 : decode cX11_power 15 = .ok (.aload_n 0, 1) := by decide +kernel
theorem dX11_power_16 : decode cX11_power 16 = .ok (.getfield 69, 3) := by decide +kernel
theorem dX11_power_19 : decode cX11_power 19 = .ok (.aload_n 3, 1) := by decide +kernel
theorem dX11_power_20 : decode cX11_power 20 = .ok (.invokevirtual 195, 3) := by decide +kernel
theorem dX11_power_23 : decode cX11_power 23 = .ok (.iload_n 2, 1) := by decide +kernel
theorem dX11_power_24 : decode cX11_power 24 = .ok (.ifCond .ne 11, 3) := by decide +kernel
theorem dX11_power_27 : decode cX11_power 27 = .ok (.aload_n 0, 1) := by decide +kernel
theorem dX11_power_28 : decode cX11_power 28 = .ok (.getfield 69, 3) := by decide +kernel
theorem dX11_power_31 : decode cX11_power 31 = .ok (.invokevirtual 198, 3) := by decide +kernel
theorem dX11_power_34 : decode cX11_power 34 = .ok (.ireturn, 1) := by decide +kernel
theorem dX11_power_35 : decode cX11_power 35 = .ok (.iload_n 2, 1) := by decide +kernel
theorem dX11_power_36 : decode cX11_power 36 = .ok (.bipush 10, 2) := by decide +kernel
theorem dX11_power_38 : decode cX11_power 38 = .ok (.if_icmp .lt 27, 3) := by decide +kernel
theorem dX11_power_41 : decode cX11_power 41 = .ok (.iload_n 2, 1) := by decide +kernel
theorem dX11_power_42 : decode cX11_power 42 = .ok (.bipush 10, 2) := by decide +kernel
theorem dX11_power_44 : decode cX11_power 44 = .ok (.aload_n 3, 1) := by decide +kernel
theorem dX11_power_45 : decode cX11_power 45 = .ok (.getfield 132, 3) := by decide +kernel
theorem dX11_power_48 : decode cX11_power 48 = .ok (.iadd, 1) := by decide +kernel
theorem dX11_power_49 : decode cX11_power 49 = .ok (.if_icmp .ge 16, 3) := by decide +kernel
theorem dX11_power_52 : decode cX11_power 52 = .ok (.aload_n 0, 1) := by decide +kernel
theorem dX11_power_53 : decode cX11_power 53 = .ok (.getfield 69, 3) := by decide +kernel
theorem dX11_power_56 : decode cX11_power 56 = .ok (.getfield 202, 3) := by decide +kernel
theorem dX11_power_59 : decode cX11_power 59 = .ok (.iload_n 2, 1) := by decide +kernel
theorem dX11_power_60 : decode cX11_power 60 = .ok (.bipush 10, 2) := by decide +kernel
theorem dX11_power_62 : decode cX11_power 62 = .ok (.isub, 1) := by decide +kernel
theorem dX11_power_63 : decode cX11_power 63 = .ok (.iaload, 1) := by decide +kernel
theorem dX11_power_64 : decode cX11_power 64 = .ok (.ireturn, 1) := by decide +kernel
theorem dX11_power_65 : decode cX11_power 65 = .ok (.iload_n 2, 1) := by decide +kernel
theorem dX11_power_66 : decode cX11_power 66 = .ok (.bipush 20, 2) := by decide +kernel
theorem dX11_power_68 : decode cX11_power 68 = .ok (.if_icmp .lt 27, 3) := by decide +kernel
theorem dX11_power_71 : decode cX11_power 71 = .ok (.iload_n 2, 1) := by decide +kernel
theorem dX11_power_72 : decode cX11_power 72 = .ok (.bipush 20, 2) := by decide +kernel
theorem dX11_power_74 : decode cX11_power 74 = .ok (.aload_n 3, 1) := by decide +kernel
theorem dX11_power_75 : decode cX11_power 75 = .ok (.getfield 132, 3) := by decide +kernel
theorem dX11_power_78 : decode cX11_power 78 = .ok (.iadd, 1) := by decide +kernel
theorem dX11_power_79 : decode cX11_power 79 = .ok (.if_icmp .ge 16, 3) := by decide +kernel
theorem dX11_power_82 : decode cX11_power 82 = .ok (.aload_n 0, 1) := by decide +kernel
theorem dX11_power_83 : decode cX11_power 83 = .ok (.getfield 69, 3) := by decide +kernel
theorem dX11_power_86 : decode cX11_power 86 = .ok (.iload_n 2, 1) := by decide +kernel
theorem dX11_power_87 : decode cX11_power 87 = .ok (.bipush 20, 2) := by decide +kernel
theorem dX11_power_89 : decode cX11_power 89 = .ok (.isub, 1) := by decide +kernel
theorem dX11_power_90 : decode cX11_power 90 = .ok (.iconst 0, 1) := by decide +kernel
theorem dX11_power_91 : decode cX11_power 91 = .ok (.invokevirtual 205, 3) := by decide +kernel
theorem dX11_power_94 : decode cX11_power 94 = .ok (.ireturn, 1) := by decide +kernel
theorem dX11_power_95 : decode cX11_power 95 = .ok (.iload_n 2, 1) := by decide +kernel
theorem dX11_power_96 : decode cX11_power 96 = .ok (.bipush 30, 2) := by decide +kernel
theorem dX11_power_98 : decode cX11_power 98 = .ok (.if_icmp .lt 27, 3) := by decide +kernel
theorem dX11_power_101 : decode cX11_power 101 = .ok (.iload_n 2, 1) := by decide +kernel
theorem dX11_power_102 : decode cX11_power 102 = .ok (.bipush 30, 2) := by decide +kernel
theorem dX11_power_104 : decode cX11_power 104 = .ok (.aload_n 3, 1) := by decide +kernel
theorem dX11_power_105 : decode cX11_power 105 = .ok (.getfield 132, 3) := by decide +kernel
theorem dX11_power_108 : decode cX11_power 108 = .ok (.iadd, 1) := by decide +kernel
theorem dX11_power_109 : decode cX11_power 109 = .ok (.if_icmp .ge 16, 3) := by decide +kernel
theorem dX11_power_112 : decode cX11_power 112 = .ok (.aload_n 0, 1) := by decide +kernel
theorem dX11_power_113 : decode cX11_power 113 = .ok (.getfield 69, 3) := by decide +kernel
theorem dX11_power_116 : decode cX11_power 116 = .ok (.iload_n 2, 1) := by decide +kernel
theorem dX11_power_117 : decode cX11_power 117 = .ok (.bipush 30, 2) := by decide +kernel
theorem dX11_power_119 : decode cX11_power 119 = .ok (.isub, 1) := by decide +kernel
theorem dX11_power_120 : decode cX11_power 120 = .ok (.iconst 1, 1) := by decide +kernel
theorem dX11_power_121 : decode cX11_power 121 = .ok (.invokevirtual 205, 3) := by decide +kernel
theorem dX11_power_124 : decode cX11_power 124 = .ok (.ireturn, 1) := by decide +kernel
theorem dX11_power_125 : decode cX11_power 125 = .ok (.iconst (-1), 1) := by decide +kernel
theorem dX11_power_126 : decode cX11_power 126 = .ok (.ireturn, 1) := by decide +kernel
theorem dX11_agenda_0 : decode cX11_agenda 0 = .ok (.aload_n 0, 1) := by decide +kernel
theorem dX11_agenda_1 : decode cX11_agenda 1 = .ok (.getfield 10, 3) := by decide +kernel
theorem dX11_agenda_4 : decode cX11_agenda 4 = .ok (.iload_n 1, 1) := by decide +kernel
theorem dX11_agenda_5 : decode cX11_agenda 5 = .ok (.invokevirtual 105, 3) := by decide +kernel
theorem dX11_agenda_8 : decode cX11_agenda 8 = .ok (.astore 6, 2) := by decide +kernel
theorem dX11_agenda_10 : decode cX11_agenda 10 = .ok (.aload 6, 2) := by decide +kernel
theorem dX11_agenda_12 : decode cX11_agenda 12 = .ok (.ifnull 25, 3) := by decide +kernel
theorem dX11_agenda_15 : decode cX11_agenda 15 = .ok (.iload_n 2, 1) := by decide +kernel
theorem dX11_agenda_16 : decode cX11_agenda 16 = .ok (.invokestatic 280, 3) := by decide +kernel
theorem dX11_agenda_19 : decode cX11_agenda 19 = .ok (.ifCond .eq 18, 3) := by decide +kernel
theorem dX11_agenda_22 : decode cX11_agenda 22 = .ok (.iload_n 3, 1) := by decide +kernel
theorem dX11_agenda_23 : decode cX11_agenda 23 = .ok (.invokestatic 280, 3) := by decide +kernel
theorem dX11_agenda_26 : decode cX11_agenda 26 = .ok (.ifCond .eq 11, 3) := by decide +kernel
theorem dX11_agenda_29 : decode cX11_agenda 29 = .ok (.iload 4, 2) := by decide +kernel
theorem dX11_agenda_31 : decode cX11_agenda 31 = .ok (.invokestatic 280, 3) := by decide +kernel
theorem dX11_agenda_34 : decode cX11_agenda 34 = .ok (.ifCond .ne 5, 3) := by decide +kernel
theorem dX11_agenda_37 : decode cX11_agenda 37 = .ok (.iconst (-1), 1) := by decide +kernel
theorem dX11_agenda_38 : decode cX11_agenda 38 = .ok (.ireturn, 1) := by decide +kernel
theorem dX11_agenda_39 : decode cX11_agenda 39 = .ok (.iconst (-1), 1) := by decide +kernel
theorem dX11_agenda_40 : decode cX11_agenda 40 = .ok (.istore 7, 2) := by decide +kernel
theorem dX11_agenda_42 : decode cX11_agenda 42 = .ok (.iconst (-1), 1) := by decide +kernel
theorem dX11_agenda_43 : decode cX11_agenda 43 = .ok (.istore 8, 2) := by decide +kernel
theorem dX11_agenda_45 : decode cX11_agenda 45 = .ok (.iconst 0, 1) := by decide +kernel
theorem dX11_agenda_46 : decode cX11_agenda 46 = .ok (.istore 9, 2) := by decide +kernel
theorem dX11_agenda_48 : decode cX11_agenda 48 = .ok (.iload 9, 2) := by decide +kernel
theorem dX11_agenda_50 : decode cX11_agenda 50 = .ok (.getstatic 284, 3) := by decide +kernel
theorem dX11_agenda_53 : decode cX11_agenda 53 = .ok (.arraylength, 1) := by decide +kernel
theorem dX11_agenda_54 : decode cX11_agenda 54 = .ok (.if_icmp .ge 102, 3) := by decide +kernel
theorem dX11_agenda_57 : decode cX11_agenda 57 = .ok (.getstatic 284, 3) := by decide +kernel
theorem dX11_agenda_60 : decode cX11_agenda 60 = .ok (.iload 9, 2) := by decide +kernel
theorem dX11_agenda_62 : decode cX11_agenda 62 = .ok (.iaload, 1) := by decide +kernel
theorem dX11_agenda_63 : decode cX11_agenda 63 = .ok (.bipush 100, 2) := by decide +kernel
theorem dX11_agenda_65 : decode cX11_agenda 65 = .ok (.idiv, 1) := by decide +kernel
theorem dX11_agenda_66 : decode cX11_agenda 66 = .ok (.iload_n 2, 1) := by decide +kernel
theorem dX11_agenda_67 : decode cX11_agenda 67 = .ok (.iload_n 3, 1) := by decide +kernel
theorem dX11_agenda_68 : decode cX11_agenda 68 = .ok (.iload 4, 2) := by decide +kernel
theorem dX11_agenda_70 : decode cX11_agenda 70 = .ok (.invokestatic 287, 3) := by decide +kernel
theorem dX11_agenda_73 : decode cX11_agenda 73 = .ok (.istore 10, 2) := by decide +kernel
theorem dX11_agenda_75 : decode cX11_agenda 75 = .ok (.getstatic 284, 3) := by decide +kernel
theorem dX11_agenda_78 : decode cX11_agenda 78 = .ok (.iload 9, 2) := by decide +kernel
theorem dX11_agenda_80 : decode cX11_agenda 80 = .ok (.iaload, 1) := by decide +kernel
theorem dX11_agenda_81 : decode cX11_agenda 81 = .ok (.bipush 10, 2) := by decide +kernel
theorem dX11_agenda_83 : decode cX11_agenda 83 = .ok (.idiv, 1) := by decide +kernel
theorem dX11_agenda_84 : decode cX11_agenda 84 = .ok (.bipush 10, 2) := by decide +kernel
theorem dX11_agenda_86 : decode cX11_agenda 86 = .ok (.irem, 1) := by decide +kernel
theorem dX11_agenda_87 : decode cX11_agenda 87 = .ok (.iload_n 2, 1) := by decide +kernel
theorem dX11_agenda_88 : decode cX11_agenda 88 = .ok (.iload_n 3, 1) := by decide +kernel
theorem dX11_agenda_89 : decode cX11_agenda 89 = .ok (.iload 4, 2) := by decide +kernel
theorem dX11_agenda_91 : decode cX11_agenda 91 = .ok (.invokestatic 287, 3) := by decide +kernel
theorem dX11_agenda_94 : decode cX11_agenda 94 = .ok (.istore 11, 2) := by decide +kernel
theorem dX11_agenda_96 : decode cX11_agenda 96 = .ok (.getstatic 284, 3) := by decide +kernel
theorem dX11_agenda_99 : decode cX11_agenda 99 = .ok (.iload 9, 2) := by decide +kernel
theorem dX11_agenda_101 : decode cX11_agenda 101 = .ok (.iaload, 1) := by decide +kernel
theorem dX11_agenda_102 : decode cX11_agenda 102 = .ok (.bipush 10, 2) := by decide +kernel
theorem dX11_agenda_104 : decode cX11_agenda 104 = .ok (.irem, 1) := by decide +kernel
theorem dX11_agenda_105 : decode cX11_agenda 105 = .ok (.iload_n 2, 1) := by decide +kernel
theorem dX11_agenda_106 : decode cX11_agenda 106 = .ok (.iload_n 3, 1) := by decide +kernel
theorem dX11_agenda_107 : decode cX11_agenda 107 = .ok (.iload 4, 2) := by decide +kernel
theorem dX11_agenda_109 : decode cX11_agenda 109 = .ok (.invokestatic 287, 3) := by decide +kernel
theorem dX11_agenda_112 : decode cX11_agenda 112 = .ok (.istore 12, 2) := by decide +kernel
theorem dX11_agenda_114 : decode cX11_agenda 114 = .ok (.aload_n 0, 1) := by decide +kernel
theorem dX11_agenda_115 : decode cX11_agenda 115 = .ok (.getfield 41, 3) := by decide +kernel
theorem dX11_agenda_118 : decode cX11_agenda 118 = .ok (.aload 6, 2) := by decide +kernel
theorem dX11_agenda_120 : decode cX11_agenda 120 = .ok (.iload 10, 2) := by decide +kernel
theorem dX11_agenda_122 : decode cX11_agenda 122 = .ok (.iload 11, 2) := by decide +kernel
theorem dX11_agenda_124 : decode cX11_agenda 124 = .ok (.iload 12, 2) := by decide +kernel
theorem dX11_agenda_126 : decode cX11_agenda 126 = .ok (.invokevirtual 291, 3) := by decide +kernel
theorem dX11_agenda_129 : decode cX11_agenda 129 = .ok (.istore 13, 2) := by decide +kernel
theorem dX11_agenda_131 : decode cX11_agenda 131 = .ok (.iload 13, 2) := by decide +kernel
theorem dX11_agenda_133 : decode cX11_agenda 133 = .ok (.iload 7, 2) := by decide +kernel
theorem dX11_agenda_135 : decode cX11_agenda 135 = .ok (.if_icmp .le 15, 3) := by decide +kernel
theorem dX11_agenda_138 : decode cX11_agenda 138 = .ok (.iload 13, 2) := by decide +kernel
theorem dX11_agenda_140 : decode cX11_agenda 140 = .ok (.istore 7, 2) := by decide +kernel
theorem dX11_agenda_142 : decode cX11_agenda 142 = .ok (.getstatic 284, 3) := by decide +kernel
theorem dX11_agenda_145 : decode cX11_agenda 145 = .ok (.iload 9, 2) := by decide +kernel
theorem dX11_agenda_147 : decode cX11_agenda 147 = .ok (.iaload, 1) := by decide +kernel
theorem dX11_agenda_148 : decode cX11_agenda 148 = .ok (.istore 8, 2) := by decide +kernel
theorem dX11_agenda_150 : decode cX11_agenda 150 = .ok (.iinc 9 1, 3) := by decide +kernel
theorem dX11_agenda_153 : decode cX11_agenda 153 = .ok (.goto (-105), 3) := by decide +kernel
theorem dX11_agenda_156 : decode cX11_agenda 156 = .ok (.iload 5, 2) := by decide +kernel
theorem dX11_agenda_158 : decode cX11_agenda 158 = .ok (.ifCond .eq 8, 3) := by decide +kernel
theorem dX11_agenda_161 : decode cX11_agenda 161 = .ok (.iload 8, 2) := by decide +kernel
theorem dX11_agenda_163 : decode cX11_agenda 163 = .ok (.goto 5, 3) := by decide +kernel
theorem dX11_agenda_166 : decode cX11_agenda 166 = .ok (.iload 7, 2) := by decide +kernel
theorem dX11_agenda_168 : decode cX11_agenda 168 = .ok (.ireturn, 1) := by decide +kernel
