theorem dX2_vote_0 : decode cX2_vote 0 = .ok (.aload_n 0, 1) := by decide +kernel
theorem dX2_vote_1 : decode cX2_vote 1 = .ok (.iconst 0, 1) := by decide +kernel
theorem dX2_vote_2 : decode cX2_vote 2 = .ok (.putfield 42, 3) := by decide +kernel
theorem dX2_vote_5 : decode cX2_vote 5 = .ok (.aload_n 0, 1) := by decide +kernel
theorem dX2_vote_6 : decode cX2_vote 6 = .ok (.iconst 0, 1) := by decide +kernel
theorem dX2_vote_7 : decode cX2_vote 7 = .ok (.putfield 45, 3) := by decide +kernel
theorem dX2_vote_10 : decode cX2_vote 10 = .ok (.iconst 0, 1) := by decide +kernel
theorem dX2_vote_11 : decode cX2_vote 11 = .ok (.istore_n 2, 1) := by decide +kernel
theorem dX2_vote_12 : decode cX2_vote 12 = .ok (.iload_n 2, 1) := by decide +kernel
theorem dX2_vote_13 : decode cX2_vote 13 = .ok (.aload_n 0, 1) := by decide +kernel
theorem dX2_vote_14 : decode cX2_vote 14 = .ok (.getfield 12, 3) := by decide +kernel
theorem dX2_vote_17 : decode cX2_vote 17 = .ok (.getfield 68, 3) := by decide +kernel
theorem dX2_vote_20 : decode cX2_vote 20 = .ok (.if_icmp .ge 84, 3) := by decide +kernel
theorem dX2_vote_23 : decode cX2_vote 23 = .ok (.aload_n 0, 1) := by decide +kernel
theorem dX2_vote_24 : decode cX2_vote 24 = .ok (.iload_n 2, 1) := by decide +kernel
theorem dX2_vote_25 : decode cX2_vote 25 = .ok (.invokevirtual 101, 3) := by decide +kernel
theorem dX2_vote_28 : decode cX2_vote 28 = .ok (.ifCond .eq 7, 3) := by decide +kernel
theorem dX2_vote_31 : decode cX2_vote 31 = .ok (.iconst 0, 1) := by decide +kernel
theorem dX2_vote_32 : decode cX2_vote 32 = .ok (.goto 9, 3) := by decide +kernel
theorem dX2_vote_35 : decode cX2_vote 35 = .ok (.aload_n 0, 1) := by decide +kernel
theorem dX2_vote_36 : decode cX2_vote 36 = .ok (.iload_n 2, 1) := by decide +kernel
theorem dX2_vote_37 : decode cX2_vote 37 = .ok (.iload_n 1, 1) := by decide +kernel
theorem dX2_vote_38 : decode cX2_vote 38 = .ok (.invokevirtual 104, 3) := by decide +kernel
theorem dX2_vote_41 : decode cX2_vote 41 = .ok (.istore_n 3, 1) := by decide +kernel
theorem dX2_vote_42 : decode cX2_vote 42 = .ok (.aload_n 0, 1) := by decide +kernel
theorem dX2_vote_43 : decode cX2_vote 43 = .ok (.getfield 25, 3) := by decide +kernel
theorem dX2_vote_46 : decode cX2_vote 46 = .ok (.iload_n 2, 1) := by decide +kernel
theorem dX2_vote_47 : decode cX2_vote 47 = .ok (.iload_n 3, 1) := by decide +kernel
theorem dX2_vote_48 : decode cX2_vote 48 = .ok (.iastore, 1) := by decide +kernel
theorem dX2_vote_49 : decode cX2_vote 49 = .ok (.iload_n 3, 1) := by decide +kernel
theorem dX2_vote_50 : decode cX2_vote 50 = .ok (.iconst 1, 1) := by decide +kernel
theorem dX2_vote_51 : decode cX2_vote 51 = .ok (.if_icmp .ne 24, 3) := by decide +kernel
theorem dX2_vote_54 : decode cX2_vote 54 = .ok (.aload_n 0, 1) := by decide +kernel
theorem dX2_vote_55 : decode cX2_vote 55 = .ok (.dup, 1) := by decide +kernel
theorem dX2_vote_56 : decode cX2_vote 56 = .ok (.getfield 42, 3) := by decide +kernel
theorem dX2_vote_59 : decode cX2_vote 59 = .ok (.aload_n 0, 1) := by decide +kernel
theorem dX2_vote_60 : decode cX2_vote 60 = .ok (.getfield 12, 3) := by decide +kernel
theorem dX2_vote_63 : decode cX2_vote 63 = .ok (.getfield 107, 3) := by decide +kernel
theorem dX2_vote_66 : decode cX2_vote 66 = .ok (.iload_n 2, 1) := by decide +kernel
theorem dX2_vote_67 : decode cX2_vote 67 = .ok (.iaload, 1) := by decide +kernel
theorem dX2_vote_68 : decode cX2_vote 68 = .ok (.iadd, 1) := by decide +kernel
theorem dX2_vote_69 : decode cX2_vote 69 = .ok (.putfield 42, 3) := by decide +kernel
theorem dX2_vote_72 : decode cX2_vote 72 = .ok (.goto 26, 3) := by decide +kernel
theorem dX2_vote_75 : decode cX2_vote 75 = .ok (.iload_n 3, 1) := by decide +kernel
theorem dX2_vote_76 : decode cX2_vote 76 = .ok (.iconst 2, 1) := by decide +kernel
theorem dX2_vote_77 : decode cX2_vote 77 = .ok (.if_icmp .ne 21, 3) := by decide +kernel
theorem dX2_vote_80 : decode cX2_vote 80 = .ok (.aload_n 0, 1) := by decide +kernel
theorem dX2_vote_81 : decode cX2_vote 81 = .ok (.dup, 1) := by decide +kernel
theorem dX2_vote_82 : decode cX2_vote 82 = .ok (.getfield 45, 3) := by decide +kernel
theorem dX2_vote_85 : decode cX2_vote 85 = .ok (.aload_n 0, 1) := by decide +kernel
theorem dX2_vote_86 : decode cX2_vote 86 = .ok (.getfield 12, 3) := by decide +kernel
theorem dX2_vote_89 : decode cX2_vote 89 = .ok (.getfield 107, 3) := by decide +kernel
theorem dX2_vote_92 : decode cX2_vote 92 = .ok (.iload_n 2, 1) := by decide +kernel
theorem dX2_vote_93 : decode cX2_vote 93 = .ok (.iaload, 1) := by decide +kernel
theorem dX2_vote_94 : decode cX2_vote 94 = .ok (.iadd, 1) := by decide +kernel
theorem dX2_vote_95 : decode cX2_vote 95 = .ok (.putfield 45, 3) := by decide +kernel
theorem dX2_vote_98 : decode cX2_vote 98 = .ok (.iinc 2 1, 3) := by decide +kernel
theorem dX2_vote_101 : decode cX2_vote 101 = .ok (.goto (-89), 3) := by decide +kernel
theorem dX2_vote_104 : decode cX2_vote 104 = .ok (.aload_n 0, 1) := by decide +kernel
theorem dX2_vote_105 : decode cX2_vote 105 = .ok (.getfield 42, 3) := by decide +kernel
theorem dX2_vote_108 : decode cX2_vote 108 = .ok (.aload_n 0, 1) := by decide +kernel
theorem dX2_vote_109 : decode cX2_vote 109 = .ok (.getfield 45, 3) := by decide +kernel
theorem dX2_vote_112 : decode cX2_vote 112 = .ok (.isub, 1) := by decide +kernel
theorem dX2_vote_113 : decode cX2_vote 113 = .ok (.ireturn, 1) := by decide +kernel
theorem dX11_answer_0 : decode cX11_answer 0 = .ok (.aload_n 0, 1) := by decide +kernel
theorem dX11_answer_1 : decode cX11_answer 1 = .ok (.iload_n 1, 1) := by decide +kernel
theorem dX11_answer_2 : decode cX11_answer 2 = .ok (.iload_n 2, 1) := by decide +kernel
theorem dX11_answer_3 : decode cX11_answer 3 = .ok (.invokevirtual 115, 3) := by decide +kernel
theorem dX11_answer_6 : decode cX11_answer 6 = .ok (.astore 4, 2) := by decide +kernel
theorem dX11_answer_8 : decode cX11_answer 8 = .ok (.aload 4, 2) := by decide +kernel
theorem dX11_answer_10 : decode cX11_answer 10 = .ok (.ifnonnull 5, 3) := by decide +kernel
theorem dX11_answer_13 : decode cX11_answer 13 = .ok (.iconst (-1), 1) := by decide +kernel
theorem dX11_answer_14 : decode cX11_answer 14 = .ok (.ireturn, 1) := by decide +kernel
theorem dX11_answer_15 : decode cX11_answer 15 = .ok (.aload_n 0, 1) := by decide +kernel
theorem dX11_answer_16 : decode cX11_answer 16 = .ok (.getfield 34, 3) := by decide +kernel
theorem dX11_answer_19 : decode cX11_answer 19 = .ok (.aload 4, 2) := by decide +kernel
theorem dX11_answer_21 : decode cX11_answer 21 = .ok (.invokevirtual 119, 3) := by decide +kernel
theorem dX11_answer_24 : decode cX11_answer 24 = .ok (.aload_n 0, 1) := by decide +kernel
theorem dX11_answer_25 : decode cX11_answer 25 = .ok (.getfield 34, 3) := by decide +kernel
theorem dX11_answer_28 : decode cX11_answer 28 = .ok (.iload_n 2, 1) := by decide +kernel
theorem dX11_answer_29 : decode cX11_answer 29 = .ok (.invokevirtual 123, 3) := by decide +kernel
theorem dX11_answer_32 : decode cX11_answer 32 = .ok (.pop, 1) := by decide +kernel
theorem dX11_answer_33 : decode cX11_answer 33 = .ok (.iload_n 3, 1) := by decide +kernel
theorem dX11_answer_34 : decode cX11_answer 34 = .ok (.ifCond .ne 26, 3) := by decide +kernel
theorem dX11_answer_37 : decode cX11_answer 37 = .ok (.aload_n 0, 1) := by decide +kernel
theorem dX11_answer_38 : decode cX11_answer 38 = .ok (.getfield 34, 3) := by decide +kernel
theorem dX11_answer_41 : decode cX11_answer 41 = .ok (.getfield 126, 3) := by decide +kernel
theorem dX11_answer_44 : decode cX11_answer 44 = .ok (.aload_n 0, 1) := by decide +kernel
theorem dX11_answer_45 : decode cX11_answer 45 = .ok (.getfield 34, 3) := by decide +kernel
theorem dX11_answer_48 : decode cX11_answer 48 = .ok (.getfield 129, 3) := by decide +kernel
theorem dX11_answer_51 : decode cX11_answer 51 = .ok (.if_icmp .le 7, 3) := by decide +kernel
theorem dX11_answer_54 : decode cX11_answer 54 = .ok (.iconst 1, 1) := by decide +kernel
theorem dX11_answer_55 : decode cX11_answer 55 = .ok (.goto 4, 3) := by decide +kernel
theorem dX11_answer_58 : decode cX11_answer 58 = .ok (.iconst 0, 1) := by decide +kernel
theorem dX11_answer_59 : decode cX11_answer 59 = .ok (.ireturn, 1) := by decide +kernel
theorem dX11_answer_60 : decode cX11_answer 60 = .ok (.iload_n 3, 1) := by decide +kernel
theorem dX11_answer_61 : decode cX11_answer 61 = .ok (.iconst 1, 1) := by decide +kernel
theorem dX11_answer_62 : decode cX11_answer 62 = .ok (.if_icmp .ne 11, 3) := by decide +kernel
theorem dX11_answer_65 : decode cX11_answer 65 = .ok (.aload_n 0, 1) := by decide +kernel
theorem dX11_answer_66 : decode cX11_answer 66 = .ok (.getfield 34, 3) := by decide +kernel
theorem dX11_answer_69 : decode cX11_answer 69 = .ok (.getfield 126, 3) := by decide +kernel
theorem dX11_answer_72 : decode cX11_answer 72 = .ok (.ireturn, 1) := by decide +kernel
theorem dX11_answer_73 : decode cX11_answer 73 = .ok (.iload_n 3, 1) := by decide +kernel
theorem dX11_answer_74 : decode cX11_answer 74 = .ok (.iconst 2, 1) := by decide +kernel
theorem dX11_answer_75 : decode cX11_answer 75 = .ok (.if_icmp .ne 11, 3) := by decide +kernel
theorem dX11_answer_78 : decode cX11_answer 78 = .ok (.aload_n 0, 1) := by decide +kernel
theorem dX11_answer_79 : decode cX11_answer 79 = .ok (.getfield 34, 3) := by decide +kernel
theorem dX11_answer_82 : decode cX11_answer 82 = .ok (.getfield 129, 3) := by decide +kernel
theorem dX11_answer_85 : decode cX11_answer 85 = .ok (.ireturn, 1) := by decide +kernel
theorem dX11_answer_86 : decode cX11_answer 86 = .ok (.iload_n 3, 1) := by decide +kernel
theorem dX11_answer_87 : decode cX11_answer 87 = .ok (.bipush 10, 2) := by decide +kernel
theorem dX11_answer_89 : decode cX11_answer 89 = .ok (.if_icmp .lt 28, 3) := by decide +kernel
theorem dX11_answer_92 : decode cX11_answer 92 = .ok (.iload_n 3, 1) := by decide +kernel
theorem dX11_answer_93 : decode cX11_answer 93 = .ok (.bipush 10, 2) := by decide +kernel
theorem dX11_answer_95 : decode cX11_answer 95 = .ok (.aload 4, 2) := by decide +kernel
theorem dX11_answer_97 : decode cX11_answer 97 = .ok (.getfield 132, 3) := by decide +kernel
theorem dX11_answer_100 : decode cX11_answer 100 = .ok (.iadd, 1) := by decide +kernel
theorem dX11_answer_101 : decode cX11_answer 101 = .ok (.if_icmp .ge 16, 3) := by decide +kernel
theorem dX11_answer_104 : decode cX11_answer 104 = .ok (.aload_n 0, 1) := by decide +kernel
theorem dX11_answer_105 : decode cX11_answer 105 = .ok (.getfield 34, 3) := by decide +kernel
theorem dX11_answer_108 : decode cX11_answer 108 = .ok (.iload_n 3, 1) := by decide +kernel
theorem dX11_answer_109 : decode cX11_answer 109 = .ok (.bipush 10, 2) := by decide +kernel
theorem dX11_answer_111 : decode cX11_answer 111 = .ok (.isub, 1) := by decide +kernel
theorem dX11_answer_112 : decode cX11_answer 112 = .ok (.iload_n 2, 1) := by decide +kernel
theorem dX11_answer_113 : decode cX11_answer 113 = .ok (.invokevirtual 135, 3) := by decide +kernel
theorem dX11_answer_116 : decode cX11_answer 116 = .ok (.ireturn, 1) := by decide +kernel
theorem dX11_answer_117 : decode cX11_answer 117 = .ok (.iload_n 3, 1) := by decide +kernel
theorem dX11_answer_118 : decode cX11_answer 118 = .ok (.bipush 20, 2) := by decide +kernel
theorem dX11_answer_120 : decode cX11_answer 120 = .ok (.if_icmp .lt 28, 3) := by decide +kernel
theorem dX11_answer_123 : decode cX11_answer 123 = .ok (.iload_n 3, 1) := by decide +kernel
theorem dX11_answer_124 : decode cX11_answer 124 = .ok (.bipush 20, 2) := by decide +kernel
theorem dX11_answer_126 : decode cX11_answer 126 = .ok (.aload 4, 2) := by decide +kernel
theorem dX11_answer_128 : decode cX11_answer 128 = .ok (.getfield 132, 3) := by decide +kernel
theorem dX11_answer_131 : decode cX11_answer 131 = .ok (.iadd, 1) := by decide +kernel
theorem dX11_answer_132 : decode cX11_answer 132 = .ok (.if_icmp .ge 16, 3) := by decide +kernel
theorem dX11_answer_135 : decode cX11_answer 135 = .ok (.aload_n 0, 1) := by decide +kernel
theorem dX11_answer_136 : decode cX11_answer 136 = .ok (.getfield 34, 3) := by decide +kernel
theorem dX11_answer_139 : decode cX11_answer 139 = .ok (.getfield 138, 3) := by decide +kernel
theorem dX11_answer_142 : decode cX11_answer 142 = .ok (.iload_n 3, 1) := by decide +kernel
theorem dX11_answer_143 : decode cX11_answer 143 = .ok (.bipush 20, 2) := by decide +kernel
theorem dX11_answer_145 : decode cX11_answer 145 = .ok (.isub, 1) := by decide +kernel
theorem dX11_answer_146 : decode cX11_answer 146 = .ok (.iaload, 1) := by decide +kernel
theorem dX11_answer_147 : decode cX11_answer 147 = .ok (.ireturn, 1) := by decide +kernel
theorem dX11_answer_148 : decode cX11_answer 148 = .ok (.iconst (-1), 1) := by decide +kernel
theorem dX11_answer_149 : decode cX11_answer 149 = .ok (.ireturn, 1) := by decide +kernel
theorem dX9_sessionAt_0 : decode cX9_sessionAt 0 = .ok (.aload_n 0, 1) := by decide +kernel
theorem dX9_sessionAt_1 : decode cX9_sessionAt 1 = .ok (.iconst 1, 1) := by decide +kernel
theorem dX9_sessionAt_2 : decode cX9_sessionAt 2 = .ok (.iload_n 1, 1) := by decide +kernel
theorem dX9_sessionAt_3 : decode cX9_sessionAt 3 = .ok (.invokevirtual 77, 3) := by decide +kernel
theorem dX9_sessionAt_6 : decode cX9_sessionAt 6 = .ok (.ifCond .eq 12, 3) := by decide +kernel
theorem dX9_sessionAt_9 : decode cX9_sessionAt 9 = .ok (.aload_n 0, 1) := by decide +kernel
theorem dX9_sessionAt_10 : decode cX9_sessionAt 10 = .ok (.getfield 31, 3) := by decide +kernel
theorem dX9_sessionAt_13 : decode cX9_sessionAt 13 = .ok (.iload_n 1, 1) := by decide +kernel
theorem dX9_sessionAt_14 : decode cX9_sessionAt 14 = .ok (.aaload, 1) := by decide +kernel
theorem dX9_sessionAt_15 : decode cX9_sessionAt 15 = .ok (.goto 4, 3) := by decide +kernel
theorem dX9_sessionAt_18 : decode cX9_sessionAt 18 = .ok (.aconst_null, 1) := by decide +kernel
theorem dX9_sessionAt_19 : decode cX9_sessionAt 19 = .ok (.areturn, 1) := by decide +kernel
theorem dX8_tell_0 : decode cX8_tell 0 = .ok (.iload_n 1, 1) := by decide +kernel
theorem dX8_tell_1 : decode cX8_tell 1 = .ok (.iconst (-1), 1) := by decide +kernel
theorem dX8_tell_2 : decode cX8_tell 2 = .ok (.if_icmp .ne 17, 3) := by decide +kernel
theorem dX8_tell_5 : decode cX8_tell 5 = .ok (.iload_n 2, 1) := by decide +kernel
theorem dX8_tell_6 : decode cX8_tell 6 = .ok (.ifCond .ne 10, 3) := by decide +kernel
theorem dX8_tell_9 : decode cX8_tell 9 = .ok (.aload_n 0, 1) := by decide +kernel
theorem dX8_tell_10 : decode cX8_tell 10 = .ok (.getfield 21, 3) := by decide +kernel
theorem dX8_tell_13 : decode cX8_tell 13 = .ok (.goto 5, 3) := by decide +kernel
theorem dX8_tell_16 : decode cX8_tell 16 = .ok (.bipush (-2), 2) := by decide +kernel
theorem dX8_tell_18 : decode cX8_tell 18 = .ok (.ireturn, 1) := by decide +kernel
theorem dX8_tell_19 : decode cX8_tell 19 = .ok (.iload_n 1, 1) := by decide +kernel
theorem dX8_tell_20 : decode cX8_tell 20 = .ok (.ifCond .lt 11, 3) := by decide +kernel
theorem dX8_tell_23 : decode cX8_tell 23 = .ok (.iload_n 1, 1) := by decide +kernel
theorem dX8_tell_24 : decode cX8_tell 24 = .ok (.aload_n 0, 1) := by decide +kernel
theorem dX8_tell_25 : decode cX8_tell 25 = .ok (.getfield 21, 3) := by decide +kernel
theorem dX8_tell_28 : decode cX8_tell 28 = .ok (.if_icmp .lt 6, 3) := by decide +kernel
theorem dX8_tell_31 : decode cX8_tell 31 = .ok (.bipush (-2), 2) := by decide +kernel
theorem dX8_tell_33 : decode cX8_tell 33 = .ok (.ireturn, 1) := by decide +kernel
theorem dX8_tell_34 : decode cX8_tell 34 = .ok (.iload_n 2, 1) := by decide +kernel
theorem dX8_tell_35 : decode cX8_tell 35 = .ok (.ifCond .ne 10, 3) := by decide +kernel
theorem dX8_tell_38 : decode cX8_tell 38 = .ok (.aload_n 0, 1) := by decide +kernel
theorem dX8_tell_39 : decode cX8_tell 39 = .ok (.getfield 9, 3) := by decide +kernel
theorem dX8_tell_42 : decode cX8_tell 42 = .ok (.iload_n 1, 1) := by decide +kernel
theorem dX8_tell_43 : decode cX8_tell 43 = .ok (.iaload, 1) := by decide +kernel
theorem dX8_tell_44 : decode cX8_tell 44 = .ok (.ireturn, 1) := by decide +kernel
theorem dX8_tell_45 : decode cX8_tell 45 = .ok (.iload_n 2, 1) := by decide +kernel
theorem dX8_tell_46 : decode cX8_tell 46 = .ok (.iconst 1, 1) := by decide +kernel
theorem dX8_tell_47 : decode cX8_tell 47 = .ok (.if_icmp .ne 10, 3) := by decide +kernel
theorem dX8_tell_50 : decode cX8_tell 50 = .ok (.aload_n 0, 1) := by decide +kernel
theorem dX8_tell_51 : decode cX8_tell 51 = .ok (.getfield 15, 3) := by decide +kernel
theorem dX8_tell_54 : decode cX8_tell 54 = .ok (.iload_n 1, 1) := by decide +kernel
theorem dX8_tell_55 : decode cX8_tell 55 = .ok (.iaload, 1) := by decide +kernel
theorem dX8_tell_56 : decode cX8_tell 56 = .ok (.ireturn, 1) := by decide +kernel
theorem dX8_tell_57 : decode cX8_tell 57 = .ok (.iload_n 2, 1) := by decide +kernel
theorem dX8_tell_58 : decode cX8_tell 58 = .ok (.iconst 2, 1) := by decide +kernel
theorem dX8_tell_59 : decode cX8_tell 59 = .ok (.if_icmp .ne 12, 3) := by decide +kernel
theorem dX8_tell_62 : decode cX8_tell 62 = .ok (.aload_n 0, 1) := by decide +kernel
theorem dX8_tell_63 : decode cX8_tell 63 = .ok (.getfield 18, 3) := by decide +kernel
theorem dX8_tell_66 : decode cX8_tell 66 = .ok (.iload_n 1, 1) := by decide +kernel
theorem dX8_tell_67 : decode cX8_tell 67 = .ok (.iaload, 1) := by decide +kernel
theorem dX8_tell_68 : decode cX8_tell 68 = .ok (.goto 5, 3) := by decide +kernel
theorem dX8_tell_71 : decode cX8_tell 71 = .ok (.bipush (-2), 2) := by decide +kernel
theorem dX8_tell_73 : decode cX8_tell 73 = .ok (.ireturn, 1) := by decide +kernel
theorem dX11_deed_0 : decode cX11_deed 0 = .ok (.aload_n 0, 1) := by decide +kernel
theorem dX11_deed_1 : decode cX11_deed 1 = .ok (.getfield 10, 3) := by decide +kernel
theorem dX11_deed_4 : decode cX11_deed 4 = .ok (.iload_n 1, 1) := by decide +kernel
theorem dX11_deed_5 : decode cX11_deed 5 = .ok (.invokevirtual 142, 3) := by decide +kernel
theorem dX11_deed_8 : decode cX11_deed 8 = .ok (.astore 4, 2) := by decide +kernel
theorem dX11_deed_10 : decode cX11_deed 10 = .ok (.aload 4, 2) := by decide +kernel
theorem dX11_deed_12 : decode cX11_deed 12 = .ok (.ifnonnull 8, 3) := by decide +kernel
theorem dX11_deed_15 : decode cX11_deed 15 = .ok (.bipush (-2), 2) := by decide +kernel
theorem dX11_deed_17 : decode cX11_deed 17 = .ok (.goto 10, 3) := by decide +kernel
theorem dX11_deed_20 : decode cX11_deed 20 = .ok (.aload 4, 2) := by decide +kernel
theorem dX11_deed_22 : decode cX11_deed 22 = .ok (.iload_n 2, 1) := by decide +kernel
theorem dX11_deed_23 : decode cX11_deed 23 = .ok (.iload_n 3, 1) := by decide +kernel
theorem dX11_deed_24 : decode cX11_deed 24 = .ok (.invokevirtual 146, 3) := by decide +kernel
theorem dX11_deed_27 : decode cX11_deed 27 = .ok (.ireturn, 1) := by decide +kernel
theorem dX1_begin_0 : decode cX1_begin 0 = .ok (.aload_n 0, 1) := by decide +kernel
theorem dX1_begin_1 : decode cX1_begin 1 = .ok (.getfield 12, 3) := by decide +kernel
theorem dX1_begin_4 : decode cX1_begin 4 = .ok (.aload_n 1, 1) := by decide +kernel
theorem dX1_begin_5 : decode cX1_begin 5 = .ok (.invokevirtual 22, 3) := by decide +kernel
theorem dX1_begin_8 : decode cX1_begin 8 = .ok (.aload_n 0, 1) := by decide +kernel
theorem dX1_begin_9 : decode cX1_begin 9 = .ok (.iconst 0, 1) := by decide +kernel
theorem dX1_begin_10 : decode cX1_begin 10 = .ok (.putfield 26, 3) := by decide +kernel
theorem dX1_begin_13 : decode cX1_begin 13 = .ok (.aload_n 0, 1) := by decide +kernel
theorem dX1_begin_14 : decode cX1_begin 14 = .ok (.iconst 0, 1) := by decide +kernel
theorem dX1_begin_15 : decode cX1_begin 15 = .ok (.putfield 30, 3) := by decide +kernel
theorem dX1_begin_18 : decode cX1_begin 18 = .ok (.aload_n 0, 1) := by decide +kernel
theorem dX1_begin_19 : decode cX1_begin 19 = .ok (.iconst 0, 1) := by decide +kernel
theorem dX1_begin_20 : decode cX1_begin 20 = .ok (.putfield 33, 3) := by decide +kernel
theorem dX1_begin_23 : decode cX1_begin 23 = .ok (.aload_n 0, 1) := by decide +kernel
theorem dX1_begin_24 : decode cX1_begin 24 = .ok (.iconst 0, 1) := by decide +kernel
theorem dX1_begin_25 : decode cX1_begin 25 = .ok (.putfield 36, 3) := by decide +kernel
theorem dX1_begin_28 : decode cX1_begin 28 = .ok (.aload_n 0, 1) := by decide +kernel
theorem dX1_begin_29 : decode cX1_begin 29 = .ok (.iconst (-1), 1) := by decide +kernel
theorem dX1_begin_30 : decode cX1_begin 30 = .ok (.putfield 39, 3) := by decide +kernel
theorem dX1_begin_33 : decode cX1_begin 33 = .ok (.aload_n 0, 1) := by decide +kernel
theorem dX1_begin_34 : decode cX1_begin 34 = .ok (.getfield 18, 3) := by decide +kernel
theorem dX1_begin_37 : decode cX1_begin 37 = .ok (.iconst 0, 1) := by decide +kernel
theorem dX1_begin_38 : decode cX1_begin 38 = .ok (.invokestatic 42, 3) := by decide +kernel
theorem dX1_begin_41 : decode cX1_begin 41 = .ok (.return_, 1) := by decide +kernel
theorem dX2_seatPerson_0 : decode cX2_seatPerson 0 = .ok (.aload_n 0, 1) := by decide +kernel
theorem dX2_seatPerson_1 : decode cX2_seatPerson 1 = .ok (.getfield 12, 3) := by decide +kernel
theorem dX2_seatPerson_4 : decode cX2_seatPerson 4 = .ok (.iload_n 1, 1) := by decide +kernel
theorem dX2_seatPerson_5 : decode cX2_seatPerson 5 = .ok (.invokevirtual 65, 3) := by decide +kernel
theorem dX2_seatPerson_8 : decode cX2_seatPerson 8 = .ok (.ifCond .ne 4, 3) := by decide +kernel
theorem dX2_seatPerson_11 : decode cX2_seatPerson 11 = .ok (.return_, 1) := by decide +kernel
theorem dX2_seatPerson_12 : decode cX2_seatPerson 12 = .ok (.aload_n 0, 1) := by decide +kernel
theorem dX2_seatPerson_13 : decode cX2_seatPerson 13 = .ok (.aload_n 0, 1) := by decide +kernel
theorem dX2_seatPerson_14 : decode cX2_seatPerson 14 = .ok (.getfield 12, 3) := by decide +kernel
theorem dX2_seatPerson_17 : decode cX2_seatPerson 17 = .ok (.getfield 51, 3) := by decide +kernel
theorem dX2_seatPerson_20 : decode cX2_seatPerson 20 = .ok (.iload_n 1, 1) := by decide +kernel
theorem dX2_seatPerson_21 : decode cX2_seatPerson 21 = .ok (.iaload, 1) := by decide +kernel
theorem dX2_seatPerson_22 : decode cX2_seatPerson 22 = .ok (.aload_n 0, 1) := by decide +kernel
theorem dX2_seatPerson_23 : decode cX2_seatPerson 23 = .ok (.getfield 12, 3) := by decide +kernel
theorem dX2_seatPerson_26 : decode cX2_seatPerson 26 = .ok (.getfield 54, 3) := by decide +kernel
theorem dX2_seatPerson_29 : decode cX2_seatPerson 29 = .ok (.iload_n 1, 1) := by decide +kernel
theorem dX2_seatPerson_30 : decode cX2_seatPerson 30 = .ok (.iaload, 1) := by decide +kernel
theorem dX2_seatPerson_31 : decode cX2_seatPerson 31 = .ok (.ineg, 1) := by decide +kernel
theorem dX2_seatPerson_32 : decode cX2_seatPerson 32 = .ok (.invokevirtual 57, 3) := by decide +kernel
theorem dX2_seatPerson_35 : decode cX2_seatPerson 35 = .ok (.aload_n 0, 1) := by decide +kernel
theorem dX2_seatPerson_36 : decode cX2_seatPerson 36 = .ok (.iload_n 2, 1) := by decide +kernel
theorem dX2_seatPerson_37 : decode cX2_seatPerson 37 = .ok (.aload_n 0, 1) := by decide +kernel
theorem dX2_seatPerson_38 : decode cX2_seatPerson 38 = .ok (.getfield 12, 3) := by decide +kernel
theorem dX2_seatPerson_41 : decode cX2_seatPerson 41 = .ok (.getfield 54, 3) := by decide +kernel
theorem dX2_seatPerson_44 : decode cX2_seatPerson 44 = .ok (.iload_n 1, 1) := by decide +kernel
theorem dX2_seatPerson_45 : decode cX2_seatPerson 45 = .ok (.iaload, 1) := by decide +kernel
theorem dX2_seatPerson_46 : decode cX2_seatPerson 46 = .ok (.invokevirtual 57, 3) := by decide +kernel
theorem dX2_seatPerson_49 : decode cX2_seatPerson 49 = .ok (.aload_n 0, 1) := by decide +kernel
theorem dX2_seatPerson_50 : decode cX2_seatPerson 50 = .ok (.getfield 12, 3) := by decide +kernel
theorem dX2_seatPerson_53 : decode cX2_seatPerson 53 = .ok (.getfield 51, 3) := by decide +kernel
theorem dX2_seatPerson_56 : decode cX2_seatPerson 56 = .ok (.iload_n 1, 1) := by decide +kernel
theorem dX2_seatPerson_57 : decode cX2_seatPerson 57 = .ok (.iload_n 2, 1) := by decide +kernel
theorem dX2_seatPerson_58 : decode cX2_seatPerson 58 = .ok (.iastore, 1) := by decide +kernel
theorem dX2_seatPerson_59 : decode cX2_seatPerson 59 = .ok (.return_, 1) := by decide +kernel
theorem dX2_goOver_0 : decode cX2_goOver 0 = .ok (.aload_n 0, 1) := by decide +kernel
theorem dX2_goOver_1 : decode cX2_goOver 1 = .ok (.dup, 1) := by decide +kernel
theorem dX2_goOver_2 : decode cX2_goOver 2 = .ok (.getfield 38, 3) := by decide +kernel
theorem dX2_goOver_5 : decode cX2_goOver 5 = .ok (.iconst 1, 1) := by decide +kernel
theorem dX2_goOver_6 : decode cX2_goOver 6 = .ok (.iload_n 1, 1) := by decide +kernel
theorem dX2_goOver_7 : decode cX2_goOver 7 = .ok (.ishl, 1) := by decide +kernel
theorem dX2_goOver_8 : decode cX2_goOver 8 = .ok (.ior, 1) := by decide +kernel
theorem dX2_goOver_9 : decode cX2_goOver 9 = .ok (.putfield 38, 3) := by decide +kernel
theorem dX2_goOver_12 : decode cX2_goOver 12 = .ok (.iconst 0, 1) := by decide +kernel
theorem dX2_goOver_13 : decode cX2_goOver 13 = .ok (.istore_n 2, 1) := by decide +kernel
theorem dX2_goOver_14 : decode cX2_goOver 14 = .ok (.iload_n 2, 1) := by decide +kernel
theorem dX2_goOver_15 : decode cX2_goOver 15 = .ok (.aload_n 0, 1) := by decide +kernel
theorem dX2_goOver_16 : decode cX2_goOver 16 = .ok (.getfield 12, 3) := by decide +kernel
theorem dX2_goOver_19 : decode cX2_goOver 19 = .ok (.getfield 48, 3) := by decide +kernel
theorem dX2_goOver_22 : decode cX2_goOver 22 = .ok (.if_icmp .ge 29, 3) := by decide +kernel
theorem dX2_goOver_25 : decode cX2_goOver 25 = .ok (.aload_n 0, 1) := by decide +kernel
theorem dX2_goOver_26 : decode cX2_goOver 26 = .ok (.getfield 12, 3) := by decide +kernel
theorem dX2_goOver_29 : decode cX2_goOver 29 = .ok (.getfield 51, 3) := by decide +kernel
theorem dX2_goOver_32 : decode cX2_goOver 32 = .ok (.iload_n 2, 1) := by decide +kernel
theorem dX2_goOver_33 : decode cX2_goOver 33 = .ok (.iaload, 1) := by decide +kernel
theorem dX2_goOver_34 : decode cX2_goOver 34 = .ok (.iload_n 1, 1) := by decide +kernel
theorem dX2_goOver_35 : decode cX2_goOver 35 = .ok (.if_icmp .ne 10, 3) := by decide +kernel
theorem dX2_goOver_38 : decode cX2_goOver 38 = .ok (.aload_n 0, 1) := by decide +kernel
theorem dX2_goOver_39 : decode cX2_goOver 39 = .ok (.iload_n 2, 1) := by decide +kernel
theorem dX2_goOver_40 : decode cX2_goOver 40 = .ok (.bipush 8, 2) := by decide +kernel
theorem dX2_goOver_42 : decode cX2_goOver 42 = .ok (.invokevirtual 113, 3) := by decide +kernel
theorem dX2_goOver_45 : decode cX2_goOver 45 = .ok (.iinc 2 1, 3) := by decide +kernel
theorem dX2_goOver_48 : decode cX2_goOver 48 = .ok (.goto (-34), 3) := by decide +kernel
theorem dX2_goOver_51 : decode cX2_goOver 51 = .ok (.return_, 1) := by decide +kernel
theorem dX1_putMotion_0 : decode cX1_putMotion 0 = .ok (.aload_n 0, 1) := by decide +kernel
theorem dX1_putMotion_1 : decode cX1_putMotion 1 = .ok (.dup, 1) := by decide +kernel
theorem dX1_putMotion_2 : decode cX1_putMotion 2 = .ok (.getfield 26, 3) := by decide +kernel
theorem dX1_putMotion_5 : decode cX1_putMotion 5 = .ok (.iconst 1, 1) := by decide +kernel
theorem dX1_putMotion_6 : decode cX1_putMotion 6 = .ok (.iadd, 1) := by decide +kernel
theorem dX1_putMotion_7 : decode cX1_putMotion 7 = .ok (.putfield 26, 3) := by decide +kernel
theorem dX1_putMotion_10 : decode cX1_putMotion 10 = .ok (.aload_n 0, 1) := by decide +kernel
theorem dX1_putMotion_11 : decode cX1_putMotion 11 = .ok (.getfield 12, 3) := by decide +kernel
theorem dX1_putMotion_14 : decode cX1_putMotion 14 = .ok (.iload_n 1, 1) := by decide +kernel
theorem dX1_putMotion_15 : decode cX1_putMotion 15 = .ok (.invokevirtual 102, 3) := by decide +kernel
theorem dX1_putMotion_18 : decode cX1_putMotion 18 = .ok (.ifCond .le 41, 3) := by decide +kernel
theorem dX1_putMotion_21 : decode cX1_putMotion 21 = .ok (.aload_n 0, 1) := by decide +kernel
theorem dX1_putMotion_22 : decode cX1_putMotion 22 = .ok (.dup, 1) := by decide +kernel
theorem dX1_putMotion_23 : decode cX1_putMotion 23 = .ok (.getfield 30, 3) := by decide +kernel
theorem dX1_putMotion_26 : decode cX1_putMotion 26 = .ok (.iconst 1, 1) := by decide +kernel
theorem dX1_putMotion_27 : decode cX1_putMotion 27 = .ok (.iadd, 1) := by decide +kernel
theorem dX1_putMotion_28 : decode cX1_putMotion 28 = .ok (.putfield 30, 3) := by decide +kernel
theorem dX1_putMotion_31 : decode cX1_putMotion 31 = .ok (.aload_n 0, 1) := by decide +kernel
theorem dX1_putMotion_32 : decode cX1_putMotion 32 = .ok (.dup, 1) := by decide +kernel
theorem dX1_putMotion_33 : decode cX1_putMotion 33 = .ok (.getfield 33, 3) := by decide +kernel
theorem dX1_putMotion_36 : decode cX1_putMotion 36 = .ok (.iconst 1, 1) := by decide +kernel
theorem dX1_putMotion_37 : decode cX1_putMotion 37 = .ok (.iadd, 1) := by decide +kernel
theorem dX1_putMotion_38 : decode cX1_putMotion 38 = .ok (.putfield 33, 3) := by decide +kernel
theorem dX1_putMotion_41 : decode cX1_putMotion 41 = .ok (.aload_n 0, 1) := by decide +kernel
theorem dX1_putMotion_42 : decode cX1_putMotion 42 = .ok (.aload_n 0, 1) := by decide +kernel
theorem dX1_putMotion_43 : decode cX1_putMotion 43 = .ok (.getfield 36, 3) := by decide +kernel
theorem dX1_putMotion_46 : decode cX1_putMotion 46 = .ok (.aload_n 0, 1) := by decide +kernel
theorem dX1_putMotion_47 : decode cX1_putMotion 47 = .ok (.getfield 33, 3) := by decide +kernel
theorem dX1_putMotion_50 : decode cX1_putMotion 50 = .ok (.invokestatic 106, 3) := by decide +kernel
theorem dX1_putMotion_53 : decode cX1_putMotion 53 = .ok (.putfield 36, 3) := by decide +kernel
theorem dX1_putMotion_56 : decode cX1_putMotion 56 = .ok (.goto 8, 3) := by decide +kernel
theorem dX1_putMotion_59 : decode cX1_putMotion 59 = .ok (.aload_n 0, 1) := by decide +kernel
theorem dX1_putMotion_60 : decode cX1_putMotion 60 = .ok (.iconst 0, 1) := by decide +kernel
theorem dX1_putMotion_61 : decode cX1_putMotion 61 = .ok (.putfield 33, 3) := by decide +kernel
theorem dX1_putMotion_64 : decode cX1_putMotion 64 = .ok (.iconst 0, 1) := by decide +kernel
theorem dX1_putMotion_65 : decode cX1_putMotion 65 = .ok (.istore_n 2, 1) := by decide +kernel
theorem dX1_putMotion_66 : decode cX1_putMotion 66 = .ok (.iload_n 2, 1) := by decide +kernel
theorem dX1_putMotion_67 : decode cX1_putMotion 67 = .ok (.aload_n 0, 1) := by decide +kernel
theorem dX1_putMotion_68 : decode cX1_putMotion 68 = .ok (.getfield 12, 3) := by decide +kernel
theorem dX1_putMotion_71 : decode cX1_putMotion 71 = .ok (.getfield 109, 3) := by decide +kernel
theorem dX1_putMotion_74 : decode cX1_putMotion 74 = .ok (.getfield 113, 3) := by decide +kernel
theorem dX1_putMotion_77 : decode cX1_putMotion 77 = .ok (.if_icmp .ge 56, 3) := by decide +kernel
theorem dX1_putMotion_80 : decode cX1_putMotion 80 = .ok (.aload_n 0, 1) := by decide +kernel
theorem dX1_putMotion_81 : decode cX1_putMotion 81 = .ok (.getfield 12, 3) := by decide +kernel
theorem dX1_putMotion_84 : decode cX1_putMotion 84 = .ok (.getfield 118, 3) := by decide +kernel
theorem dX1_putMotion_87 : decode cX1_putMotion 87 = .ok (.iload_n 2, 1) := by decide +kernel
theorem dX1_putMotion_88 : decode cX1_putMotion 88 = .ok (.iaload, 1) := by decide +kernel
theorem dX1_putMotion_89 : decode cX1_putMotion 89 = .ok (.iconst 2, 1) := by decide +kernel
theorem dX1_putMotion_90 : decode cX1_putMotion 90 = .ok (.if_icmp .ne 37, 3) := by decide +kernel
theorem dX1_putMotion_93 : decode cX1_putMotion 93 = .ok (.aload_n 0, 1) := by decide +kernel
theorem dX1_putMotion_94 : decode cX1_putMotion 94 = .ok (.getfield 18, 3) := by decide +kernel
theorem dX1_putMotion_97 : decode cX1_putMotion 97 = .ok (.iload_n 2, 1) := by decide +kernel
theorem dX1_putMotion_98 : decode cX1_putMotion 98 = .ok (.dup2, 1) := by decide +kernel
theorem dX1_putMotion_99 : decode cX1_putMotion 99 = .ok (.iaload, 1) := by decide +kernel
theorem dX1_putMotion_100 : decode cX1_putMotion 100 = .ok (.iconst 1, 1) := by decide +kernel
theorem dX1_putMotion_101 : decode cX1_putMotion 101 = .ok (.iadd, 1) := by decide +kernel
theorem dX1_putMotion_102 : decode cX1_putMotion 102 = .ok (.iastore, 1) := by decide +kernel
theorem dX1_putMotion_103 : decode cX1_putMotion 103 = .ok (.aload_n 0, 1) := by decide +kernel
theorem dX1_putMotion_104 : decode cX1_putMotion 104 = .ok (.getfield 12, 3) := by decide +kernel
theorem dX1_putMotion_107 : decode cX1_putMotion 107 = .ok (.getfield 109, 3) := by decide +kernel
theorem dX1_putMotion_110 : decode cX1_putMotion 110 = .ok (.getfield 121, 3) := by decide +kernel
theorem dX1_putMotion_113 : decode cX1_putMotion 113 = .ok (.iload_n 2, 1) := by decide +kernel
theorem dX1_putMotion_114 : decode cX1_putMotion 114 = .ok (.iaload, 1) := by decide +kernel
theorem dX1_putMotion_115 : decode cX1_putMotion 115 = .ok (.iconst 1, 1) := by decide +kernel
theorem dX1_putMotion_116 : decode cX1_putMotion 116 = .ok (.if_icmp .ne 11, 3) := by decide +kernel
theorem dX1_putMotion_119 : decode cX1_putMotion 119 = .ok (.aload_n 0, 1) := by decide +kernel
theorem dX1_putMotion_120 : decode cX1_putMotion 120 = .ok (.getfield 12, 3) := by decide +kernel
theorem dX1_putMotion_123 : decode cX1_putMotion 123 = .ok (.iload_n 2, 1) := by decide +kernel
theorem dX1_putMotion_124 : decode cX1_putMotion 124 = .ok (.invokevirtual 124, 3) := by decide +kernel
theorem dX1_putMotion_127 : decode cX1_putMotion 127 = .ok (.iinc 2 1, 3) := by decide +kernel
theorem dX1_putMotion_130 : decode cX1_putMotion 130 = .ok (.goto (-64), 3) := by decide +kernel
theorem dX1_putMotion_133 : decode cX1_putMotion 133 = .ok (.return_, 1) := by decide +kernel
theorem dX1_standsUp_0 : decode cX1_standsUp 0 = .ok (.aload_n 0, 1) := by decide +kernel
theorem dX1_standsUp_1 : decode cX1_standsUp 1 = .ok (.getfield 12, 3) := by decide +kernel
theorem dX1_standsUp_4 : decode cX1_standsUp 4 = .ok (.getfield 109, 3) := by decide +kernel
theorem dX1_standsUp_7 : decode cX1_standsUp 7 = .ok (.iload_n 1, 1) := by decide +kernel
theorem dX1_standsUp_8 : decode cX1_standsUp 8 = .ok (.invokevirtual 127, 3) := by decide +kernel
theorem dX1_standsUp_11 : decode cX1_standsUp 11 = .ok (.ifCond .eq 20, 3) := by decide +kernel
theorem dX1_standsUp_14 : decode cX1_standsUp 14 = .ok (.aload_n 0, 1) := by decide +kernel
theorem dX1_standsUp_15 : decode cX1_standsUp 15 = .ok (.getfield 12, 3) := by decide +kernel
theorem dX1_standsUp_18 : decode cX1_standsUp 18 = .ok (.getfield 109, 3) := by decide +kernel
theorem dX1_standsUp_21 : decode cX1_standsUp 21 = .ok (.getfield 130, 3) := by decide +kernel
theorem dX1_standsUp_24 : decode cX1_standsUp 24 = .ok (.iload_n 1, 1) := by decide +kernel
theorem dX1_standsUp_25 : decode cX1_standsUp 25 = .ok (.iaload, 1) := by decide +kernel
theorem dX1_standsUp_26 : decode cX1_standsUp 26 = .ok (.bipush 8, 2) := by decide +kernel
theorem dX1_standsUp_28 : decode cX1_standsUp 28 = .ok (.if_icmp .ne 5, 3) := by decide +kernel
theorem dX1_standsUp_31 : decode cX1_standsUp 31 = .ok (.iconst 0, 1) := by decide +kernel
theorem dX1_standsUp_32 : decode cX1_standsUp 32 = .ok (.ireturn, 1) := by decide +kernel
theorem dX1_standsUp_33 : decode cX1_standsUp 33 = .ok (.aload_n 0, 1) := by decide +kernel
theorem dX1_standsUp_34 : decode cX1_standsUp 34 = .ok (.getfield 12, 3) := by decide +kernel
theorem dX1_standsUp_37 : decode cX1_standsUp 37 = .ok (.iload_n 1, 1) := by decide +kernel
theorem dX1_standsUp_38 : decode cX1_standsUp 38 = .ok (.bipush 8, 2) := by decide +kernel
theorem dX1_standsUp_40 : decode cX1_standsUp 40 = .ok (.invokevirtual 133, 3) := by decide +kernel
theorem dX1_standsUp_43 : decode cX1_standsUp 43 = .ok (.iconst 1, 1) := by decide +kernel
theorem dX1_standsUp_44 : decode cX1_standsUp 44 = .ok (.ireturn, 1) := by decide +kernel
theorem dX1_takesWax_0 : decode cX1_takesWax 0 = .ok (.aload_n 0, 1) := by decide +kernel
theorem dX1_takesWax_1 : decode cX1_takesWax 1 = .ok (.getfield 12, 3) := by decide +kernel
theorem dX1_takesWax_4 : decode cX1_takesWax 4 = .ok (.getfield 109, 3) := by decide +kernel
theorem dX1_takesWax_7 : decode cX1_takesWax 7 = .ok (.iload_n 1, 1) := by decide +kernel
theorem dX1_takesWax_8 : decode cX1_takesWax 8 = .ok (.invokevirtual 137, 3) := by decide +kernel
theorem dX1_takesWax_11 : decode cX1_takesWax 11 = .ok (.ifCond .eq 17, 3) := by decide +kernel
theorem dX1_takesWax_14 : decode cX1_takesWax 14 = .ok (.aload_n 0, 1) := by decide +kernel
theorem dX1_takesWax_15 : decode cX1_takesWax 15 = .ok (.getfield 12, 3) := by decide +kernel
theorem dX1_takesWax_18 : decode cX1_takesWax 18 = .ok (.getfield 143, 3) := by decide +kernel
theorem dX1_takesWax_21 : decode cX1_takesWax 21 = .ok (.iload_n 1, 1) := by decide +kernel
theorem dX1_takesWax_22 : decode cX1_takesWax 22 = .ok (.iaload, 1) := by decide +kernel
theorem dX1_takesWax_23 : decode cX1_takesWax 23 = .ok (.bipush 9, 2) := by decide +kernel
theorem dX1_takesWax_25 : decode cX1_takesWax 25 = .ok (.if_icmp .lt 5, 3) := by decide +kernel
theorem dX1_takesWax_28 : decode cX1_takesWax 28 = .ok (.iconst 0, 1) := by decide +kernel
theorem dX1_takesWax_29 : decode cX1_takesWax 29 = .ok (.ireturn, 1) := by decide +kernel
theorem dX1_takesWax_30 : decode cX1_takesWax 30 = .ok (.aload_n 0, 1) := by decide +kernel
theorem dX1_takesWax_31 : decode cX1_takesWax 31 = .ok (.getfield 12, 3) := by decide +kernel
theorem dX1_takesWax_34 : decode cX1_takesWax 34 = .ok (.getfield 143, 3) := by decide +kernel
theorem dX1_takesWax_37 : decode cX1_takesWax 37 = .ok (.iload_n 1, 1) := by decide +kernel
theorem dX1_takesWax_38 : decode cX1_takesWax 38 = .ok (.dup2, 1) := by decide +kernel
theorem dX1_takesWax_39 : decode cX1_takesWax 39 = .ok (.iaload, 1) := by decide +kernel
theorem dX1_takesWax_40 : decode cX1_takesWax 40 = .ok (.iconst 1, 1) := by decide +kernel
theorem dX1_takesWax_41 : decode cX1_takesWax 41 = .ok (.iadd, 1) := by decide +kernel
theorem dX1_takesWax_42 : decode cX1_takesWax 42 = .ok (.iastore, 1) := by decide +kernel
theorem dX1_takesWax_43 : decode cX1_takesWax 43 = .ok (.iconst 1, 1) := by decide +kernel
theorem dX1_takesWax_44 : decode cX1_takesWax 44 = .ok (.ireturn, 1) := by decide +kernel
theorem dX1_isSetUp_0 : decode cX1_isSetUp 0 = .ok (.aload_n 0, 1) := by decide +kernel
theorem dX1_isSetUp_1 : decode cX1_isSetUp 1 = .ok (.getfield 12, 3) := by decide +kernel
theorem dX1_isSetUp_4 : decode cX1_isSetUp 4 = .ok (.getfield 109, 3) := by decide +kernel
theorem dX1_isSetUp_7 : decode cX1_isSetUp 7 = .ok (.iload_n 1, 1) := by decide +kernel
theorem dX1_isSetUp_8 : decode cX1_isSetUp 8 = .ok (.invokevirtual 137, 3) := by decide +kernel
theorem dX1_isSetUp_11 : decode cX1_isSetUp 11 = .ok (.ifCond .eq 14, 3) := by decide +kernel
theorem dX1_isSetUp_14 : decode cX1_isSetUp 14 = .ok (.aload_n 0, 1) := by decide +kernel
theorem dX1_isSetUp_15 : decode cX1_isSetUp 15 = .ok (.getfield 12, 3) := by decide +kernel
theorem dX1_isSetUp_18 : decode cX1_isSetUp 18 = .ok (.iload_n 1, 1) := by decide +kernel
theorem dX1_isSetUp_19 : decode cX1_isSetUp 19 = .ok (.invokevirtual 140, 3) := by decide +kernel
theorem dX1_isSetUp_22 : decode cX1_isSetUp 22 = .ok (.ifCond .ne 5, 3) := by decide +kernel
theorem dX1_isSetUp_25 : decode cX1_isSetUp 25 = .ok (.iconst 0, 1) := by decide +kernel
theorem dX1_isSetUp_26 : decode cX1_isSetUp 26 = .ok (.ireturn, 1) := by decide +kernel
theorem dX1_isSetUp_27 : decode cX1_isSetUp 27 = .ok (.aload_n 0, 1) := by decide +kernel
theorem dX1_isSetUp_28 : decode cX1_isSetUp 28 = .ok (.getfield 12, 3) := by decide +kernel
theorem dX1_isSetUp_31 : decode cX1_isSetUp 31 = .ok (.dup, 1) := by decide +kernel
theorem dX1_isSetUp_32 : decode cX1_isSetUp 32 = .ok (.getfield 69, 3) := by decide +kernel
theorem dX1_isSetUp_35 : decode cX1_isSetUp 35 = .ok (.iconst 1, 1) := by decide +kernel
theorem dX1_isSetUp_36 : decode cX1_isSetUp 36 = .ok (.iload_n 1, 1) := by decide +kernel
theorem dX1_isSetUp_37 : decode cX1_isSetUp 37 = .ok (.ishl, 1) := by decide +kernel
theorem dX1_isSetUp_38 : decode cX1_isSetUp 38 = .ok (.iconst (-1), 1) := by decide +kernel
theorem dX1_isSetUp_39 : decode cX1_isSetUp 39 = .ok (.ixor, 1) := by decide +kernel
theorem dX1_isSetUp_40 : decode cX1_isSetUp 40 = .ok (.iand, 1) := by decide +kernel
theorem dX1_isSetUp_41 : decode cX1_isSetUp 41 = .ok (.putfield 69, 3) := by decide +kernel
theorem dX1_isSetUp_44 : decode cX1_isSetUp 44 = .ok (.iconst 1, 1) := by decide +kernel
theorem dX1_isSetUp_45 : decode cX1_isSetUp 45 = .ok (.ireturn, 1) := by decide +kernel
theorem dX1_sitsDown_0 : decode cX1_sitsDown 0 = .ok (.aload_n 0, 1) := by decide +kernel
theorem dX1_sitsDown_1 : decode cX1_sitsDown 1 = .ok (.getfield 12, 3) := by decide +kernel
theorem dX1_sitsDown_4 : decode cX1_sitsDown 4 = .ok (.getfield 109, 3) := by decide +kernel
theorem dX1_sitsDown_7 : decode cX1_sitsDown 7 = .ok (.iload_n 1, 1) := by decide +kernel
theorem dX1_sitsDown_8 : decode cX1_sitsDown 8 = .ok (.invokevirtual 127, 3) := by decide +kernel
theorem dX1_sitsDown_11 : decode cX1_sitsDown 11 = .ok (.ifCond .eq 17, 3) := by decide +kernel
theorem dX1_sitsDown_14 : decode cX1_sitsDown 14 = .ok (.aload_n 0, 1) := by decide +kernel
theorem dX1_sitsDown_15 : decode cX1_sitsDown 15 = .ok (.getfield 12, 3) := by decide +kernel
theorem dX1_sitsDown_18 : decode cX1_sitsDown 18 = .ok (.getfield 109, 3) := by decide +kernel
theorem dX1_sitsDown_21 : decode cX1_sitsDown 21 = .ok (.iload_n 2, 1) := by decide +kernel
theorem dX1_sitsDown_22 : decode cX1_sitsDown 22 = .ok (.invokevirtual 137, 3) := by decide +kernel
theorem dX1_sitsDown_25 : decode cX1_sitsDown 25 = .ok (.ifCond .ne 5, 3) := by decide +kernel
theorem dX1_sitsDown_28 : decode cX1_sitsDown 28 = .ok (.iconst 0, 1) := by decide +kernel
theorem dX1_sitsDown_29 : decode cX1_sitsDown 29 = .ok (.ireturn, 1) := by decide +kernel
theorem dX1_sitsDown_30 : decode cX1_sitsDown 30 = .ok (.aload_n 0, 1) := by decide +kernel
theorem dX1_sitsDown_31 : decode cX1_sitsDown 31 = .ok (.getfield 12, 3) := by decide +kernel
theorem dX1_sitsDown_34 : decode cX1_sitsDown 34 = .ok (.iload_n 2, 1) := by decide +kernel
theorem dX1_sitsDown_35 : decode cX1_sitsDown 35 = .ok (.invokevirtual 140, 3) := by decide +kernel
theorem dX1_sitsDown_38 : decode cX1_sitsDown 38 = .ok (.ifCond .ne 19, 3) := by decide +kernel
theorem dX1_sitsDown_41 : decode cX1_sitsDown 41 = .ok (.aload_n 0, 1) := by decide +kernel
theorem dX1_sitsDown_42 : decode cX1_sitsDown 42 = .ok (.getfield 12, 3) := by decide +kernel
theorem dX1_sitsDown_45 : decode cX1_sitsDown 45 = .ok (.getfield 109, 3) := by decide +kernel
theorem dX1_sitsDown_48 : decode cX1_sitsDown 48 = .ok (.getfield 130, 3) := by decide +kernel
theorem dX1_sitsDown_51 : decode cX1_sitsDown 51 = .ok (.iload_n 1, 1) := by decide +kernel
theorem dX1_sitsDown_52 : decode cX1_sitsDown 52 = .ok (.iaload, 1) := by decide +kernel
theorem dX1_sitsDown_53 : decode cX1_sitsDown 53 = .ok (.iload_n 2, 1) := by decide +kernel
theorem dX1_sitsDown_54 : decode cX1_sitsDown 54 = .ok (.if_icmp .ne 5, 3) := by decide +kernel
theorem dX1_sitsDown_57 : decode cX1_sitsDown 57 = .ok (.iconst 0, 1) := by decide +kernel
theorem dX1_sitsDown_58 : decode cX1_sitsDown 58 = .ok (.ireturn, 1) := by decide +kernel
theorem dX1_sitsDown_59 : decode cX1_sitsDown 59 = .ok (.aload_n 0, 1) := by decide +kernel
theorem dX1_sitsDown_60 : decode cX1_sitsDown 60 = .ok (.getfield 12, 3) := by decide +kernel
theorem dX1_sitsDown_63 : decode cX1_sitsDown 63 = .ok (.iload_n 1, 1) := by decide +kernel
theorem dX1_sitsDown_64 : decode cX1_sitsDown 64 = .ok (.iload_n 2, 1) := by decide +kernel
theorem dX1_sitsDown_65 : decode cX1_sitsDown 65 = .ok (.invokevirtual 133, 3) := by decide +kernel
theorem dX1_sitsDown_68 : decode cX1_sitsDown 68 = .ok (.iconst 1, 1) := by decide +kernel
theorem dX1_sitsDown_69 : decode cX1_sitsDown 69 = .ok (.ireturn, 1) := by decide +kernel
theorem dX1_changesDamp_0 : decode cX1_changesDamp 0 = .ok (.aload_n 0, 1) := by decide +kernel
theorem dX1_changesDamp_1 : decode cX1_changesDamp 1 = .ok (.getfield 12, 3) := by decide +kernel
theorem dX1_changesDamp_4 : decode cX1_changesDamp 4 = .ok (.getfield 109, 3) := by decide +kernel
theorem dX1_changesDamp_7 : decode cX1_changesDamp 7 = .ok (.getfield 146, 3) := by decide +kernel
theorem dX1_changesDamp_10 : decode cX1_changesDamp 10 = .ok (.iload_n 1, 1) := by decide +kernel
theorem dX1_changesDamp_11 : decode cX1_changesDamp 11 = .ok (.iadd, 1) := by decide +kernel
theorem dX1_changesDamp_12 : decode cX1_changesDamp 12 = .ok (.istore_n 2, 1) := by decide +kernel
theorem dX1_changesDamp_13 : decode cX1_changesDamp 13 = .ok (.iload_n 2, 1) := by decide +kernel
theorem dX1_changesDamp_14 : decode cX1_changesDamp 14 = .ok (.ifCond .lt 9, 3) := by decide +kernel
theorem dX1_changesDamp_17 : decode cX1_changesDamp 17 = .ok (.iload_n 2, 1) := by decide +kernel
theorem dX1_changesDamp_18 : decode cX1_changesDamp 18 = .ok (.bipush 9, 2) := by decide +kernel
theorem dX1_changesDamp_20 : decode cX1_changesDamp 20 = .ok (.if_icmp .le 5, 3) := by decide +kernel
theorem dX1_changesDamp_23 : decode cX1_changesDamp 23 = .ok (.iconst 0, 1) := by decide +kernel
theorem dX1_changesDamp_24 : decode cX1_changesDamp 24 = .ok (.ireturn, 1) := by decide +kernel
theorem dX1_changesDamp_25 : decode cX1_changesDamp 25 = .ok (.aload_n 0, 1) := by decide +kernel
theorem dX1_changesDamp_26 : decode cX1_changesDamp 26 = .ok (.getfield 12, 3) := by decide +kernel
theorem dX1_changesDamp_29 : decode cX1_changesDamp 29 = .ok (.getfield 109, 3) := by decide +kernel
theorem dX1_changesDamp_32 : decode cX1_changesDamp 32 = .ok (.iload_n 2, 1) := by decide +kernel
theorem dX1_changesDamp_33 : decode cX1_changesDamp 33 = .ok (.putfield 146, 3) := by decide +kernel
theorem dX1_changesDamp_36 : decode cX1_changesDamp 36 = .ok (.iconst 1, 1) := by decide +kernel
theorem dX1_changesDamp_37 : decode cX1_changesDamp 37 = .ok (.ireturn, 1) := by decide +kernel
theorem dX2_passNight_0 : decode cX2_passNight 0 = .ok (.iconst 0, 1) := by decide +kernel
theorem dX2_passNight_1 : decode cX2_passNight 1 = .ok (.istore_n 1, 1) := by decide +kernel
theorem dX2_passNight_2 : decode cX2_passNight 2 = .ok (.iload_n 1, 1) := by decide +kernel
theorem dX2_passNight_3 : decode cX2_passNight 3 = .ok (.aload_n 0, 1) := by decide +kernel
theorem dX2_passNight_4 : decode cX2_passNight 4 = .ok (.getfield 12, 3) := by decide +kernel
theorem dX2_passNight_7 : decode cX2_passNight 7 = .ok (.getfield 68, 3) := by decide +kernel
theorem dX2_passNight_10 : decode cX2_passNight 10 = .ok (.if_icmp .ge 71, 3) := by decide +kernel
theorem dX2_passNight_13 : decode cX2_passNight 13 = .ok (.aload_n 0, 1) := by decide +kernel
theorem dX2_passNight_14 : decode cX2_passNight 14 = .ok (.getfield 12, 3) := by decide +kernel
theorem dX2_passNight_17 : decode cX2_passNight 17 = .ok (.getfield 86, 3) := by decide +kernel
theorem dX2_passNight_20 : decode cX2_passNight 20 = .ok (.iload_n 1, 1) := by decide +kernel
theorem dX2_passNight_21 : decode cX2_passNight 21 = .ok (.iaload, 1) := by decide +kernel
theorem dX2_passNight_22 : decode cX2_passNight 22 = .ok (.iconst 2, 1) := by decide +kernel
theorem dX2_passNight_23 : decode cX2_passNight 23 = .ok (.if_icmp .ne 7, 3) := by decide +kernel
theorem dX2_passNight_26 : decode cX2_passNight 26 = .ok (.iconst 2, 1) := by decide +kernel
theorem dX2_passNight_27 : decode cX2_passNight 27 = .ok (.goto 4, 3) := by decide +kernel
theorem dX2_passNight_30 : decode cX2_passNight 30 = .ok (.iconst 1, 1) := by decide +kernel
theorem dX2_passNight_31 : decode cX2_passNight 31 = .ok (.istore_n 2, 1) := by decide +kernel
theorem dX2_passNight_32 : decode cX2_passNight 32 = .ok (.aload_n 0, 1) := by decide +kernel
theorem dX2_passNight_33 : decode cX2_passNight 33 = .ok (.getfield 12, 3) := by decide +kernel
theorem dX2_passNight_36 : decode cX2_passNight 36 = .ok (.getfield 80, 3) := by decide +kernel
theorem dX2_passNight_39 : decode cX2_passNight 39 = .ok (.iload_n 1, 1) := by decide +kernel
theorem dX2_passNight_40 : decode cX2_passNight 40 = .ok (.bipush 99, 2) := by decide +kernel
theorem dX2_passNight_42 : decode cX2_passNight 42 = .ok (.aload_n 0, 1) := by decide +kernel
theorem dX2_passNight_43 : decode cX2_passNight 43 = .ok (.getfield 12, 3) := by decide +kernel
theorem dX2_passNight_46 : decode cX2_passNight 46 = .ok (.getfield 80, 3) := by decide +kernel
theorem dX2_passNight_49 : decode cX2_passNight 49 = .ok (.iload_n 1, 1) := by decide +kernel
theorem dX2_passNight_50 : decode cX2_passNight 50 = .ok (.iaload, 1) := by decide +kernel
theorem dX2_passNight_51 : decode cX2_passNight 51 = .ok (.iload_n 2, 1) := by decide +kernel
theorem dX2_passNight_52 : decode cX2_passNight 52 = .ok (.iadd, 1) := by decide +kernel
theorem dX2_passNight_53 : decode cX2_passNight 53 = .ok (.invokestatic 116, 3) := by decide +kernel
theorem dX2_passNight_56 : decode cX2_passNight 56 = .ok (.iastore, 1) := by decide +kernel
theorem dX2_passNight_57 : decode cX2_passNight 57 = .ok (.aload_n 0, 1) := by decide +kernel
theorem dX2_passNight_58 : decode cX2_passNight 58 = .ok (.getfield 18, 3) := by decide +kernel
theorem dX2_passNight_61 : decode cX2_passNight 61 = .ok (.iload_n 1, 1) := by decide +kernel
theorem dX2_passNight_62 : decode cX2_passNight 62 = .ok (.iconst 0, 1) := by decide +kernel
theorem dX2_passNight_63 : decode cX2_passNight 63 = .ok (.aload_n 0, 1) := by decide +kernel
theorem dX2_passNight_64 : decode cX2_passNight 64 = .ok (.getfield 18, 3) := by decide +kernel
theorem dX2_passNight_67 : decode cX2_passNight 67 = .ok (.iload_n 1, 1) := by decide +kernel
theorem dX2_passNight_68 : decode cX2_passNight 68 = .ok (.iaload, 1) := by decide +kernel
theorem dX2_passNight_69 : decode cX2_passNight 69 = .ok (.iconst 1, 1) := by decide +kernel
theorem dX2_passNight_70 : decode cX2_passNight 70 = .ok (.isub, 1) := by decide +kernel
theorem dX2_passNight_71 : decode cX2_passNight 71 = .ok (.invokestatic 89, 3) := by decide +kernel
theorem dX2_passNight_74 : decode cX2_passNight 74 = .ok (.iastore, 1) := by decide +kernel
theorem dX2_passNight_75 : decode cX2_passNight 75 = .ok (.iinc 1 1, 3) := by decide +kernel
theorem dX2_passNight_78 : decode cX2_passNight 78 = .ok (.goto (-76), 3) := by decide +kernel
theorem dX2_passNight_81 : decode cX2_passNight 81 = .ok (.return_, 1) := by decide +kernel
theorem dX1_does_0 : decode cX1_does 0 = .ok (.iload_n 1, 1) := by decide +kernel
theorem dX1_does_1 : decode cX1_does 1 = .ok (.tableswitch 100 0 7 #[47, 54, 60, 66, 72, 79, 85, 91], 47) := by decide +kernel
theorem dX1_does_48 : decode cX1_does 48 = .ok (.aload_n 0, 1) := by decide +kernel
theorem dX1_does_49 : decode cX1_does 49 = .ok (.iload_n 2, 1) := by decide +kernel
theorem dX1_does_50 : decode cX1_does 50 = .ok (.invokevirtual 78, 3) := by decide +kernel
theorem dX1_does_53 : decode cX1_does 53 = .ok (.iconst 1, 1) := by decide +kernel
theorem dX1_does_54 : decode cX1_does 54 = .ok (.ireturn, 1) := by decide +kernel
theorem dX1_does_55 : decode cX1_does 55 = .ok (.aload_n 0, 1) := by decide +kernel
theorem dX1_does_56 : decode cX1_does 56 = .ok (.iload_n 2, 1) := by decide +kernel
theorem dX1_does_57 : decode cX1_does 57 = .ok (.invokevirtual 82, 3) := by decide +kernel
theorem dX1_does_60 : decode cX1_does 60 = .ok (.ireturn, 1) := by decide +kernel
theorem dX1_does_61 : decode cX1_does 61 = .ok (.aload_n 0, 1) := by decide +kernel
theorem dX1_does_62 : decode cX1_does 62 = .ok (.iload_n 2, 1) := by decide +kernel
theorem dX1_does_63 : decode cX1_does 63 = .ok (.invokevirtual 86, 3) := by decide +kernel
theorem dX1_does_66 : decode cX1_does 66 = .ok (.ireturn, 1) := by decide +kernel
theorem dX1_does_67 : decode cX1_does 67 = .ok (.aload_n 0, 1) := by decide +kernel
theorem dX1_does_68 : decode cX1_does 68 = .ok (.iload_n 2, 1) := by decide +kernel
theorem dX1_does_69 : decode cX1_does 69 = .ok (.invokevirtual 89, 3) := by decide +kernel
theorem dX1_does_72 : decode cX1_does 72 = .ok (.ireturn, 1) := by decide +kernel
theorem dX1_does_73 : decode cX1_does 73 = .ok (.aload_n 0, 1) := by decide +kernel
theorem dX1_does_74 : decode cX1_does 74 = .ok (.iload_n 2, 1) := by decide +kernel
theorem dX1_does_75 : decode cX1_does 75 = .ok (.iload_n 3, 1) := by decide +kernel
theorem dX1_does_76 : decode cX1_does 76 = .ok (.invokevirtual 92, 3) := by decide +kernel
theorem dX1_does_79 : decode cX1_does 79 = .ok (.ireturn, 1) := by decide +kernel
theorem dX1_does_80 : decode cX1_does 80 = .ok (.aload_n 0, 1) := by decide +kernel
theorem dX1_does_81 : decode cX1_does 81 = .ok (.iconst 1, 1) := by decide +kernel
theorem dX1_does_82 : decode cX1_does 82 = .ok (.invokevirtual 96, 3) := by decide +kernel
theorem dX1_does_85 : decode cX1_does 85 = .ok (.ireturn, 1) := by decide +kernel
theorem dX1_does_86 : decode cX1_does 86 = .ok (.aload_n 0, 1) := by decide +kernel
theorem dX1_does_87 : decode cX1_does 87 = .ok (.iconst (-1), 1) := by decide +kernel
theorem dX1_does_88 : decode cX1_does 88 = .ok (.invokevirtual 96, 3) := by decide +kernel
theorem dX1_does_91 : decode cX1_does 91 = .ok (.ireturn, 1) := by decide +kernel
theorem dX1_does_92 : decode cX1_does 92 = .ok (.aload_n 0, 1) := by decide +kernel
theorem dX1_does_93 : decode cX1_does 93 = .ok (.getfield 12, 3) := by decide +kernel
theorem dX1_does_96 : decode cX1_does 96 = .ok (.invokevirtual 99, 3) := by decide +kernel
theorem dX1_does_99 : decode cX1_does 99 = .ok (.iconst 1, 1) := by decide +kernel
theorem dX1_does_100 : decode cX1_does 100 = .ok (.ireturn, 1) := by decide +kernel
theorem dX1_does_101 : decode cX1_does 101 = .ok (.iconst 0, 1) := by decide +kernel
theorem dX1_does_102 : decode cX1_does 102 = .ok (.ireturn, 1) := by decide +kernel
theorem dX1_follow_0 : decode cX1_follow 0 = .ok (.aload_n 0, 1) := by decide +kernel
theorem dX1_follow_1 : decode cX1_follow 1 = .ok (.aload_n 1, 1) := by decide +kernel
theorem dX1_follow_2 : decode cX1_follow 2 = .ok (.invokevirtual 48, 3) := by decide +kernel
theorem dX1_follow_5 : decode cX1_follow 5 = .ok (.iconst 0, 1) := by decide +kernel
theorem dX1_follow_6 : decode cX1_follow 6 = .ok (.istore 4, 2) := by decide +kernel
theorem dX1_follow_8 : decode cX1_follow 8 = .ok (.iload 4, 2) := by decide +kernel
theorem dX1_follow_10 : decode cX1_follow 10 = .ok (.iload_n 3, 1) := by decide +kernel
theorem dX1_follow_11 : decode cX1_follow 11 = .ok (.if_icmp .ge 75, 3) := by decide +kernel
theorem dX1_follow_14 : decode cX1_follow 14 = .ok (.iload 4, 2) := by decide +kernel
theorem dX1_follow_16 : decode cX1_follow 16 = .ok (.aload_n 2, 1) := by decide +kernel
theorem dX1_follow_17 : decode cX1_follow 17 = .ok (.getfield 51, 3) := by decide +kernel
theorem dX1_follow_20 : decode cX1_follow 20 = .ok (.if_icmp .ge 66, 3) := by decide +kernel
theorem dX1_follow_23 : decode cX1_follow 23 = .ok (.aload_n 0, 1) := by decide +kernel
theorem dX1_follow_24 : decode cX1_follow 24 = .ok (.aload_n 2, 1) := by decide +kernel
theorem dX1_follow_25 : decode cX1_follow 25 = .ok (.getfield 56, 3) := by decide +kernel
theorem dX1_follow_28 : decode cX1_follow 28 = .ok (.iload 4, 2) := by decide +kernel
theorem dX1_follow_30 : decode cX1_follow 30 = .ok (.iaload, 1) := by decide +kernel
theorem dX1_follow_31 : decode cX1_follow 31 = .ok (.aload_n 2, 1) := by decide +kernel
theorem dX1_follow_32 : decode cX1_follow 32 = .ok (.getfield 59, 3) := by decide +kernel
theorem dX1_follow_35 : decode cX1_follow 35 = .ok (.iload 4, 2) := by decide +kernel
theorem dX1_follow_37 : decode cX1_follow 37 = .ok (.iaload, 1) := by decide +kernel
theorem dX1_follow_38 : decode cX1_follow 38 = .ok (.aload_n 2, 1) := by decide +kernel
theorem dX1_follow_39 : decode cX1_follow 39 = .ok (.getfield 62, 3) := by decide +kernel
theorem dX1_follow_42 : decode cX1_follow 42 = .ok (.iload 4, 2) := by decide +kernel
theorem dX1_follow_44 : decode cX1_follow 44 = .ok (.iaload, 1) := by decide +kernel
theorem dX1_follow_45 : decode cX1_follow 45 = .ok (.invokevirtual 65, 3) := by decide +kernel
theorem dX1_follow_48 : decode cX1_follow 48 = .ok (.ifCond .ne 6, 3) := by decide +kernel
theorem dX1_follow_51 : decode cX1_follow 51 = .ok (.iload 4, 2) := by decide +kernel
theorem dX1_follow_53 : decode cX1_follow 53 = .ok (.ireturn, 1) := by decide +kernel
theorem dX1_follow_54 : decode cX1_follow 54 = .ok (.aload_n 0, 1) := by decide +kernel
theorem dX1_follow_55 : decode cX1_follow 55 = .ok (.getfield 39, 3) := by decide +kernel
theorem dX1_follow_58 : decode cX1_follow 58 = .ok (.iconst (-1), 1) := by decide +kernel
theorem dX1_follow_59 : decode cX1_follow 59 = .ok (.if_icmp .ne 21, 3) := by decide +kernel
theorem dX1_follow_62 : decode cX1_follow 62 = .ok (.aload_n 0, 1) := by decide +kernel
theorem dX1_follow_63 : decode cX1_follow 63 = .ok (.getfield 12, 3) := by decide +kernel
theorem dX1_follow_66 : decode cX1_follow 66 = .ok (.getfield 69, 3) := by decide +kernel
theorem dX1_follow_69 : decode cX1_follow 69 = .ok (.ifCond .eq 11, 3) := by decide +kernel
theorem dX1_follow_72 : decode cX1_follow 72 = .ok (.aload_n 0, 1) := by decide +kernel
theorem dX1_follow_73 : decode cX1_follow 73 = .ok (.iload 4, 2) := by decide +kernel
theorem dX1_follow_75 : decode cX1_follow 75 = .ok (.iconst 1, 1) := by decide +kernel
theorem dX1_follow_76 : decode cX1_follow 76 = .ok (.iadd, 1) := by decide +kernel
theorem dX1_follow_77 : decode cX1_follow 77 = .ok (.putfield 39, 3) := by decide +kernel
theorem dX1_follow_80 : decode cX1_follow 80 = .ok (.iinc 4 1, 3) := by decide +kernel
theorem dX1_follow_83 : decode cX1_follow 83 = .ok (.goto (-75), 3) := by decide +kernel
theorem dX1_follow_86 : decode cX1_follow 86 = .ok (.iload_n 3, 1) := by decide +kernel
theorem dX1_follow_87 : decode cX1_follow 87 = .ok (.aload_n 2, 1) := by decide +kernel
theorem dX1_follow_88 : decode cX1_follow 88 = .ok (.getfield 51, 3) := by decide +kernel
theorem dX1_follow_91 : decode cX1_follow 91 = .ok (.invokestatic 72, 3) := by decide +kernel
theorem dX1_follow_94 : decode cX1_follow 94 = .ok (.ireturn, 1) := by decide +kernel
theorem dX11_stop_0 : decode cX11_stop 0 = .ok (.aload_n 0, 1) := by decide +kernel
theorem dX11_stop_1 : decode cX11_stop 1 = .ok (.getfield 10, 3) := by decide +kernel
theorem dX11_stop_4 : decode cX11_stop 4 = .ok (.iload_n 1, 1) := by decide +kernel
theorem dX11_stop_5 : decode cX11_stop 5 = .ok (.invokevirtual 105, 3) := by decide +kernel
theorem dX11_stop_8 : decode cX11_stop 8 = .ok (.astore_n 3, 1) := by decide +kernel
theorem dX11_stop_9 : decode cX11_stop 9 = .ok (.aload_n 0, 1) := by decide +kernel
theorem dX11_stop_10 : decode cX11_stop 10 = .ok (.getfield 10, 3) := by decide +kernel
theorem dX11_stop_13 : decode cX11_stop 13 = .ok (.iload_n 2, 1) := by decide +kernel
theorem dX11_stop_14 : decode cX11_stop 14 = .ok (.invokevirtual 142, 3) := by decide +kernel
theorem dX11_stop_17 : decode cX11_stop 17 = .ok (.astore 4, 2) := by decide +kernel
theorem dX11_stop_19 : decode cX11_stop 19 = .ok (.aload_n 3, 1) := by decide +kernel
theorem dX11_stop_20 : decode cX11_stop 20 = .ok (.ifnull 8, 3) := by decide +kernel
theorem dX11_stop_23 : decode cX11_stop 23 = .ok (.aload 4, 2) := by decide +kernel
theorem dX11_stop_25 : decode cX11_stop 25 = .ok (.ifnonnull 5, 3) := by decide +kernel
theorem dX11_stop_28 : decode cX11_stop 28 = .ok (.iconst (-1), 1) := by decide +kernel
theorem dX11_stop_29 : decode cX11_stop 29 = .ok (.ireturn, 1) := by decide +kernel
theorem dX11_stop_30 : decode cX11_stop 30 = .ok (.aload_n 0, 1) := by decide +kernel
theorem dX11_stop_31 : decode cX11_stop 31 = .ok (.getfield 41, 3) := by decide +kernel
theorem dX11_stop_34 : decode cX11_stop 34 = .ok (.aload_n 3, 1) := by decide +kernel
theorem dX11_stop_35 : decode cX11_stop 35 = .ok (.aload 4, 2) := by decide +kernel
theorem dX11_stop_37 : decode cX11_stop 37 = .ok (.aload 4, 2) := by decide +kernel
theorem dX11_stop_39 : decode cX11_stop 39 = .ok (.getfield 150, 3) := by decide +kernel
theorem dX11_stop_42 : decode cX11_stop 42 = .ok (.invokevirtual 153, 3) := by decide +kernel
theorem dX11_stop_45 : decode cX11_stop 45 = .ok (.ireturn, 1) := by decide +kernel
