theorem dX12_ofPerson_0 : decode cX12_ofPerson 0 = .ok (.aload_n 0, 1) := by decide +kernel
theorem dX12_ofPerson_1 : decode cX12_ofPerson 1 = .ok (.getfield 7, 3) := by decide +kernel
theorem dX12_ofPerson_4 : decode cX12_ofPerson 4 = .ok (.aload_n 0, 1) := by decide +kernel
theorem dX12_ofPerson_5 : decode cX12_ofPerson 5 = .ok (.getfield 156, 3) := by decide +kernel
theorem dX12_ofPerson_8 : decode cX12_ofPerson 8 = .ok (.bipush 51, 2) := by decide +kernel
theorem dX12_ofPerson_10 : decode cX12_ofPerson 10 = .ok (.iadd, 1) := by decide +kernel
theorem dX12_ofPerson_11 : decode cX12_ofPerson 11 = .ok (.iconst 2, 1) := by decide +kernel
theorem dX12_ofPerson_12 : decode cX12_ofPerson 12 = .ok (.iload_n 1, 1) := by decide +kernel
theorem dX12_ofPerson_13 : decode cX12_ofPerson 13 = .ok (.imul, 1) := by decide +kernel
theorem dX12_ofPerson_14 : decode cX12_ofPerson 14 = .ok (.iadd, 1) := by decide +kernel
theorem dX12_ofPerson_15 : decode cX12_ofPerson 15 = .ok (.iload_n 2, 1) := by decide +kernel
theorem dX12_ofPerson_16 : decode cX12_ofPerson 16 = .ok (.iadd, 1) := by decide +kernel
theorem dX12_ofPerson_17 : decode cX12_ofPerson 17 = .ok (.iaload, 1) := by decide +kernel
theorem dX12_ofPerson_18 : decode cX12_ofPerson 18 = .ok (.ireturn, 1) := by decide +kernel
theorem dX12_chamber_0 : decode cX12_chamber 0 = .ok (.aload_n 0, 1) := by decide +kernel
theorem dX12_chamber_1 : decode cX12_chamber 1 = .ok (.iload_n 1, 1) := by decide +kernel
theorem dX12_chamber_2 : decode cX12_chamber 2 = .ok (.invokevirtual 165, 3) := by decide +kernel
theorem dX12_chamber_5 : decode cX12_chamber 5 = .ok (.ifCond .ne 5, 3) := by decide +kernel
theorem dX12_chamber_8 : decode cX12_chamber 8 = .ok (.iconst (-1), 1) := by decide +kernel
theorem dX12_chamber_9 : decode cX12_chamber 9 = .ok (.ireturn, 1) := by decide +kernel
theorem dX12_chamber_10 : decode cX12_chamber 10 = .ok (.iload_n 2, 1) := by decide +kernel
theorem dX12_chamber_11 : decode cX12_chamber 11 = .ok (.iconst 0, 1) := by decide +kernel
theorem dX12_chamber_12 : decode cX12_chamber 12 = .ok (.iconst 2, 1) := by decide +kernel
theorem dX12_chamber_13 : decode cX12_chamber 13 = .ok (.invokestatic 106, 3) := by decide +kernel
theorem dX12_chamber_16 : decode cX12_chamber 16 = .ok (.ifCond .eq 15, 3) := by decide +kernel
theorem dX12_chamber_19 : decode cX12_chamber 19 = .ok (.aload_n 0, 1) := by decide +kernel
theorem dX12_chamber_20 : decode cX12_chamber 20 = .ok (.getfield 7, 3) := by decide +kernel
theorem dX12_chamber_23 : decode cX12_chamber 23 = .ok (.aload_n 0, 1) := by decide +kernel
theorem dX12_chamber_24 : decode cX12_chamber 24 = .ok (.getfield 156, 3) := by decide +kernel
theorem dX12_chamber_27 : decode cX12_chamber 27 = .ok (.iload_n 2, 1) := by decide +kernel
theorem dX12_chamber_28 : decode cX12_chamber 28 = .ok (.iadd, 1) := by decide +kernel
theorem dX12_chamber_29 : decode cX12_chamber 29 = .ok (.iaload, 1) := by decide +kernel
theorem dX12_chamber_30 : decode cX12_chamber 30 = .ok (.ireturn, 1) := by decide +kernel
theorem dX12_chamber_31 : decode cX12_chamber 31 = .ok (.iload_n 2, 1) := by decide +kernel
theorem dX12_chamber_32 : decode cX12_chamber 32 = .ok (.bipush 10, 2) := by decide +kernel
theorem dX12_chamber_34 : decode cX12_chamber 34 = .ok (.irem, 1) := by decide +kernel
theorem dX12_chamber_35 : decode cX12_chamber 35 = .ok (.istore_n 3, 1) := by decide +kernel
theorem dX12_chamber_36 : decode cX12_chamber 36 = .ok (.iload_n 2, 1) := by decide +kernel
theorem dX12_chamber_37 : decode cX12_chamber 37 = .ok (.bipush 10, 2) := by decide +kernel
theorem dX12_chamber_39 : decode cX12_chamber 39 = .ok (.bipush 69, 2) := by decide +kernel
theorem dX12_chamber_41 : decode cX12_chamber 41 = .ok (.invokestatic 106, 3) := by decide +kernel
theorem dX12_chamber_44 : decode cX12_chamber 44 = .ok (.ifCond .eq 27, 3) := by decide +kernel
theorem dX12_chamber_47 : decode cX12_chamber 47 = .ok (.aload_n 0, 1) := by decide +kernel
theorem dX12_chamber_48 : decode cX12_chamber 48 = .ok (.iload_n 3, 1) := by decide +kernel
theorem dX12_chamber_49 : decode cX12_chamber 49 = .ok (.invokevirtual 168, 3) := by decide +kernel
theorem dX12_chamber_52 : decode cX12_chamber 52 = .ok (.ifCond .eq 17, 3) := by decide +kernel
theorem dX12_chamber_55 : decode cX12_chamber 55 = .ok (.aload_n 0, 1) := by decide +kernel
theorem dX12_chamber_56 : decode cX12_chamber 56 = .ok (.iload_n 3, 1) := by decide +kernel
theorem dX12_chamber_57 : decode cX12_chamber 57 = .ok (.iload_n 2, 1) := by decide +kernel
theorem dX12_chamber_58 : decode cX12_chamber 58 = .ok (.bipush 10, 2) := by decide +kernel
theorem dX12_chamber_60 : decode cX12_chamber 60 = .ok (.idiv, 1) := by decide +kernel
theorem dX12_chamber_61 : decode cX12_chamber 61 = .ok (.iconst 1, 1) := by decide +kernel
theorem dX12_chamber_62 : decode cX12_chamber 62 = .ok (.isub, 1) := by decide +kernel
theorem dX12_chamber_63 : decode cX12_chamber 63 = .ok (.invokevirtual 171, 3) := by decide +kernel
theorem dX12_chamber_66 : decode cX12_chamber 66 = .ok (.goto 4, 3) := by decide +kernel
theorem dX12_chamber_69 : decode cX12_chamber 69 = .ok (.iconst (-1), 1) := by decide +kernel
theorem dX12_chamber_70 : decode cX12_chamber 70 = .ok (.ireturn, 1) := by decide +kernel
theorem dX12_chamber_71 : decode cX12_chamber 71 = .ok (.iload_n 2, 1) := by decide +kernel
theorem dX12_chamber_72 : decode cX12_chamber 72 = .ok (.bipush 70, 2) := by decide +kernel
theorem dX12_chamber_74 : decode cX12_chamber 74 = .ok (.bipush 89, 2) := by decide +kernel
theorem dX12_chamber_76 : decode cX12_chamber 76 = .ok (.invokestatic 106, 3) := by decide +kernel
theorem dX12_chamber_79 : decode cX12_chamber 79 = .ok (.ifCond .eq 26, 3) := by decide +kernel
theorem dX12_chamber_82 : decode cX12_chamber 82 = .ok (.aload_n 0, 1) := by decide +kernel
theorem dX12_chamber_83 : decode cX12_chamber 83 = .ok (.iload_n 3, 1) := by decide +kernel
theorem dX12_chamber_84 : decode cX12_chamber 84 = .ok (.invokevirtual 174, 3) := by decide +kernel
theorem dX12_chamber_87 : decode cX12_chamber 87 = .ok (.ifCond .eq 18, 3) := by decide +kernel
theorem dX12_chamber_90 : decode cX12_chamber 90 = .ok (.aload_n 0, 1) := by decide +kernel
theorem dX12_chamber_91 : decode cX12_chamber 91 = .ok (.iload_n 3, 1) := by decide +kernel
theorem dX12_chamber_92 : decode cX12_chamber 92 = .ok (.iload_n 2, 1) := by decide +kernel
theorem dX12_chamber_93 : decode cX12_chamber 93 = .ok (.bipush 10, 2) := by decide +kernel
theorem dX12_chamber_95 : decode cX12_chamber 95 = .ok (.idiv, 1) := by decide +kernel
theorem dX12_chamber_96 : decode cX12_chamber 96 = .ok (.bipush 7, 2) := by decide +kernel
theorem dX12_chamber_98 : decode cX12_chamber 98 = .ok (.isub, 1) := by decide +kernel
theorem dX12_chamber_99 : decode cX12_chamber 99 = .ok (.invokevirtual 177, 3) := by decide +kernel
theorem dX12_chamber_102 : decode cX12_chamber 102 = .ok (.goto 4, 3) := by decide +kernel
theorem dX12_chamber_105 : decode cX12_chamber 105 = .ok (.iconst (-1), 1) := by decide +kernel
theorem dX12_chamber_106 : decode cX12_chamber 106 = .ok (.ireturn, 1) := by decide +kernel
theorem dX12_isMotion_0 : decode cX12_isMotion 0 = .ok (.iload_n 0, 1) := by decide +kernel
theorem dX12_isMotion_1 : decode cX12_isMotion 1 = .ok (.iconst 0, 1) := by decide +kernel
theorem dX12_isMotion_2 : decode cX12_isMotion 2 = .ok (.bipush 63, 2) := by decide +kernel
theorem dX12_isMotion_4 : decode cX12_isMotion 4 = .ok (.invokestatic 106, 3) := by decide +kernel
theorem dX12_isMotion_7 : decode cX12_isMotion 7 = .ok (.ireturn, 1) := by decide +kernel
theorem dX12_asTold_0 : decode cX12_asTold 0 = .ok (.aload_n 0, 1) := by decide +kernel
theorem dX12_asTold_1 : decode cX12_asTold 1 = .ok (.aload_n 0, 1) := by decide +kernel
theorem dX12_asTold_2 : decode cX12_asTold 2 = .ok (.getfield 7, 3) := by decide +kernel
theorem dX12_asTold_5 : decode cX12_asTold 5 = .ok (.aload_n 0, 1) := by decide +kernel
theorem dX12_asTold_6 : decode cX12_asTold 6 = .ok (.getfield 156, 3) := by decide +kernel
theorem dX12_asTold_9 : decode cX12_asTold 9 = .ok (.iconst 2, 1) := by decide +kernel
theorem dX12_asTold_10 : decode cX12_asTold 10 = .ok (.iadd, 1) := by decide +kernel
theorem dX12_asTold_11 : decode cX12_asTold 11 = .ok (.iaload, 1) := by decide +kernel
theorem dX12_asTold_12 : decode cX12_asTold 12 = .ok (.putfield 180, 3) := by decide +kernel
theorem dX12_asTold_15 : decode cX12_asTold 15 = .ok (.aload_n 0, 1) := by decide +kernel
theorem dX12_asTold_16 : decode cX12_asTold 16 = .ok (.iconst 0, 1) := by decide +kernel
theorem dX12_asTold_17 : decode cX12_asTold 17 = .ok (.putfield 183, 3) := by decide +kernel
theorem dX12_asTold_20 : decode cX12_asTold 20 = .ok (.aload_n 0, 1) := by decide +kernel
theorem dX12_asTold_21 : decode cX12_asTold 21 = .ok (.iconst 0, 1) := by decide +kernel
theorem dX12_asTold_22 : decode cX12_asTold 22 = .ok (.putfield 186, 3) := by decide +kernel
theorem dX12_asTold_25 : decode cX12_asTold 25 = .ok (.iconst 0, 1) := by decide +kernel
theorem dX12_asTold_26 : decode cX12_asTold 26 = .ok (.istore_n 1, 1) := by decide +kernel
theorem dX12_asTold_27 : decode cX12_asTold 27 = .ok (.iload_n 1, 1) := by decide +kernel
theorem dX12_asTold_28 : decode cX12_asTold 28 = .ok (.aload_n 0, 1) := by decide +kernel
theorem dX12_asTold_29 : decode cX12_asTold 29 = .ok (.getfield 159, 3) := by decide +kernel
theorem dX12_asTold_32 : decode cX12_asTold 32 = .ok (.if_icmp .ge 28, 3) := by decide +kernel
theorem dX12_asTold_35 : decode cX12_asTold 35 = .ok (.aload_n 0, 1) := by decide +kernel
theorem dX12_asTold_36 : decode cX12_asTold 36 = .ok (.getfield 20, 3) := by decide +kernel
theorem dX12_asTold_39 : decode cX12_asTold 39 = .ok (.iload_n 1, 1) := by decide +kernel
theorem dX12_asTold_40 : decode cX12_asTold 40 = .ok (.aload_n 0, 1) := by decide +kernel
theorem dX12_asTold_41 : decode cX12_asTold 41 = .ok (.iload_n 1, 1) := by decide +kernel
theorem dX12_asTold_42 : decode cX12_asTold 42 = .ok (.iconst 2, 1) := by decide +kernel
theorem dX12_asTold_43 : decode cX12_asTold 43 = .ok (.invokevirtual 171, 3) := by decide +kernel
theorem dX12_asTold_46 : decode cX12_asTold 46 = .ok (.iastore, 1) := by decide +kernel
theorem dX12_asTold_47 : decode cX12_asTold 47 = .ok (.aload_n 0, 1) := by decide +kernel
theorem dX12_asTold_48 : decode cX12_asTold 48 = .ok (.getfield 23, 3) := by decide +kernel
theorem dX12_asTold_51 : decode cX12_asTold 51 = .ok (.iload_n 1, 1) := by decide +kernel
theorem dX12_asTold_52 : decode cX12_asTold 52 = .ok (.iconst 0, 1) := by decide +kernel
theorem dX12_asTold_53 : decode cX12_asTold 53 = .ok (.iastore, 1) := by decide +kernel
theorem dX12_asTold_54 : decode cX12_asTold 54 = .ok (.iinc 1 1, 3) := by decide +kernel
theorem dX12_asTold_57 : decode cX12_asTold 57 = .ok (.goto (-30), 3) := by decide +kernel
theorem dX12_asTold_60 : decode cX12_asTold 60 = .ok (.iconst 0, 1) := by decide +kernel
theorem dX12_asTold_61 : decode cX12_asTold 61 = .ok (.istore_n 1, 1) := by decide +kernel
theorem dX12_asTold_62 : decode cX12_asTold 62 = .ok (.iload_n 1, 1) := by decide +kernel
theorem dX12_asTold_63 : decode cX12_asTold 63 = .ok (.aload_n 0, 1) := by decide +kernel
theorem dX12_asTold_64 : decode cX12_asTold 64 = .ok (.getfield 162, 3) := by decide +kernel
theorem dX12_asTold_67 : decode cX12_asTold 67 = .ok (.if_icmp .ge 21, 3) := by decide +kernel
theorem dX12_asTold_70 : decode cX12_asTold 70 = .ok (.aload_n 0, 1) := by decide +kernel
theorem dX12_asTold_71 : decode cX12_asTold 71 = .ok (.getfield 26, 3) := by decide +kernel
theorem dX12_asTold_74 : decode cX12_asTold 74 = .ok (.iload_n 1, 1) := by decide +kernel
theorem dX12_asTold_75 : decode cX12_asTold 75 = .ok (.aload_n 0, 1) := by decide +kernel
theorem dX12_asTold_76 : decode cX12_asTold 76 = .ok (.iload_n 1, 1) := by decide +kernel
theorem dX12_asTold_77 : decode cX12_asTold 77 = .ok (.iconst 1, 1) := by decide +kernel
theorem dX12_asTold_78 : decode cX12_asTold 78 = .ok (.invokevirtual 177, 3) := by decide +kernel
theorem dX12_asTold_81 : decode cX12_asTold 81 = .ok (.iastore, 1) := by decide +kernel
theorem dX12_asTold_82 : decode cX12_asTold 82 = .ok (.iinc 1 1, 3) := by decide +kernel
theorem dX12_asTold_85 : decode cX12_asTold 85 = .ok (.goto (-23), 3) := by decide +kernel
theorem dX12_asTold_88 : decode cX12_asTold 88 = .ok (.return_, 1) := by decide +kernel
theorem dX12_holds_0 : decode cX12_holds 0 = .ok (.iload_n 0, 1) := by decide +kernel
theorem dX12_holds_1 : decode cX12_holds 1 = .ok (.iload_n 1, 1) := by decide +kernel
theorem dX12_holds_2 : decode cX12_holds 2 = .ok (.ishr, 1) := by decide +kernel
theorem dX12_holds_3 : decode cX12_holds 3 = .ok (.iconst 1, 1) := by decide +kernel
theorem dX12_holds_4 : decode cX12_holds 4 = .ok (.iand, 1) := by decide +kernel
theorem dX12_holds_5 : decode cX12_holds 5 = .ok (.iconst 1, 1) := by decide +kernel
theorem dX12_holds_6 : decode cX12_holds 6 = .ok (.if_icmp .ne 7, 3) := by decide +kernel
theorem dX12_holds_9 : decode cX12_holds 9 = .ok (.iconst 1, 1) := by decide +kernel
theorem dX12_holds_10 : decode cX12_holds 10 = .ok (.goto 4, 3) := by decide +kernel
theorem dX12_holds_13 : decode cX12_holds 13 = .ok (.iconst 0, 1) := by decide +kernel
theorem dX12_holds_14 : decode cX12_holds 14 = .ok (.ireturn, 1) := by decide +kernel
theorem dX12_loadOf_0 : decode cX12_loadOf 0 = .ok (.iconst 0, 1) := by decide +kernel
theorem dX12_loadOf_1 : decode cX12_loadOf 1 = .ok (.istore_n 2, 1) := by decide +kernel
theorem dX12_loadOf_2 : decode cX12_loadOf 2 = .ok (.iconst 0, 1) := by decide +kernel
theorem dX12_loadOf_3 : decode cX12_loadOf 3 = .ok (.istore_n 3, 1) := by decide +kernel
theorem dX12_loadOf_4 : decode cX12_loadOf 4 = .ok (.iload_n 3, 1) := by decide +kernel
theorem dX12_loadOf_5 : decode cX12_loadOf 5 = .ok (.aload_n 0, 1) := by decide +kernel
theorem dX12_loadOf_6 : decode cX12_loadOf 6 = .ok (.getfield 162, 3) := by decide +kernel
theorem dX12_loadOf_9 : decode cX12_loadOf 9 = .ok (.if_icmp .ge 32, 3) := by decide +kernel
theorem dX12_loadOf_12 : decode cX12_loadOf 12 = .ok (.iload_n 2, 1) := by decide +kernel
theorem dX12_loadOf_13 : decode cX12_loadOf 13 = .ok (.aload_n 0, 1) := by decide +kernel
theorem dX12_loadOf_14 : decode cX12_loadOf 14 = .ok (.getfield 26, 3) := by decide +kernel
theorem dX12_loadOf_17 : decode cX12_loadOf 17 = .ok (.iload_n 3, 1) := by decide +kernel
theorem dX12_loadOf_18 : decode cX12_loadOf 18 = .ok (.iaload, 1) := by decide +kernel
theorem dX12_loadOf_19 : decode cX12_loadOf 19 = .ok (.iload_n 1, 1) := by decide +kernel
theorem dX12_loadOf_20 : decode cX12_loadOf 20 = .ok (.if_icmp .ne 12, 3) := by decide +kernel
theorem dX12_loadOf_23 : decode cX12_loadOf 23 = .ok (.aload_n 0, 1) := by decide +kernel
theorem dX12_loadOf_24 : decode cX12_loadOf 24 = .ok (.iload_n 3, 1) := by decide +kernel
theorem dX12_loadOf_25 : decode cX12_loadOf 25 = .ok (.iconst 0, 1) := by decide +kernel
theorem dX12_loadOf_26 : decode cX12_loadOf 26 = .ok (.invokevirtual 177, 3) := by decide +kernel
theorem dX12_loadOf_29 : decode cX12_loadOf 29 = .ok (.goto 4, 3) := by decide +kernel
theorem dX12_loadOf_32 : decode cX12_loadOf 32 = .ok (.iconst 0, 1) := by decide +kernel
theorem dX12_loadOf_33 : decode cX12_loadOf 33 = .ok (.iadd, 1) := by decide +kernel
theorem dX12_loadOf_34 : decode cX12_loadOf 34 = .ok (.istore_n 2, 1) := by decide +kernel
theorem dX12_loadOf_35 : decode cX12_loadOf 35 = .ok (.iinc 3 1, 3) := by decide +kernel
theorem dX12_loadOf_38 : decode cX12_loadOf 38 = .ok (.goto (-34), 3) := by decide +kernel
theorem dX12_loadOf_41 : decode cX12_loadOf 41 = .ok (.iload_n 2, 1) := by decide +kernel
theorem dX12_loadOf_42 : decode cX12_loadOf 42 = .ok (.ireturn, 1) := by decide +kernel
theorem dX12_bitsOf_0 : decode cX12_bitsOf 0 = .ok (.iconst 0, 1) := by decide +kernel
theorem dX12_bitsOf_1 : decode cX12_bitsOf 1 = .ok (.istore_n 1, 1) := by decide +kernel
theorem dX12_bitsOf_2 : decode cX12_bitsOf 2 = .ok (.iconst 0, 1) := by decide +kernel
theorem dX12_bitsOf_3 : decode cX12_bitsOf 3 = .ok (.istore_n 2, 1) := by decide +kernel
theorem dX12_bitsOf_4 : decode cX12_bitsOf 4 = .ok (.iload_n 2, 1) := by decide +kernel
theorem dX12_bitsOf_5 : decode cX12_bitsOf 5 = .ok (.bipush 8, 2) := by decide +kernel
theorem dX12_bitsOf_7 : decode cX12_bitsOf 7 = .ok (.if_icmp .ge 17, 3) := by decide +kernel
theorem dX12_bitsOf_10 : decode cX12_bitsOf 10 = .ok (.iload_n 1, 1) := by decide +kernel
theorem dX12_bitsOf_11 : decode cX12_bitsOf 11 = .ok (.iload_n 0, 1) := by decide +kernel
theorem dX12_bitsOf_12 : decode cX12_bitsOf 12 = .ok (.iload_n 2, 1) := by decide +kernel
theorem dX12_bitsOf_13 : decode cX12_bitsOf 13 = .ok (.ishr, 1) := by decide +kernel
theorem dX12_bitsOf_14 : decode cX12_bitsOf 14 = .ok (.iconst 1, 1) := by decide +kernel
theorem dX12_bitsOf_15 : decode cX12_bitsOf 15 = .ok (.iand, 1) := by decide +kernel
theorem dX12_bitsOf_16 : decode cX12_bitsOf 16 = .ok (.iadd, 1) := by decide +kernel
theorem dX12_bitsOf_17 : decode cX12_bitsOf 17 = .ok (.istore_n 1, 1) := by decide +kernel
theorem dX12_bitsOf_18 : decode cX12_bitsOf 18 = .ok (.iinc 2 1, 3) := by decide +kernel
theorem dX12_bitsOf_21 : decode cX12_bitsOf 21 = .ok (.goto (-17), 3) := by decide +kernel
theorem dX12_bitsOf_24 : decode cX12_bitsOf 24 = .ok (.iload_n 1, 1) := by decide +kernel
theorem dX12_bitsOf_25 : decode cX12_bitsOf 25 = .ok (.ireturn, 1) := by decide +kernel
theorem dX12_loudOf_0 : decode cX12_loudOf 0 = .ok (.aload_n 0, 1) := by decide +kernel
theorem dX12_loudOf_1 : decode cX12_loudOf 1 = .ok (.iload_n 1, 1) := by decide +kernel
theorem dX12_loudOf_2 : decode cX12_loudOf 2 = .ok (.invokevirtual 189, 3) := by decide +kernel
theorem dX12_loudOf_5 : decode cX12_loudOf 5 = .ok (.aload_n 0, 1) := by decide +kernel
theorem dX12_loudOf_6 : decode cX12_loudOf 6 = .ok (.getfield 20, 3) := by decide +kernel
theorem dX12_loudOf_9 : decode cX12_loudOf 9 = .ok (.iload_n 1, 1) := by decide +kernel
theorem dX12_loudOf_10 : decode cX12_loudOf 10 = .ok (.iaload, 1) := by decide +kernel
theorem dX12_loudOf_11 : decode cX12_loudOf 11 = .ok (.iadd, 1) := by decide +kernel
theorem dX12_loudOf_12 : decode cX12_loudOf 12 = .ok (.aload_n 0, 1) := by decide +kernel
theorem dX12_loudOf_13 : decode cX12_loudOf 13 = .ok (.getfield 186, 3) := by decide +kernel
theorem dX12_loudOf_16 : decode cX12_loudOf 16 = .ok (.iload_n 1, 1) := by decide +kernel
theorem dX12_loudOf_17 : decode cX12_loudOf 17 = .ok (.invokestatic 192, 3) := by decide +kernel
theorem dX12_loudOf_20 : decode cX12_loudOf 20 = .ok (.ifCond .eq 7, 3) := by decide +kernel
theorem dX12_loudOf_23 : decode cX12_loudOf 23 = .ok (.iconst 0, 1) := by decide +kernel
theorem dX12_loudOf_24 : decode cX12_loudOf 24 = .ok (.goto 14, 3) := by decide +kernel
theorem dX12_loudOf_27 : decode cX12_loudOf 27 = .ok (.aload_n 0, 1) := by decide +kernel
theorem dX12_loudOf_28 : decode cX12_loudOf 28 = .ok (.getfield 180, 3) := by decide +kernel
theorem dX12_loudOf_31 : decode cX12_loudOf 31 = .ok (.aload_n 0, 1) := by decide +kernel
theorem dX12_loudOf_32 : decode cX12_loudOf 32 = .ok (.iload_n 1, 1) := by decide +kernel
theorem dX12_loudOf_33 : decode cX12_loudOf 33 = .ok (.iconst 1, 1) := by decide +kernel
theorem dX12_loudOf_34 : decode cX12_loudOf 34 = .ok (.invokevirtual 171, 3) := by decide +kernel
theorem dX12_loudOf_37 : decode cX12_loudOf 37 = .ok (.imul, 1) := by decide +kernel
theorem dX12_loudOf_38 : decode cX12_loudOf 38 = .ok (.iadd, 1) := by decide +kernel
theorem dX12_loudOf_39 : decode cX12_loudOf 39 = .ok (.iconst 3, 1) := by decide +kernel
theorem dX12_loudOf_40 : decode cX12_loudOf 40 = .ok (.aload_n 0, 1) := by decide +kernel
theorem dX12_loudOf_41 : decode cX12_loudOf 41 = .ok (.iload_n 1, 1) := by decide +kernel
theorem dX12_loudOf_42 : decode cX12_loudOf 42 = .ok (.iconst 4, 1) := by decide +kernel
theorem dX12_loudOf_43 : decode cX12_loudOf 43 = .ok (.invokevirtual 171, 3) := by decide +kernel
theorem dX12_loudOf_46 : decode cX12_loudOf 46 = .ok (.iload_n 2, 1) := by decide +kernel
theorem dX12_loudOf_47 : decode cX12_loudOf 47 = .ok (.iand, 1) := by decide +kernel
theorem dX12_loudOf_48 : decode cX12_loudOf 48 = .ok (.invokestatic 195, 3) := by decide +kernel
theorem dX12_loudOf_51 : decode cX12_loudOf 51 = .ok (.imul, 1) := by decide +kernel
theorem dX12_loudOf_52 : decode cX12_loudOf 52 = .ok (.iadd, 1) := by decide +kernel
theorem dX12_loudOf_53 : decode cX12_loudOf 53 = .ok (.iconst 4, 1) := by decide +kernel
theorem dX12_loudOf_54 : decode cX12_loudOf 54 = .ok (.aload_n 0, 1) := by decide +kernel
theorem dX12_loudOf_55 : decode cX12_loudOf 55 = .ok (.getfield 23, 3) := by decide +kernel
theorem dX12_loudOf_58 : decode cX12_loudOf 58 = .ok (.iload_n 1, 1) := by decide +kernel
theorem dX12_loudOf_59 : decode cX12_loudOf 59 = .ok (.iaload, 1) := by decide +kernel
theorem dX12_loudOf_60 : decode cX12_loudOf 60 = .ok (.imul, 1) := by decide +kernel
theorem dX12_loudOf_61 : decode cX12_loudOf 61 = .ok (.isub, 1) := by decide +kernel
theorem dX12_loudOf_62 : decode cX12_loudOf 62 = .ok (.istore_n 3, 1) := by decide +kernel
theorem dX12_loudOf_63 : decode cX12_loudOf 63 = .ok (.iload_n 3, 1) := by decide +kernel
theorem dX12_loudOf_64 : decode cX12_loudOf 64 = .ok (.ifCond .le 7, 3) := by decide +kernel
theorem dX12_loudOf_67 : decode cX12_loudOf 67 = .ok (.iload_n 3, 1) := by decide +kernel
theorem dX12_loudOf_68 : decode cX12_loudOf 68 = .ok (.goto 4, 3) := by decide +kernel
theorem dX12_loudOf_71 : decode cX12_loudOf 71 = .ok (.iconst 0, 1) := by decide +kernel
theorem dX12_loudOf_72 : decode cX12_loudOf 72 = .ok (.ireturn, 1) := by decide +kernel
theorem dX12_saysOf_0 : decode cX12_saysOf 0 = .ok (.aload_n 0, 1) := by decide +kernel
theorem dX12_saysOf_1 : decode cX12_saysOf 1 = .ok (.getfield 183, 3) := by decide +kernel
theorem dX12_saysOf_4 : decode cX12_saysOf 4 = .ok (.iload_n 1, 1) := by decide +kernel
theorem dX12_saysOf_5 : decode cX12_saysOf 5 = .ok (.invokestatic 192, 3) := by decide +kernel
theorem dX12_saysOf_8 : decode cX12_saysOf 8 = .ok (.ifCond .eq 5, 3) := by decide +kernel
theorem dX12_saysOf_11 : decode cX12_saysOf 11 = .ok (.iconst 0, 1) := by decide +kernel
theorem dX12_saysOf_12 : decode cX12_saysOf 12 = .ok (.ireturn, 1) := by decide +kernel
theorem dX12_saysOf_13 : decode cX12_saysOf 13 = .ok (.aload_n 0, 1) := by decide +kernel
theorem dX12_saysOf_14 : decode cX12_saysOf 14 = .ok (.iload_n 1, 1) := by decide +kernel
theorem dX12_saysOf_15 : decode cX12_saysOf 15 = .ok (.iload_n 2, 1) := by decide +kernel
theorem dX12_saysOf_16 : decode cX12_saysOf 16 = .ok (.invokevirtual 198, 3) := by decide +kernel
theorem dX12_saysOf_19 : decode cX12_saysOf 19 = .ok (.aload_n 0, 1) := by decide +kernel
theorem dX12_saysOf_20 : decode cX12_saysOf 20 = .ok (.iload_n 1, 1) := by decide +kernel
theorem dX12_saysOf_21 : decode cX12_saysOf 21 = .ok (.iconst 3, 1) := by decide +kernel
theorem dX12_saysOf_22 : decode cX12_saysOf 22 = .ok (.invokevirtual 171, 3) := by decide +kernel
theorem dX12_saysOf_25 : decode cX12_saysOf 25 = .ok (.if_icmp .lt 7, 3) := by decide +kernel
theorem dX12_saysOf_28 : decode cX12_saysOf 28 = .ok (.iconst 1, 1) := by decide +kernel
theorem dX12_saysOf_29 : decode cX12_saysOf 29 = .ok (.goto 4, 3) := by decide +kernel
theorem dX12_saysOf_32 : decode cX12_saysOf 32 = .ok (.iconst 0, 1) := by decide +kernel
theorem dX12_saysOf_33 : decode cX12_saysOf 33 = .ok (.istore_n 3, 1) := by decide +kernel
theorem dX12_saysOf_34 : decode cX12_saysOf 34 = .ok (.aload_n 0, 1) := by decide +kernel
theorem dX12_saysOf_35 : decode cX12_saysOf 35 = .ok (.iload_n 1, 1) := by decide +kernel
theorem dX12_saysOf_36 : decode cX12_saysOf 36 = .ok (.iconst 0, 1) := by decide +kernel
theorem dX12_saysOf_37 : decode cX12_saysOf 37 = .ok (.invokevirtual 171, 3) := by decide +kernel
theorem dX12_saysOf_40 : decode cX12_saysOf 40 = .ok (.tableswitch 70 0 2 #[28, 38, 48], 28) := by decide +kernel
theorem dX12_saysOf_68 : decode cX12_saysOf 68 = .ok (.iload_n 3, 1) := by decide +kernel
theorem dX12_saysOf_69 : decode cX12_saysOf 69 = .ok (.ifCond .eq 7, 3) := by decide +kernel
theorem dX12_saysOf_72 : decode cX12_saysOf 72 = .ok (.iconst 1, 1) := by decide +kernel
theorem dX12_saysOf_73 : decode cX12_saysOf 73 = .ok (.goto 4, 3) := by decide +kernel
theorem dX12_saysOf_76 : decode cX12_saysOf 76 = .ok (.iconst 0, 1) := by decide +kernel
theorem dX12_saysOf_77 : decode cX12_saysOf 77 = .ok (.ireturn, 1) := by decide +kernel
theorem dX12_saysOf_78 : decode cX12_saysOf 78 = .ok (.iload_n 3, 1) := by decide +kernel
theorem dX12_saysOf_79 : decode cX12_saysOf 79 = .ok (.ifCond .eq 7, 3) := by decide +kernel
theorem dX12_saysOf_82 : decode cX12_saysOf 82 = .ok (.iconst 2, 1) := by decide +kernel
theorem dX12_saysOf_83 : decode cX12_saysOf 83 = .ok (.goto 4, 3) := by decide +kernel
theorem dX12_saysOf_86 : decode cX12_saysOf 86 = .ok (.iconst 0, 1) := by decide +kernel
theorem dX12_saysOf_87 : decode cX12_saysOf 87 = .ok (.ireturn, 1) := by decide +kernel
theorem dX12_saysOf_88 : decode cX12_saysOf 88 = .ok (.aload_n 0, 1) := by decide +kernel
theorem dX12_saysOf_89 : decode cX12_saysOf 89 = .ok (.iload_n 1, 1) := by decide +kernel
theorem dX12_saysOf_90 : decode cX12_saysOf 90 = .ok (.invokevirtual 189, 3) := by decide +kernel
theorem dX12_saysOf_93 : decode cX12_saysOf 93 = .ok (.ifCond .ne 7, 3) := by decide +kernel
theorem dX12_saysOf_96 : decode cX12_saysOf 96 = .ok (.iconst 0, 1) := by decide +kernel
theorem dX12_saysOf_97 : decode cX12_saysOf 97 = .ok (.goto 12, 3) := by decide +kernel
theorem dX12_saysOf_100 : decode cX12_saysOf 100 = .ok (.iload_n 3, 1) := by decide +kernel
theorem dX12_saysOf_101 : decode cX12_saysOf 101 = .ok (.ifCond .eq 7, 3) := by decide +kernel
theorem dX12_saysOf_104 : decode cX12_saysOf 104 = .ok (.iconst 1, 1) := by decide +kernel
theorem dX12_saysOf_105 : decode cX12_saysOf 105 = .ok (.goto 4, 3) := by decide +kernel
theorem dX12_saysOf_108 : decode cX12_saysOf 108 = .ok (.iconst 2, 1) := by decide +kernel
theorem dX12_saysOf_109 : decode cX12_saysOf 109 = .ok (.ireturn, 1) := by decide +kernel
theorem dX12_saysOf_110 : decode cX12_saysOf 110 = .ok (.aload_n 0, 1) := by decide +kernel
theorem dX12_saysOf_111 : decode cX12_saysOf 111 = .ok (.getfield 201, 3) := by decide +kernel
theorem dX12_saysOf_114 : decode cX12_saysOf 114 = .ok (.aload_n 0, 1) := by decide +kernel
theorem dX12_saysOf_115 : decode cX12_saysOf 115 = .ok (.getfield 204, 3) := by decide +kernel
theorem dX12_saysOf_118 : decode cX12_saysOf 118 = .ok (.if_icmp .le 7, 3) := by decide +kernel
theorem dX12_saysOf_121 : decode cX12_saysOf 121 = .ok (.iconst 2, 1) := by decide +kernel
theorem dX12_saysOf_122 : decode cX12_saysOf 122 = .ok (.goto 19, 3) := by decide +kernel
theorem dX12_saysOf_125 : decode cX12_saysOf 125 = .ok (.aload_n 0, 1) := by decide +kernel
theorem dX12_saysOf_126 : decode cX12_saysOf 126 = .ok (.getfield 201, 3) := by decide +kernel
theorem dX12_saysOf_129 : decode cX12_saysOf 129 = .ok (.aload_n 0, 1) := by decide +kernel
theorem dX12_saysOf_130 : decode cX12_saysOf 130 = .ok (.getfield 204, 3) := by decide +kernel
theorem dX12_saysOf_133 : decode cX12_saysOf 133 = .ok (.if_icmp .ge 7, 3) := by decide +kernel
theorem dX12_saysOf_136 : decode cX12_saysOf 136 = .ok (.iconst 1, 1) := by decide +kernel
theorem dX12_saysOf_137 : decode cX12_saysOf 137 = .ok (.goto 4, 3) := by decide +kernel
theorem dX12_saysOf_140 : decode cX12_saysOf 140 = .ok (.iconst 0, 1) := by decide +kernel
theorem dX12_saysOf_141 : decode cX12_saysOf 141 = .ok (.ireturn, 1) := by decide +kernel
theorem dX12_answers_0 : decode cX12_answers 0 = .ok (.aload_n 0, 1) := by decide +kernel
theorem dX12_answers_1 : decode cX12_answers 1 = .ok (.iconst 0, 1) := by decide +kernel
theorem dX12_answers_2 : decode cX12_answers 2 = .ok (.putfield 201, 3) := by decide +kernel
theorem dX12_answers_5 : decode cX12_answers 5 = .ok (.aload_n 0, 1) := by decide +kernel
theorem dX12_answers_6 : decode cX12_answers 6 = .ok (.iconst 0, 1) := by decide +kernel
theorem dX12_answers_7 : decode cX12_answers 7 = .ok (.putfield 204, 3) := by decide +kernel
theorem dX12_answers_10 : decode cX12_answers 10 = .ok (.iconst 0, 1) := by decide +kernel
theorem dX12_answers_11 : decode cX12_answers 11 = .ok (.istore_n 2, 1) := by decide +kernel
theorem dX12_answers_12 : decode cX12_answers 12 = .ok (.iload_n 2, 1) := by decide +kernel
theorem dX12_answers_13 : decode cX12_answers 13 = .ok (.aload_n 0, 1) := by decide +kernel
theorem dX12_answers_14 : decode cX12_answers 14 = .ok (.getfield 159, 3) := by decide +kernel
theorem dX12_answers_17 : decode cX12_answers 17 = .ok (.if_icmp .ge 79, 3) := by decide +kernel
theorem dX12_answers_20 : decode cX12_answers 20 = .ok (.aload_n 0, 1) := by decide +kernel
theorem dX12_answers_21 : decode cX12_answers 21 = .ok (.getfield 29, 3) := by decide +kernel
theorem dX12_answers_24 : decode cX12_answers 24 = .ok (.iload_n 2, 1) := by decide +kernel
theorem dX12_answers_25 : decode cX12_answers 25 = .ok (.aload_n 0, 1) := by decide +kernel
theorem dX12_answers_26 : decode cX12_answers 26 = .ok (.iload_n 2, 1) := by decide +kernel
theorem dX12_answers_27 : decode cX12_answers 27 = .ok (.iload_n 1, 1) := by decide +kernel
theorem dX12_answers_28 : decode cX12_answers 28 = .ok (.invokevirtual 207, 3) := by decide +kernel
theorem dX12_answers_31 : decode cX12_answers 31 = .ok (.iastore, 1) := by decide +kernel
theorem dX12_answers_32 : decode cX12_answers 32 = .ok (.aload_n 0, 1) := by decide +kernel
theorem dX12_answers_33 : decode cX12_answers 33 = .ok (.dup, 1) := by decide +kernel
theorem dX12_answers_34 : decode cX12_answers 34 = .ok (.getfield 201, 3) := by decide +kernel
theorem dX12_answers_37 : decode cX12_answers 37 = .ok (.aload_n 0, 1) := by decide +kernel
theorem dX12_answers_38 : decode cX12_answers 38 = .ok (.getfield 29, 3) := by decide +kernel
theorem dX12_answers_41 : decode cX12_answers 41 = .ok (.iload_n 2, 1) := by decide +kernel
theorem dX12_answers_42 : decode cX12_answers 42 = .ok (.iaload, 1) := by decide +kernel
theorem dX12_answers_43 : decode cX12_answers 43 = .ok (.iconst 1, 1) := by decide +kernel
theorem dX12_answers_44 : decode cX12_answers 44 = .ok (.if_icmp .ne 12, 3) := by decide +kernel
theorem dX12_answers_47 : decode cX12_answers 47 = .ok (.aload_n 0, 1) := by decide +kernel
theorem dX12_answers_48 : decode cX12_answers 48 = .ok (.iload_n 2, 1) := by decide +kernel
theorem dX12_answers_49 : decode cX12_answers 49 = .ok (.iconst 5, 1) := by decide +kernel
theorem dX12_answers_50 : decode cX12_answers 50 = .ok (.invokevirtual 171, 3) := by decide +kernel
theorem dX12_answers_53 : decode cX12_answers 53 = .ok (.goto 4, 3) := by decide +kernel
theorem dX12_answers_56 : decode cX12_answers 56 = .ok (.iconst 0, 1) := by decide +kernel
theorem dX12_answers_57 : decode cX12_answers 57 = .ok (.iadd, 1) := by decide +kernel
theorem dX12_answers_58 : decode cX12_answers 58 = .ok (.putfield 201, 3) := by decide +kernel
theorem dX12_answers_61 : decode cX12_answers 61 = .ok (.aload_n 0, 1) := by decide +kernel
theorem dX12_answers_62 : decode cX12_answers 62 = .ok (.dup, 1) := by decide +kernel
theorem dX12_answers_63 : decode cX12_answers 63 = .ok (.getfield 204, 3) := by decide +kernel
theorem dX12_answers_66 : decode cX12_answers 66 = .ok (.aload_n 0, 1) := by decide +kernel
theorem dX12_answers_67 : decode cX12_answers 67 = .ok (.getfield 29, 3) := by decide +kernel
theorem dX12_answers_70 : decode cX12_answers 70 = .ok (.iload_n 2, 1) := by decide +kernel
theorem dX12_answers_71 : decode cX12_answers 71 = .ok (.iaload, 1) := by decide +kernel
theorem dX12_answers_72 : decode cX12_answers 72 = .ok (.iconst 2, 1) := by decide +kernel
theorem dX12_answers_73 : decode cX12_answers 73 = .ok (.if_icmp .ne 12, 3) := by decide +kernel
theorem dX12_answers_76 : decode cX12_answers 76 = .ok (.aload_n 0, 1) := by decide +kernel
theorem dX12_answers_77 : decode cX12_answers 77 = .ok (.iload_n 2, 1) := by decide +kernel
theorem dX12_answers_78 : decode cX12_answers 78 = .ok (.iconst 5, 1) := by decide +kernel
theorem dX12_answers_79 : decode cX12_answers 79 = .ok (.invokevirtual 171, 3) := by decide +kernel
theorem dX12_answers_82 : decode cX12_answers 82 = .ok (.goto 4, 3) := by decide +kernel
theorem dX12_answers_85 : decode cX12_answers 85 = .ok (.iconst 0, 1) := by decide +kernel
theorem dX12_answers_86 : decode cX12_answers 86 = .ok (.iadd, 1) := by decide +kernel
theorem dX12_answers_87 : decode cX12_answers 87 = .ok (.putfield 204, 3) := by decide +kernel
theorem dX12_answers_90 : decode cX12_answers 90 = .ok (.iinc 2 1, 3) := by decide +kernel
theorem dX12_answers_93 : decode cX12_answers 93 = .ok (.goto (-81), 3) := by decide +kernel
theorem dX12_answers_96 : decode cX12_answers 96 = .ok (.aload_n 0, 1) := by decide +kernel
theorem dX12_answers_97 : decode cX12_answers 97 = .ok (.getfield 201, 3) := by decide +kernel
theorem dX12_answers_100 : decode cX12_answers 100 = .ok (.aload_n 0, 1) := by decide +kernel
theorem dX12_answers_101 : decode cX12_answers 101 = .ok (.getfield 204, 3) := by decide +kernel
theorem dX12_answers_104 : decode cX12_answers 104 = .ok (.if_icmp .le 7, 3) := by decide +kernel
theorem dX12_answers_107 : decode cX12_answers 107 = .ok (.iconst 1, 1) := by decide +kernel
theorem dX12_answers_108 : decode cX12_answers 108 = .ok (.goto 4, 3) := by decide +kernel
theorem dX12_answers_111 : decode cX12_answers 111 = .ok (.iconst 0, 1) := by decide +kernel
theorem dX12_answers_112 : decode cX12_answers 112 = .ok (.ireturn, 1) := by decide +kernel
theorem dX12_answer_0 : decode cX12_answer 0 = .ok (.aload_n 0, 1) := by decide +kernel
theorem dX12_answer_1 : decode cX12_answer 1 = .ok (.iload_n 1, 1) := by decide +kernel
theorem dX12_answer_2 : decode cX12_answer 2 = .ok (.invokevirtual 165, 3) := by decide +kernel
theorem dX12_answer_5 : decode cX12_answer 5 = .ok (.ifCond .eq 10, 3) := by decide +kernel
theorem dX12_answer_8 : decode cX12_answer 8 = .ok (.iload_n 2, 1) := by decide +kernel
theorem dX12_answer_9 : decode cX12_answer 9 = .ok (.invokestatic 210, 3) := by decide +kernel
theorem dX12_answer_12 : decode cX12_answer 12 = .ok (.ifCond .ne 5, 3) := by decide +kernel
theorem dX12_answer_15 : decode cX12_answer 15 = .ok (.iconst (-1), 1) := by decide +kernel
theorem dX12_answer_16 : decode cX12_answer 16 = .ok (.ireturn, 1) := by decide +kernel
theorem dX12_answer_17 : decode cX12_answer 17 = .ok (.aload_n 0, 1) := by decide +kernel
theorem dX12_answer_18 : decode cX12_answer 18 = .ok (.invokevirtual 213, 3) := by decide +kernel
theorem dX12_answer_21 : decode cX12_answer 21 = .ok (.aload_n 0, 1) := by decide +kernel
theorem dX12_answer_22 : decode cX12_answer 22 = .ok (.iload_n 2, 1) := by decide +kernel
theorem dX12_answer_23 : decode cX12_answer 23 = .ok (.invokevirtual 216, 3) := by decide +kernel
theorem dX12_answer_26 : decode cX12_answer 26 = .ok (.istore 4, 2) := by decide +kernel
theorem dX12_answer_28 : decode cX12_answer 28 = .ok (.iload_n 3, 1) := by decide +kernel
theorem dX12_answer_29 : decode cX12_answer 29 = .ok (.iconst 0, 1) := by decide +kernel
theorem dX12_answer_30 : decode cX12_answer 30 = .ok (.iconst 2, 1) := by decide +kernel
theorem dX12_answer_31 : decode cX12_answer 31 = .ok (.invokestatic 106, 3) := by decide +kernel
theorem dX12_answer_34 : decode cX12_answer 34 = .ok (.ifCond .eq 37, 3) := by decide +kernel
theorem dX12_answer_37 : decode cX12_answer 37 = .ok (.iload_n 3, 1) := by decide +kernel
theorem dX12_answer_38 : decode cX12_answer 38 = .ok (.ifCond .ne 16, 3) := by decide +kernel
theorem dX12_answer_41 : decode cX12_answer 41 = .ok (.iload 4, 2) := by decide +kernel
theorem dX12_answer_43 : decode cX12_answer 43 = .ok (.ifCond .eq 7, 3) := by decide +kernel
theorem dX12_answer_46 : decode cX12_answer 46 = .ok (.iconst 1, 1) := by decide +kernel
theorem dX12_answer_47 : decode cX12_answer 47 = .ok (.goto 23, 3) := by decide +kernel
theorem dX12_answer_50 : decode cX12_answer 50 = .ok (.iconst 0, 1) := by decide +kernel
theorem dX12_answer_51 : decode cX12_answer 51 = .ok (.goto 19, 3) := by decide +kernel
theorem dX12_answer_54 : decode cX12_answer 54 = .ok (.iload_n 3, 1) := by decide +kernel
theorem dX12_answer_55 : decode cX12_answer 55 = .ok (.iconst 1, 1) := by decide +kernel
theorem dX12_answer_56 : decode cX12_answer 56 = .ok (.if_icmp .ne 10, 3) := by decide +kernel
theorem dX12_answer_59 : decode cX12_answer 59 = .ok (.aload_n 0, 1) := by decide +kernel
theorem dX12_answer_60 : decode cX12_answer 60 = .ok (.getfield 201, 3) := by decide +kernel
theorem dX12_answer_63 : decode cX12_answer 63 = .ok (.goto 7, 3) := by decide +kernel
theorem dX12_answer_66 : decode cX12_answer 66 = .ok (.aload_n 0, 1) := by decide +kernel
theorem dX12_answer_67 : decode cX12_answer 67 = .ok (.getfield 204, 3) := by decide +kernel
theorem dX12_answer_70 : decode cX12_answer 70 = .ok (.ireturn, 1) := by decide +kernel
theorem dX12_answer_71 : decode cX12_answer 71 = .ok (.iload_n 3, 1) := by decide +kernel
theorem dX12_answer_72 : decode cX12_answer 72 = .ok (.bipush 10, 2) := by decide +kernel
theorem dX12_answer_74 : decode cX12_answer 74 = .ok (.irem, 1) := by decide +kernel
theorem dX12_answer_75 : decode cX12_answer 75 = .ok (.istore 5, 2) := by decide +kernel
theorem dX12_answer_77 : decode cX12_answer 77 = .ok (.iload_n 3, 1) := by decide +kernel
theorem dX12_answer_78 : decode cX12_answer 78 = .ok (.bipush 10, 2) := by decide +kernel
theorem dX12_answer_80 : decode cX12_answer 80 = .ok (.bipush 29, 2) := by decide +kernel
theorem dX12_answer_82 : decode cX12_answer 82 = .ok (.invokestatic 106, 3) := by decide +kernel
theorem dX12_answer_85 : decode cX12_answer 85 = .ok (.ifCond .eq 12, 3) := by decide +kernel
theorem dX12_answer_88 : decode cX12_answer 88 = .ok (.aload_n 0, 1) := by decide +kernel
theorem dX12_answer_89 : decode cX12_answer 89 = .ok (.iload 5, 2) := by decide +kernel
theorem dX12_answer_91 : decode cX12_answer 91 = .ok (.invokevirtual 168, 3) := by decide +kernel
theorem dX12_answer_94 : decode cX12_answer 94 = .ok (.ifCond .ne 5, 3) := by decide +kernel
theorem dX12_answer_97 : decode cX12_answer 97 = .ok (.iconst (-1), 1) := by decide +kernel
theorem dX12_answer_98 : decode cX12_answer 98 = .ok (.ireturn, 1) := by decide +kernel
theorem dX12_answer_99 : decode cX12_answer 99 = .ok (.iload_n 3, 1) := by decide +kernel
theorem dX12_answer_100 : decode cX12_answer 100 = .ok (.bipush 20, 2) := by decide +kernel
theorem dX12_answer_102 : decode cX12_answer 102 = .ok (.if_icmp .ge 13, 3) := by decide +kernel
theorem dX12_answer_105 : decode cX12_answer 105 = .ok (.aload_n 0, 1) := by decide +kernel
theorem dX12_answer_106 : decode cX12_answer 106 = .ok (.iload 5, 2) := by decide +kernel
theorem dX12_answer_108 : decode cX12_answer 108 = .ok (.iload_n 2, 1) := by decide +kernel
theorem dX12_answer_109 : decode cX12_answer 109 = .ok (.invokevirtual 198, 3) := by decide +kernel
theorem dX12_answer_112 : decode cX12_answer 112 = .ok (.goto 10, 3) := by decide +kernel
theorem dX12_answer_115 : decode cX12_answer 115 = .ok (.aload_n 0, 1) := by decide +kernel
theorem dX12_answer_116 : decode cX12_answer 116 = .ok (.getfield 29, 3) := by decide +kernel
theorem dX12_answer_119 : decode cX12_answer 119 = .ok (.iload 5, 2) := by decide +kernel
theorem dX12_answer_121 : decode cX12_answer 121 = .ok (.iaload, 1) := by decide +kernel
theorem dX12_answer_122 : decode cX12_answer 122 = .ok (.ireturn, 1) := by decide +kernel
theorem dX12_isSession_0 : decode cX12_isSession 0 = .ok (.aload_n 0, 1) := by decide +kernel
theorem dX12_isSession_1 : decode cX12_isSession 1 = .ok (.iconst 1, 1) := by decide +kernel
theorem dX12_isSession_2 : decode cX12_isSession 2 = .ok (.iload_n 1, 1) := by decide +kernel
theorem dX12_isSession_3 : decode cX12_isSession 3 = .ok (.invokevirtual 137, 3) := by decide +kernel
theorem dX12_isSession_6 : decode cX12_isSession 6 = .ok (.ifCond .ne 5, 3) := by decide +kernel
theorem dX12_isSession_9 : decode cX12_isSession 9 = .ok (.iconst 0, 1) := by decide +kernel
theorem dX12_isSession_10 : decode cX12_isSession 10 = .ok (.ireturn, 1) := by decide +kernel
theorem dX12_isSession_11 : decode cX12_isSession 11 = .ok (.aload_n 0, 1) := by decide +kernel
theorem dX12_isSession_12 : decode cX12_isSession 12 = .ok (.iconst 1, 1) := by decide +kernel
theorem dX12_isSession_13 : decode cX12_isSession 13 = .ok (.iload_n 1, 1) := by decide +kernel
theorem dX12_isSession_14 : decode cX12_isSession 14 = .ok (.invokestatic 153, 3) := by decide +kernel
theorem dX12_isSession_17 : decode cX12_isSession 17 = .ok (.putfield 219, 3) := by decide +kernel
theorem dX12_isSession_20 : decode cX12_isSession 20 = .ok (.iconst 1, 1) := by decide +kernel
theorem dX12_isSession_21 : decode cX12_isSession 21 = .ok (.ireturn, 1) := by decide +kernel
theorem dX12_deed_0 : decode cX12_deed 0 = .ok (.aload_n 0, 1) := by decide +kernel
theorem dX12_deed_1 : decode cX12_deed 1 = .ok (.iload_n 1, 1) := by decide +kernel
theorem dX12_deed_2 : decode cX12_deed 2 = .ok (.invokevirtual 222, 3) := by decide +kernel
theorem dX12_deed_5 : decode cX12_deed 5 = .ok (.ifCond .ne 6, 3) := by decide +kernel
theorem dX12_deed_8 : decode cX12_deed 8 = .ok (.bipush (-2), 2) := by decide +kernel
theorem dX12_deed_10 : decode cX12_deed 10 = .ok (.ireturn, 1) := by decide +kernel
theorem dX12_deed_11 : decode cX12_deed 11 = .ok (.iload_n 2, 1) := by decide +kernel
theorem dX12_deed_12 : decode cX12_deed 12 = .ok (.iconst (-1), 1) := by decide +kernel
theorem dX12_deed_13 : decode cX12_deed 13 = .ok (.if_icmp .ne 22, 3) := by decide +kernel
theorem dX12_deed_16 : decode cX12_deed 16 = .ok (.iload_n 3, 1) := by decide +kernel
theorem dX12_deed_17 : decode cX12_deed 17 = .ok (.ifCond .ne 15, 3) := by decide +kernel
theorem dX12_deed_20 : decode cX12_deed 20 = .ok (.aload_n 0, 1) := by decide +kernel
theorem dX12_deed_21 : decode cX12_deed 21 = .ok (.getfield 7, 3) := by decide +kernel
theorem dX12_deed_24 : decode cX12_deed 24 = .ok (.aload_n 0, 1) := by decide +kernel
theorem dX12_deed_25 : decode cX12_deed 25 = .ok (.getfield 219, 3) := by decide +kernel
theorem dX12_deed_28 : decode cX12_deed 28 = .ok (.iaload, 1) := by decide +kernel
theorem dX12_deed_29 : decode cX12_deed 29 = .ok (.goto 5, 3) := by decide +kernel
theorem dX12_deed_32 : decode cX12_deed 32 = .ok (.bipush (-2), 2) := by decide +kernel
theorem dX12_deed_34 : decode cX12_deed 34 = .ok (.ireturn, 1) := by decide +kernel
theorem dX12_deed_35 : decode cX12_deed 35 = .ok (.iload_n 2, 1) := by decide +kernel
theorem dX12_deed_36 : decode cX12_deed 36 = .ok (.iconst 0, 1) := by decide +kernel
theorem dX12_deed_37 : decode cX12_deed 37 = .ok (.aload_n 0, 1) := by decide +kernel
theorem dX12_deed_38 : decode cX12_deed 38 = .ok (.getfield 7, 3) := by decide +kernel
theorem dX12_deed_41 : decode cX12_deed 41 = .ok (.aload_n 0, 1) := by decide +kernel
theorem dX12_deed_42 : decode cX12_deed 42 = .ok (.getfield 219, 3) := by decide +kernel
theorem dX12_deed_45 : decode cX12_deed 45 = .ok (.iaload, 1) := by decide +kernel
theorem dX12_deed_46 : decode cX12_deed 46 = .ok (.iconst 1, 1) := by decide +kernel
theorem dX12_deed_47 : decode cX12_deed 47 = .ok (.isub, 1) := by decide +kernel
theorem dX12_deed_48 : decode cX12_deed 48 = .ok (.invokestatic 106, 3) := by decide +kernel
theorem dX12_deed_51 : decode cX12_deed 51 = .ok (.ifCond .eq 32, 3) := by decide +kernel
theorem dX12_deed_54 : decode cX12_deed 54 = .ok (.iload_n 3, 1) := by decide +kernel
theorem dX12_deed_55 : decode cX12_deed 55 = .ok (.iconst 0, 1) := by decide +kernel
theorem dX12_deed_56 : decode cX12_deed 56 = .ok (.iconst 2, 1) := by decide +kernel
theorem dX12_deed_57 : decode cX12_deed 57 = .ok (.invokestatic 106, 3) := by decide +kernel
theorem dX12_deed_60 : decode cX12_deed 60 = .ok (.ifCond .eq 23, 3) := by decide +kernel
theorem dX12_deed_63 : decode cX12_deed 63 = .ok (.aload_n 0, 1) := by decide +kernel
theorem dX12_deed_64 : decode cX12_deed 64 = .ok (.getfield 7, 3) := by decide +kernel
theorem dX12_deed_67 : decode cX12_deed 67 = .ok (.aload_n 0, 1) := by decide +kernel
theorem dX12_deed_68 : decode cX12_deed 68 = .ok (.getfield 219, 3) := by decide +kernel
theorem dX12_deed_71 : decode cX12_deed 71 = .ok (.iconst 1, 1) := by decide +kernel
theorem dX12_deed_72 : decode cX12_deed 72 = .ok (.iadd, 1) := by decide +kernel
theorem dX12_deed_73 : decode cX12_deed 73 = .ok (.iconst 3, 1) := by decide +kernel
theorem dX12_deed_74 : decode cX12_deed 74 = .ok (.iload_n 2, 1) := by decide +kernel
theorem dX12_deed_75 : decode cX12_deed 75 = .ok (.imul, 1) := by decide +kernel
theorem dX12_deed_76 : decode cX12_deed 76 = .ok (.iadd, 1) := by decide +kernel
theorem dX12_deed_77 : decode cX12_deed 77 = .ok (.iload_n 3, 1) := by decide +kernel
theorem dX12_deed_78 : decode cX12_deed 78 = .ok (.iadd, 1) := by decide +kernel
theorem dX12_deed_79 : decode cX12_deed 79 = .ok (.iaload, 1) := by decide +kernel
theorem dX12_deed_80 : decode cX12_deed 80 = .ok (.goto 5, 3) := by decide +kernel
theorem dX12_deed_83 : decode cX12_deed 83 = .ok (.bipush (-2), 2) := by decide +kernel
theorem dX12_deed_85 : decode cX12_deed 85 = .ok (.ireturn, 1) := by decide +kernel
theorem dX12_begins_0 : decode cX12_begins 0 = .ok (.aload_n 0, 1) := by decide +kernel
theorem dX12_begins_1 : decode cX12_begins 1 = .ok (.invokevirtual 213, 3) := by decide +kernel
theorem dX12_begins_4 : decode cX12_begins 4 = .ok (.aload_n 0, 1) := by decide +kernel
theorem dX12_begins_5 : decode cX12_begins 5 = .ok (.iconst 0, 1) := by decide +kernel
theorem dX12_begins_6 : decode cX12_begins 6 = .ok (.putfield 225, 3) := by decide +kernel
theorem dX12_begins_9 : decode cX12_begins 9 = .ok (.aload_n 0, 1) := by decide +kernel
theorem dX12_begins_10 : decode cX12_begins 10 = .ok (.iconst 0, 1) := by decide +kernel
theorem dX12_begins_11 : decode cX12_begins 11 = .ok (.putfield 228, 3) := by decide +kernel
theorem dX12_begins_14 : decode cX12_begins 14 = .ok (.aload_n 0, 1) := by decide +kernel
theorem dX12_begins_15 : decode cX12_begins 15 = .ok (.iconst 0, 1) := by decide +kernel
theorem dX12_begins_16 : decode cX12_begins 16 = .ok (.putfield 201, 3) := by decide +kernel
theorem dX12_begins_19 : decode cX12_begins 19 = .ok (.aload_n 0, 1) := by decide +kernel
theorem dX12_begins_20 : decode cX12_begins 20 = .ok (.iconst 0, 1) := by decide +kernel
theorem dX12_begins_21 : decode cX12_begins 21 = .ok (.putfield 204, 3) := by decide +kernel
theorem dX12_begins_24 : decode cX12_begins 24 = .ok (.aload_n 0, 1) := by decide +kernel
theorem dX12_begins_25 : decode cX12_begins 25 = .ok (.iconst 0, 1) := by decide +kernel
theorem dX12_begins_26 : decode cX12_begins 26 = .ok (.putfield 231, 3) := by decide +kernel
theorem dX12_begins_29 : decode cX12_begins 29 = .ok (.return_, 1) := by decide +kernel
theorem dX12_puts_0 : decode cX12_puts 0 = .ok (.aload_n 0, 1) := by decide +kernel
theorem dX12_puts_1 : decode cX12_puts 1 = .ok (.dup, 1) := by decide +kernel
theorem dX12_puts_2 : decode cX12_puts 2 = .ok (.getfield 225, 3) := by decide +kernel
theorem dX12_puts_5 : decode cX12_puts 5 = .ok (.iconst 1, 1) := by decide +kernel
theorem dX12_puts_6 : decode cX12_puts 6 = .ok (.iadd, 1) := by decide +kernel
theorem dX12_puts_7 : decode cX12_puts 7 = .ok (.putfield 225, 3) := by decide +kernel
theorem dX12_puts_10 : decode cX12_puts 10 = .ok (.aload_n 0, 1) := by decide +kernel
theorem dX12_puts_11 : decode cX12_puts 11 = .ok (.dup, 1) := by decide +kernel
theorem dX12_puts_12 : decode cX12_puts 12 = .ok (.getfield 228, 3) := by decide +kernel
theorem dX12_puts_15 : decode cX12_puts 15 = .ok (.aload_n 0, 1) := by decide +kernel
theorem dX12_puts_16 : decode cX12_puts 16 = .ok (.iload_n 1, 1) := by decide +kernel
theorem dX12_puts_17 : decode cX12_puts 17 = .ok (.invokevirtual 216, 3) := by decide +kernel
theorem dX12_puts_20 : decode cX12_puts 20 = .ok (.ifCond .eq 7, 3) := by decide +kernel
theorem dX12_puts_23 : decode cX12_puts 23 = .ok (.iconst 1, 1) := by decide +kernel
theorem dX12_puts_24 : decode cX12_puts 24 = .ok (.goto 4, 3) := by decide +kernel
theorem dX12_puts_27 : decode cX12_puts 27 = .ok (.iconst 0, 1) := by decide +kernel
theorem dX12_puts_28 : decode cX12_puts 28 = .ok (.iadd, 1) := by decide +kernel
theorem dX12_puts_29 : decode cX12_puts 29 = .ok (.putfield 228, 3) := by decide +kernel
theorem dX12_puts_32 : decode cX12_puts 32 = .ok (.iconst 0, 1) := by decide +kernel
theorem dX12_puts_33 : decode cX12_puts 33 = .ok (.istore_n 2, 1) := by decide +kernel
theorem dX12_puts_34 : decode cX12_puts 34 = .ok (.iload_n 2, 1) := by decide +kernel
theorem dX12_puts_35 : decode cX12_puts 35 = .ok (.aload_n 0, 1) := by decide +kernel
theorem dX12_puts_36 : decode cX12_puts 36 = .ok (.getfield 159, 3) := by decide +kernel
theorem dX12_puts_39 : decode cX12_puts 39 = .ok (.if_icmp .ge 87, 3) := by decide +kernel
theorem dX12_puts_42 : decode cX12_puts 42 = .ok (.aload_n 0, 1) := by decide +kernel
theorem dX12_puts_43 : decode cX12_puts 43 = .ok (.getfield 29, 3) := by decide +kernel
theorem dX12_puts_46 : decode cX12_puts 46 = .ok (.iload_n 2, 1) := by decide +kernel
theorem dX12_puts_47 : decode cX12_puts 47 = .ok (.iaload, 1) := by decide +kernel
theorem dX12_puts_48 : decode cX12_puts 48 = .ok (.iconst 2, 1) := by decide +kernel
theorem dX12_puts_49 : decode cX12_puts 49 = .ok (.if_icmp .ne 71, 3) := by decide +kernel
theorem dX12_puts_52 : decode cX12_puts 52 = .ok (.aload_n 0, 1) := by decide +kernel
theorem dX12_puts_53 : decode cX12_puts 53 = .ok (.iload_n 2, 1) := by decide +kernel
theorem dX12_puts_54 : decode cX12_puts 54 = .ok (.iconst 0, 1) := by decide +kernel
theorem dX12_puts_55 : decode cX12_puts 55 = .ok (.invokevirtual 171, 3) := by decide +kernel
theorem dX12_puts_58 : decode cX12_puts 58 = .ok (.iconst 1, 1) := by decide +kernel
theorem dX12_puts_59 : decode cX12_puts 59 = .ok (.if_icmp .eq 6, 3) := by decide +kernel
theorem dX12_puts_62 : decode cX12_puts 62 = .ok (.goto 58, 3) := by decide +kernel
theorem dX12_puts_65 : decode cX12_puts 65 = .ok (.aload_n 0, 1) := by decide +kernel
theorem dX12_puts_66 : decode cX12_puts 66 = .ok (.dup, 1) := by decide +kernel
theorem dX12_puts_67 : decode cX12_puts 67 = .ok (.getfield 183, 3) := by decide +kernel
theorem dX12_puts_70 : decode cX12_puts 70 = .ok (.iconst 1, 1) := by decide +kernel
theorem dX12_puts_71 : decode cX12_puts 71 = .ok (.iload_n 2, 1) := by decide +kernel
theorem dX12_puts_72 : decode cX12_puts 72 = .ok (.ishl, 1) := by decide +kernel
theorem dX12_puts_73 : decode cX12_puts 73 = .ok (.ior, 1) := by decide +kernel
theorem dX12_puts_74 : decode cX12_puts 74 = .ok (.putfield 183, 3) := by decide +kernel
theorem dX12_puts_77 : decode cX12_puts 77 = .ok (.iconst 0, 1) := by decide +kernel
theorem dX12_puts_78 : decode cX12_puts 78 = .ok (.istore_n 3, 1) := by decide +kernel
theorem dX12_puts_79 : decode cX12_puts 79 = .ok (.iload_n 3, 1) := by decide +kernel
theorem dX12_puts_80 : decode cX12_puts 80 = .ok (.aload_n 0, 1) := by decide +kernel
theorem dX12_puts_81 : decode cX12_puts 81 = .ok (.getfield 162, 3) := by decide +kernel
theorem dX12_puts_84 : decode cX12_puts 84 = .ok (.if_icmp .ge 36, 3) := by decide +kernel
theorem dX12_puts_87 : decode cX12_puts 87 = .ok (.aload_n 0, 1) := by decide +kernel
theorem dX12_puts_88 : decode cX12_puts 88 = .ok (.getfield 26, 3) := by decide +kernel
theorem dX12_puts_91 : decode cX12_puts 91 = .ok (.iload_n 3, 1) := by decide +kernel
theorem dX12_puts_92 : decode cX12_puts 92 = .ok (.aload_n 0, 1) := by decide +kernel
theorem dX12_puts_93 : decode cX12_puts 93 = .ok (.getfield 26, 3) := by decide +kernel
theorem dX12_puts_96 : decode cX12_puts 96 = .ok (.iload_n 3, 1) := by decide +kernel
theorem dX12_puts_97 : decode cX12_puts 97 = .ok (.iaload, 1) := by decide +kernel
theorem dX12_puts_98 : decode cX12_puts 98 = .ok (.iload_n 2, 1) := by decide +kernel
theorem dX12_puts_99 : decode cX12_puts 99 = .ok (.if_icmp .ne 8, 3) := by decide +kernel
theorem dX12_puts_102 : decode cX12_puts 102 = .ok (.bipush 8, 2) := by decide +kernel
theorem dX12_puts_104 : decode cX12_puts 104 = .ok (.goto 9, 3) := by decide +kernel
theorem dX12_puts_107 : decode cX12_puts 107 = .ok (.aload_n 0, 1) := by decide +kernel
theorem dX12_puts_108 : decode cX12_puts 108 = .ok (.getfield 26, 3) := by decide +kernel
theorem dX12_puts_111 : decode cX12_puts 111 = .ok (.iload_n 3, 1) := by decide +kernel
theorem dX12_puts_112 : decode cX12_puts 112 = .ok (.iaload, 1) := by decide +kernel
theorem dX12_puts_113 : decode cX12_puts 113 = .ok (.iastore, 1) := by decide +kernel
theorem dX12_puts_114 : decode cX12_puts 114 = .ok (.iinc 3 1, 3) := by decide +kernel
theorem dX12_puts_117 : decode cX12_puts 117 = .ok (.goto (-38), 3) := by decide +kernel
theorem dX12_puts_120 : decode cX12_puts 120 = .ok (.iinc 2 1, 3) := by decide +kernel
theorem dX12_puts_123 : decode cX12_puts 123 = .ok (.goto (-89), 3) := by decide +kernel
theorem dX12_puts_126 : decode cX12_puts 126 = .ok (.return_, 1) := by decide +kernel
theorem dX12_stands_0 : decode cX12_stands 0 = .ok (.aload_n 0, 1) := by decide +kernel
theorem dX12_stands_1 : decode cX12_stands 1 = .ok (.iload_n 1, 1) := by decide +kernel
theorem dX12_stands_2 : decode cX12_stands 2 = .ok (.invokevirtual 174, 3) := by decide +kernel
theorem dX12_stands_5 : decode cX12_stands 5 = .ok (.ifCond .eq 14, 3) := by decide +kernel
theorem dX12_stands_8 : decode cX12_stands 8 = .ok (.aload_n 0, 1) := by decide +kernel
theorem dX12_stands_9 : decode cX12_stands 9 = .ok (.getfield 26, 3) := by decide +kernel
theorem dX12_stands_12 : decode cX12_stands 12 = .ok (.iload_n 1, 1) := by decide +kernel
theorem dX12_stands_13 : decode cX12_stands 13 = .ok (.iaload, 1) := by decide +kernel
theorem dX12_stands_14 : decode cX12_stands 14 = .ok (.bipush 8, 2) := by decide +kernel
theorem dX12_stands_16 : decode cX12_stands 16 = .ok (.if_icmp .ne 5, 3) := by decide +kernel
theorem dX12_stands_19 : decode cX12_stands 19 = .ok (.iconst 0, 1) := by decide +kernel
theorem dX12_stands_20 : decode cX12_stands 20 = .ok (.ireturn, 1) := by decide +kernel
theorem dX12_stands_21 : decode cX12_stands 21 = .ok (.aload_n 0, 1) := by decide +kernel
theorem dX12_stands_22 : decode cX12_stands 22 = .ok (.getfield 26, 3) := by decide +kernel
theorem dX12_stands_25 : decode cX12_stands 25 = .ok (.iload_n 1, 1) := by decide +kernel
theorem dX12_stands_26 : decode cX12_stands 26 = .ok (.bipush 8, 2) := by decide +kernel
theorem dX12_stands_28 : decode cX12_stands 28 = .ok (.iastore, 1) := by decide +kernel
theorem dX12_stands_29 : decode cX12_stands 29 = .ok (.iconst 1, 1) := by decide +kernel
theorem dX12_stands_30 : decode cX12_stands 30 = .ok (.ireturn, 1) := by decide +kernel
theorem dX12_waxes_0 : decode cX12_waxes 0 = .ok (.aload_n 0, 1) := by decide +kernel
theorem dX12_waxes_1 : decode cX12_waxes 1 = .ok (.iload_n 1, 1) := by decide +kernel
theorem dX12_waxes_2 : decode cX12_waxes 2 = .ok (.invokevirtual 168, 3) := by decide +kernel
theorem dX12_waxes_5 : decode cX12_waxes 5 = .ok (.ifCond .eq 14, 3) := by decide +kernel
theorem dX12_waxes_8 : decode cX12_waxes 8 = .ok (.aload_n 0, 1) := by decide +kernel
theorem dX12_waxes_9 : decode cX12_waxes 9 = .ok (.getfield 23, 3) := by decide +kernel
theorem dX12_waxes_12 : decode cX12_waxes 12 = .ok (.iload_n 1, 1) := by decide +kernel
theorem dX12_waxes_13 : decode cX12_waxes 13 = .ok (.iaload, 1) := by decide +kernel
theorem dX12_waxes_14 : decode cX12_waxes 14 = .ok (.bipush 9, 2) := by decide +kernel
theorem dX12_waxes_16 : decode cX12_waxes 16 = .ok (.if_icmp .ne 5, 3) := by decide +kernel
theorem dX12_waxes_19 : decode cX12_waxes 19 = .ok (.iconst 0, 1) := by decide +kernel
theorem dX12_waxes_20 : decode cX12_waxes 20 = .ok (.ireturn, 1) := by decide +kernel
theorem dX12_waxes_21 : decode cX12_waxes 21 = .ok (.aload_n 0, 1) := by decide +kernel
theorem dX12_waxes_22 : decode cX12_waxes 22 = .ok (.getfield 23, 3) := by decide +kernel
theorem dX12_waxes_25 : decode cX12_waxes 25 = .ok (.iload_n 1, 1) := by decide +kernel
theorem dX12_waxes_26 : decode cX12_waxes 26 = .ok (.dup2, 1) := by decide +kernel
theorem dX12_waxes_27 : decode cX12_waxes 27 = .ok (.iaload, 1) := by decide +kernel
theorem dX12_waxes_28 : decode cX12_waxes 28 = .ok (.iconst 1, 1) := by decide +kernel
theorem dX12_waxes_29 : decode cX12_waxes 29 = .ok (.iadd, 1) := by decide +kernel
theorem dX12_waxes_30 : decode cX12_waxes 30 = .ok (.iastore, 1) := by decide +kernel
theorem dX12_waxes_31 : decode cX12_waxes 31 = .ok (.iconst 1, 1) := by decide +kernel
theorem dX12_waxes_32 : decode cX12_waxes 32 = .ok (.ireturn, 1) := by decide +kernel
theorem dX12_sets_0 : decode cX12_sets 0 = .ok (.aload_n 0, 1) := by decide +kernel
theorem dX12_sets_1 : decode cX12_sets 1 = .ok (.iload_n 1, 1) := by decide +kernel
theorem dX12_sets_2 : decode cX12_sets 2 = .ok (.invokevirtual 168, 3) := by decide +kernel
theorem dX12_sets_5 : decode cX12_sets 5 = .ok (.ifCond .eq 14, 3) := by decide +kernel
theorem dX12_sets_8 : decode cX12_sets 8 = .ok (.aload_n 0, 1) := by decide +kernel
theorem dX12_sets_9 : decode cX12_sets 9 = .ok (.getfield 183, 3) := by decide +kernel
theorem dX12_sets_12 : decode cX12_sets 12 = .ok (.iload_n 1, 1) := by decide +kernel
theorem dX12_sets_13 : decode cX12_sets 13 = .ok (.invokestatic 192, 3) := by decide +kernel
theorem dX12_sets_16 : decode cX12_sets 16 = .ok (.ifCond .ne 5, 3) := by decide +kernel
theorem dX12_sets_19 : decode cX12_sets 19 = .ok (.iconst 0, 1) := by decide +kernel
theorem dX12_sets_20 : decode cX12_sets 20 = .ok (.ireturn, 1) := by decide +kernel
theorem dX12_sets_21 : decode cX12_sets 21 = .ok (.aload_n 0, 1) := by decide +kernel
theorem dX12_sets_22 : decode cX12_sets 22 = .ok (.dup, 1) := by decide +kernel
theorem dX12_sets_23 : decode cX12_sets 23 = .ok (.getfield 183, 3) := by decide +kernel
theorem dX12_sets_26 : decode cX12_sets 26 = .ok (.iconst 1, 1) := by decide +kernel
theorem dX12_sets_27 : decode cX12_sets 27 = .ok (.iload_n 1, 1) := by decide +kernel
theorem dX12_sets_28 : decode cX12_sets 28 = .ok (.ishl, 1) := by decide +kernel
theorem dX12_sets_29 : decode cX12_sets 29 = .ok (.iconst (-1), 1) := by decide +kernel
theorem dX12_sets_30 : decode cX12_sets 30 = .ok (.ixor, 1) := by decide +kernel
theorem dX12_sets_31 : decode cX12_sets 31 = .ok (.iand, 1) := by decide +kernel
theorem dX12_sets_32 : decode cX12_sets 32 = .ok (.putfield 183, 3) := by decide +kernel
theorem dX12_sets_35 : decode cX12_sets 35 = .ok (.iconst 1, 1) := by decide +kernel
theorem dX12_sets_36 : decode cX12_sets 36 = .ok (.ireturn, 1) := by decide +kernel
theorem dX12_sits_0 : decode cX12_sits 0 = .ok (.aload_n 0, 1) := by decide +kernel
theorem dX12_sits_1 : decode cX12_sits 1 = .ok (.iload_n 1, 1) := by decide +kernel
theorem dX12_sits_2 : decode cX12_sits 2 = .ok (.invokevirtual 174, 3) := by decide +kernel
theorem dX12_sits_5 : decode cX12_sits 5 = .ok (.ifCond .eq 32, 3) := by decide +kernel
theorem dX12_sits_8 : decode cX12_sits 8 = .ok (.aload_n 0, 1) := by decide +kernel
theorem dX12_sits_9 : decode cX12_sits 9 = .ok (.iload_n 2, 1) := by decide +kernel
theorem dX12_sits_10 : decode cX12_sits 10 = .ok (.invokevirtual 168, 3) := by decide +kernel
theorem dX12_sits_13 : decode cX12_sits 13 = .ok (.ifCond .eq 24, 3) := by decide +kernel
theorem dX12_sits_16 : decode cX12_sits 16 = .ok (.aload_n 0, 1) := by decide +kernel
theorem dX12_sits_17 : decode cX12_sits 17 = .ok (.getfield 183, 3) := by decide +kernel
theorem dX12_sits_20 : decode cX12_sits 20 = .ok (.iload_n 2, 1) := by decide +kernel
theorem dX12_sits_21 : decode cX12_sits 21 = .ok (.invokestatic 192, 3) := by decide +kernel
theorem dX12_sits_24 : decode cX12_sits 24 = .ok (.ifCond .ne 13, 3) := by decide +kernel
theorem dX12_sits_27 : decode cX12_sits 27 = .ok (.aload_n 0, 1) := by decide +kernel
theorem dX12_sits_28 : decode cX12_sits 28 = .ok (.getfield 26, 3) := by decide +kernel
theorem dX12_sits_31 : decode cX12_sits 31 = .ok (.iload_n 1, 1) := by decide +kernel
theorem dX12_sits_32 : decode cX12_sits 32 = .ok (.iaload, 1) := by decide +kernel
theorem dX12_sits_33 : decode cX12_sits 33 = .ok (.iload_n 2, 1) := by decide +kernel
theorem dX12_sits_34 : decode cX12_sits 34 = .ok (.if_icmp .ne 5, 3) := by decide +kernel
theorem dX12_sits_37 : decode cX12_sits 37 = .ok (.iconst 0, 1) := by decide +kernel
theorem dX12_sits_38 : decode cX12_sits 38 = .ok (.ireturn, 1) := by decide +kernel
theorem dX12_sits_39 : decode cX12_sits 39 = .ok (.aload_n 0, 1) := by decide +kernel
theorem dX12_sits_40 : decode cX12_sits 40 = .ok (.getfield 26, 3) := by decide +kernel
theorem dX12_sits_43 : decode cX12_sits 43 = .ok (.iload_n 1, 1) := by decide +kernel
theorem dX12_sits_44 : decode cX12_sits 44 = .ok (.iload_n 2, 1) := by decide +kernel
theorem dX12_sits_45 : decode cX12_sits 45 = .ok (.iastore, 1) := by decide +kernel
theorem dX12_sits_46 : decode cX12_sits 46 = .ok (.iconst 1, 1) := by decide +kernel
theorem dX12_sits_47 : decode cX12_sits 47 = .ok (.ireturn, 1) := by decide +kernel
theorem dX12_dampens_0 : decode cX12_dampens 0 = .ok (.aload_n 0, 1) := by decide +kernel
theorem dX12_dampens_1 : decode cX12_dampens 1 = .ok (.getfield 180, 3) := by decide +kernel
theorem dX12_dampens_4 : decode cX12_dampens 4 = .ok (.iload_n 1, 1) := by decide +kernel
theorem dX12_dampens_5 : decode cX12_dampens 5 = .ok (.iadd, 1) := by decide +kernel
theorem dX12_dampens_6 : decode cX12_dampens 6 = .ok (.iconst 0, 1) := by decide +kernel
theorem dX12_dampens_7 : decode cX12_dampens 7 = .ok (.bipush 9, 2) := by decide +kernel
theorem dX12_dampens_9 : decode cX12_dampens 9 = .ok (.invokestatic 106, 3) := by decide +kernel
theorem dX12_dampens_12 : decode cX12_dampens 12 = .ok (.ifCond .ne 5, 3) := by decide +kernel
theorem dX12_dampens_15 : decode cX12_dampens 15 = .ok (.iconst 0, 1) := by decide +kernel
theorem dX12_dampens_16 : decode cX12_dampens 16 = .ok (.ireturn, 1) := by decide +kernel
theorem dX12_dampens_17 : decode cX12_dampens 17 = .ok (.aload_n 0, 1) := by decide +kernel
theorem dX12_dampens_18 : decode cX12_dampens 18 = .ok (.dup, 1) := by decide +kernel
theorem dX12_dampens_19 : decode cX12_dampens 19 = .ok (.getfield 180, 3) := by decide +kernel
theorem dX12_dampens_22 : decode cX12_dampens 22 = .ok (.iload_n 1, 1) := by decide +kernel
theorem dX12_dampens_23 : decode cX12_dampens 23 = .ok (.iadd, 1) := by decide +kernel
theorem dX12_dampens_24 : decode cX12_dampens 24 = .ok (.putfield 180, 3) := by decide +kernel
theorem dX12_dampens_27 : decode cX12_dampens 27 = .ok (.iconst 1, 1) := by decide +kernel
theorem dX12_dampens_28 : decode cX12_dampens 28 = .ok (.ireturn, 1) := by decide +kernel
