theorem dX7_seatOneBest_0 : decode cX7_seatOneBest 0 = .ok (.aload_n 0, 1) := by decide +kernel
theorem dX7_seatOneBest_1 : decode cX7_seatOneBest 1 = .ok (.getfield 18, 3) := by decide +kernel
theorem dX7_seatOneBest_4 : decode cX7_seatOneBest 4 = .ok (.aload_n 1, 1) := by decide +kernel
theorem dX7_seatOneBest_5 : decode cX7_seatOneBest 5 = .ok (.invokevirtual 22, 3) := by decide +kernel
theorem dX7_seatOneBest_8 : decode cX7_seatOneBest 8 = .ok (.aload_n 0, 1) := by decide +kernel
theorem dX7_seatOneBest_9 : decode cX7_seatOneBest 9 = .ok (.iload_n 3, 1) := by decide +kernel
theorem dX7_seatOneBest_10 : decode cX7_seatOneBest 10 = .ok (.iload_n 2, 1) := by decide +kernel
theorem dX7_seatOneBest_11 : decode cX7_seatOneBest 11 = .ok (.invokevirtual 71, 3) := by decide +kernel
theorem dX7_seatOneBest_14 : decode cX7_seatOneBest 14 = .ok (.ireturn, 1) := by decide +kernel
theorem dX11_place_0 : decode cX11_place 0 = .ok (.aload_n 0, 1) := by decide +kernel
theorem dX11_place_1 : decode cX11_place 1 = .ok (.iload_n 1, 1) := by decide +kernel
theorem dX11_place_2 : decode cX11_place 2 = .ok (.iload_n 2, 1) := by decide +kernel
theorem dX11_place_3 : decode cX11_place 3 = .ok (.invokevirtual 115, 3) := by decide +kernel
theorem dX11_place_6 : decode cX11_place 6 = .ok (.astore 5, 2) := by decide +kernel
theorem dX11_place_8 : decode cX11_place 8 = .ok (.aload 5, 2) := by decide +kernel
theorem dX11_place_10 : decode cX11_place 10 = .ok (.ifnull 12, 3) := by decide +kernel
theorem dX11_place_13 : decode cX11_place 13 = .ok (.aload 5, 2) := by decide +kernel
theorem dX11_place_15 : decode cX11_place 15 = .ok (.iload_n 3, 1) := by decide +kernel
theorem dX11_place_16 : decode cX11_place 16 = .ok (.invokevirtual 345, 3) := by decide +kernel
theorem dX11_place_19 : decode cX11_place 19 = .ok (.ifCond .ne 7, 3) := by decide +kernel
theorem dX11_place_22 : decode cX11_place 22 = .ok (.sipush (-1000), 3) := by decide +kernel
theorem dX11_place_25 : decode cX11_place 25 = .ok (.ireturn, 1) := by decide +kernel
theorem dX11_place_26 : decode cX11_place 26 = .ok (.aload_n 0, 1) := by decide +kernel
theorem dX11_place_27 : decode cX11_place 27 = .ok (.getfield 55, 3) := by decide +kernel
theorem dX11_place_30 : decode cX11_place 30 = .ok (.aload 5, 2) := by decide +kernel
theorem dX11_place_32 : decode cX11_place 32 = .ok (.iload_n 2, 1) := by decide +kernel
theorem dX11_place_33 : decode cX11_place 33 = .ok (.iload_n 3, 1) := by decide +kernel
theorem dX11_place_34 : decode cX11_place 34 = .ok (.invokevirtual 348, 3) := by decide +kernel
theorem dX11_place_37 : decode cX11_place 37 = .ok (.istore 6, 2) := by decide +kernel
theorem dX11_place_39 : decode cX11_place 39 = .ok (.iload 4, 2) := by decide +kernel
theorem dX11_place_41 : decode cX11_place 41 = .ok (.ifCond .eq 8, 3) := by decide +kernel
theorem dX11_place_44 : decode cX11_place 44 = .ok (.iload 6, 2) := by decide +kernel
theorem dX11_place_46 : decode cX11_place 46 = .ok (.goto 11, 3) := by decide +kernel
theorem dX11_place_49 : decode cX11_place 49 = .ok (.aload_n 0, 1) := by decide +kernel
theorem dX11_place_50 : decode cX11_place 50 = .ok (.getfield 55, 3) := by decide +kernel
theorem dX11_place_53 : decode cX11_place 53 = .ok (.iload_n 3, 1) := by decide +kernel
theorem dX11_place_54 : decode cX11_place 54 = .ok (.invokevirtual 277, 3) := by decide +kernel
theorem dX11_place_57 : decode cX11_place 57 = .ok (.ireturn, 1) := by decide +kernel
theorem dX3_loudestPiece_0 : decode cX3_loudestPiece 0 = .ok (.aload_n 0, 1) := by decide +kernel
theorem dX3_loudestPiece_1 : decode cX3_loudestPiece 1 = .ok (.getfield 18, 3) := by decide +kernel
theorem dX3_loudestPiece_4 : decode cX3_loudestPiece 4 = .ok (.aload_n 1, 1) := by decide +kernel
theorem dX3_loudestPiece_5 : decode cX3_loudestPiece 5 = .ok (.invokevirtual 22, 3) := by decide +kernel
theorem dX3_loudestPiece_8 : decode cX3_loudestPiece 8 = .ok (.iconst (-1), 1) := by decide +kernel
theorem dX3_loudestPiece_9 : decode cX3_loudestPiece 9 = .ok (.istore_n 3, 1) := by decide +kernel
theorem dX3_loudestPiece_10 : decode cX3_loudestPiece 10 = .ok (.iconst (-1), 1) := by decide +kernel
theorem dX3_loudestPiece_11 : decode cX3_loudestPiece 11 = .ok (.istore 4, 2) := by decide +kernel
theorem dX3_loudestPiece_13 : decode cX3_loudestPiece 13 = .ok (.iconst 0, 1) := by decide +kernel
theorem dX3_loudestPiece_14 : decode cX3_loudestPiece 14 = .ok (.istore 5, 2) := by decide +kernel
theorem dX3_loudestPiece_16 : decode cX3_loudestPiece 16 = .ok (.iload 5, 2) := by decide +kernel
theorem dX3_loudestPiece_18 : decode cX3_loudestPiece 18 = .ok (.aload_n 1, 1) := by decide +kernel
theorem dX3_loudestPiece_19 : decode cX3_loudestPiece 19 = .ok (.getfield 44, 3) := by decide +kernel
theorem dX3_loudestPiece_22 : decode cX3_loudestPiece 22 = .ok (.if_icmp .ge 35, 3) := by decide +kernel
theorem dX3_loudestPiece_25 : decode cX3_loudestPiece 25 = .ok (.aload_n 0, 1) := by decide +kernel
theorem dX3_loudestPiece_26 : decode cX3_loudestPiece 26 = .ok (.getfield 18, 3) := by decide +kernel
theorem dX3_loudestPiece_29 : decode cX3_loudestPiece 29 = .ok (.iload 5, 2) := by decide +kernel
theorem dX3_loudestPiece_31 : decode cX3_loudestPiece 31 = .ok (.iload_n 2, 1) := by decide +kernel
theorem dX3_loudestPiece_32 : decode cX3_loudestPiece 32 = .ok (.invokevirtual 93, 3) := by decide +kernel
theorem dX3_loudestPiece_35 : decode cX3_loudestPiece 35 = .ok (.istore 6, 2) := by decide +kernel
theorem dX3_loudestPiece_37 : decode cX3_loudestPiece 37 = .ok (.iload 6, 2) := by decide +kernel
theorem dX3_loudestPiece_39 : decode cX3_loudestPiece 39 = .ok (.iload 4, 2) := by decide +kernel
theorem dX3_loudestPiece_41 : decode cX3_loudestPiece 41 = .ok (.if_icmp .le 10, 3) := by decide +kernel
theorem dX3_loudestPiece_44 : decode cX3_loudestPiece 44 = .ok (.iload 6, 2) := by decide +kernel
theorem dX3_loudestPiece_46 : decode cX3_loudestPiece 46 = .ok (.istore 4, 2) := by decide +kernel
theorem dX3_loudestPiece_48 : decode cX3_loudestPiece 48 = .ok (.iload 5, 2) := by decide +kernel
theorem dX3_loudestPiece_50 : decode cX3_loudestPiece 50 = .ok (.istore_n 3, 1) := by decide +kernel
theorem dX3_loudestPiece_51 : decode cX3_loudestPiece 51 = .ok (.iinc 5 1, 3) := by decide +kernel
theorem dX3_loudestPiece_54 : decode cX3_loudestPiece 54 = .ok (.goto (-38), 3) := by decide +kernel
theorem dX3_loudestPiece_57 : decode cX3_loudestPiece 57 = .ok (.iload_n 3, 1) := by decide +kernel
theorem dX3_loudestPiece_58 : decode cX3_loudestPiece 58 = .ok (.ireturn, 1) := by decide +kernel
theorem dX3_hinges_0 : decode cX3_hinges 0 = .ok (.aload_n 0, 1) := by decide +kernel
theorem dX3_hinges_1 : decode cX3_hinges 1 = .ok (.getfield 18, 3) := by decide +kernel
theorem dX3_hinges_4 : decode cX3_hinges 4 = .ok (.aload_n 1, 1) := by decide +kernel
theorem dX3_hinges_5 : decode cX3_hinges 5 = .ok (.invokevirtual 22, 3) := by decide +kernel
theorem dX3_hinges_8 : decode cX3_hinges 8 = .ok (.aload_n 0, 1) := by decide +kernel
theorem dX3_hinges_9 : decode cX3_hinges 9 = .ok (.getfield 18, 3) := by decide +kernel
theorem dX3_hinges_12 : decode cX3_hinges 12 = .ok (.iload_n 2, 1) := by decide +kernel
theorem dX3_hinges_13 : decode cX3_hinges 13 = .ok (.invokevirtual 30, 3) := by decide +kernel
theorem dX3_hinges_16 : decode cX3_hinges 16 = .ok (.ifCond .le 7, 3) := by decide +kernel
theorem dX3_hinges_19 : decode cX3_hinges 19 = .ok (.iconst 1, 1) := by decide +kernel
theorem dX3_hinges_20 : decode cX3_hinges 20 = .ok (.goto 4, 3) := by decide +kernel
theorem dX3_hinges_23 : decode cX3_hinges 23 = .ok (.iconst 0, 1) := by decide +kernel
theorem dX3_hinges_24 : decode cX3_hinges 24 = .ok (.istore_n 3, 1) := by decide +kernel
theorem dX3_hinges_25 : decode cX3_hinges 25 = .ok (.iconst 0, 1) := by decide +kernel
theorem dX3_hinges_26 : decode cX3_hinges 26 = .ok (.istore 4, 2) := by decide +kernel
theorem dX3_hinges_28 : decode cX3_hinges 28 = .ok (.iconst 0, 1) := by decide +kernel
theorem dX3_hinges_29 : decode cX3_hinges 29 = .ok (.istore 5, 2) := by decide +kernel
theorem dX3_hinges_31 : decode cX3_hinges 31 = .ok (.iload 5, 2) := by decide +kernel
theorem dX3_hinges_33 : decode cX3_hinges 33 = .ok (.aload_n 1, 1) := by decide +kernel
theorem dX3_hinges_34 : decode cX3_hinges 34 = .ok (.getfield 44, 3) := by decide +kernel
theorem dX3_hinges_37 : decode cX3_hinges 37 = .ok (.if_icmp .ge 49, 3) := by decide +kernel
theorem dX3_hinges_40 : decode cX3_hinges 40 = .ok (.aload_n 0, 1) := by decide +kernel
theorem dX3_hinges_41 : decode cX3_hinges 41 = .ok (.getfield 18, 3) := by decide +kernel
theorem dX3_hinges_44 : decode cX3_hinges 44 = .ok (.iconst 1, 1) := by decide +kernel
theorem dX3_hinges_45 : decode cX3_hinges 45 = .ok (.iload 5, 2) := by decide +kernel
theorem dX3_hinges_47 : decode cX3_hinges 47 = .ok (.ishl, 1) := by decide +kernel
theorem dX3_hinges_48 : decode cX3_hinges 48 = .ok (.putfield 90, 3) := by decide +kernel
theorem dX3_hinges_51 : decode cX3_hinges 51 = .ok (.aload_n 0, 1) := by decide +kernel
theorem dX3_hinges_52 : decode cX3_hinges 52 = .ok (.getfield 18, 3) := by decide +kernel
theorem dX3_hinges_55 : decode cX3_hinges 55 = .ok (.iload_n 2, 1) := by decide +kernel
theorem dX3_hinges_56 : decode cX3_hinges 56 = .ok (.invokevirtual 30, 3) := by decide +kernel
theorem dX3_hinges_59 : decode cX3_hinges 59 = .ok (.ifCond .le 7, 3) := by decide +kernel
theorem dX3_hinges_62 : decode cX3_hinges 62 = .ok (.iconst 1, 1) := by decide +kernel
theorem dX3_hinges_63 : decode cX3_hinges 63 = .ok (.goto 4, 3) := by decide +kernel
theorem dX3_hinges_66 : decode cX3_hinges 66 = .ok (.iconst 0, 1) := by decide +kernel
theorem dX3_hinges_67 : decode cX3_hinges 67 = .ok (.iload_n 3, 1) := by decide +kernel
theorem dX3_hinges_68 : decode cX3_hinges 68 = .ok (.if_icmp .eq 12, 3) := by decide +kernel
theorem dX3_hinges_71 : decode cX3_hinges 71 = .ok (.iload 4, 2) := by decide +kernel
theorem dX3_hinges_73 : decode cX3_hinges 73 = .ok (.iconst 1, 1) := by decide +kernel
theorem dX3_hinges_74 : decode cX3_hinges 74 = .ok (.iload 5, 2) := by decide +kernel
theorem dX3_hinges_76 : decode cX3_hinges 76 = .ok (.ishl, 1) := by decide +kernel
theorem dX3_hinges_77 : decode cX3_hinges 77 = .ok (.ior, 1) := by decide +kernel
theorem dX3_hinges_78 : decode cX3_hinges 78 = .ok (.istore 4, 2) := by decide +kernel
theorem dX3_hinges_80 : decode cX3_hinges 80 = .ok (.iinc 5 1, 3) := by decide +kernel
theorem dX3_hinges_83 : decode cX3_hinges 83 = .ok (.goto (-52), 3) := by decide +kernel
theorem dX3_hinges_86 : decode cX3_hinges 86 = .ok (.iload 4, 2) := by decide +kernel
theorem dX3_hinges_88 : decode cX3_hinges 88 = .ok (.ireturn, 1) := by decide +kernel
theorem dX11_hinge_0 : decode cX11_hinge 0 = .ok (.aload_n 0, 1) := by decide +kernel
theorem dX11_hinge_1 : decode cX11_hinge 1 = .ok (.iload_n 1, 1) := by decide +kernel
theorem dX11_hinge_2 : decode cX11_hinge 2 = .ok (.iload_n 2, 1) := by decide +kernel
theorem dX11_hinge_3 : decode cX11_hinge 3 = .ok (.invokevirtual 115, 3) := by decide +kernel
theorem dX11_hinge_6 : decode cX11_hinge 6 = .ok (.astore 4, 2) := by decide +kernel
theorem dX11_hinge_8 : decode cX11_hinge 8 = .ok (.aload 4, 2) := by decide +kernel
theorem dX11_hinge_10 : decode cX11_hinge 10 = .ok (.ifnonnull 5, 3) := by decide +kernel
theorem dX11_hinge_13 : decode cX11_hinge 13 = .ok (.iconst (-1), 1) := by decide +kernel
theorem dX11_hinge_14 : decode cX11_hinge 14 = .ok (.ireturn, 1) := by decide +kernel
theorem dX11_hinge_15 : decode cX11_hinge 15 = .ok (.iload_n 3, 1) := by decide +kernel
theorem dX11_hinge_16 : decode cX11_hinge 16 = .ok (.ifCond .eq 16, 3) := by decide +kernel
theorem dX11_hinge_19 : decode cX11_hinge 19 = .ok (.aload_n 0, 1) := by decide +kernel
theorem dX11_hinge_20 : decode cX11_hinge 20 = .ok (.getfield 62, 3) := by decide +kernel
theorem dX11_hinge_23 : decode cX11_hinge 23 = .ok (.aload 4, 2) := by decide +kernel
theorem dX11_hinge_25 : decode cX11_hinge 25 = .ok (.iload_n 2, 1) := by decide +kernel
theorem dX11_hinge_26 : decode cX11_hinge 26 = .ok (.invokevirtual 351, 3) := by decide +kernel
theorem dX11_hinge_29 : decode cX11_hinge 29 = .ok (.goto 13, 3) := by decide +kernel
theorem dX11_hinge_32 : decode cX11_hinge 32 = .ok (.aload_n 0, 1) := by decide +kernel
theorem dX11_hinge_33 : decode cX11_hinge 33 = .ok (.getfield 62, 3) := by decide +kernel
theorem dX11_hinge_36 : decode cX11_hinge 36 = .ok (.aload 4, 2) := by decide +kernel
theorem dX11_hinge_38 : decode cX11_hinge 38 = .ok (.iload_n 2, 1) := by decide +kernel
theorem dX11_hinge_39 : decode cX11_hinge 39 = .ok (.invokevirtual 354, 3) := by decide +kernel
theorem dX11_hinge_42 : decode cX11_hinge 42 = .ok (.ireturn, 1) := by decide +kernel
theorem dX11_count_0 : decode cX11_count 0 = .ok (.iload_n 1, 1) := by decide +kernel
theorem dX11_count_1 : decode cX11_count 1 = .ok (.ifCond .lt 8, 3) := by decide +kernel
theorem dX11_count_4 : decode cX11_count 4 = .ok (.iload_n 1, 1) := by decide +kernel
theorem dX11_count_5 : decode cX11_count 5 = .ok (.iconst 3, 1) := by decide +kernel
theorem dX11_count_6 : decode cX11_count 6 = .ok (.if_icmp .lt 8, 3) := by decide +kernel
theorem dX11_count_9 : decode cX11_count 9 = .ok (.bipush (-2), 2) := by decide +kernel
theorem dX11_count_11 : decode cX11_count 11 = .ok (.goto 12, 3) := by decide +kernel
theorem dX11_count_14 : decode cX11_count 14 = .ok (.aload_n 0, 1) := by decide +kernel
theorem dX11_count_15 : decode cX11_count 15 = .ok (.getfield 10, 3) := by decide +kernel
theorem dX11_count_18 : decode cX11_count 18 = .ok (.getfield 357, 3) := by decide +kernel
theorem dX11_count_21 : decode cX11_count 21 = .ok (.iload_n 1, 1) := by decide +kernel
theorem dX11_count_22 : decode cX11_count 22 = .ok (.iaload, 1) := by decide +kernel
theorem dX11_count_23 : decode cX11_count 23 = .ok (.ireturn, 1) := by decide +kernel
theorem dX9_copyFrom_0 : decode cX9_copyFrom 0 = .ok (.aload_n 1, 1) := by decide +kernel
theorem dX9_copyFrom_1 : decode cX9_copyFrom 1 = .ok (.getfield 9, 3) := by decide +kernel
theorem dX9_copyFrom_4 : decode cX9_copyFrom 4 = .ok (.iconst 0, 1) := by decide +kernel
theorem dX9_copyFrom_5 : decode cX9_copyFrom 5 = .ok (.aload_n 0, 1) := by decide +kernel
theorem dX9_copyFrom_6 : decode cX9_copyFrom 6 = .ok (.getfield 9, 3) := by decide +kernel
theorem dX9_copyFrom_9 : decode cX9_copyFrom 9 = .ok (.iconst 0, 1) := by decide +kernel
theorem dX9_copyFrom_10 : decode cX9_copyFrom 10 = .ok (.sipush 600, 3) := by decide +kernel
theorem dX9_copyFrom_13 : decode cX9_copyFrom 13 = .ok (.invokestatic 81, 3) := by decide +kernel
theorem dX9_copyFrom_16 : decode cX9_copyFrom 16 = .ok (.aload_n 0, 1) := by decide +kernel
theorem dX9_copyFrom_17 : decode cX9_copyFrom 17 = .ok (.aload_n 1, 1) := by decide +kernel
theorem dX9_copyFrom_18 : decode cX9_copyFrom 18 = .ok (.getfield 44, 3) := by decide +kernel
theorem dX9_copyFrom_21 : decode cX9_copyFrom 21 = .ok (.putfield 44, 3) := by decide +kernel
theorem dX9_copyFrom_24 : decode cX9_copyFrom 24 = .ok (.aload_n 0, 1) := by decide +kernel
theorem dX9_copyFrom_25 : decode cX9_copyFrom 25 = .ok (.aload_n 1, 1) := by decide +kernel
theorem dX9_copyFrom_26 : decode cX9_copyFrom 26 = .ok (.getfield 87, 3) := by decide +kernel
theorem dX9_copyFrom_29 : decode cX9_copyFrom 29 = .ok (.putfield 87, 3) := by decide +kernel
theorem dX9_copyFrom_32 : decode cX9_copyFrom 32 = .ok (.aload_n 0, 1) := by decide +kernel
theorem dX9_copyFrom_33 : decode cX9_copyFrom 33 = .ok (.aload_n 1, 1) := by decide +kernel
theorem dX9_copyFrom_34 : decode cX9_copyFrom 34 = .ok (.getfield 15, 3) := by decide +kernel
theorem dX9_copyFrom_37 : decode cX9_copyFrom 37 = .ok (.putfield 15, 3) := by decide +kernel
theorem dX9_copyFrom_40 : decode cX9_copyFrom 40 = .ok (.aload_n 1, 1) := by decide +kernel
theorem dX9_copyFrom_41 : decode cX9_copyFrom 41 = .ok (.getfield 19, 3) := by decide +kernel
theorem dX9_copyFrom_44 : decode cX9_copyFrom 44 = .ok (.iconst 0, 1) := by decide +kernel
theorem dX9_copyFrom_45 : decode cX9_copyFrom 45 = .ok (.aload_n 0, 1) := by decide +kernel
theorem dX9_copyFrom_46 : decode cX9_copyFrom 46 = .ok (.getfield 19, 3) := by decide +kernel
theorem dX9_copyFrom_49 : decode cX9_copyFrom 49 = .ok (.iconst 0, 1) := by decide +kernel
theorem dX9_copyFrom_50 : decode cX9_copyFrom 50 = .ok (.iconst 3, 1) := by decide +kernel
theorem dX9_copyFrom_51 : decode cX9_copyFrom 51 = .ok (.invokestatic 81, 3) := by decide +kernel
theorem dX9_copyFrom_54 : decode cX9_copyFrom 54 = .ok (.iconst 0, 1) := by decide +kernel
theorem dX9_copyFrom_55 : decode cX9_copyFrom 55 = .ok (.istore_n 2, 1) := by decide +kernel
theorem dX9_copyFrom_56 : decode cX9_copyFrom 56 = .ok (.iload_n 2, 1) := by decide +kernel
theorem dX9_copyFrom_57 : decode cX9_copyFrom 57 = .ok (.iconst 2, 1) := by decide +kernel
theorem dX9_copyFrom_58 : decode cX9_copyFrom 58 = .ok (.if_icmp .ge 54, 3) := by decide +kernel
theorem dX9_copyFrom_61 : decode cX9_copyFrom 61 = .ok (.aload_n 0, 1) := by decide +kernel
theorem dX9_copyFrom_62 : decode cX9_copyFrom 62 = .ok (.getfield 25, 3) := by decide +kernel
theorem dX9_copyFrom_65 : decode cX9_copyFrom 65 = .ok (.iload_n 2, 1) := by decide +kernel
theorem dX9_copyFrom_66 : decode cX9_copyFrom 66 = .ok (.aaload, 1) := by decide +kernel
theorem dX9_copyFrom_67 : decode cX9_copyFrom 67 = .ok (.aload_n 1, 1) := by decide +kernel
theorem dX9_copyFrom_68 : decode cX9_copyFrom 68 = .ok (.getfield 25, 3) := by decide +kernel
theorem dX9_copyFrom_71 : decode cX9_copyFrom 71 = .ok (.iload_n 2, 1) := by decide +kernel
theorem dX9_copyFrom_72 : decode cX9_copyFrom 72 = .ok (.aaload, 1) := by decide +kernel
theorem dX9_copyFrom_73 : decode cX9_copyFrom 73 = .ok (.invokevirtual 53, 3) := by decide +kernel
theorem dX9_copyFrom_76 : decode cX9_copyFrom 76 = .ok (.aload_n 0, 1) := by decide +kernel
theorem dX9_copyFrom_77 : decode cX9_copyFrom 77 = .ok (.getfield 31, 3) := by decide +kernel
theorem dX9_copyFrom_80 : decode cX9_copyFrom 80 = .ok (.iload_n 2, 1) := by decide +kernel
theorem dX9_copyFrom_81 : decode cX9_copyFrom 81 = .ok (.aaload, 1) := by decide +kernel
theorem dX9_copyFrom_82 : decode cX9_copyFrom 82 = .ok (.aload_n 1, 1) := by decide +kernel
theorem dX9_copyFrom_83 : decode cX9_copyFrom 83 = .ok (.getfield 31, 3) := by decide +kernel
theorem dX9_copyFrom_86 : decode cX9_copyFrom 86 = .ok (.iload_n 2, 1) := by decide +kernel
theorem dX9_copyFrom_87 : decode cX9_copyFrom 87 = .ok (.aaload, 1) := by decide +kernel
theorem dX9_copyFrom_88 : decode cX9_copyFrom 88 = .ok (.invokevirtual 61, 3) := by decide +kernel
theorem dX9_copyFrom_91 : decode cX9_copyFrom 91 = .ok (.aload_n 0, 1) := by decide +kernel
theorem dX9_copyFrom_92 : decode cX9_copyFrom 92 = .ok (.getfield 37, 3) := by decide +kernel
theorem dX9_copyFrom_95 : decode cX9_copyFrom 95 = .ok (.iload_n 2, 1) := by decide +kernel
theorem dX9_copyFrom_96 : decode cX9_copyFrom 96 = .ok (.aaload, 1) := by decide +kernel
theorem dX9_copyFrom_97 : decode cX9_copyFrom 97 = .ok (.aload_n 1, 1) := by decide +kernel
theorem dX9_copyFrom_98 : decode cX9_copyFrom 98 = .ok (.getfield 37, 3) := by decide +kernel
theorem dX9_copyFrom_101 : decode cX9_copyFrom 101 = .ok (.iload_n 2, 1) := by decide +kernel
theorem dX9_copyFrom_102 : decode cX9_copyFrom 102 = .ok (.aaload, 1) := by decide +kernel
theorem dX9_copyFrom_103 : decode cX9_copyFrom 103 = .ok (.invokevirtual 68, 3) := by decide +kernel
theorem dX9_copyFrom_106 : decode cX9_copyFrom 106 = .ok (.iinc 2 1, 3) := by decide +kernel
theorem dX9_copyFrom_109 : decode cX9_copyFrom 109 = .ok (.goto (-53), 3) := by decide +kernel
theorem dX9_copyFrom_112 : decode cX9_copyFrom 112 = .ok (.return_, 1) := by decide +kernel
theorem dX11_image_0 : decode cX11_image 0 = .ok (.iload_n 1, 1) := by decide +kernel
theorem dX11_image_1 : decode cX11_image 1 = .ok (.ifCond .lt 8, 3) := by decide +kernel
theorem dX11_image_4 : decode cX11_image 4 = .ok (.iload_n 1, 1) := by decide +kernel
theorem dX11_image_5 : decode cX11_image 5 = .ok (.iconst 3, 1) := by decide +kernel
theorem dX11_image_6 : decode cX11_image 6 = .ok (.if_icmp .lt 5, 3) := by decide +kernel
theorem dX11_image_9 : decode cX11_image 9 = .ok (.iconst 0, 1) := by decide +kernel
theorem dX11_image_10 : decode cX11_image 10 = .ok (.ireturn, 1) := by decide +kernel
theorem dX11_image_11 : decode cX11_image 11 = .ok (.aload_n 0, 1) := by decide +kernel
theorem dX11_image_12 : decode cX11_image 12 = .ok (.getfield 16, 3) := by decide +kernel
theorem dX11_image_15 : decode cX11_image 15 = .ok (.iload_n 1, 1) := by decide +kernel
theorem dX11_image_16 : decode cX11_image 16 = .ok (.aaload, 1) := by decide +kernel
theorem dX11_image_17 : decode cX11_image 17 = .ok (.aload_n 0, 1) := by decide +kernel
theorem dX11_image_18 : decode cX11_image 18 = .ok (.getfield 10, 3) := by decide +kernel
theorem dX11_image_21 : decode cX11_image 21 = .ok (.invokevirtual 360, 3) := by decide +kernel
theorem dX11_image_24 : decode cX11_image 24 = .ok (.aload_n 0, 1) := by decide +kernel
theorem dX11_image_25 : decode cX11_image 25 = .ok (.getfield 20, 3) := by decide +kernel
theorem dX11_image_28 : decode cX11_image 28 = .ok (.iload_n 1, 1) := by decide +kernel
theorem dX11_image_29 : decode cX11_image 29 = .ok (.iconst 1, 1) := by decide +kernel
theorem dX11_image_30 : decode cX11_image 30 = .ok (.bastore, 1) := by decide +kernel
theorem dX11_image_31 : decode cX11_image 31 = .ok (.iconst 1, 1) := by decide +kernel
theorem dX11_image_32 : decode cX11_image 32 = .ok (.ireturn, 1) := by decide +kernel
theorem dX11_again_0 : decode cX11_again 0 = .ok (.iload_n 1, 1) := by decide +kernel
theorem dX11_again_1 : decode cX11_again 1 = .ok (.ifCond .lt 17, 3) := by decide +kernel
theorem dX11_again_4 : decode cX11_again 4 = .ok (.iload_n 1, 1) := by decide +kernel
theorem dX11_again_5 : decode cX11_again 5 = .ok (.iconst 3, 1) := by decide +kernel
theorem dX11_again_6 : decode cX11_again 6 = .ok (.if_icmp .ge 12, 3) := by decide +kernel
theorem dX11_again_9 : decode cX11_again 9 = .ok (.aload_n 0, 1) := by decide +kernel
theorem dX11_again_10 : decode cX11_again 10 = .ok (.getfield 20, 3) := by decide +kernel
theorem dX11_again_13 : decode cX11_again 13 = .ok (.iload_n 1, 1) := by decide +kernel
theorem dX11_again_14 : decode cX11_again 14 = .ok (.baload, 1) := by decide +kernel
theorem dX11_again_15 : decode cX11_again 15 = .ok (.ifCond .ne 5, 3) := by decide +kernel
theorem dX11_again_18 : decode cX11_again 18 = .ok (.iconst 0, 1) := by decide +kernel
theorem dX11_again_19 : decode cX11_again 19 = .ok (.ireturn, 1) := by decide +kernel
theorem dX11_again_20 : decode cX11_again 20 = .ok (.aload_n 0, 1) := by decide +kernel
theorem dX11_again_21 : decode cX11_again 21 = .ok (.getfield 10, 3) := by decide +kernel
theorem dX11_again_24 : decode cX11_again 24 = .ok (.aload_n 0, 1) := by decide +kernel
theorem dX11_again_25 : decode cX11_again 25 = .ok (.getfield 16, 3) := by decide +kernel
theorem dX11_again_28 : decode cX11_again 28 = .ok (.iload_n 1, 1) := by decide +kernel
theorem dX11_again_29 : decode cX11_again 29 = .ok (.aaload, 1) := by decide +kernel
theorem dX11_again_30 : decode cX11_again 30 = .ok (.invokevirtual 360, 3) := by decide +kernel
theorem dX11_again_33 : decode cX11_again 33 = .ok (.iconst 1, 1) := by decide +kernel
theorem dX11_again_34 : decode cX11_again 34 = .ok (.ireturn, 1) := by decide +kernel
