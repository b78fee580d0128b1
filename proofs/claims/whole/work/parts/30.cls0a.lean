theorem dX9_append_0 : decode cX9_append 0 = .ok (.bipush 24, 2) := by decide +kernel
theorem dX9_append_2 : decode cX9_append 2 = .ok (.istore_n 2, 1) := by decide +kernel
theorem dX9_append_3 : decode cX9_append 3 = .ok (.iload_n 2, 1) := by decide +kernel
theorem dX9_append_4 : decode cX9_append 4 = .ok (.ifCond .lt 51, 3) := by decide +kernel
theorem dX9_append_7 : decode cX9_append 7 = .ok (.aload_n 0, 1) := by decide +kernel
theorem dX9_append_8 : decode cX9_append 8 = .ok (.getfield 44, 3) := by decide +kernel
theorem dX9_append_11 : decode cX9_append 11 = .ok (.ifCond .lt 38, 3) := by decide +kernel
theorem dX9_append_14 : decode cX9_append 14 = .ok (.aload_n 0, 1) := by decide +kernel
theorem dX9_append_15 : decode cX9_append 15 = .ok (.getfield 44, 3) := by decide +kernel
theorem dX9_append_18 : decode cX9_append 18 = .ok (.aload_n 0, 1) := by decide +kernel
theorem dX9_append_19 : decode cX9_append 19 = .ok (.getfield 9, 3) := by decide +kernel
theorem dX9_append_22 : decode cX9_append 22 = .ok (.arraylength, 1) := by decide +kernel
theorem dX9_append_23 : decode cX9_append 23 = .ok (.if_icmp .ge 26, 3) := by decide +kernel
theorem dX9_append_26 : decode cX9_append 26 = .ok (.aload_n 0, 1) := by decide +kernel
theorem dX9_append_27 : decode cX9_append 27 = .ok (.getfield 9, 3) := by decide +kernel
theorem dX9_append_30 : decode cX9_append 30 = .ok (.aload_n 0, 1) := by decide +kernel
theorem dX9_append_31 : decode cX9_append 31 = .ok (.getfield 44, 3) := by decide +kernel
theorem dX9_append_34 : decode cX9_append 34 = .ok (.iload_n 1, 1) := by decide +kernel
theorem dX9_append_35 : decode cX9_append 35 = .ok (.iload_n 2, 1) := by decide +kernel
theorem dX9_append_36 : decode cX9_append 36 = .ok (.ishr, 1) := by decide +kernel
theorem dX9_append_37 : decode cX9_append 37 = .ok (.i2b, 1) := by decide +kernel
theorem dX9_append_38 : decode cX9_append 38 = .ok (.bastore, 1) := by decide +kernel
theorem dX9_append_39 : decode cX9_append 39 = .ok (.aload_n 0, 1) := by decide +kernel
theorem dX9_append_40 : decode cX9_append 40 = .ok (.dup, 1) := by decide +kernel
theorem dX9_append_41 : decode cX9_append 41 = .ok (.getfield 44, 3) := by decide +kernel
theorem dX9_append_44 : decode cX9_append 44 = .ok (.iconst 1, 1) := by decide +kernel
theorem dX9_append_45 : decode cX9_append 45 = .ok (.iadd, 1) := by decide +kernel
theorem dX9_append_46 : decode cX9_append 46 = .ok (.putfield 44, 3) := by decide +kernel
theorem dX9_append_49 : decode cX9_append 49 = .ok (.iinc 2 (-8), 3) := by decide +kernel
theorem dX9_append_52 : decode cX9_append 52 = .ok (.goto (-49), 3) := by decide +kernel
theorem dX9_append_55 : decode cX9_append 55 = .ok (.return_, 1) := by decide +kernel
theorem dX11_feed_0 : decode cX11_feed 0 = .ok (.aload_n 0, 1) := by decide +kernel
theorem dX11_feed_1 : decode cX11_feed 1 = .ok (.getfield 10, 3) := by decide +kernel
theorem dX11_feed_4 : decode cX11_feed 4 = .ok (.getfield 73, 3) := by decide +kernel
theorem dX11_feed_7 : decode cX11_feed 7 = .ok (.bipush 20, 2) := by decide +kernel
theorem dX11_feed_9 : decode cX11_feed 9 = .ok (.iadd, 1) := by decide +kernel
theorem dX11_feed_10 : decode cX11_feed 10 = .ok (.sipush 600, 3) := by decide +kernel
theorem dX11_feed_13 : decode cX11_feed 13 = .ok (.if_icmp .le 5, 3) := by decide +kernel
theorem dX11_feed_16 : decode cX11_feed 16 = .ok (.iconst (-1), 1) := by decide +kernel
theorem dX11_feed_17 : decode cX11_feed 17 = .ok (.ireturn, 1) := by decide +kernel
theorem dX11_feed_18 : decode cX11_feed 18 = .ok (.aload_n 0, 1) := by decide +kernel
theorem dX11_feed_19 : decode cX11_feed 19 = .ok (.getfield 10, 3) := by decide +kernel
theorem dX11_feed_22 : decode cX11_feed 22 = .ok (.iload_n 1, 1) := by decide +kernel
theorem dX11_feed_23 : decode cX11_feed 23 = .ok (.invokevirtual 77, 3) := by decide +kernel
theorem dX11_feed_26 : decode cX11_feed 26 = .ok (.aload_n 0, 1) := by decide +kernel
theorem dX11_feed_27 : decode cX11_feed 27 = .ok (.getfield 10, 3) := by decide +kernel
theorem dX11_feed_30 : decode cX11_feed 30 = .ok (.iload_n 2, 1) := by decide +kernel
theorem dX11_feed_31 : decode cX11_feed 31 = .ok (.invokevirtual 77, 3) := by decide +kernel
theorem dX11_feed_34 : decode cX11_feed 34 = .ok (.aload_n 0, 1) := by decide +kernel
theorem dX11_feed_35 : decode cX11_feed 35 = .ok (.getfield 10, 3) := by decide +kernel
theorem dX11_feed_38 : decode cX11_feed 38 = .ok (.iload_n 3, 1) := by decide +kernel
theorem dX11_feed_39 : decode cX11_feed 39 = .ok (.invokevirtual 77, 3) := by decide +kernel
theorem dX11_feed_42 : decode cX11_feed 42 = .ok (.aload_n 0, 1) := by decide +kernel
theorem dX11_feed_43 : decode cX11_feed 43 = .ok (.getfield 10, 3) := by decide +kernel
theorem dX11_feed_46 : decode cX11_feed 46 = .ok (.iload 4, 2) := by decide +kernel
theorem dX11_feed_48 : decode cX11_feed 48 = .ok (.invokevirtual 77, 3) := by decide +kernel
theorem dX11_feed_51 : decode cX11_feed 51 = .ok (.aload_n 0, 1) := by decide +kernel
theorem dX11_feed_52 : decode cX11_feed 52 = .ok (.getfield 10, 3) := by decide +kernel
theorem dX11_feed_55 : decode cX11_feed 55 = .ok (.iload 5, 2) := by decide +kernel
theorem dX11_feed_57 : decode cX11_feed 57 = .ok (.invokevirtual 77, 3) := by decide +kernel
theorem dX11_feed_60 : decode cX11_feed 60 = .ok (.aload_n 0, 1) := by decide +kernel
theorem dX11_feed_61 : decode cX11_feed 61 = .ok (.getfield 10, 3) := by decide +kernel
theorem dX11_feed_64 : decode cX11_feed 64 = .ok (.getfield 73, 3) := by decide +kernel
theorem dX11_feed_67 : decode cX11_feed 67 = .ok (.ireturn, 1) := by decide +kernel
theorem dX11_end_0 : decode cX11_end 0 = .ok (.iload_n 1, 1) := by decide +kernel
theorem dX11_end_1 : decode cX11_end 1 = .ok (.ifCond .lt 14, 3) := by decide +kernel
theorem dX11_end_4 : decode cX11_end 4 = .ok (.iload_n 1, 1) := by decide +kernel
theorem dX11_end_5 : decode cX11_end 5 = .ok (.aload_n 0, 1) := by decide +kernel
theorem dX11_end_6 : decode cX11_end 6 = .ok (.getfield 10, 3) := by decide +kernel
theorem dX11_end_9 : decode cX11_end 9 = .ok (.getfield 73, 3) := by decide +kernel
theorem dX11_end_12 : decode cX11_end 12 = .ok (.if_icmp .le 5, 3) := by decide +kernel
theorem dX11_end_15 : decode cX11_end 15 = .ok (.iconst (-1), 1) := by decide +kernel
theorem dX11_end_16 : decode cX11_end 16 = .ok (.ireturn, 1) := by decide +kernel
theorem dX11_end_17 : decode cX11_end 17 = .ok (.aload_n 0, 1) := by decide +kernel
theorem dX11_end_18 : decode cX11_end 18 = .ok (.getfield 10, 3) := by decide +kernel
theorem dX11_end_21 : decode cX11_end 21 = .ok (.iload_n 1, 1) := by decide +kernel
theorem dX11_end_22 : decode cX11_end 22 = .ok (.putfield 73, 3) := by decide +kernel
theorem dX11_end_25 : decode cX11_end 25 = .ok (.iload_n 1, 1) := by decide +kernel
theorem dX11_end_26 : decode cX11_end 26 = .ok (.ireturn, 1) := by decide +kernel
theorem dX9_numberFor_0 : decode cX9_numberFor 0 = .ok (.iload_n 1, 1) := by decide +kernel
theorem dX9_numberFor_1 : decode cX9_numberFor 1 = .ok (.ifCond .lt 8, 3) := by decide +kernel
theorem dX9_numberFor_4 : decode cX9_numberFor 4 = .ok (.iload_n 1, 1) := by decide +kernel
theorem dX9_numberFor_5 : decode cX9_numberFor 5 = .ok (.iconst 3, 1) := by decide +kernel
theorem dX9_numberFor_6 : decode cX9_numberFor 6 = .ok (.if_icmp .lt 5, 3) := by decide +kernel
theorem dX9_numberFor_9 : decode cX9_numberFor 9 = .ok (.iconst (-1), 1) := by decide +kernel
theorem dX9_numberFor_10 : decode cX9_numberFor 10 = .ok (.ireturn, 1) := by decide +kernel
theorem dX9_numberFor_11 : decode cX9_numberFor 11 = .ok (.aload_n 0, 1) := by decide +kernel
theorem dX9_numberFor_12 : decode cX9_numberFor 12 = .ok (.getfield 19, 3) := by decide +kernel
theorem dX9_numberFor_15 : decode cX9_numberFor 15 = .ok (.iload_n 1, 1) := by decide +kernel
theorem dX9_numberFor_16 : decode cX9_numberFor 16 = .ok (.iaload, 1) := by decide +kernel
theorem dX9_numberFor_17 : decode cX9_numberFor 17 = .ok (.istore_n 3, 1) := by decide +kernel
theorem dX9_numberFor_18 : decode cX9_numberFor 18 = .ok (.iload_n 2, 1) := by decide +kernel
theorem dX9_numberFor_19 : decode cX9_numberFor 19 = .ok (.iconst (-1), 1) := by decide +kernel
theorem dX9_numberFor_20 : decode cX9_numberFor 20 = .ok (.if_icmp .ne 14, 3) := by decide +kernel
theorem dX9_numberFor_23 : decode cX9_numberFor 23 = .ok (.iload_n 3, 1) := by decide +kernel
theorem dX9_numberFor_24 : decode cX9_numberFor 24 = .ok (.iconst 2, 1) := by decide +kernel
theorem dX9_numberFor_25 : decode cX9_numberFor 25 = .ok (.if_icmp .ge 7, 3) := by decide +kernel
theorem dX9_numberFor_28 : decode cX9_numberFor 28 = .ok (.iload_n 3, 1) := by decide +kernel
theorem dX9_numberFor_29 : decode cX9_numberFor 29 = .ok (.goto 4, 3) := by decide +kernel
theorem dX9_numberFor_32 : decode cX9_numberFor 32 = .ok (.iconst (-1), 1) := by decide +kernel
theorem dX9_numberFor_33 : decode cX9_numberFor 33 = .ok (.ireturn, 1) := by decide +kernel
theorem dX9_numberFor_34 : decode cX9_numberFor 34 = .ok (.iload_n 2, 1) := by decide +kernel
theorem dX9_numberFor_35 : decode cX9_numberFor 35 = .ok (.ifCond .lt 12, 3) := by decide +kernel
theorem dX9_numberFor_38 : decode cX9_numberFor 38 = .ok (.iload_n 2, 1) := by decide +kernel
theorem dX9_numberFor_39 : decode cX9_numberFor 39 = .ok (.iload_n 3, 1) := by decide +kernel
theorem dX9_numberFor_40 : decode cX9_numberFor 40 = .ok (.if_icmp .ge 7, 3) := by decide +kernel
theorem dX9_numberFor_43 : decode cX9_numberFor 43 = .ok (.iload_n 2, 1) := by decide +kernel
theorem dX9_numberFor_44 : decode cX9_numberFor 44 = .ok (.goto 4, 3) := by decide +kernel
theorem dX9_numberFor_47 : decode cX9_numberFor 47 = .ok (.iconst (-1), 1) := by decide +kernel
theorem dX9_numberFor_48 : decode cX9_numberFor 48 = .ok (.ireturn, 1) := by decide +kernel
theorem dX0_empty_0 : decode cX0_empty 0 = .ok (.aload_n 0, 1) := by decide +kernel
theorem dX0_empty_1 : decode cX0_empty 1 = .ok (.iconst 0, 1) := by decide +kernel
theorem dX0_empty_2 : decode cX0_empty 2 = .ok (.putfield 40, 3) := by decide +kernel
theorem dX0_empty_5 : decode cX0_empty 5 = .ok (.aload_n 0, 1) := by decide +kernel
theorem dX0_empty_6 : decode cX0_empty 6 = .ok (.iconst 0, 1) := by decide +kernel
theorem dX0_empty_7 : decode cX0_empty 7 = .ok (.putfield 43, 3) := by decide +kernel
theorem dX0_empty_10 : decode cX0_empty 10 = .ok (.aload_n 0, 1) := by decide +kernel
theorem dX0_empty_11 : decode cX0_empty 11 = .ok (.iconst 3, 1) := by decide +kernel
theorem dX0_empty_12 : decode cX0_empty 12 = .ok (.putfield 9, 3) := by decide +kernel
theorem dX0_empty_15 : decode cX0_empty 15 = .ok (.return_, 1) := by decide +kernel
theorem dX8_empty_0 : decode cX8_empty 0 = .ok (.aload_n 0, 1) := by decide +kernel
theorem dX8_empty_1 : decode cX8_empty 1 = .ok (.iconst 0, 1) := by decide +kernel
theorem dX8_empty_2 : decode cX8_empty 2 = .ok (.putfield 21, 3) := by decide +kernel
theorem dX8_empty_5 : decode cX8_empty 5 = .ok (.return_, 1) := by decide +kernel
theorem dX4_empty_0 : decode cX4_empty 0 = .ok (.aload_n 0, 1) := by decide +kernel
theorem dX4_empty_1 : decode cX4_empty 1 = .ok (.iconst 0, 1) := by decide +kernel
theorem dX4_empty_2 : decode cX4_empty 2 = .ok (.putfield 24, 3) := by decide +kernel
theorem dX4_empty_5 : decode cX4_empty 5 = .ok (.return_, 1) := by decide +kernel
theorem dX6_isBlank_0 : decode cX6_isBlank 0 = .ok (.iload_n 0, 1) := by decide +kernel
theorem dX6_isBlank_1 : decode cX6_isBlank 1 = .ok (.bipush 10, 2) := by decide +kernel
theorem dX6_isBlank_3 : decode cX6_isBlank 3 = .ok (.if_icmp .eq 9, 3) := by decide +kernel
theorem dX6_isBlank_6 : decode cX6_isBlank 6 = .ok (.iload_n 0, 1) := by decide +kernel
theorem dX6_isBlank_7 : decode cX6_isBlank 7 = .ok (.bipush 32, 2) := by decide +kernel
theorem dX6_isBlank_9 : decode cX6_isBlank 9 = .ok (.if_icmp .ne 7, 3) := by decide +kernel
theorem dX6_isBlank_12 : decode cX6_isBlank 12 = .ok (.iconst 1, 1) := by decide +kernel
theorem dX6_isBlank_13 : decode cX6_isBlank 13 = .ok (.goto 4, 3) := by decide +kernel
theorem dX6_isBlank_16 : decode cX6_isBlank 16 = .ok (.iconst 0, 1) := by decide +kernel
theorem dX6_isBlank_17 : decode cX6_isBlank 17 = .ok (.ireturn, 1) := by decide +kernel
theorem dX6_isLetter_0 : decode cX6_isLetter 0 = .ok (.iload_n 0, 1) := by decide +kernel
theorem dX6_isLetter_1 : decode cX6_isLetter 1 = .ok (.bipush 97, 2) := by decide +kernel
theorem dX6_isLetter_3 : decode cX6_isLetter 3 = .ok (.if_icmp .lt 13, 3) := by decide +kernel
theorem dX6_isLetter_6 : decode cX6_isLetter 6 = .ok (.iload_n 0, 1) := by decide +kernel
theorem dX6_isLetter_7 : decode cX6_isLetter 7 = .ok (.bipush 122, 2) := by decide +kernel
theorem dX6_isLetter_9 : decode cX6_isLetter 9 = .ok (.if_icmp .gt 7, 3) := by decide +kernel
theorem dX6_isLetter_12 : decode cX6_isLetter 12 = .ok (.iconst 1, 1) := by decide +kernel
theorem dX6_isLetter_13 : decode cX6_isLetter 13 = .ok (.goto 4, 3) := by decide +kernel
theorem dX6_isLetter_16 : decode cX6_isLetter 16 = .ok (.iconst 0, 1) := by decide +kernel
theorem dX6_isLetter_17 : decode cX6_isLetter 17 = .ok (.ireturn, 1) := by decide +kernel
theorem dX6_isDigit_0 : decode cX6_isDigit 0 = .ok (.iload_n 0, 1) := by decide +kernel
theorem dX6_isDigit_1 : decode cX6_isDigit 1 = .ok (.bipush 48, 2) := by decide +kernel
theorem dX6_isDigit_3 : decode cX6_isDigit 3 = .ok (.if_icmp .lt 13, 3) := by decide +kernel
theorem dX6_isDigit_6 : decode cX6_isDigit 6 = .ok (.iload_n 0, 1) := by decide +kernel
theorem dX6_isDigit_7 : decode cX6_isDigit 7 = .ok (.bipush 57, 2) := by decide +kernel
theorem dX6_isDigit_9 : decode cX6_isDigit 9 = .ok (.if_icmp .gt 7, 3) := by decide +kernel
theorem dX6_isDigit_12 : decode cX6_isDigit 12 = .ok (.iconst 1, 1) := by decide +kernel
theorem dX6_isDigit_13 : decode cX6_isDigit 13 = .ok (.goto 4, 3) := by decide +kernel
theorem dX6_isDigit_16 : decode cX6_isDigit 16 = .ok (.iconst 0, 1) := by decide +kernel
theorem dX6_isDigit_17 : decode cX6_isDigit 17 = .ok (.ireturn, 1) := by decide +kernel
theorem dX6_takeDigits_0 : decode cX6_takeDigits 0 = .ok (.aload_n 0, 1) := by decide +kernel
theorem dX6_takeDigits_1 : decode cX6_takeDigits 1 = .ok (.iload_n 1, 1) := by decide +kernel
theorem dX6_takeDigits_2 : decode cX6_takeDigits 2 = .ok (.putfield 111, 3) := by decide +kernel
theorem dX6_takeDigits_5 : decode cX6_takeDigits 5 = .ok (.aload_n 0, 1) := by decide +kernel
theorem dX6_takeDigits_6 : decode cX6_takeDigits 6 = .ok (.getfield 61, 3) := by decide +kernel
theorem dX6_takeDigits_9 : decode cX6_takeDigits 9 = .ok (.aload_n 0, 1) := by decide +kernel
theorem dX6_takeDigits_10 : decode cX6_takeDigits 10 = .ok (.getfield 58, 3) := by decide +kernel
theorem dX6_takeDigits_13 : decode cX6_takeDigits 13 = .ok (.if_icmp .ge 65, 3) := by decide +kernel
theorem dX6_takeDigits_16 : decode cX6_takeDigits 16 = .ok (.aload_n 0, 1) := by decide +kernel
theorem dX6_takeDigits_17 : decode cX6_takeDigits 17 = .ok (.getfield 32, 3) := by decide +kernel
theorem dX6_takeDigits_20 : decode cX6_takeDigits 20 = .ok (.aload_n 0, 1) := by decide +kernel
theorem dX6_takeDigits_21 : decode cX6_takeDigits 21 = .ok (.getfield 61, 3) := by decide +kernel
theorem dX6_takeDigits_24 : decode cX6_takeDigits 24 = .ok (.baload, 1) := by decide +kernel
theorem dX6_takeDigits_25 : decode cX6_takeDigits 25 = .ok (.invokestatic 154, 3) := by decide +kernel
theorem dX6_takeDigits_28 : decode cX6_takeDigits 28 = .ok (.ifCond .eq 50, 3) := by decide +kernel
theorem dX6_takeDigits_31 : decode cX6_takeDigits 31 = .ok (.aload_n 0, 1) := by decide +kernel
theorem dX6_takeDigits_32 : decode cX6_takeDigits 32 = .ok (.getfield 61, 3) := by decide +kernel
theorem dX6_takeDigits_35 : decode cX6_takeDigits 35 = .ok (.aload_n 0, 1) := by decide +kernel
theorem dX6_takeDigits_36 : decode cX6_takeDigits 36 = .ok (.getfield 82, 3) := by decide +kernel
theorem dX6_takeDigits_39 : decode cX6_takeDigits 39 = .ok (.iconst 1, 1) := by decide +kernel
theorem dX6_takeDigits_40 : decode cX6_takeDigits 40 = .ok (.iadd, 1) := by decide +kernel
theorem dX6_takeDigits_41 : decode cX6_takeDigits 41 = .ok (.if_icmp .ne 24, 3) := by decide +kernel
theorem dX6_takeDigits_44 : decode cX6_takeDigits 44 = .ok (.aload_n 0, 1) := by decide +kernel
theorem dX6_takeDigits_45 : decode cX6_takeDigits 45 = .ok (.bipush 10, 2) := by decide +kernel
theorem dX6_takeDigits_47 : decode cX6_takeDigits 47 = .ok (.iload_n 1, 1) := by decide +kernel
theorem dX6_takeDigits_48 : decode cX6_takeDigits 48 = .ok (.imul, 1) := by decide +kernel
theorem dX6_takeDigits_49 : decode cX6_takeDigits 49 = .ok (.aload_n 0, 1) := by decide +kernel
theorem dX6_takeDigits_50 : decode cX6_takeDigits 50 = .ok (.getfield 32, 3) := by decide +kernel
theorem dX6_takeDigits_53 : decode cX6_takeDigits 53 = .ok (.aload_n 0, 1) := by decide +kernel
theorem dX6_takeDigits_54 : decode cX6_takeDigits 54 = .ok (.getfield 61, 3) := by decide +kernel
theorem dX6_takeDigits_57 : decode cX6_takeDigits 57 = .ok (.baload, 1) := by decide +kernel
theorem dX6_takeDigits_58 : decode cX6_takeDigits 58 = .ok (.iadd, 1) := by decide +kernel
theorem dX6_takeDigits_59 : decode cX6_takeDigits 59 = .ok (.bipush 48, 2) := by decide +kernel
theorem dX6_takeDigits_61 : decode cX6_takeDigits 61 = .ok (.isub, 1) := by decide +kernel
theorem dX6_takeDigits_62 : decode cX6_takeDigits 62 = .ok (.putfield 111, 3) := by decide +kernel
theorem dX6_takeDigits_65 : decode cX6_takeDigits 65 = .ok (.aload_n 0, 1) := by decide +kernel
theorem dX6_takeDigits_66 : decode cX6_takeDigits 66 = .ok (.dup, 1) := by decide +kernel
theorem dX6_takeDigits_67 : decode cX6_takeDigits 67 = .ok (.getfield 61, 3) := by decide +kernel
theorem dX6_takeDigits_70 : decode cX6_takeDigits 70 = .ok (.iconst 1, 1) := by decide +kernel
theorem dX6_takeDigits_71 : decode cX6_takeDigits 71 = .ok (.iadd, 1) := by decide +kernel
theorem dX6_takeDigits_72 : decode cX6_takeDigits 72 = .ok (.putfield 61, 3) := by decide +kernel
theorem dX6_takeDigits_75 : decode cX6_takeDigits 75 = .ok (.goto (-70), 3) := by decide +kernel
theorem dX6_takeDigits_78 : decode cX6_takeDigits 78 = .ok (.aload_n 0, 1) := by decide +kernel
theorem dX6_takeDigits_79 : decode cX6_takeDigits 79 = .ok (.aload_n 0, 1) := by decide +kernel
theorem dX6_takeDigits_80 : decode cX6_takeDigits 80 = .ok (.getfield 61, 3) := by decide +kernel
theorem dX6_takeDigits_83 : decode cX6_takeDigits 83 = .ok (.aload_n 0, 1) := by decide +kernel
theorem dX6_takeDigits_84 : decode cX6_takeDigits 84 = .ok (.getfield 82, 3) := by decide +kernel
theorem dX6_takeDigits_87 : decode cX6_takeDigits 87 = .ok (.isub, 1) := by decide +kernel
theorem dX6_takeDigits_88 : decode cX6_takeDigits 88 = .ok (.iconst 2, 1) := by decide +kernel
theorem dX6_takeDigits_89 : decode cX6_takeDigits 89 = .ok (.if_icmp .le 7, 3) := by decide +kernel
theorem dX6_takeDigits_92 : decode cX6_takeDigits 92 = .ok (.iconst 4, 1) := by decide +kernel
theorem dX6_takeDigits_93 : decode cX6_takeDigits 93 = .ok (.goto 4, 3) := by decide +kernel
theorem dX6_takeDigits_96 : decode cX6_takeDigits 96 = .ok (.iconst 2, 1) := by decide +kernel
theorem dX6_takeDigits_97 : decode cX6_takeDigits 97 = .ok (.putfield 67, 3) := by decide +kernel
theorem dX6_takeDigits_100 : decode cX6_takeDigits 100 = .ok (.return_, 1) := by decide +kernel
theorem dX6_advance_0 : decode cX6_advance 0 = .ok (.aload_n 0, 1) := by decide +kernel
theorem dX6_advance_1 : decode cX6_advance 1 = .ok (.getfield 61, 3) := by decide +kernel
theorem dX6_advance_4 : decode cX6_advance 4 = .ok (.aload_n 0, 1) := by decide +kernel
theorem dX6_advance_5 : decode cX6_advance 5 = .ok (.getfield 58, 3) := by decide +kernel
theorem dX6_advance_8 : decode cX6_advance 8 = .ok (.if_icmp .ge 31, 3) := by decide +kernel
theorem dX6_advance_11 : decode cX6_advance 11 = .ok (.aload_n 0, 1) := by decide +kernel
theorem dX6_advance_12 : decode cX6_advance 12 = .ok (.getfield 32, 3) := by decide +kernel
theorem dX6_advance_15 : decode cX6_advance 15 = .ok (.aload_n 0, 1) := by decide +kernel
theorem dX6_advance_16 : decode cX6_advance 16 = .ok (.getfield 61, 3) := by decide +kernel
theorem dX6_advance_19 : decode cX6_advance 19 = .ok (.baload, 1) := by decide +kernel
theorem dX6_advance_20 : decode cX6_advance 20 = .ok (.invokestatic 147, 3) := by decide +kernel
theorem dX6_advance_23 : decode cX6_advance 23 = .ok (.ifCond .eq 16, 3) := by decide +kernel
theorem dX6_advance_26 : decode cX6_advance 26 = .ok (.aload_n 0, 1) := by decide +kernel
theorem dX6_advance_27 : decode cX6_advance 27 = .ok (.dup, 1) := by decide +kernel
theorem dX6_advance_28 : decode cX6_advance 28 = .ok (.getfield 61, 3) := by decide +kernel
theorem dX6_advance_31 : decode cX6_advance 31 = .ok (.iconst 1, 1) := by decide +kernel
theorem dX6_advance_32 : decode cX6_advance 32 = .ok (.iadd, 1) := by decide +kernel
theorem dX6_advance_33 : decode cX6_advance 33 = .ok (.putfield 61, 3) := by decide +kernel
theorem dX6_advance_36 : decode cX6_advance 36 = .ok (.goto (-36), 3) := by decide +kernel
theorem dX6_advance_39 : decode cX6_advance 39 = .ok (.aload_n 0, 1) := by decide +kernel
theorem dX6_advance_40 : decode cX6_advance 40 = .ok (.aload_n 0, 1) := by decide +kernel
theorem dX6_advance_41 : decode cX6_advance 41 = .ok (.getfield 61, 3) := by decide +kernel
theorem dX6_advance_44 : decode cX6_advance 44 = .ok (.putfield 82, 3) := by decide +kernel
theorem dX6_advance_47 : decode cX6_advance 47 = .ok (.aload_n 0, 1) := by decide +kernel
theorem dX6_advance_48 : decode cX6_advance 48 = .ok (.getfield 82, 3) := by decide +kernel
theorem dX6_advance_51 : decode cX6_advance 51 = .ok (.aload_n 0, 1) := by decide +kernel
theorem dX6_advance_52 : decode cX6_advance 52 = .ok (.getfield 58, 3) := by decide +kernel
theorem dX6_advance_55 : decode cX6_advance 55 = .ok (.if_icmp .lt 9, 3) := by decide +kernel
theorem dX6_advance_58 : decode cX6_advance 58 = .ok (.aload_n 0, 1) := by decide +kernel
theorem dX6_advance_59 : decode cX6_advance 59 = .ok (.iconst 0, 1) := by decide +kernel
theorem dX6_advance_60 : decode cX6_advance 60 = .ok (.putfield 67, 3) := by decide +kernel
theorem dX6_advance_63 : decode cX6_advance 63 = .ok (.return_, 1) := by decide +kernel
theorem dX6_advance_64 : decode cX6_advance 64 = .ok (.aload_n 0, 1) := by decide +kernel
theorem dX6_advance_65 : decode cX6_advance 65 = .ok (.getfield 32, 3) := by decide +kernel
theorem dX6_advance_68 : decode cX6_advance 68 = .ok (.aload_n 0, 1) := by decide +kernel
theorem dX6_advance_69 : decode cX6_advance 69 = .ok (.getfield 82, 3) := by decide +kernel
theorem dX6_advance_72 : decode cX6_advance 72 = .ok (.baload, 1) := by decide +kernel
theorem dX6_advance_73 : decode cX6_advance 73 = .ok (.istore_n 1, 1) := by decide +kernel
theorem dX6_advance_74 : decode cX6_advance 74 = .ok (.aload_n 0, 1) := by decide +kernel
theorem dX6_advance_75 : decode cX6_advance 75 = .ok (.dup, 1) := by decide +kernel
theorem dX6_advance_76 : decode cX6_advance 76 = .ok (.getfield 61, 3) := by decide +kernel
theorem dX6_advance_79 : decode cX6_advance 79 = .ok (.iconst 1, 1) := by decide +kernel
theorem dX6_advance_80 : decode cX6_advance 80 = .ok (.iadd, 1) := by decide +kernel
theorem dX6_advance_81 : decode cX6_advance 81 = .ok (.putfield 61, 3) := by decide +kernel
theorem dX6_advance_84 : decode cX6_advance 84 = .ok (.iload_n 1, 1) := by decide +kernel
theorem dX6_advance_85 : decode cX6_advance 85 = .ok (.bipush 59, 2) := by decide +kernel
theorem dX6_advance_87 : decode cX6_advance 87 = .ok (.if_icmp .ne 11, 3) := by decide +kernel
theorem dX6_advance_90 : decode cX6_advance 90 = .ok (.aload_n 0, 1) := by decide +kernel
theorem dX6_advance_91 : decode cX6_advance 91 = .ok (.iconst 3, 1) := by decide +kernel
theorem dX6_advance_92 : decode cX6_advance 92 = .ok (.putfield 67, 3) := by decide +kernel
theorem dX6_advance_95 : decode cX6_advance 95 = .ok (.goto 77, 3) := by decide +kernel
theorem dX6_advance_98 : decode cX6_advance 98 = .ok (.iload_n 1, 1) := by decide +kernel
theorem dX6_advance_99 : decode cX6_advance 99 = .ok (.invokestatic 151, 3) := by decide +kernel
theorem dX6_advance_102 : decode cX6_advance 102 = .ok (.ifCond .eq 47, 3) := by decide +kernel
theorem dX6_advance_105 : decode cX6_advance 105 = .ok (.aload_n 0, 1) := by decide +kernel
theorem dX6_advance_106 : decode cX6_advance 106 = .ok (.iconst 1, 1) := by decide +kernel
theorem dX6_advance_107 : decode cX6_advance 107 = .ok (.putfield 67, 3) := by decide +kernel
theorem dX6_advance_110 : decode cX6_advance 110 = .ok (.aload_n 0, 1) := by decide +kernel
theorem dX6_advance_111 : decode cX6_advance 111 = .ok (.getfield 61, 3) := by decide +kernel
theorem dX6_advance_114 : decode cX6_advance 114 = .ok (.aload_n 0, 1) := by decide +kernel
theorem dX6_advance_115 : decode cX6_advance 115 = .ok (.getfield 58, 3) := by decide +kernel
theorem dX6_advance_118 : decode cX6_advance 118 = .ok (.if_icmp .ge 54, 3) := by decide +kernel
theorem dX6_advance_121 : decode cX6_advance 121 = .ok (.aload_n 0, 1) := by decide +kernel
theorem dX6_advance_122 : decode cX6_advance 122 = .ok (.getfield 32, 3) := by decide +kernel
theorem dX6_advance_125 : decode cX6_advance 125 = .ok (.aload_n 0, 1) := by decide +kernel
theorem dX6_advance_126 : decode cX6_advance 126 = .ok (.getfield 61, 3) := by decide +kernel
theorem dX6_advance_129 : decode cX6_advance 129 = .ok (.baload, 1) := by decide +kernel
theorem dX6_advance_130 : decode cX6_advance 130 = .ok (.invokestatic 151, 3) := by decide +kernel
theorem dX6_advance_133 : decode cX6_advance 133 = .ok (.ifCond .eq 39, 3) := by decide +kernel
theorem dX6_advance_136 : decode cX6_advance 136 = .ok (.aload_n 0, 1) := by decide +kernel
theorem dX6_advance_137 : decode cX6_advance 137 = .ok (.dup, 1) := by decide +kernel
theorem dX6_advance_138 : decode cX6_advance 138 = .ok (.getfield 61, 3) := by decide +kernel
theorem dX6_advance_141 : decode cX6_advance 141 = .ok (.iconst 1, 1) := by decide +kernel
theorem dX6_advance_142 : decode cX6_advance 142 = .ok (.iadd, 1) := by decide +kernel
theorem dX6_advance_143 : decode cX6_advance 143 = .ok (.putfield 61, 3) := by decide +kernel
theorem dX6_advance_146 : decode cX6_advance 146 = .ok (.goto (-36), 3) := by decide +kernel
theorem dX6_advance_149 : decode cX6_advance 149 = .ok (.iload_n 1, 1) := by decide +kernel
theorem dX6_advance_150 : decode cX6_advance 150 = .ok (.invokestatic 154, 3) := by decide +kernel
theorem dX6_advance_153 : decode cX6_advance 153 = .ok (.ifCond .eq 14, 3) := by decide +kernel
theorem dX6_advance_156 : decode cX6_advance 156 = .ok (.aload_n 0, 1) := by decide +kernel
theorem dX6_advance_157 : decode cX6_advance 157 = .ok (.iload_n 1, 1) := by decide +kernel
theorem dX6_advance_158 : decode cX6_advance 158 = .ok (.bipush 48, 2) := by decide +kernel
theorem dX6_advance_160 : decode cX6_advance 160 = .ok (.isub, 1) := by decide +kernel
theorem dX6_advance_161 : decode cX6_advance 161 = .ok (.invokevirtual 157, 3) := by decide +kernel
theorem dX6_advance_164 : decode cX6_advance 164 = .ok (.goto 8, 3) := by decide +kernel
theorem dX6_advance_167 : decode cX6_advance 167 = .ok (.aload_n 0, 1) := by decide +kernel
theorem dX6_advance_168 : decode cX6_advance 168 = .ok (.iconst 4, 1) := by decide +kernel
theorem dX6_advance_169 : decode cX6_advance 169 = .ok (.putfield 67, 3) := by decide +kernel
theorem dX6_advance_172 : decode cX6_advance 172 = .ok (.return_, 1) := by decide +kernel
theorem dX6_refuse_0 : decode cX6_refuse 0 = .ok (.aload_n 0, 1) := by decide +kernel
theorem dX6_refuse_1 : decode cX6_refuse 1 = .ok (.iconst 1, 1) := by decide +kernel
theorem dX6_refuse_2 : decode cX6_refuse 2 = .ok (.putfield 45, 3) := by decide +kernel
theorem dX6_refuse_5 : decode cX6_refuse 5 = .ok (.aload_n 0, 1) := by decide +kernel
theorem dX6_refuse_6 : decode cX6_refuse 6 = .ok (.aload_n 0, 1) := by decide +kernel
theorem dX6_refuse_7 : decode cX6_refuse 7 = .ok (.getfield 82, 3) := by decide +kernel
theorem dX6_refuse_10 : decode cX6_refuse 10 = .ok (.putfield 49, 3) := by decide +kernel
theorem dX6_refuse_13 : decode cX6_refuse 13 = .ok (.return_, 1) := by decide +kernel
theorem dX6_isFull_0 : decode cX6_isFull 0 = .ok (.iload_n 1, 1) := by decide +kernel
theorem dX6_isFull_1 : decode cX6_isFull 1 = .ok (.iconst 4, 1) := by decide +kernel
theorem dX6_isFull_2 : decode cX6_isFull 2 = .ok (.if_icmp .ge 21, 3) := by decide +kernel
theorem dX6_isFull_5 : decode cX6_isFull 5 = .ok (.aload_n 0, 1) := by decide +kernel
theorem dX6_isFull_6 : decode cX6_isFull 6 = .ok (.getfield 12, 3) := by decide +kernel
theorem dX6_isFull_9 : decode cX6_isFull 9 = .ok (.getfield 120, 3) := by decide +kernel
theorem dX6_isFull_12 : decode cX6_isFull 12 = .ok (.bipush 8, 2) := by decide +kernel
theorem dX6_isFull_14 : decode cX6_isFull 14 = .ok (.if_icmp .lt 7, 3) := by decide +kernel
theorem dX6_isFull_17 : decode cX6_isFull 17 = .ok (.iconst 1, 1) := by decide +kernel
theorem dX6_isFull_18 : decode cX6_isFull 18 = .ok (.goto 4, 3) := by decide +kernel
theorem dX6_isFull_21 : decode cX6_isFull 21 = .ok (.iconst 0, 1) := by decide +kernel
theorem dX6_isFull_22 : decode cX6_isFull 22 = .ok (.ireturn, 1) := by decide +kernel
theorem dX6_isFull_23 : decode cX6_isFull 23 = .ok (.iload_n 1, 1) := by decide +kernel
theorem dX6_isFull_24 : decode cX6_isFull 24 = .ok (.iconst 5, 1) := by decide +kernel
theorem dX6_isFull_25 : decode cX6_isFull 25 = .ok (.if_icmp .gt 21, 3) := by decide +kernel
theorem dX6_isFull_28 : decode cX6_isFull 28 = .ok (.aload_n 0, 1) := by decide +kernel
theorem dX6_isFull_29 : decode cX6_isFull 29 = .ok (.getfield 12, 3) := by decide +kernel
theorem dX6_isFull_32 : decode cX6_isFull 32 = .ok (.getfield 123, 3) := by decide +kernel
theorem dX6_isFull_35 : decode cX6_isFull 35 = .ok (.bipush 6, 2) := by decide +kernel
theorem dX6_isFull_37 : decode cX6_isFull 37 = .ok (.if_icmp .lt 7, 3) := by decide +kernel
theorem dX6_isFull_40 : decode cX6_isFull 40 = .ok (.iconst 1, 1) := by decide +kernel
theorem dX6_isFull_41 : decode cX6_isFull 41 = .ok (.goto 4, 3) := by decide +kernel
theorem dX6_isFull_44 : decode cX6_isFull 44 = .ok (.iconst 0, 1) := by decide +kernel
theorem dX6_isFull_45 : decode cX6_isFull 45 = .ok (.ireturn, 1) := by decide +kernel
theorem dX6_isFull_46 : decode cX6_isFull 46 = .ok (.iload_n 1, 1) := by decide +kernel
theorem dX6_isFull_47 : decode cX6_isFull 47 = .ok (.bipush 7, 2) := by decide +kernel
theorem dX6_isFull_49 : decode cX6_isFull 49 = .ok (.if_icmp .ge 5, 3) := by decide +kernel
theorem dX6_isFull_52 : decode cX6_isFull 52 = .ok (.iconst 0, 1) := by decide +kernel
theorem dX6_isFull_53 : decode cX6_isFull 53 = .ok (.ireturn, 1) := by decide +kernel
theorem dX6_isFull_54 : decode cX6_isFull 54 = .ok (.iload_n 1, 1) := by decide +kernel
theorem dX6_isFull_55 : decode cX6_isFull 55 = .ok (.bipush 15, 2) := by decide +kernel
theorem dX6_isFull_57 : decode cX6_isFull 57 = .ok (.if_icmp .ge 23, 3) := by decide +kernel
theorem dX6_isFull_60 : decode cX6_isFull 60 = .ok (.aload_n 0, 1) := by decide +kernel
theorem dX6_isFull_61 : decode cX6_isFull 61 = .ok (.getfield 21, 3) := by decide +kernel
theorem dX6_isFull_64 : decode cX6_isFull 64 = .ok (.getfield 126, 3) := by decide +kernel
theorem dX6_isFull_67 : decode cX6_isFull 67 = .ok (.bipush 40, 2) := by decide +kernel
theorem dX6_isFull_69 : decode cX6_isFull 69 = .ok (.if_icmp .lt 7, 3) := by decide +kernel
theorem dX6_isFull_72 : decode cX6_isFull 72 = .ok (.iconst 1, 1) := by decide +kernel
theorem dX6_isFull_73 : decode cX6_isFull 73 = .ok (.goto 24, 3) := by decide +kernel
theorem dX6_isFull_76 : decode cX6_isFull 76 = .ok (.iconst 0, 1) := by decide +kernel
theorem dX6_isFull_77 : decode cX6_isFull 77 = .ok (.goto 20, 3) := by decide +kernel
theorem dX6_isFull_80 : decode cX6_isFull 80 = .ok (.aload_n 0, 1) := by decide +kernel
theorem dX6_isFull_81 : decode cX6_isFull 81 = .ok (.getfield 28, 3) := by decide +kernel
theorem dX6_isFull_84 : decode cX6_isFull 84 = .ok (.getfield 129, 3) := by decide +kernel
theorem dX6_isFull_87 : decode cX6_isFull 87 = .ok (.bipush 8, 2) := by decide +kernel
theorem dX6_isFull_89 : decode cX6_isFull 89 = .ok (.if_icmp .lt 7, 3) := by decide +kernel
theorem dX6_isFull_92 : decode cX6_isFull 92 = .ok (.iconst 1, 1) := by decide +kernel
theorem dX6_isFull_93 : decode cX6_isFull 93 = .ok (.goto 4, 3) := by decide +kernel
theorem dX6_isFull_96 : decode cX6_isFull 96 = .ok (.iconst 0, 1) := by decide +kernel
theorem dX6_isFull_97 : decode cX6_isFull 97 = .ok (.ireturn, 1) := by decide +kernel
theorem dX6_note_0 : decode cX6_note 0 = .ok (.aload_n 0, 1) := by decide +kernel
theorem dX6_note_1 : decode cX6_note 1 = .ok (.getfield 45, 3) := by decide +kernel
theorem dX6_note_4 : decode cX6_note 4 = .ok (.ifCond .ne 13, 3) := by decide +kernel
theorem dX6_note_7 : decode cX6_note 7 = .ok (.aload_n 0, 1) := by decide +kernel
theorem dX6_note_8 : decode cX6_note 8 = .ok (.iload_n 1, 1) := by decide +kernel
theorem dX6_note_9 : decode cX6_note 9 = .ok (.putfield 45, 3) := by decide +kernel
theorem dX6_note_12 : decode cX6_note 12 = .ok (.aload_n 0, 1) := by decide +kernel
theorem dX6_note_13 : decode cX6_note 13 = .ok (.iload_n 2, 1) := by decide +kernel
theorem dX6_note_14 : decode cX6_note 14 = .ok (.putfield 49, 3) := by decide +kernel
theorem dX6_note_17 : decode cX6_note 17 = .ok (.return_, 1) := by decide +kernel
theorem dX0_addPiece_0 : decode cX0_addPiece 0 = .ok (.aload_n 0, 1) := by decide +kernel
theorem dX0_addPiece_1 : decode cX0_addPiece 1 = .ok (.getfield 40, 3) := by decide +kernel
theorem dX0_addPiece_4 : decode cX0_addPiece 4 = .ok (.bipush 8, 2) := by decide +kernel
theorem dX0_addPiece_6 : decode cX0_addPiece 6 = .ok (.if_icmp .ge 9, 3) := by decide +kernel
theorem dX0_addPiece_9 : decode cX0_addPiece 9 = .ok (.aload_n 3, 1) := by decide +kernel
theorem dX0_addPiece_10 : decode cX0_addPiece 10 = .ok (.arraylength, 1) := by decide +kernel
theorem dX0_addPiece_11 : decode cX0_addPiece 11 = .ok (.iconst 4, 1) := by decide +kernel
theorem dX0_addPiece_12 : decode cX0_addPiece 12 = .ok (.if_icmp .ge 4, 3) := by decide +kernel
theorem dX0_addPiece_15 : decode cX0_addPiece 15 = .ok (.return_, 1) := by decide +kernel
theorem dX0_addPiece_16 : decode cX0_addPiece 16 = .ok (.aload_n 0, 1) := by decide +kernel
theorem dX0_addPiece_17 : decode cX0_addPiece 17 = .ok (.getfield 15, 3) := by decide +kernel
theorem dX0_addPiece_20 : decode cX0_addPiece 20 = .ok (.aload_n 0, 1) := by decide +kernel
theorem dX0_addPiece_21 : decode cX0_addPiece 21 = .ok (.getfield 40, 3) := by decide +kernel
theorem dX0_addPiece_24 : decode cX0_addPiece 24 = .ok (.iload_n 1, 1) := by decide +kernel
theorem dX0_addPiece_25 : decode cX0_addPiece 25 = .ok (.iastore, 1) := by decide +kernel
theorem dX0_addPiece_26 : decode cX0_addPiece 26 = .ok (.aload_n 0, 1) := by decide +kernel
theorem dX0_addPiece_27 : decode cX0_addPiece 27 = .ok (.getfield 19, 3) := by decide +kernel
theorem dX0_addPiece_30 : decode cX0_addPiece 30 = .ok (.aload_n 0, 1) := by decide +kernel
theorem dX0_addPiece_31 : decode cX0_addPiece 31 = .ok (.getfield 40, 3) := by decide +kernel
theorem dX0_addPiece_34 : decode cX0_addPiece 34 = .ok (.iload_n 2, 1) := by decide +kernel
theorem dX0_addPiece_35 : decode cX0_addPiece 35 = .ok (.iastore, 1) := by decide +kernel
theorem dX0_addPiece_36 : decode cX0_addPiece 36 = .ok (.aload_n 0, 1) := by decide +kernel
theorem dX0_addPiece_37 : decode cX0_addPiece 37 = .ok (.getfield 22, 3) := by decide +kernel
theorem dX0_addPiece_40 : decode cX0_addPiece 40 = .ok (.aload_n 0, 1) := by decide +kernel
theorem dX0_addPiece_41 : decode cX0_addPiece 41 = .ok (.getfield 40, 3) := by decide +kernel
theorem dX0_addPiece_44 : decode cX0_addPiece 44 = .ok (.aload_n 3, 1) := by decide +kernel
theorem dX0_addPiece_45 : decode cX0_addPiece 45 = .ok (.iconst 0, 1) := by decide +kernel
theorem dX0_addPiece_46 : decode cX0_addPiece 46 = .ok (.iaload, 1) := by decide +kernel
theorem dX0_addPiece_47 : decode cX0_addPiece 47 = .ok (.iastore, 1) := by decide +kernel
theorem dX0_addPiece_48 : decode cX0_addPiece 48 = .ok (.aload_n 0, 1) := by decide +kernel
theorem dX0_addPiece_49 : decode cX0_addPiece 49 = .ok (.getfield 25, 3) := by decide +kernel
theorem dX0_addPiece_52 : decode cX0_addPiece 52 = .ok (.aload_n 0, 1) := by decide +kernel
theorem dX0_addPiece_53 : decode cX0_addPiece 53 = .ok (.getfield 40, 3) := by decide +kernel
theorem dX0_addPiece_56 : decode cX0_addPiece 56 = .ok (.aload_n 3, 1) := by decide +kernel
theorem dX0_addPiece_57 : decode cX0_addPiece 57 = .ok (.iconst 1, 1) := by decide +kernel
theorem dX0_addPiece_58 : decode cX0_addPiece 58 = .ok (.iaload, 1) := by decide +kernel
theorem dX0_addPiece_59 : decode cX0_addPiece 59 = .ok (.iastore, 1) := by decide +kernel
theorem dX0_addPiece_60 : decode cX0_addPiece 60 = .ok (.aload_n 0, 1) := by decide +kernel
theorem dX0_addPiece_61 : decode cX0_addPiece 61 = .ok (.getfield 28, 3) := by decide +kernel
theorem dX0_addPiece_64 : decode cX0_addPiece 64 = .ok (.aload_n 0, 1) := by decide +kernel
theorem dX0_addPiece_65 : decode cX0_addPiece 65 = .ok (.getfield 40, 3) := by decide +kernel
theorem dX0_addPiece_68 : decode cX0_addPiece 68 = .ok (.aload_n 3, 1) := by decide +kernel
theorem dX0_addPiece_69 : decode cX0_addPiece 69 = .ok (.iconst 2, 1) := by decide +kernel
theorem dX0_addPiece_70 : decode cX0_addPiece 70 = .ok (.iaload, 1) := by decide +kernel
theorem dX0_addPiece_71 : decode cX0_addPiece 71 = .ok (.iastore, 1) := by decide +kernel
theorem dX0_addPiece_72 : decode cX0_addPiece 72 = .ok (.aload_n 0, 1) := by decide +kernel
theorem dX0_addPiece_73 : decode cX0_addPiece 73 = .ok (.getfield 31, 3) := by decide +kernel
theorem dX0_addPiece_76 : decode cX0_addPiece 76 = .ok (.aload_n 0, 1) := by decide +kernel
theorem dX0_addPiece_77 : decode cX0_addPiece 77 = .ok (.getfield 40, 3) := by decide +kernel
theorem dX0_addPiece_80 : decode cX0_addPiece 80 = .ok (.aload_n 3, 1) := by decide +kernel
theorem dX0_addPiece_81 : decode cX0_addPiece 81 = .ok (.iconst 3, 1) := by decide +kernel
theorem dX0_addPiece_82 : decode cX0_addPiece 82 = .ok (.iaload, 1) := by decide +kernel
theorem dX0_addPiece_83 : decode cX0_addPiece 83 = .ok (.iastore, 1) := by decide +kernel
theorem dX0_addPiece_84 : decode cX0_addPiece 84 = .ok (.aload_n 0, 1) := by decide +kernel
theorem dX0_addPiece_85 : decode cX0_addPiece 85 = .ok (.dup, 1) := by decide +kernel
theorem dX0_addPiece_86 : decode cX0_addPiece 86 = .ok (.getfield 40, 3) := by decide +kernel
theorem dX0_addPiece_89 : decode cX0_addPiece 89 = .ok (.iconst 1, 1) := by decide +kernel
theorem dX0_addPiece_90 : decode cX0_addPiece 90 = .ok (.iadd, 1) := by decide +kernel
theorem dX0_addPiece_91 : decode cX0_addPiece 91 = .ok (.putfield 40, 3) := by decide +kernel
theorem dX0_addPiece_94 : decode cX0_addPiece 94 = .ok (.return_, 1) := by decide +kernel
theorem dX0_addPerson_0 : decode cX0_addPerson 0 = .ok (.aload_n 0, 1) := by decide +kernel
theorem dX0_addPerson_1 : decode cX0_addPerson 1 = .ok (.getfield 43, 3) := by decide +kernel
theorem dX0_addPerson_4 : decode cX0_addPerson 4 = .ok (.bipush 6, 2) := by decide +kernel
theorem dX0_addPerson_6 : decode cX0_addPerson 6 = .ok (.if_icmp .lt 4, 3) := by decide +kernel
theorem dX0_addPerson_9 : decode cX0_addPerson 9 = .ok (.return_, 1) := by decide +kernel
theorem dX0_addPerson_10 : decode cX0_addPerson 10 = .ok (.aload_n 0, 1) := by decide +kernel
theorem dX0_addPerson_11 : decode cX0_addPerson 11 = .ok (.getfield 34, 3) := by decide +kernel
theorem dX0_addPerson_14 : decode cX0_addPerson 14 = .ok (.aload_n 0, 1) := by decide +kernel
theorem dX0_addPerson_15 : decode cX0_addPerson 15 = .ok (.getfield 43, 3) := by decide +kernel
theorem dX0_addPerson_18 : decode cX0_addPerson 18 = .ok (.iload_n 1, 1) := by decide +kernel
theorem dX0_addPerson_19 : decode cX0_addPerson 19 = .ok (.iastore, 1) := by decide +kernel
theorem dX0_addPerson_20 : decode cX0_addPerson 20 = .ok (.aload_n 0, 1) := by decide +kernel
theorem dX0_addPerson_21 : decode cX0_addPerson 21 = .ok (.getfield 37, 3) := by decide +kernel
theorem dX0_addPerson_24 : decode cX0_addPerson 24 = .ok (.aload_n 0, 1) := by decide +kernel
theorem dX0_addPerson_25 : decode cX0_addPerson 25 = .ok (.getfield 43, 3) := by decide +kernel
theorem dX0_addPerson_28 : decode cX0_addPerson 28 = .ok (.iload_n 2, 1) := by decide +kernel
theorem dX0_addPerson_29 : decode cX0_addPerson 29 = .ok (.iastore, 1) := by decide +kernel
theorem dX0_addPerson_30 : decode cX0_addPerson 30 = .ok (.aload_n 0, 1) := by decide +kernel
theorem dX0_addPerson_31 : decode cX0_addPerson 31 = .ok (.dup, 1) := by decide +kernel
theorem dX0_addPerson_32 : decode cX0_addPerson 32 = .ok (.getfield 43, 3) := by decide +kernel
theorem dX0_addPerson_35 : decode cX0_addPerson 35 = .ok (.iconst 1, 1) := by decide +kernel
theorem dX0_addPerson_36 : decode cX0_addPerson 36 = .ok (.iadd, 1) := by decide +kernel
theorem dX0_addPerson_37 : decode cX0_addPerson 37 = .ok (.putfield 43, 3) := by decide +kernel
theorem dX0_addPerson_40 : decode cX0_addPerson 40 = .ok (.return_, 1) := by decide +kernel
theorem dX8_add_0 : decode cX8_add 0 = .ok (.aload_n 0, 1) := by decide +kernel
theorem dX8_add_1 : decode cX8_add 1 = .ok (.getfield 21, 3) := by decide +kernel
theorem dX8_add_4 : decode cX8_add 4 = .ok (.bipush 40, 2) := by decide +kernel
theorem dX8_add_6 : decode cX8_add 6 = .ok (.if_icmp .lt 4, 3) := by decide +kernel
theorem dX8_add_9 : decode cX8_add 9 = .ok (.return_, 1) := by decide +kernel
theorem dX8_add_10 : decode cX8_add 10 = .ok (.aload_n 0, 1) := by decide +kernel
theorem dX8_add_11 : decode cX8_add 11 = .ok (.getfield 9, 3) := by decide +kernel
theorem dX8_add_14 : decode cX8_add 14 = .ok (.aload_n 0, 1) := by decide +kernel
theorem dX8_add_15 : decode cX8_add 15 = .ok (.getfield 21, 3) := by decide +kernel
theorem dX8_add_18 : decode cX8_add 18 = .ok (.iload_n 1, 1) := by decide +kernel
theorem dX8_add_19 : decode cX8_add 19 = .ok (.iastore, 1) := by decide +kernel
theorem dX8_add_20 : decode cX8_add 20 = .ok (.aload_n 0, 1) := by decide +kernel
theorem dX8_add_21 : decode cX8_add 21 = .ok (.getfield 15, 3) := by decide +kernel
theorem dX8_add_24 : decode cX8_add 24 = .ok (.aload_n 0, 1) := by decide +kernel
theorem dX8_add_25 : decode cX8_add 25 = .ok (.getfield 21, 3) := by decide +kernel
theorem dX8_add_28 : decode cX8_add 28 = .ok (.iload_n 2, 1) := by decide +kernel
theorem dX8_add_29 : decode cX8_add 29 = .ok (.iastore, 1) := by decide +kernel
theorem dX8_add_30 : decode cX8_add 30 = .ok (.aload_n 0, 1) := by decide +kernel
theorem dX8_add_31 : decode cX8_add 31 = .ok (.getfield 18, 3) := by decide +kernel
theorem dX8_add_34 : decode cX8_add 34 = .ok (.aload_n 0, 1) := by decide +kernel
theorem dX8_add_35 : decode cX8_add 35 = .ok (.getfield 21, 3) := by decide +kernel
theorem dX8_add_38 : decode cX8_add 38 = .ok (.iload_n 3, 1) := by decide +kernel
theorem dX8_add_39 : decode cX8_add 39 = .ok (.iastore, 1) := by decide +kernel
theorem dX8_add_40 : decode cX8_add 40 = .ok (.aload_n 0, 1) := by decide +kernel
theorem dX8_add_41 : decode cX8_add 41 = .ok (.dup, 1) := by decide +kernel
theorem dX8_add_42 : decode cX8_add 42 = .ok (.getfield 21, 3) := by decide +kernel
theorem dX8_add_45 : decode cX8_add 45 = .ok (.iconst 1, 1) := by decide +kernel
theorem dX8_add_46 : decode cX8_add 46 = .ok (.iadd, 1) := by decide +kernel
theorem dX8_add_47 : decode cX8_add 47 = .ok (.putfield 21, 3) := by decide +kernel
theorem dX8_add_50 : decode cX8_add 50 = .ok (.return_, 1) := by decide +kernel
theorem dX4_add_0 : decode cX4_add 0 = .ok (.aload_n 0, 1) := by decide +kernel
theorem dX4_add_1 : decode cX4_add 1 = .ok (.getfield 24, 3) := by decide +kernel
theorem dX4_add_4 : decode cX4_add 4 = .ok (.bipush 8, 2) := by decide +kernel
theorem dX4_add_6 : decode cX4_add 6 = .ok (.if_icmp .lt 4, 3) := by decide +kernel
theorem dX4_add_9 : decode cX4_add 9 = .ok (.return_, 1) := by decide +kernel
theorem dX4_add_10 : decode cX4_add 10 = .ok (.aload_n 0, 1) := by decide +kernel
theorem dX4_add_11 : decode cX4_add 11 = .ok (.getfield 9, 3) := by decide +kernel
theorem dX4_add_14 : decode cX4_add 14 = .ok (.aload_n 0, 1) := by decide +kernel
theorem dX4_add_15 : decode cX4_add 15 = .ok (.getfield 24, 3) := by decide +kernel
theorem dX4_add_18 : decode cX4_add 18 = .ok (.iload_n 1, 1) := by decide +kernel
theorem dX4_add_19 : decode cX4_add 19 = .ok (.iastore, 1) := by decide +kernel
theorem dX4_add_20 : decode cX4_add 20 = .ok (.aload_n 0, 1) := by decide +kernel
theorem dX4_add_21 : decode cX4_add 21 = .ok (.getfield 15, 3) := by decide +kernel
theorem dX4_add_24 : decode cX4_add 24 = .ok (.aload_n 0, 1) := by decide +kernel
theorem dX4_add_25 : decode cX4_add 25 = .ok (.getfield 24, 3) := by decide +kernel
theorem dX4_add_28 : decode cX4_add 28 = .ok (.iload_n 2, 1) := by decide +kernel
theorem dX4_add_29 : decode cX4_add 29 = .ok (.iastore, 1) := by decide +kernel
theorem dX4_add_30 : decode cX4_add 30 = .ok (.aload_n 0, 1) := by decide +kernel
theorem dX4_add_31 : decode cX4_add 31 = .ok (.getfield 18, 3) := by decide +kernel
theorem dX4_add_34 : decode cX4_add 34 = .ok (.aload_n 0, 1) := by decide +kernel
theorem dX4_add_35 : decode cX4_add 35 = .ok (.getfield 24, 3) := by decide +kernel
theorem dX4_add_38 : decode cX4_add 38 = .ok (.iload_n 3, 1) := by decide +kernel
theorem dX4_add_39 : decode cX4_add 39 = .ok (.iastore, 1) := by decide +kernel
theorem dX4_add_40 : decode cX4_add 40 = .ok (.aload_n 0, 1) := by decide +kernel
theorem dX4_add_41 : decode cX4_add 41 = .ok (.getfield 21, 3) := by decide +kernel
theorem dX4_add_44 : decode cX4_add 44 = .ok (.aload_n 0, 1) := by decide +kernel
theorem dX4_add_45 : decode cX4_add 45 = .ok (.getfield 24, 3) := by decide +kernel
theorem dX4_add_48 : decode cX4_add 48 = .ok (.iload 4, 2) := by decide +kernel
theorem dX4_add_50 : decode cX4_add 50 = .ok (.iastore, 1) := by decide +kernel
theorem dX4_add_51 : decode cX4_add 51 = .ok (.aload_n 0, 1) := by decide +kernel
theorem dX4_add_52 : decode cX4_add 52 = .ok (.dup, 1) := by decide +kernel
theorem dX4_add_53 : decode cX4_add 53 = .ok (.getfield 24, 3) := by decide +kernel
theorem dX4_add_56 : decode cX4_add 56 = .ok (.iconst 1, 1) := by decide +kernel
theorem dX4_add_57 : decode cX4_add 57 = .ok (.iadd, 1) := by decide +kernel
theorem dX4_add_58 : decode cX4_add 58 = .ok (.putfield 24, 3) := by decide +kernel
theorem dX4_add_61 : decode cX4_add 61 = .ok (.return_, 1) := by decide +kernel
theorem dX6_addLine_0 : decode cX6_addLine 0 = .ok (.iload_n 1, 1) := by decide +kernel
theorem dX6_addLine_1 : decode cX6_addLine 1 = .ok (.iconst 4, 1) := by decide +kernel
theorem dX6_addLine_2 : decode cX6_addLine 2 = .ok (.if_icmp .ge 19, 3) := by decide +kernel
theorem dX6_addLine_5 : decode cX6_addLine 5 = .ok (.aload_n 0, 1) := by decide +kernel
theorem dX6_addLine_6 : decode cX6_addLine 6 = .ok (.getfield 12, 3) := by decide +kernel
theorem dX6_addLine_9 : decode cX6_addLine 9 = .ok (.iload_n 1, 1) := by decide +kernel
theorem dX6_addLine_10 : decode cX6_addLine 10 = .ok (.iload_n 2, 1) := by decide +kernel
theorem dX6_addLine_11 : decode cX6_addLine 11 = .ok (.aload_n 0, 1) := by decide +kernel
theorem dX6_addLine_12 : decode cX6_addLine 12 = .ok (.getfield 36, 3) := by decide +kernel
theorem dX6_addLine_15 : decode cX6_addLine 15 = .ok (.invokevirtual 130, 3) := by decide +kernel
theorem dX6_addLine_18 : decode cX6_addLine 18 = .ok (.goto 136, 3) := by decide +kernel
theorem dX6_addLine_21 : decode cX6_addLine 21 = .ok (.iload_n 1, 1) := by decide +kernel
theorem dX6_addLine_22 : decode cX6_addLine 22 = .ok (.iconst 4, 1) := by decide +kernel
theorem dX6_addLine_23 : decode cX6_addLine 23 = .ok (.if_icmp .ne 25, 3) := by decide +kernel
theorem dX6_addLine_26 : decode cX6_addLine 26 = .ok (.aload_n 0, 1) := by decide +kernel
theorem dX6_addLine_27 : decode cX6_addLine 27 = .ok (.getfield 12, 3) := by decide +kernel
theorem dX6_addLine_30 : decode cX6_addLine 30 = .ok (.aload_n 0, 1) := by decide +kernel
theorem dX6_addLine_31 : decode cX6_addLine 31 = .ok (.getfield 36, 3) := by decide +kernel
theorem dX6_addLine_34 : decode cX6_addLine 34 = .ok (.iconst 0, 1) := by decide +kernel
theorem dX6_addLine_35 : decode cX6_addLine 35 = .ok (.iaload, 1) := by decide +kernel
theorem dX6_addLine_36 : decode cX6_addLine 36 = .ok (.aload_n 0, 1) := by decide +kernel
theorem dX6_addLine_37 : decode cX6_addLine 37 = .ok (.getfield 36, 3) := by decide +kernel
theorem dX6_addLine_40 : decode cX6_addLine 40 = .ok (.iconst 1, 1) := by decide +kernel
theorem dX6_addLine_41 : decode cX6_addLine 41 = .ok (.iaload, 1) := by decide +kernel
theorem dX6_addLine_42 : decode cX6_addLine 42 = .ok (.invokevirtual 134, 3) := by decide +kernel
theorem dX6_addLine_45 : decode cX6_addLine 45 = .ok (.goto 109, 3) := by decide +kernel
theorem dX6_addLine_48 : decode cX6_addLine 48 = .ok (.iload_n 1, 1) := by decide +kernel
theorem dX6_addLine_49 : decode cX6_addLine 49 = .ok (.iconst 5, 1) := by decide +kernel
theorem dX6_addLine_50 : decode cX6_addLine 50 = .ok (.if_icmp .ne 21, 3) := by decide +kernel
theorem dX6_addLine_53 : decode cX6_addLine 53 = .ok (.aload_n 0, 1) := by decide +kernel
theorem dX6_addLine_54 : decode cX6_addLine 54 = .ok (.getfield 12, 3) := by decide +kernel
theorem dX6_addLine_57 : decode cX6_addLine 57 = .ok (.aload_n 0, 1) := by decide +kernel
theorem dX6_addLine_58 : decode cX6_addLine 58 = .ok (.getfield 36, 3) := by decide +kernel
theorem dX6_addLine_61 : decode cX6_addLine 61 = .ok (.iconst 0, 1) := by decide +kernel
theorem dX6_addLine_62 : decode cX6_addLine 62 = .ok (.iaload, 1) := by decide +kernel
theorem dX6_addLine_63 : decode cX6_addLine 63 = .ok (.bipush 8, 2) := by decide +kernel
theorem dX6_addLine_65 : decode cX6_addLine 65 = .ok (.invokevirtual 134, 3) := by decide +kernel
theorem dX6_addLine_68 : decode cX6_addLine 68 = .ok (.goto 86, 3) := by decide +kernel
theorem dX6_addLine_71 : decode cX6_addLine 71 = .ok (.iload_n 1, 1) := by decide +kernel
theorem dX6_addLine_72 : decode cX6_addLine 72 = .ok (.bipush 7, 2) := by decide +kernel
theorem dX6_addLine_74 : decode cX6_addLine 74 = .ok (.if_icmp .ge 19, 3) := by decide +kernel
theorem dX6_addLine_77 : decode cX6_addLine 77 = .ok (.aload_n 0, 1) := by decide +kernel
theorem dX6_addLine_78 : decode cX6_addLine 78 = .ok (.getfield 12, 3) := by decide +kernel
theorem dX6_addLine_81 : decode cX6_addLine 81 = .ok (.aload_n 0, 1) := by decide +kernel
theorem dX6_addLine_82 : decode cX6_addLine 82 = .ok (.getfield 36, 3) := by decide +kernel
theorem dX6_addLine_85 : decode cX6_addLine 85 = .ok (.iconst 0, 1) := by decide +kernel
theorem dX6_addLine_86 : decode cX6_addLine 86 = .ok (.iaload, 1) := by decide +kernel
theorem dX6_addLine_87 : decode cX6_addLine 87 = .ok (.putfield 137, 3) := by decide +kernel
theorem dX6_addLine_90 : decode cX6_addLine 90 = .ok (.goto 64, 3) := by decide +kernel
theorem dX6_addLine_93 : decode cX6_addLine 93 = .ok (.iload_n 1, 1) := by decide +kernel
theorem dX6_addLine_94 : decode cX6_addLine 94 = .ok (.bipush 15, 2) := by decide +kernel
theorem dX6_addLine_96 : decode cX6_addLine 96 = .ok (.if_icmp .ge 29, 3) := by decide +kernel
theorem dX6_addLine_99 : decode cX6_addLine 99 = .ok (.aload_n 0, 1) := by decide +kernel
theorem dX6_addLine_100 : decode cX6_addLine 100 = .ok (.getfield 21, 3) := by decide +kernel
theorem dX6_addLine_103 : decode cX6_addLine 103 = .ok (.iload_n 1, 1) := by decide +kernel
theorem dX6_addLine_104 : decode cX6_addLine 104 = .ok (.bipush 7, 2) := by decide +kernel
theorem dX6_addLine_106 : decode cX6_addLine 106 = .ok (.isub, 1) := by decide +kernel
theorem dX6_addLine_107 : decode cX6_addLine 107 = .ok (.aload_n 0, 1) := by decide +kernel
theorem dX6_addLine_108 : decode cX6_addLine 108 = .ok (.getfield 36, 3) := by decide +kernel
theorem dX6_addLine_111 : decode cX6_addLine 111 = .ok (.iconst 0, 1) := by decide +kernel
theorem dX6_addLine_112 : decode cX6_addLine 112 = .ok (.iaload, 1) := by decide +kernel
theorem dX6_addLine_113 : decode cX6_addLine 113 = .ok (.aload_n 0, 1) := by decide +kernel
theorem dX6_addLine_114 : decode cX6_addLine 114 = .ok (.getfield 36, 3) := by decide +kernel
theorem dX6_addLine_117 : decode cX6_addLine 117 = .ok (.iconst 1, 1) := by decide +kernel
theorem dX6_addLine_118 : decode cX6_addLine 118 = .ok (.iaload, 1) := by decide +kernel
theorem dX6_addLine_119 : decode cX6_addLine 119 = .ok (.invokevirtual 140, 3) := by decide +kernel
theorem dX6_addLine_122 : decode cX6_addLine 122 = .ok (.goto 32, 3) := by decide +kernel
theorem dX6_addLine_125 : decode cX6_addLine 125 = .ok (.aload_n 0, 1) := by decide +kernel
theorem dX6_addLine_126 : decode cX6_addLine 126 = .ok (.getfield 28, 3) := by decide +kernel
theorem dX6_addLine_129 : decode cX6_addLine 129 = .ok (.iload_n 1, 1) := by decide +kernel
theorem dX6_addLine_130 : decode cX6_addLine 130 = .ok (.bipush 15, 2) := by decide +kernel
theorem dX6_addLine_132 : decode cX6_addLine 132 = .ok (.isub, 1) := by decide +kernel
theorem dX6_addLine_133 : decode cX6_addLine 133 = .ok (.aload_n 0, 1) := by decide +kernel
theorem dX6_addLine_134 : decode cX6_addLine 134 = .ok (.getfield 36, 3) := by decide +kernel
theorem dX6_addLine_137 : decode cX6_addLine 137 = .ok (.iconst 0, 1) := by decide +kernel
theorem dX6_addLine_138 : decode cX6_addLine 138 = .ok (.iaload, 1) := by decide +kernel
theorem dX6_addLine_139 : decode cX6_addLine 139 = .ok (.aload_n 0, 1) := by decide +kernel
theorem dX6_addLine_140 : decode cX6_addLine 140 = .ok (.getfield 36, 3) := by decide +kernel
theorem dX6_addLine_143 : decode cX6_addLine 143 = .ok (.iconst 1, 1) := by decide +kernel
theorem dX6_addLine_144 : decode cX6_addLine 144 = .ok (.iaload, 1) := by decide +kernel
theorem dX6_addLine_145 : decode cX6_addLine 145 = .ok (.aload_n 0, 1) := by decide +kernel
theorem dX6_addLine_146 : decode cX6_addLine 146 = .ok (.getfield 36, 3) := by decide +kernel
theorem dX6_addLine_149 : decode cX6_addLine 149 = .ok (.iconst 2, 1) := by decide +kernel
theorem dX6_addLine_150 : decode cX6_addLine 150 = .ok (.iaload, 1) := by decide +kernel
theorem dX6_addLine_151 : decode cX6_addLine 151 = .ok (.invokevirtual 144, 3) := by decide +kernel
theorem dX6_addLine_154 : decode cX6_addLine 154 = .ok (.return_, 1) := by decide +kernel
theorem dX0_hasPiece_0 : decode cX0_hasPiece 0 = .ok (.iload_n 1, 1) := by decide +kernel
theorem dX0_hasPiece_1 : decode cX0_hasPiece 1 = .ok (.ifCond .lt 15, 3) := by decide +kernel
theorem dX0_hasPiece_4 : decode cX0_hasPiece 4 = .ok (.iload_n 1, 1) := by decide +kernel
theorem dX0_hasPiece_5 : decode cX0_hasPiece 5 = .ok (.aload_n 0, 1) := by decide +kernel
theorem dX0_hasPiece_6 : decode cX0_hasPiece 6 = .ok (.getfield 40, 3) := by decide +kernel
theorem dX0_hasPiece_9 : decode cX0_hasPiece 9 = .ok (.if_icmp .ge 7, 3) := by decide +kernel
theorem dX0_hasPiece_12 : decode cX0_hasPiece 12 = .ok (.iconst 1, 1) := by decide +kernel
theorem dX0_hasPiece_13 : decode cX0_hasPiece 13 = .ok (.goto 4, 3) := by decide +kernel
theorem dX0_hasPiece_16 : decode cX0_hasPiece 16 = .ok (.iconst 0, 1) := by decide +kernel
theorem dX0_hasPiece_17 : decode cX0_hasPiece 17 = .ok (.ireturn, 1) := by decide +kernel
theorem dX0_hasLostSeat_0 : decode cX0_hasLostSeat 0 = .ok (.iconst 0, 1) := by decide +kernel
theorem dX0_hasLostSeat_1 : decode cX0_hasLostSeat 1 = .ok (.istore_n 1, 1) := by decide +kernel
theorem dX0_hasLostSeat_2 : decode cX0_hasLostSeat 2 = .ok (.iload_n 1, 1) := by decide +kernel
theorem dX0_hasLostSeat_3 : decode cX0_hasLostSeat 3 = .ok (.aload_n 0, 1) := by decide +kernel
theorem dX0_hasLostSeat_4 : decode cX0_hasLostSeat 4 = .ok (.getfield 43, 3) := by decide +kernel
theorem dX0_hasLostSeat_7 : decode cX0_hasLostSeat 7 = .ok (.if_icmp .ge 35, 3) := by decide +kernel
theorem dX0_hasLostSeat_10 : decode cX0_hasLostSeat 10 = .ok (.aload_n 0, 1) := by decide +kernel
theorem dX0_hasLostSeat_11 : decode cX0_hasLostSeat 11 = .ok (.getfield 37, 3) := by decide +kernel
theorem dX0_hasLostSeat_14 : decode cX0_hasLostSeat 14 = .ok (.iload_n 1, 1) := by decide +kernel
theorem dX0_hasLostSeat_15 : decode cX0_hasLostSeat 15 = .ok (.iaload, 1) := by decide +kernel
theorem dX0_hasLostSeat_16 : decode cX0_hasLostSeat 16 = .ok (.bipush 8, 2) := by decide +kernel
theorem dX0_hasLostSeat_18 : decode cX0_hasLostSeat 18 = .ok (.if_icmp .eq 18, 3) := by decide +kernel
theorem dX0_hasLostSeat_21 : decode cX0_hasLostSeat 21 = .ok (.aload_n 0, 1) := by decide +kernel
theorem dX0_hasLostSeat_22 : decode cX0_hasLostSeat 22 = .ok (.aload_n 0, 1) := by decide +kernel
theorem dX0_hasLostSeat_23 : decode cX0_hasLostSeat 23 = .ok (.getfield 37, 3) := by decide +kernel
theorem dX0_hasLostSeat_26 : decode cX0_hasLostSeat 26 = .ok (.iload_n 1, 1) := by decide +kernel
theorem dX0_hasLostSeat_27 : decode cX0_hasLostSeat 27 = .ok (.iaload, 1) := by decide +kernel
theorem dX0_hasLostSeat_28 : decode cX0_hasLostSeat 28 = .ok (.invokevirtual 46, 3) := by decide +kernel
theorem dX0_hasLostSeat_31 : decode cX0_hasLostSeat 31 = .ok (.ifCond .ne 5, 3) := by decide +kernel
theorem dX0_hasLostSeat_34 : decode cX0_hasLostSeat 34 = .ok (.iconst 1, 1) := by decide +kernel
theorem dX0_hasLostSeat_35 : decode cX0_hasLostSeat 35 = .ok (.ireturn, 1) := by decide +kernel
theorem dX0_hasLostSeat_36 : decode cX0_hasLostSeat 36 = .ok (.iinc 1 1, 3) := by decide +kernel
theorem dX0_hasLostSeat_39 : decode cX0_hasLostSeat 39 = .ok (.goto (-37), 3) := by decide +kernel
theorem dX0_hasLostSeat_42 : decode cX0_hasLostSeat 42 = .ok (.iconst 0, 1) := by decide +kernel
theorem dX0_hasLostSeat_43 : decode cX0_hasLostSeat 43 = .ok (.ireturn, 1) := by decide +kernel
