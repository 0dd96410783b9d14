theorem dX0_isHoliday_0 : decode cX0_isHoliday 0 = .ok (.aload_n 0, 1) := by decide +kernel
theorem dX0_isHoliday_1 : decode cX0_isHoliday 1 = .ok (.iload_n 1, 1) := by decide +kernel
theorem dX0_isHoliday_2 : decode cX0_isHoliday 2 = .ok (.iconst 1, 1) := by decide +kernel
theorem dX0_isHoliday_3 : decode cX0_isHoliday 3 = .ok (.invokevirtual 19, 3) := by decide +kernel
theorem dX0_isHoliday_6 : decode cX0_isHoliday 6 = .ok (.ireturn, 1) := by decide +kernel
theorem dX0_isFound_0 : decode cX0_isFound 0 = .ok (.aload_n 0, 1) := by decide +kernel
theorem dX0_isFound_1 : decode cX0_isFound 1 = .ok (.iload_n 1, 1) := by decide +kernel
theorem dX0_isFound_2 : decode cX0_isFound 2 = .ok (.iconst 2, 1) := by decide +kernel
theorem dX0_isFound_3 : decode cX0_isFound 3 = .ok (.invokevirtual 19, 3) := by decide +kernel
theorem dX0_isFound_6 : decode cX0_isFound 6 = .ok (.ireturn, 1) := by decide +kernel
theorem dX0_isGone_0 : decode cX0_isGone 0 = .ok (.aload_n 0, 1) := by decide +kernel
theorem dX0_isGone_1 : decode cX0_isGone 1 = .ok (.iload_n 1, 1) := by decide +kernel
theorem dX0_isGone_2 : decode cX0_isGone 2 = .ok (.iconst 4, 1) := by decide +kernel
theorem dX0_isGone_3 : decode cX0_isGone 3 = .ok (.invokevirtual 19, 3) := by decide +kernel
theorem dX0_isGone_6 : decode cX0_isGone 6 = .ok (.ireturn, 1) := by decide +kernel
theorem dX0_setHoliday_0 : decode cX0_setHoliday 0 = .ok (.aload_n 0, 1) := by decide +kernel
theorem dX0_setHoliday_1 : decode cX0_setHoliday 1 = .ok (.iload_n 1, 1) := by decide +kernel
theorem dX0_setHoliday_2 : decode cX0_setHoliday 2 = .ok (.iconst 1, 1) := by decide +kernel
theorem dX0_setHoliday_3 : decode cX0_setHoliday 3 = .ok (.invokevirtual 23, 3) := by decide +kernel
theorem dX0_setHoliday_6 : decode cX0_setHoliday 6 = .ok (.return_, 1) := by decide +kernel
theorem dX0_setFound_0 : decode cX0_setFound 0 = .ok (.aload_n 0, 1) := by decide +kernel
theorem dX0_setFound_1 : decode cX0_setFound 1 = .ok (.iload_n 1, 1) := by decide +kernel
theorem dX0_setFound_2 : decode cX0_setFound 2 = .ok (.iconst 2, 1) := by decide +kernel
theorem dX0_setFound_3 : decode cX0_setFound 3 = .ok (.invokevirtual 23, 3) := by decide +kernel
theorem dX0_setFound_6 : decode cX0_setFound 6 = .ok (.return_, 1) := by decide +kernel
theorem dX0_setGone_0 : decode cX0_setGone 0 = .ok (.aload_n 0, 1) := by decide +kernel
theorem dX0_setGone_1 : decode cX0_setGone 1 = .ok (.iload_n 1, 1) := by decide +kernel
theorem dX0_setGone_2 : decode cX0_setGone 2 = .ok (.iconst 4, 1) := by decide +kernel
theorem dX0_setGone_3 : decode cX0_setGone 3 = .ok (.invokevirtual 23, 3) := by decide +kernel
theorem dX0_setGone_6 : decode cX0_setGone 6 = .ok (.return_, 1) := by decide +kernel
theorem dX0_countGone_0 : decode cX0_countGone 0 = .ok (.iconst 0, 1) := by decide +kernel
theorem dX0_countGone_1 : decode cX0_countGone 1 = .ok (.istore_n 1, 1) := by decide +kernel
theorem dX0_countGone_2 : decode cX0_countGone 2 = .ok (.iconst 0, 1) := by decide +kernel
theorem dX0_countGone_3 : decode cX0_countGone 3 = .ok (.istore_n 2, 1) := by decide +kernel
theorem dX0_countGone_4 : decode cX0_countGone 4 = .ok (.iload_n 2, 1) := by decide +kernel
theorem dX0_countGone_5 : decode cX0_countGone 5 = .ok (.sipush 200, 3) := by decide +kernel
theorem dX0_countGone_8 : decode cX0_countGone 8 = .ok (.if_icmp .ge 20, 3) := by decide +kernel
theorem dX0_countGone_11 : decode cX0_countGone 11 = .ok (.aload_n 0, 1) := by decide +kernel
theorem dX0_countGone_12 : decode cX0_countGone 12 = .ok (.iload_n 2, 1) := by decide +kernel
theorem dX0_countGone_13 : decode cX0_countGone 13 = .ok (.invokevirtual 27, 3) := by decide +kernel
theorem dX0_countGone_16 : decode cX0_countGone 16 = .ok (.ifCond .eq 6, 3) := by decide +kernel
theorem dX0_countGone_19 : decode cX0_countGone 19 = .ok (.iinc 1 1, 3) := by decide +kernel
theorem dX0_countGone_22 : decode cX0_countGone 22 = .ok (.iinc 2 1, 3) := by decide +kernel
theorem dX0_countGone_25 : decode cX0_countGone 25 = .ok (.goto (-21), 3) := by decide +kernel
theorem dX0_countGone_28 : decode cX0_countGone 28 = .ok (.iload_n 1, 1) := by decide +kernel
theorem dX0_countGone_29 : decode cX0_countGone 29 = .ok (.ireturn, 1) := by decide +kernel
theorem dX0_areAlike_0 : decode cX0_areAlike 0 = .ok (.aload_n 0, 1) := by decide +kernel
theorem dX0_areAlike_1 : decode cX0_areAlike 1 = .ok (.iload_n 1, 1) := by decide +kernel
theorem dX0_areAlike_2 : decode cX0_areAlike 2 = .ok (.invokevirtual 31, 3) := by decide +kernel
theorem dX0_areAlike_5 : decode cX0_areAlike 5 = .ok (.aload_n 0, 1) := by decide +kernel
theorem dX0_areAlike_6 : decode cX0_areAlike 6 = .ok (.iload_n 2, 1) := by decide +kernel
theorem dX0_areAlike_7 : decode cX0_areAlike 7 = .ok (.invokevirtual 31, 3) := by decide +kernel
theorem dX0_areAlike_10 : decode cX0_areAlike 10 = .ok (.if_icmp .eq 5, 3) := by decide +kernel
theorem dX0_areAlike_13 : decode cX0_areAlike 13 = .ok (.iconst 0, 1) := by decide +kernel
theorem dX0_areAlike_14 : decode cX0_areAlike 14 = .ok (.ireturn, 1) := by decide +kernel
theorem dX0_areAlike_15 : decode cX0_areAlike 15 = .ok (.aload_n 0, 1) := by decide +kernel
theorem dX0_areAlike_16 : decode cX0_areAlike 16 = .ok (.iload_n 1, 1) := by decide +kernel
theorem dX0_areAlike_17 : decode cX0_areAlike 17 = .ok (.invokevirtual 31, 3) := by decide +kernel
theorem dX0_areAlike_20 : decode cX0_areAlike 20 = .ok (.ifCond .ne 14, 3) := by decide +kernel
theorem dX0_areAlike_23 : decode cX0_areAlike 23 = .ok (.iload_n 1, 1) := by decide +kernel
theorem dX0_areAlike_24 : decode cX0_areAlike 24 = .ok (.bipush 7, 2) := by decide +kernel
theorem dX0_areAlike_26 : decode cX0_areAlike 26 = .ok (.irem, 1) := by decide +kernel
theorem dX0_areAlike_27 : decode cX0_areAlike 27 = .ok (.iload_n 2, 1) := by decide +kernel
theorem dX0_areAlike_28 : decode cX0_areAlike 28 = .ok (.bipush 7, 2) := by decide +kernel
theorem dX0_areAlike_30 : decode cX0_areAlike 30 = .ok (.irem, 1) := by decide +kernel
theorem dX0_areAlike_31 : decode cX0_areAlike 31 = .ok (.if_icmp .ne 7, 3) := by decide +kernel
theorem dX0_areAlike_34 : decode cX0_areAlike 34 = .ok (.iconst 1, 1) := by decide +kernel
theorem dX0_areAlike_35 : decode cX0_areAlike 35 = .ok (.goto 4, 3) := by decide +kernel
theorem dX0_areAlike_38 : decode cX0_areAlike 38 = .ok (.iconst 0, 1) := by decide +kernel
theorem dX0_areAlike_39 : decode cX0_areAlike 39 = .ok (.ireturn, 1) := by decide +kernel
theorem dX0_setHours_0 : decode cX0_setHours 0 = .ok (.iload_n 2, 1) := by decide +kernel
theorem dX0_setHours_1 : decode cX0_setHours 1 = .ok (.invokestatic 34, 3) := by decide +kernel
theorem dX0_setHours_4 : decode cX0_setHours 4 = .ok (.ifCond .eq 29, 3) := by decide +kernel
theorem dX0_setHours_7 : decode cX0_setHours 7 = .ok (.iload_n 1, 1) := by decide +kernel
theorem dX0_setHours_8 : decode cX0_setHours 8 = .ok (.ifCond .lt 25, 3) := by decide +kernel
theorem dX0_setHours_11 : decode cX0_setHours 11 = .ok (.iload_n 1, 1) := by decide +kernel
theorem dX0_setHours_12 : decode cX0_setHours 12 = .ok (.bipush 8, 2) := by decide +kernel
theorem dX0_setHours_14 : decode cX0_setHours 14 = .ok (.if_icmp .ge 19, 3) := by decide +kernel
theorem dX0_setHours_17 : decode cX0_setHours 17 = .ok (.aload_n 0, 1) := by decide +kernel
theorem dX0_setHours_18 : decode cX0_setHours 18 = .ok (.getfield 15, 3) := by decide +kernel
theorem dX0_setHours_21 : decode cX0_setHours 21 = .ok (.iload_n 2, 1) := by decide +kernel
theorem dX0_setHours_22 : decode cX0_setHours 22 = .ok (.dup2, 1) := by decide +kernel
theorem dX0_setHours_23 : decode cX0_setHours 23 = .ok (.laload, 1) := by decide +kernel
theorem dX0_setHours_24 : decode cX0_setHours 24 = .ok (.iload_n 3, 1) := by decide +kernel
theorem dX0_setHours_25 : decode cX0_setHours 25 = .ok (.i2l, 1) := by decide +kernel
theorem dX0_setHours_26 : decode cX0_setHours 26 = .ok (.iload_n 1, 1) := by decide +kernel
theorem dX0_setHours_27 : decode cX0_setHours 27 = .ok (.bipush 6, 2) := by decide +kernel
theorem dX0_setHours_29 : decode cX0_setHours 29 = .ok (.imul, 1) := by decide +kernel
theorem dX0_setHours_30 : decode cX0_setHours 30 = .ok (.lshl, 1) := by decide +kernel
theorem dX0_setHours_31 : decode cX0_setHours 31 = .ok (.lor, 1) := by decide +kernel
theorem dX0_setHours_32 : decode cX0_setHours 32 = .ok (.lastore, 1) := by decide +kernel
theorem dX0_setHours_33 : decode cX0_setHours 33 = .ok (.return_, 1) := by decide +kernel
theorem dX0_hoursOf_0 : decode cX0_hoursOf 0 = .ok (.iload_n 2, 1) := by decide +kernel
theorem dX0_hoursOf_1 : decode cX0_hoursOf 1 = .ok (.invokestatic 34, 3) := by decide +kernel
theorem dX0_hoursOf_4 : decode cX0_hoursOf 4 = .ok (.ifCond .eq 31, 3) := by decide +kernel
theorem dX0_hoursOf_7 : decode cX0_hoursOf 7 = .ok (.iload_n 1, 1) := by decide +kernel
theorem dX0_hoursOf_8 : decode cX0_hoursOf 8 = .ok (.ifCond .lt 27, 3) := by decide +kernel
theorem dX0_hoursOf_11 : decode cX0_hoursOf 11 = .ok (.iload_n 1, 1) := by decide +kernel
theorem dX0_hoursOf_12 : decode cX0_hoursOf 12 = .ok (.bipush 8, 2) := by decide +kernel
theorem dX0_hoursOf_14 : decode cX0_hoursOf 14 = .ok (.if_icmp .ge 21, 3) := by decide +kernel
theorem dX0_hoursOf_17 : decode cX0_hoursOf 17 = .ok (.aload_n 0, 1) := by decide +kernel
theorem dX0_hoursOf_18 : decode cX0_hoursOf 18 = .ok (.getfield 15, 3) := by decide +kernel
theorem dX0_hoursOf_21 : decode cX0_hoursOf 21 = .ok (.iload_n 2, 1) := by decide +kernel
theorem dX0_hoursOf_22 : decode cX0_hoursOf 22 = .ok (.laload, 1) := by decide +kernel
theorem dX0_hoursOf_23 : decode cX0_hoursOf 23 = .ok (.iload_n 1, 1) := by decide +kernel
theorem dX0_hoursOf_24 : decode cX0_hoursOf 24 = .ok (.bipush 6, 2) := by decide +kernel
theorem dX0_hoursOf_26 : decode cX0_hoursOf 26 = .ok (.imul, 1) := by decide +kernel
theorem dX0_hoursOf_27 : decode cX0_hoursOf 27 = .ok (.lushr, 1) := by decide +kernel
theorem dX0_hoursOf_28 : decode cX0_hoursOf 28 = .ok (.l2i, 1) := by decide +kernel
theorem dX0_hoursOf_29 : decode cX0_hoursOf 29 = .ok (.bipush 63, 2) := by decide +kernel
theorem dX0_hoursOf_31 : decode cX0_hoursOf 31 = .ok (.iand, 1) := by decide +kernel
theorem dX0_hoursOf_32 : decode cX0_hoursOf 32 = .ok (.goto 4, 3) := by decide +kernel
theorem dX0_hoursOf_35 : decode cX0_hoursOf 35 = .ok (.iconst 0, 1) := by decide +kernel
theorem dX0_hoursOf_36 : decode cX0_hoursOf 36 = .ok (.ireturn, 1) := by decide +kernel
theorem dX0_isMarked_0 : decode cX0_isMarked 0 = .ok (.iload_n 1, 1) := by decide +kernel
theorem dX0_isMarked_1 : decode cX0_isMarked 1 = .ok (.invokestatic 34, 3) := by decide +kernel
theorem dX0_isMarked_4 : decode cX0_isMarked 4 = .ok (.ifCond .eq 18, 3) := by decide +kernel
theorem dX0_isMarked_7 : decode cX0_isMarked 7 = .ok (.aload_n 0, 1) := by decide +kernel
theorem dX0_isMarked_8 : decode cX0_isMarked 8 = .ok (.getfield 9, 3) := by decide +kernel
theorem dX0_isMarked_11 : decode cX0_isMarked 11 = .ok (.iload_n 1, 1) := by decide +kernel
theorem dX0_isMarked_12 : decode cX0_isMarked 12 = .ok (.iaload, 1) := by decide +kernel
theorem dX0_isMarked_13 : decode cX0_isMarked 13 = .ok (.iload_n 2, 1) := by decide +kernel
theorem dX0_isMarked_14 : decode cX0_isMarked 14 = .ok (.iand, 1) := by decide +kernel
theorem dX0_isMarked_15 : decode cX0_isMarked 15 = .ok (.ifCond .eq 7, 3) := by decide +kernel
theorem dX0_isMarked_18 : decode cX0_isMarked 18 = .ok (.iconst 1, 1) := by decide +kernel
theorem dX0_isMarked_19 : decode cX0_isMarked 19 = .ok (.goto 4, 3) := by decide +kernel
theorem dX0_isMarked_22 : decode cX0_isMarked 22 = .ok (.iconst 0, 1) := by decide +kernel
theorem dX0_isMarked_23 : decode cX0_isMarked 23 = .ok (.ireturn, 1) := by decide +kernel
theorem dX0_mark_0 : decode cX0_mark 0 = .ok (.iload_n 1, 1) := by decide +kernel
theorem dX0_mark_1 : decode cX0_mark 1 = .ok (.invokestatic 34, 3) := by decide +kernel
theorem dX0_mark_4 : decode cX0_mark 4 = .ok (.ifCond .eq 13, 3) := by decide +kernel
theorem dX0_mark_7 : decode cX0_mark 7 = .ok (.aload_n 0, 1) := by decide +kernel
theorem dX0_mark_8 : decode cX0_mark 8 = .ok (.getfield 9, 3) := by decide +kernel
theorem dX0_mark_11 : decode cX0_mark 11 = .ok (.iload_n 1, 1) := by decide +kernel
theorem dX0_mark_12 : decode cX0_mark 12 = .ok (.dup2, 1) := by decide +kernel
theorem dX0_mark_13 : decode cX0_mark 13 = .ok (.iaload, 1) := by decide +kernel
theorem dX0_mark_14 : decode cX0_mark 14 = .ok (.iload_n 2, 1) := by decide +kernel
theorem dX0_mark_15 : decode cX0_mark 15 = .ok (.ior, 1) := by decide +kernel
theorem dX0_mark_16 : decode cX0_mark 16 = .ok (.iastore, 1) := by decide +kernel
theorem dX0_mark_17 : decode cX0_mark 17 = .ok (.return_, 1) := by decide +kernel
theorem dX1_size_0 : decode cX1_size 0 = .ok (.aload_n 0, 1) := by decide +kernel
theorem dX1_size_1 : decode cX1_size 1 = .ok (.getfield 39, 3) := by decide +kernel
theorem dX1_size_4 : decode cX1_size 4 = .ok (.ireturn, 1) := by decide +kernel
theorem dX1_beginNight_0 : decode cX1_beginNight 0 = .ok (.aload_n 0, 1) := by decide +kernel
theorem dX1_beginNight_1 : decode cX1_beginNight 1 = .ok (.aload_n 0, 1) := by decide +kernel
theorem dX1_beginNight_2 : decode cX1_beginNight 2 = .ok (.getfield 39, 3) := by decide +kernel
theorem dX1_beginNight_5 : decode cX1_beginNight 5 = .ok (.putfield 43, 3) := by decide +kernel
theorem dX1_beginNight_8 : decode cX1_beginNight 8 = .ok (.return_, 1) := by decide +kernel
theorem dX1_nightStart_0 : decode cX1_nightStart 0 = .ok (.aload_n 0, 1) := by decide +kernel
theorem dX1_nightStart_1 : decode cX1_nightStart 1 = .ok (.getfield 43, 3) := by decide +kernel
theorem dX1_nightStart_4 : decode cX1_nightStart 4 = .ok (.ireturn, 1) := by decide +kernel
theorem dX1_add_0 : decode cX1_add 0 = .ok (.aload_n 0, 1) := by decide +kernel
theorem dX1_add_1 : decode cX1_add 1 = .ok (.getfield 39, 3) := by decide +kernel
theorem dX1_add_4 : decode cX1_add 4 = .ok (.sipush 400, 3) := by decide +kernel
theorem dX1_add_7 : decode cX1_add 7 = .ok (.if_icmp .ge 17, 3) := by decide +kernel
theorem dX1_add_10 : decode cX1_add 10 = .ok (.aload_n 0, 1) := by decide +kernel
theorem dX1_add_11 : decode cX1_add 11 = .ok (.getfield 39, 3) := by decide +kernel
theorem dX1_add_14 : decode cX1_add 14 = .ok (.aload_n 0, 1) := by decide +kernel
theorem dX1_add_15 : decode cX1_add 15 = .ok (.getfield 43, 3) := by decide +kernel
theorem dX1_add_18 : decode cX1_add 18 = .ok (.isub, 1) := by decide +kernel
theorem dX1_add_19 : decode cX1_add 19 = .ok (.bipush 40, 2) := by decide +kernel
theorem dX1_add_21 : decode cX1_add 21 = .ok (.if_icmp .lt 5, 3) := by decide +kernel
theorem dX1_add_24 : decode cX1_add 24 = .ok (.iconst (-1), 1) := by decide +kernel
theorem dX1_add_25 : decode cX1_add 25 = .ok (.ireturn, 1) := by decide +kernel
theorem dX1_add_26 : decode cX1_add 26 = .ok (.aload_n 0, 1) := by decide +kernel
theorem dX1_add_27 : decode cX1_add 27 = .ok (.getfield 11, 3) := by decide +kernel
theorem dX1_add_30 : decode cX1_add 30 = .ok (.aload_n 0, 1) := by decide +kernel
theorem dX1_add_31 : decode cX1_add 31 = .ok (.getfield 39, 3) := by decide +kernel
theorem dX1_add_34 : decode cX1_add 34 = .ok (.iload_n 1, 1) := by decide +kernel
theorem dX1_add_35 : decode cX1_add 35 = .ok (.iastore, 1) := by decide +kernel
theorem dX1_add_36 : decode cX1_add 36 = .ok (.aload_n 0, 1) := by decide +kernel
theorem dX1_add_37 : decode cX1_add 37 = .ok (.getfield 15, 3) := by decide +kernel
theorem dX1_add_40 : decode cX1_add 40 = .ok (.aload_n 0, 1) := by decide +kernel
theorem dX1_add_41 : decode cX1_add 41 = .ok (.getfield 39, 3) := by decide +kernel
theorem dX1_add_44 : decode cX1_add 44 = .ok (.iload_n 2, 1) := by decide +kernel
theorem dX1_add_45 : decode cX1_add 45 = .ok (.iastore, 1) := by decide +kernel
theorem dX1_add_46 : decode cX1_add 46 = .ok (.aload_n 0, 1) := by decide +kernel
theorem dX1_add_47 : decode cX1_add 47 = .ok (.getfield 18, 3) := by decide +kernel
theorem dX1_add_50 : decode cX1_add 50 = .ok (.aload_n 0, 1) := by decide +kernel
theorem dX1_add_51 : decode cX1_add 51 = .ok (.getfield 39, 3) := by decide +kernel
theorem dX1_add_54 : decode cX1_add 54 = .ok (.iload_n 3, 1) := by decide +kernel
theorem dX1_add_55 : decode cX1_add 55 = .ok (.iastore, 1) := by decide +kernel
theorem dX1_add_56 : decode cX1_add 56 = .ok (.aload_n 0, 1) := by decide +kernel
theorem dX1_add_57 : decode cX1_add 57 = .ok (.getfield 21, 3) := by decide +kernel
theorem dX1_add_60 : decode cX1_add 60 = .ok (.aload_n 0, 1) := by decide +kernel
theorem dX1_add_61 : decode cX1_add 61 = .ok (.getfield 39, 3) := by decide +kernel
theorem dX1_add_64 : decode cX1_add 64 = .ok (.iload 4, 2) := by decide +kernel
theorem dX1_add_66 : decode cX1_add 66 = .ok (.iastore, 1) := by decide +kernel
theorem dX1_add_67 : decode cX1_add 67 = .ok (.aload_n 0, 1) := by decide +kernel
theorem dX1_add_68 : decode cX1_add 68 = .ok (.getfield 24, 3) := by decide +kernel
theorem dX1_add_71 : decode cX1_add 71 = .ok (.aload_n 0, 1) := by decide +kernel
theorem dX1_add_72 : decode cX1_add 72 = .ok (.getfield 39, 3) := by decide +kernel
theorem dX1_add_75 : decode cX1_add 75 = .ok (.iload 5, 2) := by decide +kernel
theorem dX1_add_77 : decode cX1_add 77 = .ok (.iastore, 1) := by decide +kernel
theorem dX1_add_78 : decode cX1_add 78 = .ok (.aload_n 0, 1) := by decide +kernel
theorem dX1_add_79 : decode cX1_add 79 = .ok (.getfield 27, 3) := by decide +kernel
theorem dX1_add_82 : decode cX1_add 82 = .ok (.aload_n 0, 1) := by decide +kernel
theorem dX1_add_83 : decode cX1_add 83 = .ok (.getfield 39, 3) := by decide +kernel
theorem dX1_add_86 : decode cX1_add 86 = .ok (.iload 6, 2) := by decide +kernel
theorem dX1_add_88 : decode cX1_add 88 = .ok (.iastore, 1) := by decide +kernel
theorem dX1_add_89 : decode cX1_add 89 = .ok (.aload_n 0, 1) := by decide +kernel
theorem dX1_add_90 : decode cX1_add 90 = .ok (.getfield 30, 3) := by decide +kernel
theorem dX1_add_93 : decode cX1_add 93 = .ok (.aload_n 0, 1) := by decide +kernel
theorem dX1_add_94 : decode cX1_add 94 = .ok (.getfield 39, 3) := by decide +kernel
theorem dX1_add_97 : decode cX1_add 97 = .ok (.iconst 0, 1) := by decide +kernel
theorem dX1_add_98 : decode cX1_add 98 = .ok (.iastore, 1) := by decide +kernel
theorem dX1_add_99 : decode cX1_add 99 = .ok (.aload_n 0, 1) := by decide +kernel
theorem dX1_add_100 : decode cX1_add 100 = .ok (.getfield 33, 3) := by decide +kernel
theorem dX1_add_103 : decode cX1_add 103 = .ok (.aload_n 0, 1) := by decide +kernel
theorem dX1_add_104 : decode cX1_add 104 = .ok (.getfield 39, 3) := by decide +kernel
theorem dX1_add_107 : decode cX1_add 107 = .ok (.iconst (-1), 1) := by decide +kernel
theorem dX1_add_108 : decode cX1_add 108 = .ok (.iastore, 1) := by decide +kernel
theorem dX1_add_109 : decode cX1_add 109 = .ok (.aload_n 0, 1) := by decide +kernel
theorem dX1_add_110 : decode cX1_add 110 = .ok (.getfield 36, 3) := by decide +kernel
theorem dX1_add_113 : decode cX1_add 113 = .ok (.aload_n 0, 1) := by decide +kernel
theorem dX1_add_114 : decode cX1_add 114 = .ok (.getfield 39, 3) := by decide +kernel
theorem dX1_add_117 : decode cX1_add 117 = .ok (.iconst (-1), 1) := by decide +kernel
theorem dX1_add_118 : decode cX1_add 118 = .ok (.iastore, 1) := by decide +kernel
theorem dX1_add_119 : decode cX1_add 119 = .ok (.aload_n 0, 1) := by decide +kernel
theorem dX1_add_120 : decode cX1_add 120 = .ok (.dup, 1) := by decide +kernel
theorem dX1_add_121 : decode cX1_add 121 = .ok (.getfield 39, 3) := by decide +kernel
theorem dX1_add_124 : decode cX1_add 124 = .ok (.iconst 1, 1) := by decide +kernel
theorem dX1_add_125 : decode cX1_add 125 = .ok (.iadd, 1) := by decide +kernel
theorem dX1_add_126 : decode cX1_add 126 = .ok (.putfield 39, 3) := by decide +kernel
theorem dX1_add_129 : decode cX1_add 129 = .ok (.aload_n 0, 1) := by decide +kernel
theorem dX1_add_130 : decode cX1_add 130 = .ok (.getfield 39, 3) := by decide +kernel
theorem dX1_add_133 : decode cX1_add 133 = .ok (.iconst 1, 1) := by decide +kernel
theorem dX1_add_134 : decode cX1_add 134 = .ok (.isub, 1) := by decide +kernel
theorem dX1_add_135 : decode cX1_add 135 = .ok (.ireturn, 1) := by decide +kernel
theorem dX1_isCall_0 : decode cX1_isCall 0 = .ok (.iload_n 1, 1) := by decide +kernel
theorem dX1_isCall_1 : decode cX1_isCall 1 = .ok (.ifCond .lt 15, 3) := by decide +kernel
theorem dX1_isCall_4 : decode cX1_isCall 4 = .ok (.iload_n 1, 1) := by decide +kernel
theorem dX1_isCall_5 : decode cX1_isCall 5 = .ok (.aload_n 0, 1) := by decide +kernel
theorem dX1_isCall_6 : decode cX1_isCall 6 = .ok (.getfield 39, 3) := by decide +kernel
theorem dX1_isCall_9 : decode cX1_isCall 9 = .ok (.if_icmp .ge 7, 3) := by decide +kernel
theorem dX1_isCall_12 : decode cX1_isCall 12 = .ok (.iconst 1, 1) := by decide +kernel
theorem dX1_isCall_13 : decode cX1_isCall 13 = .ok (.goto 4, 3) := by decide +kernel
theorem dX1_isCall_16 : decode cX1_isCall 16 = .ok (.iconst 0, 1) := by decide +kernel
theorem dX1_isCall_17 : decode cX1_isCall 17 = .ok (.ireturn, 1) := by decide +kernel
theorem dX1_nightOf_0 : decode cX1_nightOf 0 = .ok (.aload_n 0, 1) := by decide +kernel
theorem dX1_nightOf_1 : decode cX1_nightOf 1 = .ok (.iload_n 1, 1) := by decide +kernel
theorem dX1_nightOf_2 : decode cX1_nightOf 2 = .ok (.invokevirtual 46, 3) := by decide +kernel
theorem dX1_nightOf_5 : decode cX1_nightOf 5 = .ok (.ifCond .eq 12, 3) := by decide +kernel
theorem dX1_nightOf_8 : decode cX1_nightOf 8 = .ok (.aload_n 0, 1) := by decide +kernel
theorem dX1_nightOf_9 : decode cX1_nightOf 9 = .ok (.getfield 11, 3) := by decide +kernel
theorem dX1_nightOf_12 : decode cX1_nightOf 12 = .ok (.iload_n 1, 1) := by decide +kernel
theorem dX1_nightOf_13 : decode cX1_nightOf 13 = .ok (.iaload, 1) := by decide +kernel
theorem dX1_nightOf_14 : decode cX1_nightOf 14 = .ok (.goto 4, 3) := by decide +kernel
theorem dX1_nightOf_17 : decode cX1_nightOf 17 = .ok (.iconst (-1), 1) := by decide +kernel
theorem dX1_nightOf_18 : decode cX1_nightOf 18 = .ok (.ireturn, 1) := by decide +kernel
theorem dX1_minuteOf_0 : decode cX1_minuteOf 0 = .ok (.aload_n 0, 1) := by decide +kernel
theorem dX1_minuteOf_1 : decode cX1_minuteOf 1 = .ok (.iload_n 1, 1) := by decide +kernel
theorem dX1_minuteOf_2 : decode cX1_minuteOf 2 = .ok (.invokevirtual 46, 3) := by decide +kernel
theorem dX1_minuteOf_5 : decode cX1_minuteOf 5 = .ok (.ifCond .eq 12, 3) := by decide +kernel
theorem dX1_minuteOf_8 : decode cX1_minuteOf 8 = .ok (.aload_n 0, 1) := by decide +kernel
theorem dX1_minuteOf_9 : decode cX1_minuteOf 9 = .ok (.getfield 15, 3) := by decide +kernel
theorem dX1_minuteOf_12 : decode cX1_minuteOf 12 = .ok (.iload_n 1, 1) := by decide +kernel
theorem dX1_minuteOf_13 : decode cX1_minuteOf 13 = .ok (.iaload, 1) := by decide +kernel
theorem dX1_minuteOf_14 : decode cX1_minuteOf 14 = .ok (.goto 4, 3) := by decide +kernel
theorem dX1_minuteOf_17 : decode cX1_minuteOf 17 = .ok (.iconst (-1), 1) := by decide +kernel
theorem dX1_minuteOf_18 : decode cX1_minuteOf 18 = .ok (.ireturn, 1) := by decide +kernel
theorem dX1_callerOf_0 : decode cX1_callerOf 0 = .ok (.aload_n 0, 1) := by decide +kernel
theorem dX1_callerOf_1 : decode cX1_callerOf 1 = .ok (.iload_n 1, 1) := by decide +kernel
theorem dX1_callerOf_2 : decode cX1_callerOf 2 = .ok (.invokevirtual 46, 3) := by decide +kernel
theorem dX1_callerOf_5 : decode cX1_callerOf 5 = .ok (.ifCond .eq 12, 3) := by decide +kernel
theorem dX1_callerOf_8 : decode cX1_callerOf 8 = .ok (.aload_n 0, 1) := by decide +kernel
theorem dX1_callerOf_9 : decode cX1_callerOf 9 = .ok (.getfield 18, 3) := by decide +kernel
theorem dX1_callerOf_12 : decode cX1_callerOf 12 = .ok (.iload_n 1, 1) := by decide +kernel
theorem dX1_callerOf_13 : decode cX1_callerOf 13 = .ok (.iaload, 1) := by decide +kernel
theorem dX1_callerOf_14 : decode cX1_callerOf 14 = .ok (.goto 4, 3) := by decide +kernel
theorem dX1_callerOf_17 : decode cX1_callerOf 17 = .ok (.iconst (-1), 1) := by decide +kernel
theorem dX1_callerOf_18 : decode cX1_callerOf 18 = .ok (.ireturn, 1) := by decide +kernel
theorem dX1_needOf_0 : decode cX1_needOf 0 = .ok (.aload_n 0, 1) := by decide +kernel
theorem dX1_needOf_1 : decode cX1_needOf 1 = .ok (.iload_n 1, 1) := by decide +kernel
theorem dX1_needOf_2 : decode cX1_needOf 2 = .ok (.invokevirtual 46, 3) := by decide +kernel
theorem dX1_needOf_5 : decode cX1_needOf 5 = .ok (.ifCond .eq 12, 3) := by decide +kernel
theorem dX1_needOf_8 : decode cX1_needOf 8 = .ok (.aload_n 0, 1) := by decide +kernel
theorem dX1_needOf_9 : decode cX1_needOf 9 = .ok (.getfield 21, 3) := by decide +kernel
theorem dX1_needOf_12 : decode cX1_needOf 12 = .ok (.iload_n 1, 1) := by decide +kernel
theorem dX1_needOf_13 : decode cX1_needOf 13 = .ok (.iaload, 1) := by decide +kernel
theorem dX1_needOf_14 : decode cX1_needOf 14 = .ok (.goto 4, 3) := by decide +kernel
theorem dX1_needOf_17 : decode cX1_needOf 17 = .ok (.iconst (-1), 1) := by decide +kernel
theorem dX1_needOf_18 : decode cX1_needOf 18 = .ok (.ireturn, 1) := by decide +kernel
theorem dX1_topicOf_0 : decode cX1_topicOf 0 = .ok (.aload_n 0, 1) := by decide +kernel
theorem dX1_topicOf_1 : decode cX1_topicOf 1 = .ok (.iload_n 1, 1) := by decide +kernel
theorem dX1_topicOf_2 : decode cX1_topicOf 2 = .ok (.invokevirtual 46, 3) := by decide +kernel
theorem dX1_topicOf_5 : decode cX1_topicOf 5 = .ok (.ifCond .eq 12, 3) := by decide +kernel
theorem dX1_topicOf_8 : decode cX1_topicOf 8 = .ok (.aload_n 0, 1) := by decide +kernel
theorem dX1_topicOf_9 : decode cX1_topicOf 9 = .ok (.getfield 24, 3) := by decide +kernel
theorem dX1_topicOf_12 : decode cX1_topicOf 12 = .ok (.iload_n 1, 1) := by decide +kernel
theorem dX1_topicOf_13 : decode cX1_topicOf 13 = .ok (.iaload, 1) := by decide +kernel
theorem dX1_topicOf_14 : decode cX1_topicOf 14 = .ok (.goto 4, 3) := by decide +kernel
theorem dX1_topicOf_17 : decode cX1_topicOf 17 = .ok (.iconst (-1), 1) := by decide +kernel
theorem dX1_topicOf_18 : decode cX1_topicOf 18 = .ok (.ireturn, 1) := by decide +kernel
theorem dX1_lengthOf_0 : decode cX1_lengthOf 0 = .ok (.aload_n 0, 1) := by decide +kernel
theorem dX1_lengthOf_1 : decode cX1_lengthOf 1 = .ok (.iload_n 1, 1) := by decide +kernel
theorem dX1_lengthOf_2 : decode cX1_lengthOf 2 = .ok (.invokevirtual 46, 3) := by decide +kernel
theorem dX1_lengthOf_5 : decode cX1_lengthOf 5 = .ok (.ifCond .eq 12, 3) := by decide +kernel
theorem dX1_lengthOf_8 : decode cX1_lengthOf 8 = .ok (.aload_n 0, 1) := by decide +kernel
theorem dX1_lengthOf_9 : decode cX1_lengthOf 9 = .ok (.getfield 27, 3) := by decide +kernel
theorem dX1_lengthOf_12 : decode cX1_lengthOf 12 = .ok (.iload_n 1, 1) := by decide +kernel
theorem dX1_lengthOf_13 : decode cX1_lengthOf 13 = .ok (.iaload, 1) := by decide +kernel
theorem dX1_lengthOf_14 : decode cX1_lengthOf 14 = .ok (.goto 4, 3) := by decide +kernel
theorem dX1_lengthOf_17 : decode cX1_lengthOf 17 = .ok (.iconst 0, 1) := by decide +kernel
theorem dX1_lengthOf_18 : decode cX1_lengthOf 18 = .ok (.ireturn, 1) := by decide +kernel
theorem dX1_stateOf_0 : decode cX1_stateOf 0 = .ok (.aload_n 0, 1) := by decide +kernel
theorem dX1_stateOf_1 : decode cX1_stateOf 1 = .ok (.iload_n 1, 1) := by decide +kernel
theorem dX1_stateOf_2 : decode cX1_stateOf 2 = .ok (.invokevirtual 46, 3) := by decide +kernel
theorem dX1_stateOf_5 : decode cX1_stateOf 5 = .ok (.ifCond .eq 12, 3) := by decide +kernel
theorem dX1_stateOf_8 : decode cX1_stateOf 8 = .ok (.aload_n 0, 1) := by decide +kernel
theorem dX1_stateOf_9 : decode cX1_stateOf 9 = .ok (.getfield 30, 3) := by decide +kernel
theorem dX1_stateOf_12 : decode cX1_stateOf 12 = .ok (.iload_n 1, 1) := by decide +kernel
theorem dX1_stateOf_13 : decode cX1_stateOf 13 = .ok (.iaload, 1) := by decide +kernel
theorem dX1_stateOf_14 : decode cX1_stateOf 14 = .ok (.goto 4, 3) := by decide +kernel
theorem dX1_stateOf_17 : decode cX1_stateOf 17 = .ok (.iconst (-1), 1) := by decide +kernel
theorem dX1_stateOf_18 : decode cX1_stateOf 18 = .ok (.ireturn, 1) := by decide +kernel
theorem dX1_takerOf_0 : decode cX1_takerOf 0 = .ok (.aload_n 0, 1) := by decide +kernel
theorem dX1_takerOf_1 : decode cX1_takerOf 1 = .ok (.iload_n 1, 1) := by decide +kernel
theorem dX1_takerOf_2 : decode cX1_takerOf 2 = .ok (.invokevirtual 46, 3) := by decide +kernel
theorem dX1_takerOf_5 : decode cX1_takerOf 5 = .ok (.ifCond .eq 12, 3) := by decide +kernel
theorem dX1_takerOf_8 : decode cX1_takerOf 8 = .ok (.aload_n 0, 1) := by decide +kernel
theorem dX1_takerOf_9 : decode cX1_takerOf 9 = .ok (.getfield 33, 3) := by decide +kernel
theorem dX1_takerOf_12 : decode cX1_takerOf 12 = .ok (.iload_n 1, 1) := by decide +kernel
theorem dX1_takerOf_13 : decode cX1_takerOf 13 = .ok (.iaload, 1) := by decide +kernel
theorem dX1_takerOf_14 : decode cX1_takerOf 14 = .ok (.goto 4, 3) := by decide +kernel
theorem dX1_takerOf_17 : decode cX1_takerOf 17 = .ok (.iconst (-1), 1) := by decide +kernel
theorem dX1_takerOf_18 : decode cX1_takerOf 18 = .ok (.ireturn, 1) := by decide +kernel
theorem dX1_sinceOf_0 : decode cX1_sinceOf 0 = .ok (.aload_n 0, 1) := by decide +kernel
theorem dX1_sinceOf_1 : decode cX1_sinceOf 1 = .ok (.iload_n 1, 1) := by decide +kernel
theorem dX1_sinceOf_2 : decode cX1_sinceOf 2 = .ok (.invokevirtual 46, 3) := by decide +kernel
theorem dX1_sinceOf_5 : decode cX1_sinceOf 5 = .ok (.ifCond .eq 12, 3) := by decide +kernel
theorem dX1_sinceOf_8 : decode cX1_sinceOf 8 = .ok (.aload_n 0, 1) := by decide +kernel
theorem dX1_sinceOf_9 : decode cX1_sinceOf 9 = .ok (.getfield 36, 3) := by decide +kernel
theorem dX1_sinceOf_12 : decode cX1_sinceOf 12 = .ok (.iload_n 1, 1) := by decide +kernel
theorem dX1_sinceOf_13 : decode cX1_sinceOf 13 = .ok (.iaload, 1) := by decide +kernel
theorem dX1_sinceOf_14 : decode cX1_sinceOf 14 = .ok (.goto 4, 3) := by decide +kernel
theorem dX1_sinceOf_17 : decode cX1_sinceOf 17 = .ok (.iconst (-1), 1) := by decide +kernel
theorem dX1_sinceOf_18 : decode cX1_sinceOf 18 = .ok (.ireturn, 1) := by decide +kernel
theorem dX1_endOf_0 : decode cX1_endOf 0 = .ok (.aload_n 0, 1) := by decide +kernel
theorem dX1_endOf_1 : decode cX1_endOf 1 = .ok (.iload_n 1, 1) := by decide +kernel
theorem dX1_endOf_2 : decode cX1_endOf 2 = .ok (.invokevirtual 46, 3) := by decide +kernel
theorem dX1_endOf_5 : decode cX1_endOf 5 = .ok (.ifCond .eq 29, 3) := by decide +kernel
theorem dX1_endOf_8 : decode cX1_endOf 8 = .ok (.aload_n 0, 1) := by decide +kernel
theorem dX1_endOf_9 : decode cX1_endOf 9 = .ok (.getfield 30, 3) := by decide +kernel
theorem dX1_endOf_12 : decode cX1_endOf 12 = .ok (.iload_n 1, 1) := by decide +kernel
theorem dX1_endOf_13 : decode cX1_endOf 13 = .ok (.iaload, 1) := by decide +kernel
theorem dX1_endOf_14 : decode cX1_endOf 14 = .ok (.iconst 1, 1) := by decide +kernel
theorem dX1_endOf_15 : decode cX1_endOf 15 = .ok (.if_icmp .ne 19, 3) := by decide +kernel
theorem dX1_endOf_18 : decode cX1_endOf 18 = .ok (.aload_n 0, 1) := by decide +kernel
theorem dX1_endOf_19 : decode cX1_endOf 19 = .ok (.getfield 36, 3) := by decide +kernel
theorem dX1_endOf_22 : decode cX1_endOf 22 = .ok (.iload_n 1, 1) := by decide +kernel
theorem dX1_endOf_23 : decode cX1_endOf 23 = .ok (.iaload, 1) := by decide +kernel
theorem dX1_endOf_24 : decode cX1_endOf 24 = .ok (.aload_n 0, 1) := by decide +kernel
theorem dX1_endOf_25 : decode cX1_endOf 25 = .ok (.getfield 27, 3) := by decide +kernel
theorem dX1_endOf_28 : decode cX1_endOf 28 = .ok (.iload_n 1, 1) := by decide +kernel
theorem dX1_endOf_29 : decode cX1_endOf 29 = .ok (.iaload, 1) := by decide +kernel
theorem dX1_endOf_30 : decode cX1_endOf 30 = .ok (.iadd, 1) := by decide +kernel
theorem dX1_endOf_31 : decode cX1_endOf 31 = .ok (.goto 4, 3) := by decide +kernel
theorem dX1_endOf_34 : decode cX1_endOf 34 = .ok (.iconst (-1), 1) := by decide +kernel
theorem dX1_endOf_35 : decode cX1_endOf 35 = .ok (.ireturn, 1) := by decide +kernel
theorem dX1_isWaiting_0 : decode cX1_isWaiting 0 = .ok (.aload_n 0, 1) := by decide +kernel
theorem dX1_isWaiting_1 : decode cX1_isWaiting 1 = .ok (.iload_n 1, 1) := by decide +kernel
theorem dX1_isWaiting_2 : decode cX1_isWaiting 2 = .ok (.invokevirtual 46, 3) := by decide +kernel
theorem dX1_isWaiting_5 : decode cX1_isWaiting 5 = .ok (.ifCond .eq 26, 3) := by decide +kernel
theorem dX1_isWaiting_8 : decode cX1_isWaiting 8 = .ok (.aload_n 0, 1) := by decide +kernel
theorem dX1_isWaiting_9 : decode cX1_isWaiting 9 = .ok (.getfield 30, 3) := by decide +kernel
theorem dX1_isWaiting_12 : decode cX1_isWaiting 12 = .ok (.iload_n 1, 1) := by decide +kernel
theorem dX1_isWaiting_13 : decode cX1_isWaiting 13 = .ok (.iaload, 1) := by decide +kernel
theorem dX1_isWaiting_14 : decode cX1_isWaiting 14 = .ok (.ifCond .ne 17, 3) := by decide +kernel
theorem dX1_isWaiting_17 : decode cX1_isWaiting 17 = .ok (.aload_n 0, 1) := by decide +kernel
theorem dX1_isWaiting_18 : decode cX1_isWaiting 18 = .ok (.getfield 15, 3) := by decide +kernel
theorem dX1_isWaiting_21 : decode cX1_isWaiting 21 = .ok (.iload_n 1, 1) := by decide +kernel
theorem dX1_isWaiting_22 : decode cX1_isWaiting 22 = .ok (.iaload, 1) := by decide +kernel
theorem dX1_isWaiting_23 : decode cX1_isWaiting 23 = .ok (.iload_n 2, 1) := by decide +kernel
theorem dX1_isWaiting_24 : decode cX1_isWaiting 24 = .ok (.if_icmp .gt 7, 3) := by decide +kernel
theorem dX1_isWaiting_27 : decode cX1_isWaiting 27 = .ok (.iconst 1, 1) := by decide +kernel
theorem dX1_isWaiting_28 : decode cX1_isWaiting 28 = .ok (.goto 4, 3) := by decide +kernel
theorem dX1_isWaiting_31 : decode cX1_isWaiting 31 = .ok (.iconst 0, 1) := by decide +kernel
theorem dX1_isWaiting_32 : decode cX1_isWaiting 32 = .ok (.ireturn, 1) := by decide +kernel
theorem dX1_give_0 : decode cX1_give 0 = .ok (.aload_n 0, 1) := by decide +kernel
theorem dX1_give_1 : decode cX1_give 1 = .ok (.iload_n 1, 1) := by decide +kernel
theorem dX1_give_2 : decode cX1_give 2 = .ok (.invokevirtual 46, 3) := by decide +kernel
theorem dX1_give_5 : decode cX1_give 5 = .ok (.ifCond .eq 24, 3) := by decide +kernel
theorem dX1_give_8 : decode cX1_give 8 = .ok (.aload_n 0, 1) := by decide +kernel
theorem dX1_give_9 : decode cX1_give 9 = .ok (.getfield 30, 3) := by decide +kernel
theorem dX1_give_12 : decode cX1_give 12 = .ok (.iload_n 1, 1) := by decide +kernel
theorem dX1_give_13 : decode cX1_give 13 = .ok (.iconst 1, 1) := by decide +kernel
theorem dX1_give_14 : decode cX1_give 14 = .ok (.iastore, 1) := by decide +kernel
theorem dX1_give_15 : decode cX1_give 15 = .ok (.aload_n 0, 1) := by decide +kernel
theorem dX1_give_16 : decode cX1_give 16 = .ok (.getfield 33, 3) := by decide +kernel
theorem dX1_give_19 : decode cX1_give 19 = .ok (.iload_n 1, 1) := by decide +kernel
theorem dX1_give_20 : decode cX1_give 20 = .ok (.iload_n 2, 1) := by decide +kernel
theorem dX1_give_21 : decode cX1_give 21 = .ok (.iastore, 1) := by decide +kernel
theorem dX1_give_22 : decode cX1_give 22 = .ok (.aload_n 0, 1) := by decide +kernel
theorem dX1_give_23 : decode cX1_give 23 = .ok (.getfield 36, 3) := by decide +kernel
theorem dX1_give_26 : decode cX1_give 26 = .ok (.iload_n 1, 1) := by decide +kernel
theorem dX1_give_27 : decode cX1_give 27 = .ok (.iload_n 3, 1) := by decide +kernel
theorem dX1_give_28 : decode cX1_give 28 = .ok (.iastore, 1) := by decide +kernel
theorem dX1_give_29 : decode cX1_give 29 = .ok (.return_, 1) := by decide +kernel
theorem dX1_drop_0 : decode cX1_drop 0 = .ok (.aload_n 0, 1) := by decide +kernel
theorem dX1_drop_1 : decode cX1_drop 1 = .ok (.iload_n 1, 1) := by decide +kernel
theorem dX1_drop_2 : decode cX1_drop 2 = .ok (.invokevirtual 46, 3) := by decide +kernel
theorem dX1_drop_5 : decode cX1_drop 5 = .ok (.ifCond .eq 17, 3) := by decide +kernel
theorem dX1_drop_8 : decode cX1_drop 8 = .ok (.aload_n 0, 1) := by decide +kernel
theorem dX1_drop_9 : decode cX1_drop 9 = .ok (.getfield 30, 3) := by decide +kernel
theorem dX1_drop_12 : decode cX1_drop 12 = .ok (.iload_n 1, 1) := by decide +kernel
theorem dX1_drop_13 : decode cX1_drop 13 = .ok (.iconst 2, 1) := by decide +kernel
theorem dX1_drop_14 : decode cX1_drop 14 = .ok (.iastore, 1) := by decide +kernel
theorem dX1_drop_15 : decode cX1_drop 15 = .ok (.aload_n 0, 1) := by decide +kernel
theorem dX1_drop_16 : decode cX1_drop 16 = .ok (.getfield 36, 3) := by decide +kernel
theorem dX1_drop_19 : decode cX1_drop 19 = .ok (.iload_n 1, 1) := by decide +kernel
theorem dX1_drop_20 : decode cX1_drop 20 = .ok (.iload_n 2, 1) := by decide +kernel
theorem dX1_drop_21 : decode cX1_drop 21 = .ok (.iastore, 1) := by decide +kernel
theorem dX1_drop_22 : decode cX1_drop 22 = .ok (.return_, 1) := by decide +kernel
theorem dX1_leave_0 : decode cX1_leave 0 = .ok (.aload_n 0, 1) := by decide +kernel
theorem dX1_leave_1 : decode cX1_leave 1 = .ok (.iload_n 1, 1) := by decide +kernel
theorem dX1_leave_2 : decode cX1_leave 2 = .ok (.invokevirtual 46, 3) := by decide +kernel
theorem dX1_leave_5 : decode cX1_leave 5 = .ok (.ifCond .eq 10, 3) := by decide +kernel
theorem dX1_leave_8 : decode cX1_leave 8 = .ok (.aload_n 0, 1) := by decide +kernel
theorem dX1_leave_9 : decode cX1_leave 9 = .ok (.getfield 30, 3) := by decide +kernel
theorem dX1_leave_12 : decode cX1_leave 12 = .ok (.iload_n 1, 1) := by decide +kernel
theorem dX1_leave_13 : decode cX1_leave 13 = .ok (.iconst 3, 1) := by decide +kernel
theorem dX1_leave_14 : decode cX1_leave 14 = .ok (.iastore, 1) := by decide +kernel
theorem dX1_leave_15 : decode cX1_leave 15 = .ok (.return_, 1) := by decide +kernel
theorem dX1_countState_0 : decode cX1_countState 0 = .ok (.iconst 0, 1) := by decide +kernel
theorem dX1_countState_1 : decode cX1_countState 1 = .ok (.istore_n 2, 1) := by decide +kernel
theorem dX1_countState_2 : decode cX1_countState 2 = .ok (.iconst 0, 1) := by decide +kernel
theorem dX1_countState_3 : decode cX1_countState 3 = .ok (.istore_n 3, 1) := by decide +kernel
theorem dX1_countState_4 : decode cX1_countState 4 = .ok (.iload_n 3, 1) := by decide +kernel
theorem dX1_countState_5 : decode cX1_countState 5 = .ok (.aload_n 0, 1) := by decide +kernel
theorem dX1_countState_6 : decode cX1_countState 6 = .ok (.getfield 39, 3) := by decide +kernel
theorem dX1_countState_9 : decode cX1_countState 9 = .ok (.if_icmp .ge 22, 3) := by decide +kernel
theorem dX1_countState_12 : decode cX1_countState 12 = .ok (.aload_n 0, 1) := by decide +kernel
theorem dX1_countState_13 : decode cX1_countState 13 = .ok (.getfield 30, 3) := by decide +kernel
theorem dX1_countState_16 : decode cX1_countState 16 = .ok (.iload_n 3, 1) := by decide +kernel
theorem dX1_countState_17 : decode cX1_countState 17 = .ok (.iaload, 1) := by decide +kernel
theorem dX1_countState_18 : decode cX1_countState 18 = .ok (.iload_n 1, 1) := by decide +kernel
theorem dX1_countState_19 : decode cX1_countState 19 = .ok (.if_icmp .ne 6, 3) := by decide +kernel
theorem dX1_countState_22 : decode cX1_countState 22 = .ok (.iinc 2 1, 3) := by decide +kernel
theorem dX1_countState_25 : decode cX1_countState 25 = .ok (.iinc 3 1, 3) := by decide +kernel
theorem dX1_countState_28 : decode cX1_countState 28 = .ok (.goto (-24), 3) := by decide +kernel
theorem dX1_countState_31 : decode cX1_countState 31 = .ok (.iload_n 2, 1) := by decide +kernel
theorem dX1_countState_32 : decode cX1_countState 32 = .ok (.ireturn, 1) := by decide +kernel
theorem dX1_minutesOf_0 : decode cX1_minutesOf 0 = .ok (.iconst 0, 1) := by decide +kernel
theorem dX1_minutesOf_1 : decode cX1_minutesOf 1 = .ok (.istore_n 3, 1) := by decide +kernel
theorem dX1_minutesOf_2 : decode cX1_minutesOf 2 = .ok (.iconst 0, 1) := by decide +kernel
theorem dX1_minutesOf_3 : decode cX1_minutesOf 3 = .ok (.istore 4, 2) := by decide +kernel
theorem dX1_minutesOf_5 : decode cX1_minutesOf 5 = .ok (.iload 4, 2) := by decide +kernel
theorem dX1_minutesOf_7 : decode cX1_minutesOf 7 = .ok (.aload_n 0, 1) := by decide +kernel
theorem dX1_minutesOf_8 : decode cX1_minutesOf 8 = .ok (.getfield 39, 3) := by decide +kernel
theorem dX1_minutesOf_11 : decode cX1_minutesOf 11 = .ok (.if_icmp .ge 41, 3) := by decide +kernel
theorem dX1_minutesOf_14 : decode cX1_minutesOf 14 = .ok (.aload_n 0, 1) := by decide +kernel
theorem dX1_minutesOf_15 : decode cX1_minutesOf 15 = .ok (.getfield 11, 3) := by decide +kernel
theorem dX1_minutesOf_18 : decode cX1_minutesOf 18 = .ok (.iload 4, 2) := by decide +kernel
theorem dX1_minutesOf_20 : decode cX1_minutesOf 20 = .ok (.iaload, 1) := by decide +kernel
theorem dX1_minutesOf_21 : decode cX1_minutesOf 21 = .ok (.iload_n 2, 1) := by decide +kernel
theorem dX1_minutesOf_22 : decode cX1_minutesOf 22 = .ok (.if_icmp .ne 24, 3) := by decide +kernel
theorem dX1_minutesOf_25 : decode cX1_minutesOf 25 = .ok (.aload_n 0, 1) := by decide +kernel
theorem dX1_minutesOf_26 : decode cX1_minutesOf 26 = .ok (.getfield 33, 3) := by decide +kernel
theorem dX1_minutesOf_29 : decode cX1_minutesOf 29 = .ok (.iload 4, 2) := by decide +kernel
theorem dX1_minutesOf_31 : decode cX1_minutesOf 31 = .ok (.iaload, 1) := by decide +kernel
theorem dX1_minutesOf_32 : decode cX1_minutesOf 32 = .ok (.iload_n 1, 1) := by decide +kernel
theorem dX1_minutesOf_33 : decode cX1_minutesOf 33 = .ok (.if_icmp .ne 13, 3) := by decide +kernel
theorem dX1_minutesOf_36 : decode cX1_minutesOf 36 = .ok (.iload_n 3, 1) := by decide +kernel
theorem dX1_minutesOf_37 : decode cX1_minutesOf 37 = .ok (.aload_n 0, 1) := by decide +kernel
theorem dX1_minutesOf_38 : decode cX1_minutesOf 38 = .ok (.getfield 27, 3) := by decide +kernel
theorem dX1_minutesOf_41 : decode cX1_minutesOf 41 = .ok (.iload 4, 2) := by decide +kernel
theorem dX1_minutesOf_43 : decode cX1_minutesOf 43 = .ok (.iaload, 1) := by decide +kernel
theorem dX1_minutesOf_44 : decode cX1_minutesOf 44 = .ok (.iadd, 1) := by decide +kernel
theorem dX1_minutesOf_45 : decode cX1_minutesOf 45 = .ok (.istore_n 3, 1) := by decide +kernel
theorem dX1_minutesOf_46 : decode cX1_minutesOf 46 = .ok (.iinc 4 1, 3) := by decide +kernel
theorem dX1_minutesOf_49 : decode cX1_minutesOf 49 = .ok (.goto (-44), 3) := by decide +kernel
theorem dX1_minutesOf_52 : decode cX1_minutesOf 52 = .ok (.iload_n 3, 1) := by decide +kernel
theorem dX1_minutesOf_53 : decode cX1_minutesOf 53 = .ok (.ireturn, 1) := by decide +kernel
theorem dX1_hasHardCall_0 : decode cX1_hasHardCall 0 = .ok (.iconst 0, 1) := by decide +kernel
theorem dX1_hasHardCall_1 : decode cX1_hasHardCall 1 = .ok (.istore 4, 2) := by decide +kernel
theorem dX1_hasHardCall_3 : decode cX1_hasHardCall 3 = .ok (.iload 4, 2) := by decide +kernel
theorem dX1_hasHardCall_5 : decode cX1_hasHardCall 5 = .ok (.aload_n 0, 1) := by decide +kernel
theorem dX1_hasHardCall_6 : decode cX1_hasHardCall 6 = .ok (.getfield 39, 3) := by decide +kernel
theorem dX1_hasHardCall_9 : decode cX1_hasHardCall 9 = .ok (.if_icmp .ge 68, 3) := by decide +kernel
theorem dX1_hasHardCall_12 : decode cX1_hasHardCall 12 = .ok (.aload_n 0, 1) := by decide +kernel
theorem dX1_hasHardCall_13 : decode cX1_hasHardCall 13 = .ok (.getfield 11, 3) := by decide +kernel
theorem dX1_hasHardCall_16 : decode cX1_hasHardCall 16 = .ok (.iload 4, 2) := by decide +kernel
theorem dX1_hasHardCall_18 : decode cX1_hasHardCall 18 = .ok (.iaload, 1) := by decide +kernel
theorem dX1_hasHardCall_19 : decode cX1_hasHardCall 19 = .ok (.iload_n 2, 1) := by decide +kernel
theorem dX1_hasHardCall_20 : decode cX1_hasHardCall 20 = .ok (.if_icmp .lt 18, 3) := by decide +kernel
theorem dX1_hasHardCall_23 : decode cX1_hasHardCall 23 = .ok (.aload_n 0, 1) := by decide +kernel
theorem dX1_hasHardCall_24 : decode cX1_hasHardCall 24 = .ok (.getfield 11, 3) := by decide +kernel
theorem dX1_hasHardCall_27 : decode cX1_hasHardCall 27 = .ok (.iload 4, 2) := by decide +kernel
theorem dX1_hasHardCall_29 : decode cX1_hasHardCall 29 = .ok (.iaload, 1) := by decide +kernel
theorem dX1_hasHardCall_30 : decode cX1_hasHardCall 30 = .ok (.iload_n 3, 1) := by decide +kernel
theorem dX1_hasHardCall_31 : decode cX1_hasHardCall 31 = .ok (.if_icmp .ge 7, 3) := by decide +kernel
theorem dX1_hasHardCall_34 : decode cX1_hasHardCall 34 = .ok (.iconst 1, 1) := by decide +kernel
theorem dX1_hasHardCall_35 : decode cX1_hasHardCall 35 = .ok (.goto 4, 3) := by decide +kernel
theorem dX1_hasHardCall_38 : decode cX1_hasHardCall 38 = .ok (.iconst 0, 1) := by decide +kernel
theorem dX1_hasHardCall_39 : decode cX1_hasHardCall 39 = .ok (.istore 5, 2) := by decide +kernel
theorem dX1_hasHardCall_41 : decode cX1_hasHardCall 41 = .ok (.iload 5, 2) := by decide +kernel
theorem dX1_hasHardCall_43 : decode cX1_hasHardCall 43 = .ok (.ifCond .eq 28, 3) := by decide +kernel
theorem dX1_hasHardCall_46 : decode cX1_hasHardCall 46 = .ok (.aload_n 0, 1) := by decide +kernel
theorem dX1_hasHardCall_47 : decode cX1_hasHardCall 47 = .ok (.getfield 33, 3) := by decide +kernel
theorem dX1_hasHardCall_50 : decode cX1_hasHardCall 50 = .ok (.iload 4, 2) := by decide +kernel
theorem dX1_hasHardCall_52 : decode cX1_hasHardCall 52 = .ok (.iaload, 1) := by decide +kernel
theorem dX1_hasHardCall_53 : decode cX1_hasHardCall 53 = .ok (.iload_n 1, 1) := by decide +kernel
theorem dX1_hasHardCall_54 : decode cX1_hasHardCall 54 = .ok (.if_icmp .ne 17, 3) := by decide +kernel
theorem dX1_hasHardCall_57 : decode cX1_hasHardCall 57 = .ok (.aload_n 0, 1) := by decide +kernel
theorem dX1_hasHardCall_58 : decode cX1_hasHardCall 58 = .ok (.getfield 21, 3) := by decide +kernel
theorem dX1_hasHardCall_61 : decode cX1_hasHardCall 61 = .ok (.iload 4, 2) := by decide +kernel
theorem dX1_hasHardCall_63 : decode cX1_hasHardCall 63 = .ok (.iaload, 1) := by decide +kernel
theorem dX1_hasHardCall_64 : decode cX1_hasHardCall 64 = .ok (.bipush 8, 2) := by decide +kernel
theorem dX1_hasHardCall_66 : decode cX1_hasHardCall 66 = .ok (.if_icmp .lt 5, 3) := by decide +kernel
theorem dX1_hasHardCall_69 : decode cX1_hasHardCall 69 = .ok (.iconst 1, 1) := by decide +kernel
theorem dX1_hasHardCall_70 : decode cX1_hasHardCall 70 = .ok (.ireturn, 1) := by decide +kernel
theorem dX1_hasHardCall_71 : decode cX1_hasHardCall 71 = .ok (.iinc 4 1, 3) := by decide +kernel
theorem dX1_hasHardCall_74 : decode cX1_hasHardCall 74 = .ok (.goto (-71), 3) := by decide +kernel
theorem dX1_hasHardCall_77 : decode cX1_hasHardCall 77 = .ok (.iconst 0, 1) := by decide +kernel
theorem dX1_hasHardCall_78 : decode cX1_hasHardCall 78 = .ok (.ireturn, 1) := by decide +kernel
theorem dX2_goThrough_0 : decode cX2_goThrough 0 = .ok (.aload_n 0, 1) := by decide +kernel
theorem dX2_goThrough_1 : decode cX2_goThrough 1 = .ok (.iload_n 1, 1) := by decide +kernel
theorem dX2_goThrough_2 : decode cX2_goThrough 2 = .ok (.aload_n 2, 1) := by decide +kernel
theorem dX2_goThrough_3 : decode cX2_goThrough 3 = .ok (.invokevirtual 62, 3) := by decide +kernel
theorem dX2_goThrough_6 : decode cX2_goThrough 6 = .ok (.iconst 0, 1) := by decide +kernel
theorem dX2_goThrough_7 : decode cX2_goThrough 7 = .ok (.istore_n 3, 1) := by decide +kernel
theorem dX2_goThrough_8 : decode cX2_goThrough 8 = .ok (.iload_n 3, 1) := by decide +kernel
theorem dX2_goThrough_9 : decode cX2_goThrough 9 = .ok (.sipush 360, 3) := by decide +kernel
theorem dX2_goThrough_12 : decode cX2_goThrough 12 = .ok (.if_icmp .ge 37, 3) := by decide +kernel
theorem dX2_goThrough_15 : decode cX2_goThrough 15 = .ok (.aload_n 0, 1) := by decide +kernel
theorem dX2_goThrough_16 : decode cX2_goThrough 16 = .ok (.iload_n 3, 1) := by decide +kernel
theorem dX2_goThrough_17 : decode cX2_goThrough 17 = .ok (.invokevirtual 66, 3) := by decide +kernel
theorem dX2_goThrough_20 : decode cX2_goThrough 20 = .ok (.aload_n 0, 1) := by decide +kernel
theorem dX2_goThrough_21 : decode cX2_goThrough 21 = .ok (.iload_n 3, 1) := by decide +kernel
theorem dX2_goThrough_22 : decode cX2_goThrough 22 = .ok (.invokevirtual 70, 3) := by decide +kernel
theorem dX2_goThrough_25 : decode cX2_goThrough 25 = .ok (.aload_n 0, 1) := by decide +kernel
theorem dX2_goThrough_26 : decode cX2_goThrough 26 = .ok (.iload_n 3, 1) := by decide +kernel
theorem dX2_goThrough_27 : decode cX2_goThrough 27 = .ok (.invokevirtual 73, 3) := by decide +kernel
theorem dX2_goThrough_30 : decode cX2_goThrough 30 = .ok (.ifCond .eq 13, 3) := by decide +kernel
theorem dX2_goThrough_33 : decode cX2_goThrough 33 = .ok (.aload_n 0, 1) := by decide +kernel
theorem dX2_goThrough_34 : decode cX2_goThrough 34 = .ok (.iload_n 3, 1) := by decide +kernel
theorem dX2_goThrough_35 : decode cX2_goThrough 35 = .ok (.aload_n 0, 1) := by decide +kernel
theorem dX2_goThrough_36 : decode cX2_goThrough 36 = .ok (.iload_n 3, 1) := by decide +kernel
theorem dX2_goThrough_37 : decode cX2_goThrough 37 = .ok (.invokevirtual 77, 3) := by decide +kernel
theorem dX2_goThrough_40 : decode cX2_goThrough 40 = .ok (.invokevirtual 81, 3) := by decide +kernel
theorem dX2_goThrough_43 : decode cX2_goThrough 43 = .ok (.iinc 3 1, 3) := by decide +kernel
theorem dX2_goThrough_46 : decode cX2_goThrough 46 = .ok (.goto (-38), 3) := by decide +kernel
theorem dX2_goThrough_49 : decode cX2_goThrough 49 = .ok (.aload_n 0, 1) := by decide +kernel
theorem dX2_goThrough_50 : decode cX2_goThrough 50 = .ok (.invokevirtual 85, 3) := by decide +kernel
theorem dX2_goThrough_53 : decode cX2_goThrough 53 = .ok (.aload_n 0, 1) := by decide +kernel
theorem dX2_goThrough_54 : decode cX2_goThrough 54 = .ok (.getfield 59, 3) := by decide +kernel
theorem dX2_goThrough_57 : decode cX2_goThrough 57 = .ok (.ireturn, 1) := by decide +kernel
theorem dX2_begin_0 : decode cX2_begin 0 = .ok (.aload_n 0, 1) := by decide +kernel
theorem dX2_begin_1 : decode cX2_begin 1 = .ok (.iload_n 1, 1) := by decide +kernel
theorem dX2_begin_2 : decode cX2_begin 2 = .ok (.putfield 55, 3) := by decide +kernel
theorem dX2_begin_5 : decode cX2_begin 5 = .ok (.aload_n 0, 1) := by decide +kernel
theorem dX2_begin_6 : decode cX2_begin 6 = .ok (.aload_n 2, 1) := by decide +kernel
theorem dX2_begin_7 : decode cX2_begin 7 = .ok (.putfield 23, 3) := by decide +kernel
theorem dX2_begin_10 : decode cX2_begin 10 = .ok (.aload_n 0, 1) := by decide +kernel
theorem dX2_begin_11 : decode cX2_begin 11 = .ok (.iconst 0, 1) := by decide +kernel
theorem dX2_begin_12 : decode cX2_begin 12 = .ok (.putfield 59, 3) := by decide +kernel
theorem dX2_begin_15 : decode cX2_begin 15 = .ok (.iconst 0, 1) := by decide +kernel
theorem dX2_begin_16 : decode cX2_begin 16 = .ok (.istore_n 3, 1) := by decide +kernel
theorem dX2_begin_17 : decode cX2_begin 17 = .ok (.iload_n 3, 1) := by decide +kernel
theorem dX2_begin_18 : decode cX2_begin 18 = .ok (.bipush 8, 2) := by decide +kernel
theorem dX2_begin_20 : decode cX2_begin 20 = .ok (.if_icmp .ge 30, 3) := by decide +kernel
theorem dX2_begin_23 : decode cX2_begin 23 = .ok (.aload_n 0, 1) := by decide +kernel
theorem dX2_begin_24 : decode cX2_begin 24 = .ok (.getfield 29, 3) := by decide +kernel
theorem dX2_begin_27 : decode cX2_begin 27 = .ok (.iload_n 3, 1) := by decide +kernel
theorem dX2_begin_28 : decode cX2_begin 28 = .ok (.iconst (-1), 1) := by decide +kernel
theorem dX2_begin_29 : decode cX2_begin 29 = .ok (.iastore, 1) := by decide +kernel
theorem dX2_begin_30 : decode cX2_begin 30 = .ok (.aload_n 0, 1) := by decide +kernel
theorem dX2_begin_31 : decode cX2_begin 31 = .ok (.getfield 33, 3) := by decide +kernel
theorem dX2_begin_34 : decode cX2_begin 34 = .ok (.iload_n 3, 1) := by decide +kernel
theorem dX2_begin_35 : decode cX2_begin 35 = .ok (.iconst 0, 1) := by decide +kernel
theorem dX2_begin_36 : decode cX2_begin 36 = .ok (.iastore, 1) := by decide +kernel
theorem dX2_begin_37 : decode cX2_begin 37 = .ok (.aload_n 0, 1) := by decide +kernel
theorem dX2_begin_38 : decode cX2_begin 38 = .ok (.getfield 36, 3) := by decide +kernel
theorem dX2_begin_41 : decode cX2_begin 41 = .ok (.iload_n 3, 1) := by decide +kernel
theorem dX2_begin_42 : decode cX2_begin 42 = .ok (.iconst 0, 1) := by decide +kernel
theorem dX2_begin_43 : decode cX2_begin 43 = .ok (.iastore, 1) := by decide +kernel
theorem dX2_begin_44 : decode cX2_begin 44 = .ok (.iinc 3 1, 3) := by decide +kernel
theorem dX2_begin_47 : decode cX2_begin 47 = .ok (.goto (-30), 3) := by decide +kernel
theorem dX2_begin_50 : decode cX2_begin 50 = .ok (.iconst 0, 1) := by decide +kernel
theorem dX2_begin_51 : decode cX2_begin 51 = .ok (.istore_n 3, 1) := by decide +kernel
theorem dX2_begin_52 : decode cX2_begin 52 = .ok (.iload_n 3, 1) := by decide +kernel
theorem dX2_begin_53 : decode cX2_begin 53 = .ok (.bipush 20, 2) := by decide +kernel
theorem dX2_begin_55 : decode cX2_begin 55 = .ok (.if_icmp .ge 16, 3) := by decide +kernel
theorem dX2_begin_58 : decode cX2_begin 58 = .ok (.aload_n 0, 1) := by decide +kernel
theorem dX2_begin_59 : decode cX2_begin 59 = .ok (.getfield 39, 3) := by decide +kernel
theorem dX2_begin_62 : decode cX2_begin 62 = .ok (.iload_n 3, 1) := by decide +kernel
theorem dX2_begin_63 : decode cX2_begin 63 = .ok (.iconst 0, 1) := by decide +kernel
theorem dX2_begin_64 : decode cX2_begin 64 = .ok (.iastore, 1) := by decide +kernel
theorem dX2_begin_65 : decode cX2_begin 65 = .ok (.iinc 3 1, 3) := by decide +kernel
theorem dX2_begin_68 : decode cX2_begin 68 = .ok (.goto (-16), 3) := by decide +kernel
theorem dX2_begin_71 : decode cX2_begin 71 = .ok (.iconst 0, 1) := by decide +kernel
theorem dX2_begin_72 : decode cX2_begin 72 = .ok (.istore_n 3, 1) := by decide +kernel
theorem dX2_begin_73 : decode cX2_begin 73 = .ok (.iload_n 3, 1) := by decide +kernel
theorem dX2_begin_74 : decode cX2_begin 74 = .ok (.aload_n 0, 1) := by decide +kernel
theorem dX2_begin_75 : decode cX2_begin 75 = .ok (.getfield 19, 3) := by decide +kernel
theorem dX2_begin_78 : decode cX2_begin 78 = .ok (.invokevirtual 88, 3) := by decide +kernel
theorem dX2_begin_81 : decode cX2_begin 81 = .ok (.if_icmp .ge 50, 3) := by decide +kernel
theorem dX2_begin_84 : decode cX2_begin 84 = .ok (.aload_n 0, 1) := by decide +kernel
theorem dX2_begin_85 : decode cX2_begin 85 = .ok (.getfield 19, 3) := by decide +kernel
theorem dX2_begin_88 : decode cX2_begin 88 = .ok (.iload_n 3, 1) := by decide +kernel
theorem dX2_begin_89 : decode cX2_begin 89 = .ok (.invokevirtual 92, 3) := by decide +kernel
theorem dX2_begin_92 : decode cX2_begin 92 = .ok (.istore 4, 2) := by decide +kernel
theorem dX2_begin_94 : decode cX2_begin 94 = .ok (.aload_n 0, 1) := by decide +kernel
theorem dX2_begin_95 : decode cX2_begin 95 = .ok (.getfield 19, 3) := by decide +kernel
theorem dX2_begin_98 : decode cX2_begin 98 = .ok (.iload_n 3, 1) := by decide +kernel
theorem dX2_begin_99 : decode cX2_begin 99 = .ok (.invokevirtual 95, 3) := by decide +kernel
theorem dX2_begin_102 : decode cX2_begin 102 = .ok (.iconst 1, 1) := by decide +kernel
theorem dX2_begin_103 : decode cX2_begin 103 = .ok (.if_icmp .ne 22, 3) := by decide +kernel
theorem dX2_begin_106 : decode cX2_begin 106 = .ok (.iload 4, 2) := by decide +kernel
theorem dX2_begin_108 : decode cX2_begin 108 = .ok (.invokestatic 98, 3) := by decide +kernel
theorem dX2_begin_111 : decode cX2_begin 111 = .ok (.ifCond .eq 14, 3) := by decide +kernel
theorem dX2_begin_114 : decode cX2_begin 114 = .ok (.aload_n 0, 1) := by decide +kernel
theorem dX2_begin_115 : decode cX2_begin 115 = .ok (.getfield 39, 3) := by decide +kernel
theorem dX2_begin_118 : decode cX2_begin 118 = .ok (.iload 4, 2) := by decide +kernel
theorem dX2_begin_120 : decode cX2_begin 120 = .ok (.dup2, 1) := by decide +kernel
theorem dX2_begin_121 : decode cX2_begin 121 = .ok (.iaload, 1) := by decide +kernel
theorem dX2_begin_122 : decode cX2_begin 122 = .ok (.iconst 1, 1) := by decide +kernel
theorem dX2_begin_123 : decode cX2_begin 123 = .ok (.iadd, 1) := by decide +kernel
theorem dX2_begin_124 : decode cX2_begin 124 = .ok (.iastore, 1) := by decide +kernel
theorem dX2_begin_125 : decode cX2_begin 125 = .ok (.iinc 3 1, 3) := by decide +kernel
theorem dX2_begin_128 : decode cX2_begin 128 = .ok (.goto (-55), 3) := by decide +kernel
theorem dX2_begin_131 : decode cX2_begin 131 = .ok (.return_, 1) := by decide +kernel
theorem dX2_endCalls_0 : decode cX2_endCalls 0 = .ok (.iconst 0, 1) := by decide +kernel
theorem dX2_endCalls_1 : decode cX2_endCalls 1 = .ok (.istore_n 2, 1) := by decide +kernel
theorem dX2_endCalls_2 : decode cX2_endCalls 2 = .ok (.iload_n 2, 1) := by decide +kernel
theorem dX2_endCalls_3 : decode cX2_endCalls 3 = .ok (.bipush 8, 2) := by decide +kernel
theorem dX2_endCalls_5 : decode cX2_endCalls 5 = .ok (.if_icmp .ge 109, 3) := by decide +kernel
theorem dX2_endCalls_8 : decode cX2_endCalls 8 = .ok (.aload_n 0, 1) := by decide +kernel
theorem dX2_endCalls_9 : decode cX2_endCalls 9 = .ok (.getfield 29, 3) := by decide +kernel
theorem dX2_endCalls_12 : decode cX2_endCalls 12 = .ok (.iload_n 2, 1) := by decide +kernel
theorem dX2_endCalls_13 : decode cX2_endCalls 13 = .ok (.iaload, 1) := by decide +kernel
theorem dX2_endCalls_14 : decode cX2_endCalls 14 = .ok (.istore_n 3, 1) := by decide +kernel
theorem dX2_endCalls_15 : decode cX2_endCalls 15 = .ok (.iload_n 3, 1) := by decide +kernel
theorem dX2_endCalls_16 : decode cX2_endCalls 16 = .ok (.iconst (-1), 1) := by decide +kernel
theorem dX2_endCalls_17 : decode cX2_endCalls 17 = .ok (.if_icmp .eq 91, 3) := by decide +kernel
theorem dX2_endCalls_20 : decode cX2_endCalls 20 = .ok (.aload_n 0, 1) := by decide +kernel
theorem dX2_endCalls_21 : decode cX2_endCalls 21 = .ok (.getfield 19, 3) := by decide +kernel
theorem dX2_endCalls_24 : decode cX2_endCalls 24 = .ok (.iload_n 3, 1) := by decide +kernel
theorem dX2_endCalls_25 : decode cX2_endCalls 25 = .ok (.invokevirtual 101, 3) := by decide +kernel
theorem dX2_endCalls_28 : decode cX2_endCalls 28 = .ok (.iload_n 1, 1) := by decide +kernel
theorem dX2_endCalls_29 : decode cX2_endCalls 29 = .ok (.if_icmp .ne 79, 3) := by decide +kernel
theorem dX2_endCalls_32 : decode cX2_endCalls 32 = .ok (.aload_n 0, 1) := by decide +kernel
theorem dX2_endCalls_33 : decode cX2_endCalls 33 = .ok (.getfield 29, 3) := by decide +kernel
theorem dX2_endCalls_36 : decode cX2_endCalls 36 = .ok (.iload_n 2, 1) := by decide +kernel
theorem dX2_endCalls_37 : decode cX2_endCalls 37 = .ok (.iconst (-1), 1) := by decide +kernel
theorem dX2_endCalls_38 : decode cX2_endCalls 38 = .ok (.iastore, 1) := by decide +kernel
theorem dX2_endCalls_39 : decode cX2_endCalls 39 = .ok (.aload_n 0, 1) := by decide +kernel
theorem dX2_endCalls_40 : decode cX2_endCalls 40 = .ok (.getfield 36, 3) := by decide +kernel
theorem dX2_endCalls_43 : decode cX2_endCalls 43 = .ok (.iload_n 2, 1) := by decide +kernel
theorem dX2_endCalls_44 : decode cX2_endCalls 44 = .ok (.dup2, 1) := by decide +kernel
theorem dX2_endCalls_45 : decode cX2_endCalls 45 = .ok (.iaload, 1) := by decide +kernel
theorem dX2_endCalls_46 : decode cX2_endCalls 46 = .ok (.aload_n 0, 1) := by decide +kernel
theorem dX2_endCalls_47 : decode cX2_endCalls 47 = .ok (.getfield 19, 3) := by decide +kernel
theorem dX2_endCalls_50 : decode cX2_endCalls 50 = .ok (.iload_n 3, 1) := by decide +kernel
theorem dX2_endCalls_51 : decode cX2_endCalls 51 = .ok (.invokevirtual 104, 3) := by decide +kernel
theorem dX2_endCalls_54 : decode cX2_endCalls 54 = .ok (.iadd, 1) := by decide +kernel
theorem dX2_endCalls_55 : decode cX2_endCalls 55 = .ok (.iastore, 1) := by decide +kernel
theorem dX2_endCalls_56 : decode cX2_endCalls 56 = .ok (.aload_n 0, 1) := by decide +kernel
theorem dX2_endCalls_57 : decode cX2_endCalls 57 = .ok (.iload_n 3, 1) := by decide +kernel
theorem dX2_endCalls_58 : decode cX2_endCalls 58 = .ok (.aload_n 0, 1) := by decide +kernel
theorem dX2_endCalls_59 : decode cX2_endCalls 59 = .ok (.getfield 19, 3) := by decide +kernel
theorem dX2_endCalls_62 : decode cX2_endCalls 62 = .ok (.iload_n 3, 1) := by decide +kernel
theorem dX2_endCalls_63 : decode cX2_endCalls 63 = .ok (.invokevirtual 107, 3) := by decide +kernel
theorem dX2_endCalls_66 : decode cX2_endCalls 66 = .ok (.iload_n 1, 1) := by decide +kernel
theorem dX2_endCalls_67 : decode cX2_endCalls 67 = .ok (.aload_n 0, 1) := by decide +kernel
theorem dX2_endCalls_68 : decode cX2_endCalls 68 = .ok (.getfield 36, 3) := by decide +kernel
theorem dX2_endCalls_71 : decode cX2_endCalls 71 = .ok (.iload_n 2, 1) := by decide +kernel
theorem dX2_endCalls_72 : decode cX2_endCalls 72 = .ok (.iaload, 1) := by decide +kernel
theorem dX2_endCalls_73 : decode cX2_endCalls 73 = .ok (.invokevirtual 110, 3) := by decide +kernel
theorem dX2_endCalls_76 : decode cX2_endCalls 76 = .ok (.aload_n 0, 1) := by decide +kernel
theorem dX2_endCalls_77 : decode cX2_endCalls 77 = .ok (.getfield 23, 3) := by decide +kernel
theorem dX2_endCalls_80 : decode cX2_endCalls 80 = .ok (.bipush 7, 2) := by decide +kernel
theorem dX2_endCalls_82 : decode cX2_endCalls 82 = .ok (.aload_n 0, 1) := by decide +kernel
theorem dX2_endCalls_83 : decode cX2_endCalls 83 = .ok (.getfield 52, 3) := by decide +kernel
theorem dX2_endCalls_86 : decode cX2_endCalls 86 = .ok (.invokevirtual 116, 3) := by decide +kernel
theorem dX2_endCalls_89 : decode cX2_endCalls 89 = .ok (.istore 4, 2) := by decide +kernel
theorem dX2_endCalls_91 : decode cX2_endCalls 91 = .ok (.aload_n 0, 1) := by decide +kernel
theorem dX2_endCalls_92 : decode cX2_endCalls 92 = .ok (.getfield 33, 3) := by decide +kernel
theorem dX2_endCalls_95 : decode cX2_endCalls 95 = .ok (.iload_n 2, 1) := by decide +kernel
theorem dX2_endCalls_96 : decode cX2_endCalls 96 = .ok (.iload_n 1, 1) := by decide +kernel
theorem dX2_endCalls_97 : decode cX2_endCalls 97 = .ok (.aload_n 0, 1) := by decide +kernel
theorem dX2_endCalls_98 : decode cX2_endCalls 98 = .ok (.getfield 23, 3) := by decide +kernel
theorem dX2_endCalls_101 : decode cX2_endCalls 101 = .ok (.iload 4, 2) := by decide +kernel
theorem dX2_endCalls_103 : decode cX2_endCalls 103 = .ok (.invokevirtual 120, 3) := by decide +kernel
theorem dX2_endCalls_106 : decode cX2_endCalls 106 = .ok (.iadd, 1) := by decide +kernel
theorem dX2_endCalls_107 : decode cX2_endCalls 107 = .ok (.iastore, 1) := by decide +kernel
theorem dX2_endCalls_108 : decode cX2_endCalls 108 = .ok (.iinc 2 1, 3) := by decide +kernel
theorem dX2_endCalls_111 : decode cX2_endCalls 111 = .ok (.goto (-109), 3) := by decide +kernel
theorem dX2_endCalls_114 : decode cX2_endCalls 114 = .ok (.return_, 1) := by decide +kernel
theorem dX2_dropCalls_0 : decode cX2_dropCalls 0 = .ok (.aload_n 0, 1) := by decide +kernel
theorem dX2_dropCalls_1 : decode cX2_dropCalls 1 = .ok (.getfield 19, 3) := by decide +kernel
theorem dX2_dropCalls_4 : decode cX2_dropCalls 4 = .ok (.invokevirtual 88, 3) := by decide +kernel
theorem dX2_dropCalls_7 : decode cX2_dropCalls 7 = .ok (.istore_n 2, 1) := by decide +kernel
theorem dX2_dropCalls_8 : decode cX2_dropCalls 8 = .ok (.iload_n 2, 1) := by decide +kernel
theorem dX2_dropCalls_9 : decode cX2_dropCalls 9 = .ok (.aload_n 0, 1) := by decide +kernel
theorem dX2_dropCalls_10 : decode cX2_dropCalls 10 = .ok (.getfield 19, 3) := by decide +kernel
theorem dX2_dropCalls_13 : decode cX2_dropCalls 13 = .ok (.invokevirtual 123, 3) := by decide +kernel
theorem dX2_dropCalls_16 : decode cX2_dropCalls 16 = .ok (.if_icmp .ge 55, 3) := by decide +kernel
theorem dX2_dropCalls_19 : decode cX2_dropCalls 19 = .ok (.aload_n 0, 1) := by decide +kernel
theorem dX2_dropCalls_20 : decode cX2_dropCalls 20 = .ok (.getfield 19, 3) := by decide +kernel
theorem dX2_dropCalls_23 : decode cX2_dropCalls 23 = .ok (.iload_n 2, 1) := by decide +kernel
theorem dX2_dropCalls_24 : decode cX2_dropCalls 24 = .ok (.iload_n 1, 1) := by decide +kernel
theorem dX2_dropCalls_25 : decode cX2_dropCalls 25 = .ok (.invokevirtual 126, 3) := by decide +kernel
theorem dX2_dropCalls_28 : decode cX2_dropCalls 28 = .ok (.ifCond .eq 37, 3) := by decide +kernel
theorem dX2_dropCalls_31 : decode cX2_dropCalls 31 = .ok (.aload_n 0, 1) := by decide +kernel
theorem dX2_dropCalls_32 : decode cX2_dropCalls 32 = .ok (.iload_n 2, 1) := by decide +kernel
theorem dX2_dropCalls_33 : decode cX2_dropCalls 33 = .ok (.iload_n 1, 1) := by decide +kernel
theorem dX2_dropCalls_34 : decode cX2_dropCalls 34 = .ok (.iload_n 1, 1) := by decide +kernel
theorem dX2_dropCalls_35 : decode cX2_dropCalls 35 = .ok (.iconst 0, 1) := by decide +kernel
theorem dX2_dropCalls_36 : decode cX2_dropCalls 36 = .ok (.invokevirtual 110, 3) := by decide +kernel
theorem dX2_dropCalls_39 : decode cX2_dropCalls 39 = .ok (.aload_n 0, 1) := by decide +kernel
theorem dX2_dropCalls_40 : decode cX2_dropCalls 40 = .ok (.getfield 23, 3) := by decide +kernel
theorem dX2_dropCalls_43 : decode cX2_dropCalls 43 = .ok (.bipush 6, 2) := by decide +kernel
theorem dX2_dropCalls_45 : decode cX2_dropCalls 45 = .ok (.aload_n 0, 1) := by decide +kernel
theorem dX2_dropCalls_46 : decode cX2_dropCalls 46 = .ok (.getfield 52, 3) := by decide +kernel
theorem dX2_dropCalls_49 : decode cX2_dropCalls 49 = .ok (.invokevirtual 116, 3) := by decide +kernel
theorem dX2_dropCalls_52 : decode cX2_dropCalls 52 = .ok (.iconst (-1), 1) := by decide +kernel
theorem dX2_dropCalls_53 : decode cX2_dropCalls 53 = .ok (.if_icmp .eq 12, 3) := by decide +kernel
theorem dX2_dropCalls_56 : decode cX2_dropCalls 56 = .ok (.aload_n 0, 1) := by decide +kernel
theorem dX2_dropCalls_57 : decode cX2_dropCalls 57 = .ok (.getfield 19, 3) := by decide +kernel
theorem dX2_dropCalls_60 : decode cX2_dropCalls 60 = .ok (.iload_n 2, 1) := by decide +kernel
theorem dX2_dropCalls_61 : decode cX2_dropCalls 61 = .ok (.iload_n 1, 1) := by decide +kernel
theorem dX2_dropCalls_62 : decode cX2_dropCalls 62 = .ok (.invokevirtual 130, 3) := by decide +kernel
theorem dX2_dropCalls_65 : decode cX2_dropCalls 65 = .ok (.iinc 2 1, 3) := by decide +kernel
theorem dX2_dropCalls_68 : decode cX2_dropCalls 68 = .ok (.goto (-60), 3) := by decide +kernel
theorem dX2_dropCalls_71 : decode cX2_dropCalls 71 = .ok (.return_, 1) := by decide +kernel
theorem dX2_lineUp_0 : decode cX2_lineUp 0 = .ok (.iconst 0, 1) := by decide +kernel
theorem dX2_lineUp_1 : decode cX2_lineUp 1 = .ok (.istore_n 2, 1) := by decide +kernel
theorem dX2_lineUp_2 : decode cX2_lineUp 2 = .ok (.aload_n 0, 1) := by decide +kernel
theorem dX2_lineUp_3 : decode cX2_lineUp 3 = .ok (.getfield 19, 3) := by decide +kernel
theorem dX2_lineUp_6 : decode cX2_lineUp 6 = .ok (.invokevirtual 88, 3) := by decide +kernel
theorem dX2_lineUp_9 : decode cX2_lineUp 9 = .ok (.istore_n 3, 1) := by decide +kernel
theorem dX2_lineUp_10 : decode cX2_lineUp 10 = .ok (.iload_n 3, 1) := by decide +kernel
theorem dX2_lineUp_11 : decode cX2_lineUp 11 = .ok (.aload_n 0, 1) := by decide +kernel
theorem dX2_lineUp_12 : decode cX2_lineUp 12 = .ok (.getfield 19, 3) := by decide +kernel
theorem dX2_lineUp_15 : decode cX2_lineUp 15 = .ok (.invokevirtual 123, 3) := by decide +kernel
theorem dX2_lineUp_18 : decode cX2_lineUp 18 = .ok (.if_icmp .ge 82, 3) := by decide +kernel
theorem dX2_lineUp_21 : decode cX2_lineUp 21 = .ok (.aload_n 0, 1) := by decide +kernel
theorem dX2_lineUp_22 : decode cX2_lineUp 22 = .ok (.getfield 19, 3) := by decide +kernel
theorem dX2_lineUp_25 : decode cX2_lineUp 25 = .ok (.iload_n 3, 1) := by decide +kernel
theorem dX2_lineUp_26 : decode cX2_lineUp 26 = .ok (.iload_n 1, 1) := by decide +kernel
theorem dX2_lineUp_27 : decode cX2_lineUp 27 = .ok (.invokevirtual 126, 3) := by decide +kernel
theorem dX2_lineUp_30 : decode cX2_lineUp 30 = .ok (.ifCond .eq 64, 3) := by decide +kernel
theorem dX2_lineUp_33 : decode cX2_lineUp 33 = .ok (.aload_n 0, 1) := by decide +kernel
theorem dX2_lineUp_34 : decode cX2_lineUp 34 = .ok (.iload_n 3, 1) := by decide +kernel
theorem dX2_lineUp_35 : decode cX2_lineUp 35 = .ok (.iload_n 1, 1) := by decide +kernel
theorem dX2_lineUp_36 : decode cX2_lineUp 36 = .ok (.iload_n 1, 1) := by decide +kernel
theorem dX2_lineUp_37 : decode cX2_lineUp 37 = .ok (.iconst 0, 1) := by decide +kernel
theorem dX2_lineUp_38 : decode cX2_lineUp 38 = .ok (.invokevirtual 110, 3) := by decide +kernel
theorem dX2_lineUp_41 : decode cX2_lineUp 41 = .ok (.aload_n 0, 1) := by decide +kernel
theorem dX2_lineUp_42 : decode cX2_lineUp 42 = .ok (.getfield 23, 3) := by decide +kernel
theorem dX2_lineUp_45 : decode cX2_lineUp 45 = .ok (.iconst 4, 1) := by decide +kernel
theorem dX2_lineUp_46 : decode cX2_lineUp 46 = .ok (.aload_n 0, 1) := by decide +kernel
theorem dX2_lineUp_47 : decode cX2_lineUp 47 = .ok (.getfield 52, 3) := by decide +kernel
theorem dX2_lineUp_50 : decode cX2_lineUp 50 = .ok (.invokevirtual 116, 3) := by decide +kernel
theorem dX2_lineUp_53 : decode cX2_lineUp 53 = .ok (.istore 4, 2) := by decide +kernel
theorem dX2_lineUp_55 : decode cX2_lineUp 55 = .ok (.aload_n 0, 1) := by decide +kernel
theorem dX2_lineUp_56 : decode cX2_lineUp 56 = .ok (.iload_n 3, 1) := by decide +kernel
theorem dX2_lineUp_57 : decode cX2_lineUp 57 = .ok (.iload 4, 2) := by decide +kernel
theorem dX2_lineUp_59 : decode cX2_lineUp 59 = .ok (.iconst (-1), 1) := by decide +kernel
theorem dX2_lineUp_60 : decode cX2_lineUp 60 = .ok (.if_icmp .ne 14, 3) := by decide +kernel
theorem dX2_lineUp_63 : decode cX2_lineUp 63 = .ok (.aload_n 0, 1) := by decide +kernel
theorem dX2_lineUp_64 : decode cX2_lineUp 64 = .ok (.getfield 19, 3) := by decide +kernel
theorem dX2_lineUp_67 : decode cX2_lineUp 67 = .ok (.iload_n 3, 1) := by decide +kernel
theorem dX2_lineUp_68 : decode cX2_lineUp 68 = .ok (.invokevirtual 133, 3) := by decide +kernel
theorem dX2_lineUp_71 : decode cX2_lineUp 71 = .ok (.goto 16, 3) := by decide +kernel
theorem dX2_lineUp_74 : decode cX2_lineUp 74 = .ok (.aload_n 0, 1) := by decide +kernel
theorem dX2_lineUp_75 : decode cX2_lineUp 75 = .ok (.getfield 23, 3) := by decide +kernel
theorem dX2_lineUp_78 : decode cX2_lineUp 78 = .ok (.iload 4, 2) := by decide +kernel
theorem dX2_lineUp_80 : decode cX2_lineUp 80 = .ok (.aload_n 0, 1) := by decide +kernel
theorem dX2_lineUp_81 : decode cX2_lineUp 81 = .ok (.getfield 52, 3) := by decide +kernel
theorem dX2_lineUp_84 : decode cX2_lineUp 84 = .ok (.invokevirtual 136, 3) := by decide +kernel
theorem dX2_lineUp_87 : decode cX2_lineUp 87 = .ok (.iload_n 2, 1) := by decide +kernel
theorem dX2_lineUp_88 : decode cX2_lineUp 88 = .ok (.invokevirtual 139, 3) := by decide +kernel
theorem dX2_lineUp_91 : decode cX2_lineUp 91 = .ok (.iinc 2 1, 3) := by decide +kernel
theorem dX2_lineUp_94 : decode cX2_lineUp 94 = .ok (.iinc 3 1, 3) := by decide +kernel
theorem dX2_lineUp_97 : decode cX2_lineUp 97 = .ok (.goto (-87), 3) := by decide +kernel
theorem dX2_lineUp_100 : decode cX2_lineUp 100 = .ok (.iload_n 2, 1) := by decide +kernel
theorem dX2_lineUp_101 : decode cX2_lineUp 101 = .ok (.ireturn, 1) := by decide +kernel
theorem dX2_putInLine_0 : decode cX2_putInLine 0 = .ok (.iload_n 3, 1) := by decide +kernel
theorem dX2_putInLine_1 : decode cX2_putInLine 1 = .ok (.ifCond .lt 9, 3) := by decide +kernel
theorem dX2_putInLine_4 : decode cX2_putInLine 4 = .ok (.iload_n 3, 1) := by decide +kernel
theorem dX2_putInLine_5 : decode cX2_putInLine 5 = .ok (.bipush 40, 2) := by decide +kernel
theorem dX2_putInLine_7 : decode cX2_putInLine 7 = .ok (.if_icmp .lt 4, 3) := by decide +kernel
theorem dX2_putInLine_10 : decode cX2_putInLine 10 = .ok (.return_, 1) := by decide +kernel
theorem dX2_putInLine_11 : decode cX2_putInLine 11 = .ok (.iload_n 3, 1) := by decide +kernel
theorem dX2_putInLine_12 : decode cX2_putInLine 12 = .ok (.istore 4, 2) := by decide +kernel
theorem dX2_putInLine_14 : decode cX2_putInLine 14 = .ok (.iload_n 3, 1) := by decide +kernel
theorem dX2_putInLine_15 : decode cX2_putInLine 15 = .ok (.iconst 1, 1) := by decide +kernel
theorem dX2_putInLine_16 : decode cX2_putInLine 16 = .ok (.isub, 1) := by decide +kernel
theorem dX2_putInLine_17 : decode cX2_putInLine 17 = .ok (.istore 5, 2) := by decide +kernel
theorem dX2_putInLine_19 : decode cX2_putInLine 19 = .ok (.iload 5, 2) := by decide +kernel
theorem dX2_putInLine_21 : decode cX2_putInLine 21 = .ok (.ifCond .lt 56, 3) := by decide +kernel
theorem dX2_putInLine_24 : decode cX2_putInLine 24 = .ok (.aload_n 0, 1) := by decide +kernel
theorem dX2_putInLine_25 : decode cX2_putInLine 25 = .ok (.getfield 44, 3) := by decide +kernel
theorem dX2_putInLine_28 : decode cX2_putInLine 28 = .ok (.iload 5, 2) := by decide +kernel
theorem dX2_putInLine_30 : decode cX2_putInLine 30 = .ok (.iaload, 1) := by decide +kernel
theorem dX2_putInLine_31 : decode cX2_putInLine 31 = .ok (.iload_n 2, 1) := by decide +kernel
theorem dX2_putInLine_32 : decode cX2_putInLine 32 = .ok (.if_icmp .ge 45, 3) := by decide +kernel
theorem dX2_putInLine_35 : decode cX2_putInLine 35 = .ok (.aload_n 0, 1) := by decide +kernel
theorem dX2_putInLine_36 : decode cX2_putInLine 36 = .ok (.getfield 44, 3) := by decide +kernel
theorem dX2_putInLine_39 : decode cX2_putInLine 39 = .ok (.iload 5, 2) := by decide +kernel
theorem dX2_putInLine_41 : decode cX2_putInLine 41 = .ok (.iconst 1, 1) := by decide +kernel
theorem dX2_putInLine_42 : decode cX2_putInLine 42 = .ok (.iadd, 1) := by decide +kernel
theorem dX2_putInLine_43 : decode cX2_putInLine 43 = .ok (.aload_n 0, 1) := by decide +kernel
theorem dX2_putInLine_44 : decode cX2_putInLine 44 = .ok (.getfield 44, 3) := by decide +kernel
theorem dX2_putInLine_47 : decode cX2_putInLine 47 = .ok (.iload 5, 2) := by decide +kernel
theorem dX2_putInLine_49 : decode cX2_putInLine 49 = .ok (.iaload, 1) := by decide +kernel
theorem dX2_putInLine_50 : decode cX2_putInLine 50 = .ok (.iastore, 1) := by decide +kernel
theorem dX2_putInLine_51 : decode cX2_putInLine 51 = .ok (.aload_n 0, 1) := by decide +kernel
theorem dX2_putInLine_52 : decode cX2_putInLine 52 = .ok (.getfield 47, 3) := by decide +kernel
theorem dX2_putInLine_55 : decode cX2_putInLine 55 = .ok (.iload 5, 2) := by decide +kernel
theorem dX2_putInLine_57 : decode cX2_putInLine 57 = .ok (.iconst 1, 1) := by decide +kernel
theorem dX2_putInLine_58 : decode cX2_putInLine 58 = .ok (.iadd, 1) := by decide +kernel
theorem dX2_putInLine_59 : decode cX2_putInLine 59 = .ok (.aload_n 0, 1) := by decide +kernel
theorem dX2_putInLine_60 : decode cX2_putInLine 60 = .ok (.getfield 47, 3) := by decide +kernel
theorem dX2_putInLine_63 : decode cX2_putInLine 63 = .ok (.iload 5, 2) := by decide +kernel
theorem dX2_putInLine_65 : decode cX2_putInLine 65 = .ok (.iaload, 1) := by decide +kernel
theorem dX2_putInLine_66 : decode cX2_putInLine 66 = .ok (.iastore, 1) := by decide +kernel
theorem dX2_putInLine_67 : decode cX2_putInLine 67 = .ok (.iload 5, 2) := by decide +kernel
theorem dX2_putInLine_69 : decode cX2_putInLine 69 = .ok (.istore 4, 2) := by decide +kernel
theorem dX2_putInLine_71 : decode cX2_putInLine 71 = .ok (.iinc 5 (-1), 3) := by decide +kernel
theorem dX2_putInLine_74 : decode cX2_putInLine 74 = .ok (.goto (-55), 3) := by decide +kernel
theorem dX2_putInLine_77 : decode cX2_putInLine 77 = .ok (.aload_n 0, 1) := by decide +kernel
theorem dX2_putInLine_78 : decode cX2_putInLine 78 = .ok (.getfield 44, 3) := by decide +kernel
theorem dX2_putInLine_81 : decode cX2_putInLine 81 = .ok (.iload 4, 2) := by decide +kernel
theorem dX2_putInLine_83 : decode cX2_putInLine 83 = .ok (.iload_n 2, 1) := by decide +kernel
theorem dX2_putInLine_84 : decode cX2_putInLine 84 = .ok (.iastore, 1) := by decide +kernel
theorem dX2_putInLine_85 : decode cX2_putInLine 85 = .ok (.aload_n 0, 1) := by decide +kernel
theorem dX2_putInLine_86 : decode cX2_putInLine 86 = .ok (.getfield 47, 3) := by decide +kernel
theorem dX2_putInLine_89 : decode cX2_putInLine 89 = .ok (.iload 4, 2) := by decide +kernel
theorem dX2_putInLine_91 : decode cX2_putInLine 91 = .ok (.iload_n 1, 1) := by decide +kernel
theorem dX2_putInLine_92 : decode cX2_putInLine 92 = .ok (.iastore, 1) := by decide +kernel
theorem dX2_putInLine_93 : decode cX2_putInLine 93 = .ok (.return_, 1) := by decide +kernel
theorem dX2_giveCalls_0 : decode cX2_giveCalls 0 = .ok (.iconst 0, 1) := by decide +kernel
theorem dX2_giveCalls_1 : decode cX2_giveCalls 1 = .ok (.istore_n 3, 1) := by decide +kernel
theorem dX2_giveCalls_2 : decode cX2_giveCalls 2 = .ok (.iload_n 3, 1) := by decide +kernel
theorem dX2_giveCalls_3 : decode cX2_giveCalls 3 = .ok (.iload_n 2, 1) := by decide +kernel
theorem dX2_giveCalls_4 : decode cX2_giveCalls 4 = .ok (.if_icmp .ge 73, 3) := by decide +kernel
theorem dX2_giveCalls_7 : decode cX2_giveCalls 7 = .ok (.iload_n 3, 1) := by decide +kernel
theorem dX2_giveCalls_8 : decode cX2_giveCalls 8 = .ok (.bipush 40, 2) := by decide +kernel
theorem dX2_giveCalls_10 : decode cX2_giveCalls 10 = .ok (.if_icmp .ge 67, 3) := by decide +kernel
theorem dX2_giveCalls_13 : decode cX2_giveCalls 13 = .ok (.aload_n 0, 1) := by decide +kernel
theorem dX2_giveCalls_14 : decode cX2_giveCalls 14 = .ok (.aload_n 0, 1) := by decide +kernel
theorem dX2_giveCalls_15 : decode cX2_giveCalls 15 = .ok (.getfield 47, 3) := by decide +kernel
theorem dX2_giveCalls_18 : decode cX2_giveCalls 18 = .ok (.iload_n 3, 1) := by decide +kernel
theorem dX2_giveCalls_19 : decode cX2_giveCalls 19 = .ok (.iaload, 1) := by decide +kernel
theorem dX2_giveCalls_20 : decode cX2_giveCalls 20 = .ok (.iload_n 1, 1) := by decide +kernel
theorem dX2_giveCalls_21 : decode cX2_giveCalls 21 = .ok (.invokevirtual 143, 3) := by decide +kernel
theorem dX2_giveCalls_24 : decode cX2_giveCalls 24 = .ok (.istore 4, 2) := by decide +kernel
theorem dX2_giveCalls_26 : decode cX2_giveCalls 26 = .ok (.iload 4, 2) := by decide +kernel
theorem dX2_giveCalls_28 : decode cX2_giveCalls 28 = .ok (.iconst (-1), 1) := by decide +kernel
theorem dX2_giveCalls_29 : decode cX2_giveCalls 29 = .ok (.if_icmp .eq 42, 3) := by decide +kernel
theorem dX2_giveCalls_32 : decode cX2_giveCalls 32 = .ok (.aload_n 0, 1) := by decide +kernel
theorem dX2_giveCalls_33 : decode cX2_giveCalls 33 = .ok (.getfield 19, 3) := by decide +kernel
theorem dX2_giveCalls_36 : decode cX2_giveCalls 36 = .ok (.aload_n 0, 1) := by decide +kernel
theorem dX2_giveCalls_37 : decode cX2_giveCalls 37 = .ok (.getfield 47, 3) := by decide +kernel
theorem dX2_giveCalls_40 : decode cX2_giveCalls 40 = .ok (.iload_n 3, 1) := by decide +kernel
theorem dX2_giveCalls_41 : decode cX2_giveCalls 41 = .ok (.iaload, 1) := by decide +kernel
theorem dX2_giveCalls_42 : decode cX2_giveCalls 42 = .ok (.iload 4, 2) := by decide +kernel
theorem dX2_giveCalls_44 : decode cX2_giveCalls 44 = .ok (.iload_n 1, 1) := by decide +kernel
theorem dX2_giveCalls_45 : decode cX2_giveCalls 45 = .ok (.invokevirtual 147, 3) := by decide +kernel
theorem dX2_giveCalls_48 : decode cX2_giveCalls 48 = .ok (.aload_n 0, 1) := by decide +kernel
theorem dX2_giveCalls_49 : decode cX2_giveCalls 49 = .ok (.getfield 29, 3) := by decide +kernel
theorem dX2_giveCalls_52 : decode cX2_giveCalls 52 = .ok (.iload 4, 2) := by decide +kernel
theorem dX2_giveCalls_54 : decode cX2_giveCalls 54 = .ok (.aload_n 0, 1) := by decide +kernel
theorem dX2_giveCalls_55 : decode cX2_giveCalls 55 = .ok (.getfield 47, 3) := by decide +kernel
theorem dX2_giveCalls_58 : decode cX2_giveCalls 58 = .ok (.iload_n 3, 1) := by decide +kernel
theorem dX2_giveCalls_59 : decode cX2_giveCalls 59 = .ok (.iaload, 1) := by decide +kernel
theorem dX2_giveCalls_60 : decode cX2_giveCalls 60 = .ok (.iastore, 1) := by decide +kernel
theorem dX2_giveCalls_61 : decode cX2_giveCalls 61 = .ok (.aload_n 0, 1) := by decide +kernel
theorem dX2_giveCalls_62 : decode cX2_giveCalls 62 = .ok (.dup, 1) := by decide +kernel
theorem dX2_giveCalls_63 : decode cX2_giveCalls 63 = .ok (.getfield 59, 3) := by decide +kernel
theorem dX2_giveCalls_66 : decode cX2_giveCalls 66 = .ok (.iconst 1, 1) := by decide +kernel
theorem dX2_giveCalls_67 : decode cX2_giveCalls 67 = .ok (.iadd, 1) := by decide +kernel
theorem dX2_giveCalls_68 : decode cX2_giveCalls 68 = .ok (.putfield 59, 3) := by decide +kernel
theorem dX2_giveCalls_71 : decode cX2_giveCalls 71 = .ok (.iinc 3 1, 3) := by decide +kernel
theorem dX2_giveCalls_74 : decode cX2_giveCalls 74 = .ok (.goto (-72), 3) := by decide +kernel
theorem dX2_giveCalls_77 : decode cX2_giveCalls 77 = .ok (.return_, 1) := by decide +kernel
theorem dX2_isAnyFree_0 : decode cX2_isAnyFree 0 = .ok (.iconst 0, 1) := by decide +kernel
theorem dX2_isAnyFree_1 : decode cX2_isAnyFree 1 = .ok (.istore_n 2, 1) := by decide +kernel
theorem dX2_isAnyFree_2 : decode cX2_isAnyFree 2 = .ok (.iload_n 2, 1) := by decide +kernel
theorem dX2_isAnyFree_3 : decode cX2_isAnyFree 3 = .ok (.aload_n 0, 1) := by decide +kernel
theorem dX2_isAnyFree_4 : decode cX2_isAnyFree 4 = .ok (.getfield 9, 3) := by decide +kernel
theorem dX2_isAnyFree_7 : decode cX2_isAnyFree 7 = .ok (.invokevirtual 150, 3) := by decide +kernel
theorem dX2_isAnyFree_10 : decode cX2_isAnyFree 10 = .ok (.if_icmp .ge 20, 3) := by decide +kernel
theorem dX2_isAnyFree_13 : decode cX2_isAnyFree 13 = .ok (.aload_n 0, 1) := by decide +kernel
theorem dX2_isAnyFree_14 : decode cX2_isAnyFree 14 = .ok (.iload_n 2, 1) := by decide +kernel
theorem dX2_isAnyFree_15 : decode cX2_isAnyFree 15 = .ok (.iload_n 1, 1) := by decide +kernel
theorem dX2_isAnyFree_16 : decode cX2_isAnyFree 16 = .ok (.invokevirtual 151, 3) := by decide +kernel
theorem dX2_isAnyFree_19 : decode cX2_isAnyFree 19 = .ok (.ifCond .eq 5, 3) := by decide +kernel
theorem dX2_isAnyFree_22 : decode cX2_isAnyFree 22 = .ok (.iconst 1, 1) := by decide +kernel
theorem dX2_isAnyFree_23 : decode cX2_isAnyFree 23 = .ok (.ireturn, 1) := by decide +kernel
theorem dX2_isAnyFree_24 : decode cX2_isAnyFree 24 = .ok (.iinc 2 1, 3) := by decide +kernel
theorem dX2_isAnyFree_27 : decode cX2_isAnyFree 27 = .ok (.goto (-25), 3) := by decide +kernel
theorem dX2_isAnyFree_30 : decode cX2_isAnyFree 30 = .ok (.iconst 0, 1) := by decide +kernel
theorem dX2_isAnyFree_31 : decode cX2_isAnyFree 31 = .ok (.ireturn, 1) := by decide +kernel
theorem dX2_volunteerFor_0 : decode cX2_volunteerFor 0 = .ok (.iconst (-1), 1) := by decide +kernel
theorem dX2_volunteerFor_1 : decode cX2_volunteerFor 1 = .ok (.istore_n 3, 1) := by decide +kernel
theorem dX2_volunteerFor_2 : decode cX2_volunteerFor 2 = .ok (.iconst 0, 1) := by decide +kernel
theorem dX2_volunteerFor_3 : decode cX2_volunteerFor 3 = .ok (.istore 4, 2) := by decide +kernel
theorem dX2_volunteerFor_5 : decode cX2_volunteerFor 5 = .ok (.iload 4, 2) := by decide +kernel
theorem dX2_volunteerFor_7 : decode cX2_volunteerFor 7 = .ok (.aload_n 0, 1) := by decide +kernel
theorem dX2_volunteerFor_8 : decode cX2_volunteerFor 8 = .ok (.getfield 9, 3) := by decide +kernel
theorem dX2_volunteerFor_11 : decode cX2_volunteerFor 11 = .ok (.invokevirtual 150, 3) := by decide +kernel
theorem dX2_volunteerFor_14 : decode cX2_volunteerFor 14 = .ok (.if_icmp .ge 97, 3) := by decide +kernel
theorem dX2_volunteerFor_17 : decode cX2_volunteerFor 17 = .ok (.iload 4, 2) := by decide +kernel
theorem dX2_volunteerFor_19 : decode cX2_volunteerFor 19 = .ok (.bipush 8, 2) := by decide +kernel
theorem dX2_volunteerFor_21 : decode cX2_volunteerFor 21 = .ok (.if_icmp .ge 90, 3) := by decide +kernel
theorem dX2_volunteerFor_24 : decode cX2_volunteerFor 24 = .ok (.iload_n 3, 1) := by decide +kernel
theorem dX2_volunteerFor_25 : decode cX2_volunteerFor 25 = .ok (.iconst (-1), 1) := by decide +kernel
theorem dX2_volunteerFor_26 : decode cX2_volunteerFor 26 = .ok (.if_icmp .eq 19, 3) := by decide +kernel
theorem dX2_volunteerFor_29 : decode cX2_volunteerFor 29 = .ok (.aload_n 0, 1) := by decide +kernel
theorem dX2_volunteerFor_30 : decode cX2_volunteerFor 30 = .ok (.getfield 36, 3) := by decide +kernel
theorem dX2_volunteerFor_33 : decode cX2_volunteerFor 33 = .ok (.iload 4, 2) := by decide +kernel
theorem dX2_volunteerFor_35 : decode cX2_volunteerFor 35 = .ok (.iaload, 1) := by decide +kernel
theorem dX2_volunteerFor_36 : decode cX2_volunteerFor 36 = .ok (.aload_n 0, 1) := by decide +kernel
theorem dX2_volunteerFor_37 : decode cX2_volunteerFor 37 = .ok (.getfield 36, 3) := by decide +kernel
theorem dX2_volunteerFor_40 : decode cX2_volunteerFor 40 = .ok (.iload_n 3, 1) := by decide +kernel
theorem dX2_volunteerFor_41 : decode cX2_volunteerFor 41 = .ok (.iaload, 1) := by decide +kernel
theorem dX2_volunteerFor_42 : decode cX2_volunteerFor 42 = .ok (.if_icmp .ge 7, 3) := by decide +kernel
theorem dX2_volunteerFor_45 : decode cX2_volunteerFor 45 = .ok (.iconst 1, 1) := by decide +kernel
theorem dX2_volunteerFor_46 : decode cX2_volunteerFor 46 = .ok (.goto 4, 3) := by decide +kernel
theorem dX2_volunteerFor_49 : decode cX2_volunteerFor 49 = .ok (.iconst 0, 1) := by decide +kernel
theorem dX2_volunteerFor_50 : decode cX2_volunteerFor 50 = .ok (.istore 5, 2) := by decide +kernel
theorem dX2_volunteerFor_52 : decode cX2_volunteerFor 52 = .ok (.iload 5, 2) := by decide +kernel
theorem dX2_volunteerFor_54 : decode cX2_volunteerFor 54 = .ok (.ifCond .eq 51, 3) := by decide +kernel
theorem dX2_volunteerFor_57 : decode cX2_volunteerFor 57 = .ok (.aload_n 0, 1) := by decide +kernel
theorem dX2_volunteerFor_58 : decode cX2_volunteerFor 58 = .ok (.iload 4, 2) := by decide +kernel
theorem dX2_volunteerFor_60 : decode cX2_volunteerFor 60 = .ok (.iload_n 2, 1) := by decide +kernel
theorem dX2_volunteerFor_61 : decode cX2_volunteerFor 61 = .ok (.invokevirtual 151, 3) := by decide +kernel
theorem dX2_volunteerFor_64 : decode cX2_volunteerFor 64 = .ok (.ifCond .eq 41, 3) := by decide +kernel
theorem dX2_volunteerFor_67 : decode cX2_volunteerFor 67 = .ok (.aload_n 0, 1) := by decide +kernel
theorem dX2_volunteerFor_68 : decode cX2_volunteerFor 68 = .ok (.getfield 9, 3) := by decide +kernel
theorem dX2_volunteerFor_71 : decode cX2_volunteerFor 71 = .ok (.aload_n 0, 1) := by decide +kernel
theorem dX2_volunteerFor_72 : decode cX2_volunteerFor 72 = .ok (.getfield 19, 3) := by decide +kernel
theorem dX2_volunteerFor_75 : decode cX2_volunteerFor 75 = .ok (.iload_n 1, 1) := by decide +kernel
theorem dX2_volunteerFor_76 : decode cX2_volunteerFor 76 = .ok (.invokevirtual 92, 3) := by decide +kernel
theorem dX2_volunteerFor_79 : decode cX2_volunteerFor 79 = .ok (.iload 4, 2) := by decide +kernel
theorem dX2_volunteerFor_81 : decode cX2_volunteerFor 81 = .ok (.aload_n 0, 1) := by decide +kernel
theorem dX2_volunteerFor_82 : decode cX2_volunteerFor 82 = .ok (.getfield 55, 3) := by decide +kernel
theorem dX2_volunteerFor_85 : decode cX2_volunteerFor 85 = .ok (.invokevirtual 154, 3) := by decide +kernel
theorem dX2_volunteerFor_88 : decode cX2_volunteerFor 88 = .ok (.ifCond .ne 17, 3) := by decide +kernel
theorem dX2_volunteerFor_91 : decode cX2_volunteerFor 91 = .ok (.aload_n 0, 1) := by decide +kernel
theorem dX2_volunteerFor_92 : decode cX2_volunteerFor 92 = .ok (.iload 4, 2) := by decide +kernel
theorem dX2_volunteerFor_94 : decode cX2_volunteerFor 94 = .ok (.iload_n 1, 1) := by decide +kernel
theorem dX2_volunteerFor_95 : decode cX2_volunteerFor 95 = .ok (.iload_n 2, 1) := by decide +kernel
theorem dX2_volunteerFor_96 : decode cX2_volunteerFor 96 = .ok (.invokevirtual 158, 3) := by decide +kernel
theorem dX2_volunteerFor_99 : decode cX2_volunteerFor 99 = .ok (.ifCond .eq 6, 3) := by decide +kernel
theorem dX2_volunteerFor_102 : decode cX2_volunteerFor 102 = .ok (.iload 4, 2) := by decide +kernel
theorem dX2_volunteerFor_104 : decode cX2_volunteerFor 104 = .ok (.istore_n 3, 1) := by decide +kernel
theorem dX2_volunteerFor_105 : decode cX2_volunteerFor 105 = .ok (.iinc 4 1, 3) := by decide +kernel
theorem dX2_volunteerFor_108 : decode cX2_volunteerFor 108 = .ok (.goto (-103), 3) := by decide +kernel
theorem dX2_volunteerFor_111 : decode cX2_volunteerFor 111 = .ok (.iload_n 3, 1) := by decide +kernel
theorem dX2_volunteerFor_112 : decode cX2_volunteerFor 112 = .ok (.ireturn, 1) := by decide +kernel
theorem dX2_isFree_0 : decode cX2_isFree 0 = .ok (.iload_n 1, 1) := by decide +kernel
theorem dX2_isFree_1 : decode cX2_isFree 1 = .ok (.ifCond .lt 29, 3) := by decide +kernel
theorem dX2_isFree_4 : decode cX2_isFree 4 = .ok (.iload_n 1, 1) := by decide +kernel
theorem dX2_isFree_5 : decode cX2_isFree 5 = .ok (.bipush 8, 2) := by decide +kernel
theorem dX2_isFree_7 : decode cX2_isFree 7 = .ok (.if_icmp .ge 23, 3) := by decide +kernel
theorem dX2_isFree_10 : decode cX2_isFree 10 = .ok (.aload_n 0, 1) := by decide +kernel
theorem dX2_isFree_11 : decode cX2_isFree 11 = .ok (.getfield 29, 3) := by decide +kernel
theorem dX2_isFree_14 : decode cX2_isFree 14 = .ok (.iload_n 1, 1) := by decide +kernel
theorem dX2_isFree_15 : decode cX2_isFree 15 = .ok (.iaload, 1) := by decide +kernel
theorem dX2_isFree_16 : decode cX2_isFree 16 = .ok (.iconst (-1), 1) := by decide +kernel
theorem dX2_isFree_17 : decode cX2_isFree 17 = .ok (.if_icmp .ne 13, 3) := by decide +kernel
theorem dX2_isFree_20 : decode cX2_isFree 20 = .ok (.iload_n 2, 1) := by decide +kernel
theorem dX2_isFree_21 : decode cX2_isFree 21 = .ok (.aload_n 0, 1) := by decide +kernel
theorem dX2_isFree_22 : decode cX2_isFree 22 = .ok (.getfield 33, 3) := by decide +kernel
theorem dX2_isFree_25 : decode cX2_isFree 25 = .ok (.iload_n 1, 1) := by decide +kernel
theorem dX2_isFree_26 : decode cX2_isFree 26 = .ok (.iaload, 1) := by decide +kernel
theorem dX2_isFree_27 : decode cX2_isFree 27 = .ok (.if_icmp .ge 5, 3) := by decide +kernel
theorem dX2_isFree_30 : decode cX2_isFree 30 = .ok (.iconst 0, 1) := by decide +kernel
theorem dX2_isFree_31 : decode cX2_isFree 31 = .ok (.ireturn, 1) := by decide +kernel
theorem dX2_isFree_32 : decode cX2_isFree 32 = .ok (.aload_n 0, 1) := by decide +kernel
theorem dX2_isFree_33 : decode cX2_isFree 33 = .ok (.getfield 15, 3) := by decide +kernel
theorem dX2_isFree_36 : decode cX2_isFree 36 = .ok (.iload_n 1, 1) := by decide +kernel
theorem dX2_isFree_37 : decode cX2_isFree 37 = .ok (.aload_n 0, 1) := by decide +kernel
theorem dX2_isFree_38 : decode cX2_isFree 38 = .ok (.getfield 55, 3) := by decide +kernel
theorem dX2_isFree_41 : decode cX2_isFree 41 = .ok (.invokevirtual 161, 3) := by decide +kernel
theorem dX2_isFree_44 : decode cX2_isFree 44 = .ok (.iload_n 2, 1) := by decide +kernel
theorem dX2_isFree_45 : decode cX2_isFree 45 = .ok (.bipush 60, 2) := by decide +kernel
theorem dX2_isFree_47 : decode cX2_isFree 47 = .ok (.idiv, 1) := by decide +kernel
theorem dX2_isFree_48 : decode cX2_isFree 48 = .ok (.ishr, 1) := by decide +kernel
theorem dX2_isFree_49 : decode cX2_isFree 49 = .ok (.iconst 1, 1) := by decide +kernel
theorem dX2_isFree_50 : decode cX2_isFree 50 = .ok (.iand, 1) := by decide +kernel
theorem dX2_isFree_51 : decode cX2_isFree 51 = .ok (.ifCond .eq 7, 3) := by decide +kernel
theorem dX2_isFree_54 : decode cX2_isFree 54 = .ok (.iconst 1, 1) := by decide +kernel
theorem dX2_isFree_55 : decode cX2_isFree 55 = .ok (.goto 4, 3) := by decide +kernel
theorem dX2_isFree_58 : decode cX2_isFree 58 = .ok (.iconst 0, 1) := by decide +kernel
theorem dX2_isFree_59 : decode cX2_isFree 59 = .ok (.ireturn, 1) := by decide +kernel
theorem dX2_isTrained_0 : decode cX2_isTrained 0 = .ok (.iload_n 1, 1) := by decide +kernel
theorem dX2_isTrained_1 : decode cX2_isTrained 1 = .ok (.ifCond .lt 9, 3) := by decide +kernel
theorem dX2_isTrained_4 : decode cX2_isTrained 4 = .ok (.iload_n 1, 1) := by decide +kernel
theorem dX2_isTrained_5 : decode cX2_isTrained 5 = .ok (.bipush 8, 2) := by decide +kernel
theorem dX2_isTrained_7 : decode cX2_isTrained 7 = .ok (.if_icmp .lt 5, 3) := by decide +kernel
theorem dX2_isTrained_10 : decode cX2_isTrained 10 = .ok (.iconst 0, 1) := by decide +kernel
theorem dX2_isTrained_11 : decode cX2_isTrained 11 = .ok (.ireturn, 1) := by decide +kernel
theorem dX2_isTrained_12 : decode cX2_isTrained 12 = .ok (.aload_n 0, 1) := by decide +kernel
theorem dX2_isTrained_13 : decode cX2_isTrained 13 = .ok (.iload_n 2, 1) := by decide +kernel
theorem dX2_isTrained_14 : decode cX2_isTrained 14 = .ok (.iload_n 3, 1) := by decide +kernel
theorem dX2_isTrained_15 : decode cX2_isTrained 15 = .ok (.iload_n 3, 1) := by decide +kernel
theorem dX2_isTrained_16 : decode cX2_isTrained 16 = .ok (.aload_n 0, 1) := by decide +kernel
theorem dX2_isTrained_17 : decode cX2_isTrained 17 = .ok (.getfield 36, 3) := by decide +kernel
theorem dX2_isTrained_20 : decode cX2_isTrained 20 = .ok (.iload_n 1, 1) := by decide +kernel
theorem dX2_isTrained_21 : decode cX2_isTrained 21 = .ok (.iaload, 1) := by decide +kernel
theorem dX2_isTrained_22 : decode cX2_isTrained 22 = .ok (.invokevirtual 110, 3) := by decide +kernel
theorem dX2_isTrained_25 : decode cX2_isTrained 25 = .ok (.iconst 0, 1) := by decide +kernel
theorem dX2_isTrained_26 : decode cX2_isTrained 26 = .ok (.istore 4, 2) := by decide +kernel
theorem dX2_isTrained_28 : decode cX2_isTrained 28 = .ok (.iload 4, 2) := by decide +kernel
theorem dX2_isTrained_30 : decode cX2_isTrained 30 = .ok (.aload_n 0, 1) := by decide +kernel
theorem dX2_isTrained_31 : decode cX2_isTrained 31 = .ok (.getfield 23, 3) := by decide +kernel
theorem dX2_isTrained_34 : decode cX2_isTrained 34 = .ok (.invokevirtual 166, 3) := by decide +kernel
theorem dX2_isTrained_37 : decode cX2_isTrained 37 = .ok (.if_icmp .ge 64, 3) := by decide +kernel
theorem dX2_isTrained_40 : decode cX2_isTrained 40 = .ok (.aload_n 0, 1) := by decide +kernel
theorem dX2_isTrained_41 : decode cX2_isTrained 41 = .ok (.getfield 23, 3) := by decide +kernel
theorem dX2_isTrained_44 : decode cX2_isTrained 44 = .ok (.iload 4, 2) := by decide +kernel
theorem dX2_isTrained_46 : decode cX2_isTrained 46 = .ok (.invokevirtual 167, 3) := by decide +kernel
theorem dX2_isTrained_49 : decode cX2_isTrained 49 = .ok (.iconst 5, 1) := by decide +kernel
theorem dX2_isTrained_50 : decode cX2_isTrained 50 = .ok (.if_icmp .ne 45, 3) := by decide +kernel
theorem dX2_isTrained_53 : decode cX2_isTrained 53 = .ok (.aload_n 0, 1) := by decide +kernel
theorem dX2_isTrained_54 : decode cX2_isTrained 54 = .ok (.getfield 9, 3) := by decide +kernel
theorem dX2_isTrained_57 : decode cX2_isTrained 57 = .ok (.iload_n 1, 1) := by decide +kernel
theorem dX2_isTrained_58 : decode cX2_isTrained 58 = .ok (.aload_n 0, 1) := by decide +kernel
theorem dX2_isTrained_59 : decode cX2_isTrained 59 = .ok (.getfield 23, 3) := by decide +kernel
theorem dX2_isTrained_62 : decode cX2_isTrained 62 = .ok (.iload 4, 2) := by decide +kernel
theorem dX2_isTrained_64 : decode cX2_isTrained 64 = .ok (.invokevirtual 120, 3) := by decide +kernel
theorem dX2_isTrained_67 : decode cX2_isTrained 67 = .ok (.aload_n 0, 1) := by decide +kernel
theorem dX2_isTrained_68 : decode cX2_isTrained 68 = .ok (.getfield 55, 3) := by decide +kernel
theorem dX2_isTrained_71 : decode cX2_isTrained 71 = .ok (.invokevirtual 170, 3) := by decide +kernel
theorem dX2_isTrained_74 : decode cX2_isTrained 74 = .ok (.ifCond .ne 21, 3) := by decide +kernel
theorem dX2_isTrained_77 : decode cX2_isTrained 77 = .ok (.aload_n 0, 1) := by decide +kernel
theorem dX2_isTrained_78 : decode cX2_isTrained 78 = .ok (.getfield 23, 3) := by decide +kernel
theorem dX2_isTrained_81 : decode cX2_isTrained 81 = .ok (.iload 4, 2) := by decide +kernel
theorem dX2_isTrained_83 : decode cX2_isTrained 83 = .ok (.aload_n 0, 1) := by decide +kernel
theorem dX2_isTrained_84 : decode cX2_isTrained 84 = .ok (.getfield 52, 3) := by decide +kernel
theorem dX2_isTrained_87 : decode cX2_isTrained 87 = .ok (.invokevirtual 173, 3) := by decide +kernel
theorem dX2_isTrained_90 : decode cX2_isTrained 90 = .ok (.ifCond .eq 5, 3) := by decide +kernel
theorem dX2_isTrained_93 : decode cX2_isTrained 93 = .ok (.iconst 0, 1) := by decide +kernel
theorem dX2_isTrained_94 : decode cX2_isTrained 94 = .ok (.ireturn, 1) := by decide +kernel
theorem dX2_isTrained_95 : decode cX2_isTrained 95 = .ok (.iinc 4 1, 3) := by decide +kernel
theorem dX2_isTrained_98 : decode cX2_isTrained 98 = .ok (.goto (-70), 3) := by decide +kernel
theorem dX2_isTrained_101 : decode cX2_isTrained 101 = .ok (.iconst 1, 1) := by decide +kernel
theorem dX2_isTrained_102 : decode cX2_isTrained 102 = .ok (.ireturn, 1) := by decide +kernel
theorem dX2_leaveCalls_0 : decode cX2_leaveCalls 0 = .ok (.aload_n 0, 1) := by decide +kernel
theorem dX2_leaveCalls_1 : decode cX2_leaveCalls 1 = .ok (.getfield 19, 3) := by decide +kernel
theorem dX2_leaveCalls_4 : decode cX2_leaveCalls 4 = .ok (.invokevirtual 88, 3) := by decide +kernel
theorem dX2_leaveCalls_7 : decode cX2_leaveCalls 7 = .ok (.istore_n 1, 1) := by decide +kernel
theorem dX2_leaveCalls_8 : decode cX2_leaveCalls 8 = .ok (.iload_n 1, 1) := by decide +kernel
theorem dX2_leaveCalls_9 : decode cX2_leaveCalls 9 = .ok (.aload_n 0, 1) := by decide +kernel
theorem dX2_leaveCalls_10 : decode cX2_leaveCalls 10 = .ok (.getfield 19, 3) := by decide +kernel
theorem dX2_leaveCalls_13 : decode cX2_leaveCalls 13 = .ok (.invokevirtual 123, 3) := by decide +kernel
theorem dX2_leaveCalls_16 : decode cX2_leaveCalls 16 = .ok (.if_icmp .ge 28, 3) := by decide +kernel
theorem dX2_leaveCalls_19 : decode cX2_leaveCalls 19 = .ok (.aload_n 0, 1) := by decide +kernel
theorem dX2_leaveCalls_20 : decode cX2_leaveCalls 20 = .ok (.getfield 19, 3) := by decide +kernel
theorem dX2_leaveCalls_23 : decode cX2_leaveCalls 23 = .ok (.iload_n 1, 1) := by decide +kernel
theorem dX2_leaveCalls_24 : decode cX2_leaveCalls 24 = .ok (.invokevirtual 95, 3) := by decide +kernel
theorem dX2_leaveCalls_27 : decode cX2_leaveCalls 27 = .ok (.ifCond .ne 11, 3) := by decide +kernel
theorem dX2_leaveCalls_30 : decode cX2_leaveCalls 30 = .ok (.aload_n 0, 1) := by decide +kernel
theorem dX2_leaveCalls_31 : decode cX2_leaveCalls 31 = .ok (.getfield 19, 3) := by decide +kernel
theorem dX2_leaveCalls_34 : decode cX2_leaveCalls 34 = .ok (.iload_n 1, 1) := by decide +kernel
theorem dX2_leaveCalls_35 : decode cX2_leaveCalls 35 = .ok (.invokevirtual 177, 3) := by decide +kernel
theorem dX2_leaveCalls_38 : decode cX2_leaveCalls 38 = .ok (.iinc 1 1, 3) := by decide +kernel
theorem dX2_leaveCalls_41 : decode cX2_leaveCalls 41 = .ok (.goto (-33), 3) := by decide +kernel
theorem dX2_leaveCalls_44 : decode cX2_leaveCalls 44 = .ok (.return_, 1) := by decide +kernel
theorem dX2_setFacts_0 : decode cX2_setFacts 0 = .ok (.aload_n 0, 1) := by decide +kernel
theorem dX2_setFacts_1 : decode cX2_setFacts 1 = .ok (.getfield 19, 3) := by decide +kernel
theorem dX2_setFacts_4 : decode cX2_setFacts 4 = .ok (.iload_n 1, 1) := by decide +kernel
theorem dX2_setFacts_5 : decode cX2_setFacts 5 = .ok (.invokevirtual 92, 3) := by decide +kernel
theorem dX2_setFacts_8 : decode cX2_setFacts 8 = .ok (.istore 5, 2) := by decide +kernel
theorem dX2_setFacts_10 : decode cX2_setFacts 10 = .ok (.aload_n 0, 1) := by decide +kernel
theorem dX2_setFacts_11 : decode cX2_setFacts 11 = .ok (.getfield 52, 3) := by decide +kernel
theorem dX2_setFacts_14 : decode cX2_setFacts 14 = .ok (.iconst 0, 1) := by decide +kernel
theorem dX2_setFacts_15 : decode cX2_setFacts 15 = .ok (.aload_n 0, 1) := by decide +kernel
theorem dX2_setFacts_16 : decode cX2_setFacts 16 = .ok (.getfield 19, 3) := by decide +kernel
theorem dX2_setFacts_19 : decode cX2_setFacts 19 = .ok (.iload_n 1, 1) := by decide +kernel
theorem dX2_setFacts_20 : decode cX2_setFacts 20 = .ok (.invokevirtual 133, 3) := by decide +kernel
theorem dX2_setFacts_23 : decode cX2_setFacts 23 = .ok (.iastore, 1) := by decide +kernel
theorem dX2_setFacts_24 : decode cX2_setFacts 24 = .ok (.aload_n 0, 1) := by decide +kernel
theorem dX2_setFacts_25 : decode cX2_setFacts 25 = .ok (.getfield 52, 3) := by decide +kernel
theorem dX2_setFacts_28 : decode cX2_setFacts 28 = .ok (.iconst 1, 1) := by decide +kernel
theorem dX2_setFacts_29 : decode cX2_setFacts 29 = .ok (.aload_n 0, 1) := by decide +kernel
theorem dX2_setFacts_30 : decode cX2_setFacts 30 = .ok (.getfield 19, 3) := by decide +kernel
theorem dX2_setFacts_33 : decode cX2_setFacts 33 = .ok (.iload_n 1, 1) := by decide +kernel
theorem dX2_setFacts_34 : decode cX2_setFacts 34 = .ok (.invokevirtual 180, 3) := by decide +kernel
theorem dX2_setFacts_37 : decode cX2_setFacts 37 = .ok (.iastore, 1) := by decide +kernel
theorem dX2_setFacts_38 : decode cX2_setFacts 38 = .ok (.aload_n 0, 1) := by decide +kernel
theorem dX2_setFacts_39 : decode cX2_setFacts 39 = .ok (.getfield 52, 3) := by decide +kernel
theorem dX2_setFacts_42 : decode cX2_setFacts 42 = .ok (.iconst 2, 1) := by decide +kernel
theorem dX2_setFacts_43 : decode cX2_setFacts 43 = .ok (.iload_n 2, 1) := by decide +kernel
theorem dX2_setFacts_44 : decode cX2_setFacts 44 = .ok (.aload_n 0, 1) := by decide +kernel
theorem dX2_setFacts_45 : decode cX2_setFacts 45 = .ok (.getfield 19, 3) := by decide +kernel
theorem dX2_setFacts_48 : decode cX2_setFacts 48 = .ok (.iload_n 1, 1) := by decide +kernel
theorem dX2_setFacts_49 : decode cX2_setFacts 49 = .ok (.invokevirtual 183, 3) := by decide +kernel
theorem dX2_setFacts_52 : decode cX2_setFacts 52 = .ok (.isub, 1) := by decide +kernel
theorem dX2_setFacts_53 : decode cX2_setFacts 53 = .ok (.iastore, 1) := by decide +kernel
theorem dX2_setFacts_54 : decode cX2_setFacts 54 = .ok (.aload_n 0, 1) := by decide +kernel
theorem dX2_setFacts_55 : decode cX2_setFacts 55 = .ok (.getfield 52, 3) := by decide +kernel
theorem dX2_setFacts_58 : decode cX2_setFacts 58 = .ok (.iconst 3, 1) := by decide +kernel
theorem dX2_setFacts_59 : decode cX2_setFacts 59 = .ok (.iload_n 3, 1) := by decide +kernel
theorem dX2_setFacts_60 : decode cX2_setFacts 60 = .ok (.bipush 60, 2) := by decide +kernel
theorem dX2_setFacts_62 : decode cX2_setFacts 62 = .ok (.idiv, 1) := by decide +kernel
theorem dX2_setFacts_63 : decode cX2_setFacts 63 = .ok (.iastore, 1) := by decide +kernel
theorem dX2_setFacts_64 : decode cX2_setFacts 64 = .ok (.aload_n 0, 1) := by decide +kernel
theorem dX2_setFacts_65 : decode cX2_setFacts 65 = .ok (.getfield 52, 3) := by decide +kernel
theorem dX2_setFacts_68 : decode cX2_setFacts 68 = .ok (.iconst 4, 1) := by decide +kernel
theorem dX2_setFacts_69 : decode cX2_setFacts 69 = .ok (.iload 5, 2) := by decide +kernel
theorem dX2_setFacts_71 : decode cX2_setFacts 71 = .ok (.invokestatic 98, 3) := by decide +kernel
theorem dX2_setFacts_74 : decode cX2_setFacts 74 = .ok (.ifCond .eq 13, 3) := by decide +kernel
theorem dX2_setFacts_77 : decode cX2_setFacts 77 = .ok (.aload_n 0, 1) := by decide +kernel
theorem dX2_setFacts_78 : decode cX2_setFacts 78 = .ok (.getfield 39, 3) := by decide +kernel
theorem dX2_setFacts_81 : decode cX2_setFacts 81 = .ok (.iload 5, 2) := by decide +kernel
theorem dX2_setFacts_83 : decode cX2_setFacts 83 = .ok (.iaload, 1) := by decide +kernel
theorem dX2_setFacts_84 : decode cX2_setFacts 84 = .ok (.goto 4, 3) := by decide +kernel
theorem dX2_setFacts_87 : decode cX2_setFacts 87 = .ok (.iconst 0, 1) := by decide +kernel
theorem dX2_setFacts_88 : decode cX2_setFacts 88 = .ok (.iastore, 1) := by decide +kernel
theorem dX2_setFacts_89 : decode cX2_setFacts 89 = .ok (.aload_n 0, 1) := by decide +kernel
theorem dX2_setFacts_90 : decode cX2_setFacts 90 = .ok (.getfield 52, 3) := by decide +kernel
theorem dX2_setFacts_93 : decode cX2_setFacts 93 = .ok (.iconst 5, 1) := by decide +kernel
theorem dX2_setFacts_94 : decode cX2_setFacts 94 = .ok (.iload 4, 2) := by decide +kernel
theorem dX2_setFacts_96 : decode cX2_setFacts 96 = .ok (.iastore, 1) := by decide +kernel
theorem dX2_setFacts_97 : decode cX2_setFacts 97 = .ok (.return_, 1) := by decide +kernel
theorem dX3_size_0 : decode cX3_size 0 = .ok (.aload_n 0, 1) := by decide +kernel
theorem dX3_size_1 : decode cX3_size 1 = .ok (.getfield 21, 3) := by decide +kernel
theorem dX3_size_4 : decode cX3_size 4 = .ok (.ireturn, 1) := by decide +kernel
theorem dX3_isNote_0 : decode cX3_isNote 0 = .ok (.iload_n 1, 1) := by decide +kernel
theorem dX3_isNote_1 : decode cX3_isNote 1 = .ok (.ifCond .lt 15, 3) := by decide +kernel
theorem dX3_isNote_4 : decode cX3_isNote 4 = .ok (.iload_n 1, 1) := by decide +kernel
theorem dX3_isNote_5 : decode cX3_isNote 5 = .ok (.aload_n 0, 1) := by decide +kernel
theorem dX3_isNote_6 : decode cX3_isNote 6 = .ok (.getfield 21, 3) := by decide +kernel
theorem dX3_isNote_9 : decode cX3_isNote 9 = .ok (.if_icmp .ge 7, 3) := by decide +kernel
theorem dX3_isNote_12 : decode cX3_isNote 12 = .ok (.iconst 1, 1) := by decide +kernel
theorem dX3_isNote_13 : decode cX3_isNote 13 = .ok (.goto 4, 3) := by decide +kernel
theorem dX3_isNote_16 : decode cX3_isNote 16 = .ok (.iconst 0, 1) := by decide +kernel
theorem dX3_isNote_17 : decode cX3_isNote 17 = .ok (.ireturn, 1) := by decide +kernel
theorem dX3_add_0 : decode cX3_add 0 = .ok (.aload_n 0, 1) := by decide +kernel
theorem dX3_add_1 : decode cX3_add 1 = .ok (.getfield 21, 3) := by decide +kernel
theorem dX3_add_4 : decode cX3_add 4 = .ok (.bipush 60, 2) := by decide +kernel
theorem dX3_add_6 : decode cX3_add 6 = .ok (.if_icmp .lt 5, 3) := by decide +kernel
theorem dX3_add_9 : decode cX3_add 9 = .ok (.iconst (-1), 1) := by decide +kernel
theorem dX3_add_10 : decode cX3_add 10 = .ok (.ireturn, 1) := by decide +kernel
theorem dX3_add_11 : decode cX3_add 11 = .ok (.aload_n 0, 1) := by decide +kernel
theorem dX3_add_12 : decode cX3_add 12 = .ok (.getfield 11, 3) := by decide +kernel
theorem dX3_add_15 : decode cX3_add 15 = .ok (.aload_n 0, 1) := by decide +kernel
theorem dX3_add_16 : decode cX3_add 16 = .ok (.getfield 21, 3) := by decide +kernel
theorem dX3_add_19 : decode cX3_add 19 = .ok (.iload_n 1, 1) := by decide +kernel
theorem dX3_add_20 : decode cX3_add 20 = .ok (.iastore, 1) := by decide +kernel
theorem dX3_add_21 : decode cX3_add 21 = .ok (.aload_n 0, 1) := by decide +kernel
theorem dX3_add_22 : decode cX3_add 22 = .ok (.getfield 15, 3) := by decide +kernel
theorem dX3_add_25 : decode cX3_add 25 = .ok (.aload_n 0, 1) := by decide +kernel
theorem dX3_add_26 : decode cX3_add 26 = .ok (.getfield 21, 3) := by decide +kernel
theorem dX3_add_29 : decode cX3_add 29 = .ok (.iload_n 2, 1) := by decide +kernel
theorem dX3_add_30 : decode cX3_add 30 = .ok (.iastore, 1) := by decide +kernel
theorem dX3_add_31 : decode cX3_add 31 = .ok (.aload_n 0, 1) := by decide +kernel
theorem dX3_add_32 : decode cX3_add 32 = .ok (.getfield 18, 3) := by decide +kernel
theorem dX3_add_35 : decode cX3_add 35 = .ok (.aload_n 0, 1) := by decide +kernel
theorem dX3_add_36 : decode cX3_add 36 = .ok (.getfield 21, 3) := by decide +kernel
theorem dX3_add_39 : decode cX3_add 39 = .ok (.iload_n 3, 1) := by decide +kernel
theorem dX3_add_40 : decode cX3_add 40 = .ok (.iastore, 1) := by decide +kernel
theorem dX3_add_41 : decode cX3_add 41 = .ok (.aload_n 0, 1) := by decide +kernel
theorem dX3_add_42 : decode cX3_add 42 = .ok (.dup, 1) := by decide +kernel
theorem dX3_add_43 : decode cX3_add 43 = .ok (.getfield 21, 3) := by decide +kernel
theorem dX3_add_46 : decode cX3_add 46 = .ok (.iconst 1, 1) := by decide +kernel
theorem dX3_add_47 : decode cX3_add 47 = .ok (.iadd, 1) := by decide +kernel
theorem dX3_add_48 : decode cX3_add 48 = .ok (.putfield 21, 3) := by decide +kernel
theorem dX3_add_51 : decode cX3_add 51 = .ok (.aload_n 0, 1) := by decide +kernel
theorem dX3_add_52 : decode cX3_add 52 = .ok (.getfield 21, 3) := by decide +kernel
theorem dX3_add_55 : decode cX3_add 55 = .ok (.iconst 1, 1) := by decide +kernel
theorem dX3_add_56 : decode cX3_add 56 = .ok (.isub, 1) := by decide +kernel
theorem dX3_add_57 : decode cX3_add 57 = .ok (.ireturn, 1) := by decide +kernel
theorem dX3_callOf_0 : decode cX3_callOf 0 = .ok (.aload_n 0, 1) := by decide +kernel
theorem dX3_callOf_1 : decode cX3_callOf 1 = .ok (.iload_n 1, 1) := by decide +kernel
theorem dX3_callOf_2 : decode cX3_callOf 2 = .ok (.invokevirtual 25, 3) := by decide +kernel
theorem dX3_callOf_5 : decode cX3_callOf 5 = .ok (.ifCond .eq 12, 3) := by decide +kernel
theorem dX3_callOf_8 : decode cX3_callOf 8 = .ok (.aload_n 0, 1) := by decide +kernel
theorem dX3_callOf_9 : decode cX3_callOf 9 = .ok (.getfield 11, 3) := by decide +kernel
theorem dX3_callOf_12 : decode cX3_callOf 12 = .ok (.iload_n 1, 1) := by decide +kernel
theorem dX3_callOf_13 : decode cX3_callOf 13 = .ok (.iaload, 1) := by decide +kernel
theorem dX3_callOf_14 : decode cX3_callOf 14 = .ok (.goto 4, 3) := by decide +kernel
theorem dX3_callOf_17 : decode cX3_callOf 17 = .ok (.iconst (-1), 1) := by decide +kernel
theorem dX3_callOf_18 : decode cX3_callOf 18 = .ok (.ireturn, 1) := by decide +kernel
theorem dX3_rankOf_0 : decode cX3_rankOf 0 = .ok (.aload_n 0, 1) := by decide +kernel
theorem dX3_rankOf_1 : decode cX3_rankOf 1 = .ok (.iload_n 1, 1) := by decide +kernel
theorem dX3_rankOf_2 : decode cX3_rankOf 2 = .ok (.invokevirtual 25, 3) := by decide +kernel
theorem dX3_rankOf_5 : decode cX3_rankOf 5 = .ok (.ifCond .eq 12, 3) := by decide +kernel
theorem dX3_rankOf_8 : decode cX3_rankOf 8 = .ok (.aload_n 0, 1) := by decide +kernel
theorem dX3_rankOf_9 : decode cX3_rankOf 9 = .ok (.getfield 15, 3) := by decide +kernel
theorem dX3_rankOf_12 : decode cX3_rankOf 12 = .ok (.iload_n 1, 1) := by decide +kernel
theorem dX3_rankOf_13 : decode cX3_rankOf 13 = .ok (.iaload, 1) := by decide +kernel
theorem dX3_rankOf_14 : decode cX3_rankOf 14 = .ok (.goto 4, 3) := by decide +kernel
theorem dX3_rankOf_17 : decode cX3_rankOf 17 = .ok (.iconst (-1), 1) := by decide +kernel
theorem dX3_rankOf_18 : decode cX3_rankOf 18 = .ok (.ireturn, 1) := by decide +kernel
theorem dX3_nightOf_0 : decode cX3_nightOf 0 = .ok (.aload_n 0, 1) := by decide +kernel
theorem dX3_nightOf_1 : decode cX3_nightOf 1 = .ok (.iload_n 1, 1) := by decide +kernel
theorem dX3_nightOf_2 : decode cX3_nightOf 2 = .ok (.invokevirtual 25, 3) := by decide +kernel
theorem dX3_nightOf_5 : decode cX3_nightOf 5 = .ok (.ifCond .eq 12, 3) := by decide +kernel
theorem dX3_nightOf_8 : decode cX3_nightOf 8 = .ok (.aload_n 0, 1) := by decide +kernel
theorem dX3_nightOf_9 : decode cX3_nightOf 9 = .ok (.getfield 18, 3) := by decide +kernel
theorem dX3_nightOf_12 : decode cX3_nightOf 12 = .ok (.iload_n 1, 1) := by decide +kernel
theorem dX3_nightOf_13 : decode cX3_nightOf 13 = .ok (.iaload, 1) := by decide +kernel
theorem dX3_nightOf_14 : decode cX3_nightOf 14 = .ok (.goto 4, 3) := by decide +kernel
theorem dX3_nightOf_17 : decode cX3_nightOf 17 = .ok (.iconst (-1), 1) := by decide +kernel
theorem dX3_nightOf_18 : decode cX3_nightOf 18 = .ok (.ireturn, 1) := by decide +kernel
theorem dX4_clear_0 : decode cX4_clear 0 = .ok (.aload_n 0, 1) := by decide +kernel
theorem dX4_clear_1 : decode cX4_clear 1 = .ok (.iconst 0, 1) := by decide +kernel
theorem dX4_clear_2 : decode cX4_clear 2 = .ok (.putfield 21, 3) := by decide +kernel
theorem dX4_clear_5 : decode cX4_clear 5 = .ok (.return_, 1) := by decide +kernel
theorem dX4_size_0 : decode cX4_size 0 = .ok (.aload_n 0, 1) := by decide +kernel
theorem dX4_size_1 : decode cX4_size 1 = .ok (.getfield 21, 3) := by decide +kernel
theorem dX4_size_4 : decode cX4_size 4 = .ok (.ireturn, 1) := by decide +kernel
theorem dX4_add_0 : decode cX4_add 0 = .ok (.aload_n 0, 1) := by decide +kernel
theorem dX4_add_1 : decode cX4_add 1 = .ok (.getfield 21, 3) := by decide +kernel
theorem dX4_add_4 : decode cX4_add 4 = .ok (.iconst 5, 1) := by decide +kernel
theorem dX4_add_5 : decode cX4_add 5 = .ok (.if_icmp .ge 11, 3) := by decide +kernel
theorem dX4_add_8 : decode cX4_add 8 = .ok (.aload_n 0, 1) := by decide +kernel
theorem dX4_add_9 : decode cX4_add 9 = .ok (.iload_n 1, 1) := by decide +kernel
theorem dX4_add_10 : decode cX4_add 10 = .ok (.invokevirtual 25, 3) := by decide +kernel
theorem dX4_add_13 : decode cX4_add 13 = .ok (.ifCond .eq 5, 3) := by decide +kernel
theorem dX4_add_16 : decode cX4_add 16 = .ok (.iconst (-1), 1) := by decide +kernel
theorem dX4_add_17 : decode cX4_add 17 = .ok (.ireturn, 1) := by decide +kernel
theorem dX4_add_18 : decode cX4_add 18 = .ok (.aload_n 0, 1) := by decide +kernel
theorem dX4_add_19 : decode cX4_add 19 = .ok (.getfield 11, 3) := by decide +kernel
theorem dX4_add_22 : decode cX4_add 22 = .ok (.aload_n 0, 1) := by decide +kernel
theorem dX4_add_23 : decode cX4_add 23 = .ok (.getfield 21, 3) := by decide +kernel
theorem dX4_add_26 : decode cX4_add 26 = .ok (.iload_n 1, 1) := by decide +kernel
theorem dX4_add_27 : decode cX4_add 27 = .ok (.iastore, 1) := by decide +kernel
theorem dX4_add_28 : decode cX4_add 28 = .ok (.aload_n 0, 1) := by decide +kernel
theorem dX4_add_29 : decode cX4_add 29 = .ok (.getfield 15, 3) := by decide +kernel
theorem dX4_add_32 : decode cX4_add 32 = .ok (.aload_n 0, 1) := by decide +kernel
theorem dX4_add_33 : decode cX4_add 33 = .ok (.getfield 21, 3) := by decide +kernel
theorem dX4_add_36 : decode cX4_add 36 = .ok (.iload_n 2, 1) := by decide +kernel
theorem dX4_add_37 : decode cX4_add 37 = .ok (.iastore, 1) := by decide +kernel
theorem dX4_add_38 : decode cX4_add 38 = .ok (.aload_n 0, 1) := by decide +kernel
theorem dX4_add_39 : decode cX4_add 39 = .ok (.getfield 18, 3) := by decide +kernel
theorem dX4_add_42 : decode cX4_add 42 = .ok (.aload_n 0, 1) := by decide +kernel
theorem dX4_add_43 : decode cX4_add 43 = .ok (.getfield 21, 3) := by decide +kernel
theorem dX4_add_46 : decode cX4_add 46 = .ok (.iload_n 3, 1) := by decide +kernel
theorem dX4_add_47 : decode cX4_add 47 = .ok (.iastore, 1) := by decide +kernel
theorem dX4_add_48 : decode cX4_add 48 = .ok (.aload_n 0, 1) := by decide +kernel
theorem dX4_add_49 : decode cX4_add 49 = .ok (.dup, 1) := by decide +kernel
theorem dX4_add_50 : decode cX4_add 50 = .ok (.getfield 21, 3) := by decide +kernel
theorem dX4_add_53 : decode cX4_add 53 = .ok (.iconst 1, 1) := by decide +kernel
theorem dX4_add_54 : decode cX4_add 54 = .ok (.iadd, 1) := by decide +kernel
theorem dX4_add_55 : decode cX4_add 55 = .ok (.putfield 21, 3) := by decide +kernel
theorem dX4_add_58 : decode cX4_add 58 = .ok (.aload_n 0, 1) := by decide +kernel
theorem dX4_add_59 : decode cX4_add 59 = .ok (.getfield 21, 3) := by decide +kernel
theorem dX4_add_62 : decode cX4_add 62 = .ok (.iconst 1, 1) := by decide +kernel
theorem dX4_add_63 : decode cX4_add 63 = .ok (.isub, 1) := by decide +kernel
theorem dX4_add_64 : decode cX4_add 64 = .ok (.ireturn, 1) := by decide +kernel
theorem dX4_volunteerOf_0 : decode cX4_volunteerOf 0 = .ok (.iload_n 1, 1) := by decide +kernel
theorem dX4_volunteerOf_1 : decode cX4_volunteerOf 1 = .ok (.ifCond .lt 20, 3) := by decide +kernel
theorem dX4_volunteerOf_4 : decode cX4_volunteerOf 4 = .ok (.iload_n 1, 1) := by decide +kernel
theorem dX4_volunteerOf_5 : decode cX4_volunteerOf 5 = .ok (.aload_n 0, 1) := by decide +kernel
theorem dX4_volunteerOf_6 : decode cX4_volunteerOf 6 = .ok (.getfield 21, 3) := by decide +kernel
theorem dX4_volunteerOf_9 : decode cX4_volunteerOf 9 = .ok (.if_icmp .ge 12, 3) := by decide +kernel
theorem dX4_volunteerOf_12 : decode cX4_volunteerOf 12 = .ok (.aload_n 0, 1) := by decide +kernel
theorem dX4_volunteerOf_13 : decode cX4_volunteerOf 13 = .ok (.getfield 11, 3) := by decide +kernel
theorem dX4_volunteerOf_16 : decode cX4_volunteerOf 16 = .ok (.iload_n 1, 1) := by decide +kernel
theorem dX4_volunteerOf_17 : decode cX4_volunteerOf 17 = .ok (.iaload, 1) := by decide +kernel
theorem dX4_volunteerOf_18 : decode cX4_volunteerOf 18 = .ok (.goto 4, 3) := by decide +kernel
theorem dX4_volunteerOf_21 : decode cX4_volunteerOf 21 = .ok (.iconst (-1), 1) := by decide +kernel
theorem dX4_volunteerOf_22 : decode cX4_volunteerOf 22 = .ok (.ireturn, 1) := by decide +kernel
theorem dX4_hoursOf_0 : decode cX4_hoursOf 0 = .ok (.iload_n 1, 1) := by decide +kernel
theorem dX4_hoursOf_1 : decode cX4_hoursOf 1 = .ok (.ifCond .lt 20, 3) := by decide +kernel
theorem dX4_hoursOf_4 : decode cX4_hoursOf 4 = .ok (.iload_n 1, 1) := by decide +kernel
theorem dX4_hoursOf_5 : decode cX4_hoursOf 5 = .ok (.aload_n 0, 1) := by decide +kernel
theorem dX4_hoursOf_6 : decode cX4_hoursOf 6 = .ok (.getfield 21, 3) := by decide +kernel
theorem dX4_hoursOf_9 : decode cX4_hoursOf 9 = .ok (.if_icmp .ge 12, 3) := by decide +kernel
theorem dX4_hoursOf_12 : decode cX4_hoursOf 12 = .ok (.aload_n 0, 1) := by decide +kernel
theorem dX4_hoursOf_13 : decode cX4_hoursOf 13 = .ok (.getfield 15, 3) := by decide +kernel
theorem dX4_hoursOf_16 : decode cX4_hoursOf 16 = .ok (.iload_n 1, 1) := by decide +kernel
theorem dX4_hoursOf_17 : decode cX4_hoursOf 17 = .ok (.iaload, 1) := by decide +kernel
theorem dX4_hoursOf_18 : decode cX4_hoursOf 18 = .ok (.goto 4, 3) := by decide +kernel
theorem dX4_hoursOf_21 : decode cX4_hoursOf 21 = .ok (.iconst 0, 1) := by decide +kernel
theorem dX4_hoursOf_22 : decode cX4_hoursOf 22 = .ok (.ireturn, 1) := by decide +kernel
theorem dX4_mostOf_0 : decode cX4_mostOf 0 = .ok (.iload_n 1, 1) := by decide +kernel
theorem dX4_mostOf_1 : decode cX4_mostOf 1 = .ok (.ifCond .lt 20, 3) := by decide +kernel
theorem dX4_mostOf_4 : decode cX4_mostOf 4 = .ok (.iload_n 1, 1) := by decide +kernel
theorem dX4_mostOf_5 : decode cX4_mostOf 5 = .ok (.aload_n 0, 1) := by decide +kernel
theorem dX4_mostOf_6 : decode cX4_mostOf 6 = .ok (.getfield 21, 3) := by decide +kernel
theorem dX4_mostOf_9 : decode cX4_mostOf 9 = .ok (.if_icmp .ge 12, 3) := by decide +kernel
theorem dX4_mostOf_12 : decode cX4_mostOf 12 = .ok (.aload_n 0, 1) := by decide +kernel
theorem dX4_mostOf_13 : decode cX4_mostOf 13 = .ok (.getfield 18, 3) := by decide +kernel
theorem dX4_mostOf_16 : decode cX4_mostOf 16 = .ok (.iload_n 1, 1) := by decide +kernel
theorem dX4_mostOf_17 : decode cX4_mostOf 17 = .ok (.iaload, 1) := by decide +kernel
theorem dX4_mostOf_18 : decode cX4_mostOf 18 = .ok (.goto 4, 3) := by decide +kernel
theorem dX4_mostOf_21 : decode cX4_mostOf 21 = .ok (.iconst 0, 1) := by decide +kernel
theorem dX4_mostOf_22 : decode cX4_mostOf 22 = .ok (.ireturn, 1) := by decide +kernel
theorem dX4_isOfOffer_0 : decode cX4_isOfOffer 0 = .ok (.iconst 0, 1) := by decide +kernel
theorem dX4_isOfOffer_1 : decode cX4_isOfOffer 1 = .ok (.istore_n 2, 1) := by decide +kernel
theorem dX4_isOfOffer_2 : decode cX4_isOfOffer 2 = .ok (.iload_n 2, 1) := by decide +kernel
theorem dX4_isOfOffer_3 : decode cX4_isOfOffer 3 = .ok (.aload_n 0, 1) := by decide +kernel
theorem dX4_isOfOffer_4 : decode cX4_isOfOffer 4 = .ok (.getfield 21, 3) := by decide +kernel
theorem dX4_isOfOffer_7 : decode cX4_isOfOffer 7 = .ok (.if_icmp .ge 21, 3) := by decide +kernel
theorem dX4_isOfOffer_10 : decode cX4_isOfOffer 10 = .ok (.aload_n 0, 1) := by decide +kernel
theorem dX4_isOfOffer_11 : decode cX4_isOfOffer 11 = .ok (.getfield 11, 3) := by decide +kernel
theorem dX4_isOfOffer_14 : decode cX4_isOfOffer 14 = .ok (.iload_n 2, 1) := by decide +kernel
theorem dX4_isOfOffer_15 : decode cX4_isOfOffer 15 = .ok (.iaload, 1) := by decide +kernel
theorem dX4_isOfOffer_16 : decode cX4_isOfOffer 16 = .ok (.iload_n 1, 1) := by decide +kernel
theorem dX4_isOfOffer_17 : decode cX4_isOfOffer 17 = .ok (.if_icmp .ne 5, 3) := by decide +kernel
theorem dX4_isOfOffer_20 : decode cX4_isOfOffer 20 = .ok (.iconst 1, 1) := by decide +kernel
theorem dX4_isOfOffer_21 : decode cX4_isOfOffer 21 = .ok (.ireturn, 1) := by decide +kernel
theorem dX4_isOfOffer_22 : decode cX4_isOfOffer 22 = .ok (.iinc 2 1, 3) := by decide +kernel
theorem dX4_isOfOffer_25 : decode cX4_isOfOffer 25 = .ok (.goto (-23), 3) := by decide +kernel
theorem dX4_isOfOffer_28 : decode cX4_isOfOffer 28 = .ok (.iconst 0, 1) := by decide +kernel
theorem dX4_isOfOffer_29 : decode cX4_isOfOffer 29 = .ok (.ireturn, 1) := by decide +kernel
theorem dX5_faultPlace_0 : decode cX5_faultPlace 0 = .ok (.aload_n 0, 1) := by decide +kernel
theorem dX5_faultPlace_1 : decode cX5_faultPlace 1 = .ok (.getfield 26, 3) := by decide +kernel
theorem dX5_faultPlace_4 : decode cX5_faultPlace 4 = .ok (.ireturn, 1) := by decide +kernel
theorem dX5_readRules_0 : decode cX5_readRules 0 = .ok (.aload_n 0, 1) := by decide +kernel
theorem dX5_readRules_1 : decode cX5_readRules 1 = .ok (.aload_n 2, 1) := by decide +kernel
theorem dX5_readRules_2 : decode cX5_readRules 2 = .ok (.invokevirtual 30, 3) := by decide +kernel
theorem dX5_readRules_5 : decode cX5_readRules 5 = .ok (.iconst 0, 1) := by decide +kernel
theorem dX5_readRules_6 : decode cX5_readRules 6 = .ok (.istore_n 3, 1) := by decide +kernel
theorem dX5_readRules_7 : decode cX5_readRules 7 = .ok (.iconst 0, 1) := by decide +kernel
theorem dX5_readRules_8 : decode cX5_readRules 8 = .ok (.istore 4, 2) := by decide +kernel
theorem dX5_readRules_10 : decode cX5_readRules 10 = .ok (.iconst 1, 1) := by decide +kernel
theorem dX5_readRules_11 : decode cX5_readRules 11 = .ok (.istore 5, 2) := by decide +kernel
theorem dX5_readRules_13 : decode cX5_readRules 13 = .ok (.iload 5, 2) := by decide +kernel
theorem dX5_readRules_15 : decode cX5_readRules 15 = .ok (.sipush 2001, 3) := by decide +kernel
theorem dX5_readRules_18 : decode cX5_readRules 18 = .ok (.if_icmp .gt 88, 3) := by decide +kernel
theorem dX5_readRules_21 : decode cX5_readRules 21 = .ok (.iload_n 3, 1) := by decide +kernel
theorem dX5_readRules_22 : decode cX5_readRules 22 = .ok (.ifCond .ne 84, 3) := by decide +kernel
theorem dX5_readRules_25 : decode cX5_readRules 25 = .ok (.iload 4, 2) := by decide +kernel
theorem dX5_readRules_27 : decode cX5_readRules 27 = .ok (.ifCond .ne 79, 3) := by decide +kernel
theorem dX5_readRules_30 : decode cX5_readRules 30 = .ok (.aload_n 0, 1) := by decide +kernel
theorem dX5_readRules_31 : decode cX5_readRules 31 = .ok (.getfield 12, 3) := by decide +kernel
theorem dX5_readRules_34 : decode cX5_readRules 34 = .ok (.aload_n 1, 1) := by decide +kernel
theorem dX5_readRules_35 : decode cX5_readRules 35 = .ok (.invokevirtual 36, 3) := by decide +kernel
theorem dX5_readRules_38 : decode cX5_readRules 38 = .ok (.aload_n 0, 1) := by decide +kernel
theorem dX5_readRules_39 : decode cX5_readRules 39 = .ok (.getfield 12, 3) := by decide +kernel
theorem dX5_readRules_42 : decode cX5_readRules 42 = .ok (.invokevirtual 40, 3) := by decide +kernel
theorem dX5_readRules_45 : decode cX5_readRules 45 = .ok (.ifCond .ne 14, 3) := by decide +kernel
theorem dX5_readRules_48 : decode cX5_readRules 48 = .ok (.aload_n 0, 1) := by decide +kernel
theorem dX5_readRules_49 : decode cX5_readRules 49 = .ok (.getfield 44, 3) := by decide +kernel
theorem dX5_readRules_52 : decode cX5_readRules 52 = .ok (.ifCond .ne 7, 3) := by decide +kernel
theorem dX5_readRules_55 : decode cX5_readRules 55 = .ok (.iconst 1, 1) := by decide +kernel
theorem dX5_readRules_56 : decode cX5_readRules 56 = .ok (.goto 4, 3) := by decide +kernel
theorem dX5_readRules_59 : decode cX5_readRules 59 = .ok (.iconst 0, 1) := by decide +kernel
theorem dX5_readRules_60 : decode cX5_readRules 60 = .ok (.istore 4, 2) := by decide +kernel
theorem dX5_readRules_62 : decode cX5_readRules 62 = .ok (.iload 4, 2) := by decide +kernel
theorem dX5_readRules_64 : decode cX5_readRules 64 = .ok (.ifCond .ne 36, 3) := by decide +kernel
theorem dX5_readRules_67 : decode cX5_readRules 67 = .ok (.aload_n 0, 1) := by decide +kernel
theorem dX5_readRules_68 : decode cX5_readRules 68 = .ok (.aload_n 0, 1) := by decide +kernel
theorem dX5_readRules_69 : decode cX5_readRules 69 = .ok (.getfield 12, 3) := by decide +kernel
theorem dX5_readRules_72 : decode cX5_readRules 72 = .ok (.invokevirtual 40, 3) := by decide +kernel
theorem dX5_readRules_75 : decode cX5_readRules 75 = .ok (.aload_n 0, 1) := by decide +kernel
theorem dX5_readRules_76 : decode cX5_readRules 76 = .ok (.getfield 12, 3) := by decide +kernel
theorem dX5_readRules_79 : decode cX5_readRules 79 = .ok (.invokevirtual 47, 3) := by decide +kernel
theorem dX5_readRules_82 : decode cX5_readRules 82 = .ok (.invokevirtual 50, 3) := by decide +kernel
theorem dX5_readRules_85 : decode cX5_readRules 85 = .ok (.istore_n 3, 1) := by decide +kernel
theorem dX5_readRules_86 : decode cX5_readRules 86 = .ok (.iload_n 3, 1) := by decide +kernel
theorem dX5_readRules_87 : decode cX5_readRules 87 = .ok (.ifCond .ne 13, 3) := by decide +kernel
theorem dX5_readRules_90 : decode cX5_readRules 90 = .ok (.iload 5, 2) := by decide +kernel
theorem dX5_readRules_92 : decode cX5_readRules 92 = .ok (.sipush 400, 3) := by decide +kernel
theorem dX5_readRules_95 : decode cX5_readRules 95 = .ok (.if_icmp .le 5, 3) := by decide +kernel
theorem dX5_readRules_98 : decode cX5_readRules 98 = .ok (.iconst 2, 1) := by decide +kernel
theorem dX5_readRules_99 : decode cX5_readRules 99 = .ok (.istore_n 3, 1) := by decide +kernel
theorem dX5_readRules_100 : decode cX5_readRules 100 = .ok (.iinc 5 1, 3) := by decide +kernel
theorem dX5_readRules_103 : decode cX5_readRules 103 = .ok (.goto (-90), 3) := by decide +kernel
theorem dX5_readRules_106 : decode cX5_readRules 106 = .ok (.iload_n 3, 1) := by decide +kernel
theorem dX5_readRules_107 : decode cX5_readRules 107 = .ok (.ifCond .eq 16, 3) := by decide +kernel
theorem dX5_readRules_110 : decode cX5_readRules 110 = .ok (.aload_n 0, 1) := by decide +kernel
theorem dX5_readRules_111 : decode cX5_readRules 111 = .ok (.aload_n 0, 1) := by decide +kernel
theorem dX5_readRules_112 : decode cX5_readRules 112 = .ok (.getfield 12, 3) := by decide +kernel
theorem dX5_readRules_115 : decode cX5_readRules 115 = .ok (.invokevirtual 54, 3) := by decide +kernel
theorem dX5_readRules_118 : decode cX5_readRules 118 = .ok (.putfield 26, 3) := by decide +kernel
theorem dX5_readRules_121 : decode cX5_readRules 121 = .ok (.iload_n 3, 1) := by decide +kernel
theorem dX5_readRules_122 : decode cX5_readRules 122 = .ok (.ireturn, 1) := by decide +kernel
theorem dX5_readRules_123 : decode cX5_readRules 123 = .ok (.aload_n 0, 1) := by decide +kernel
theorem dX5_readRules_124 : decode cX5_readRules 124 = .ok (.aload_n 0, 1) := by decide +kernel
theorem dX5_readRules_125 : decode cX5_readRules 125 = .ok (.getfield 57, 3) := by decide +kernel
theorem dX5_readRules_128 : decode cX5_readRules 128 = .ok (.putfield 26, 3) := by decide +kernel
theorem dX5_readRules_131 : decode cX5_readRules 131 = .ok (.aload_n 0, 1) := by decide +kernel
theorem dX5_readRules_132 : decode cX5_readRules 132 = .ok (.getfield 57, 3) := by decide +kernel
theorem dX5_readRules_135 : decode cX5_readRules 135 = .ok (.iconst (-1), 1) := by decide +kernel
theorem dX5_readRules_136 : decode cX5_readRules 136 = .ok (.if_icmp .ne 7, 3) := by decide +kernel
theorem dX5_readRules_139 : decode cX5_readRules 139 = .ok (.iconst 0, 1) := by decide +kernel
theorem dX5_readRules_140 : decode cX5_readRules 140 = .ok (.goto 4, 3) := by decide +kernel
theorem dX5_readRules_143 : decode cX5_readRules 143 = .ok (.iconst 5, 1) := by decide +kernel
theorem dX5_readRules_144 : decode cX5_readRules 144 = .ok (.ireturn, 1) := by decide +kernel
theorem dX5_prepare_0 : decode cX5_prepare 0 = .ok (.aload_n 0, 1) := by decide +kernel
theorem dX5_prepare_1 : decode cX5_prepare 1 = .ok (.aload_n 1, 1) := by decide +kernel
theorem dX5_prepare_2 : decode cX5_prepare 2 = .ok (.putfield 22, 3) := by decide +kernel
theorem dX5_prepare_5 : decode cX5_prepare 5 = .ok (.aload_n 0, 1) := by decide +kernel
theorem dX5_prepare_6 : decode cX5_prepare 6 = .ok (.getfield 22, 3) := by decide +kernel
theorem dX5_prepare_9 : decode cX5_prepare 9 = .ok (.invokevirtual 60, 3) := by decide +kernel
theorem dX5_prepare_12 : decode cX5_prepare 12 = .ok (.aload_n 0, 1) := by decide +kernel
theorem dX5_prepare_13 : decode cX5_prepare 13 = .ok (.getfield 12, 3) := by decide +kernel
theorem dX5_prepare_16 : decode cX5_prepare 16 = .ok (.invokevirtual 65, 3) := by decide +kernel
theorem dX5_prepare_19 : decode cX5_prepare 19 = .ok (.aload_n 0, 1) := by decide +kernel
theorem dX5_prepare_20 : decode cX5_prepare 20 = .ok (.iconst 0, 1) := by decide +kernel
theorem dX5_prepare_21 : decode cX5_prepare 21 = .ok (.putfield 68, 3) := by decide +kernel
theorem dX5_prepare_24 : decode cX5_prepare 24 = .ok (.aload_n 0, 1) := by decide +kernel
theorem dX5_prepare_25 : decode cX5_prepare 25 = .ok (.iconst 0, 1) := by decide +kernel
theorem dX5_prepare_26 : decode cX5_prepare 26 = .ok (.putfield 71, 3) := by decide +kernel
theorem dX5_prepare_29 : decode cX5_prepare 29 = .ok (.aload_n 0, 1) := by decide +kernel
theorem dX5_prepare_30 : decode cX5_prepare 30 = .ok (.iconst 0, 1) := by decide +kernel
theorem dX5_prepare_31 : decode cX5_prepare 31 = .ok (.putfield 44, 3) := by decide +kernel
theorem dX5_prepare_34 : decode cX5_prepare 34 = .ok (.aload_n 0, 1) := by decide +kernel
theorem dX5_prepare_35 : decode cX5_prepare 35 = .ok (.iconst 0, 1) := by decide +kernel
theorem dX5_prepare_36 : decode cX5_prepare 36 = .ok (.putfield 74, 3) := by decide +kernel
theorem dX5_prepare_39 : decode cX5_prepare 39 = .ok (.aload_n 0, 1) := by decide +kernel
theorem dX5_prepare_40 : decode cX5_prepare 40 = .ok (.iconst 0, 1) := by decide +kernel
theorem dX5_prepare_41 : decode cX5_prepare 41 = .ok (.putfield 77, 3) := by decide +kernel
theorem dX5_prepare_44 : decode cX5_prepare 44 = .ok (.aload_n 0, 1) := by decide +kernel
theorem dX5_prepare_45 : decode cX5_prepare 45 = .ok (.iconst 0, 1) := by decide +kernel
theorem dX5_prepare_46 : decode cX5_prepare 46 = .ok (.putfield 80, 3) := by decide +kernel
theorem dX5_prepare_49 : decode cX5_prepare 49 = .ok (.aload_n 0, 1) := by decide +kernel
theorem dX5_prepare_50 : decode cX5_prepare 50 = .ok (.iconst (-1), 1) := by decide +kernel
theorem dX5_prepare_51 : decode cX5_prepare 51 = .ok (.putfield 57, 3) := by decide +kernel
theorem dX5_prepare_54 : decode cX5_prepare 54 = .ok (.return_, 1) := by decide +kernel
theorem dX5_take_0 : decode cX5_take 0 = .ok (.aload_n 0, 1) := by decide +kernel
theorem dX5_take_1 : decode cX5_take 1 = .ok (.getfield 44, 3) := by decide +kernel
theorem dX5_take_4 : decode cX5_take 4 = .ok (.tableswitch 58 0 3 #[32, 38, 45, 51], 32) := by decide +kernel
theorem dX5_take_36 : decode cX5_take 36 = .ok (.aload_n 0, 1) := by decide +kernel
theorem dX5_take_37 : decode cX5_take 37 = .ok (.iload_n 1, 1) := by decide +kernel
theorem dX5_take_38 : decode cX5_take 38 = .ok (.invokevirtual 84, 3) := by decide +kernel
theorem dX5_take_41 : decode cX5_take 41 = .ok (.ireturn, 1) := by decide +kernel
theorem dX5_take_42 : decode cX5_take 42 = .ok (.aload_n 0, 1) := by decide +kernel
theorem dX5_take_43 : decode cX5_take 43 = .ok (.iload_n 1, 1) := by decide +kernel
theorem dX5_take_44 : decode cX5_take 44 = .ok (.iload_n 2, 1) := by decide +kernel
theorem dX5_take_45 : decode cX5_take 45 = .ok (.invokevirtual 88, 3) := by decide +kernel
theorem dX5_take_48 : decode cX5_take 48 = .ok (.ireturn, 1) := by decide +kernel
theorem dX5_take_49 : decode cX5_take 49 = .ok (.aload_n 0, 1) := by decide +kernel
theorem dX5_take_50 : decode cX5_take 50 = .ok (.iload_n 1, 1) := by decide +kernel
theorem dX5_take_51 : decode cX5_take 51 = .ok (.invokevirtual 91, 3) := by decide +kernel
theorem dX5_take_54 : decode cX5_take 54 = .ok (.ireturn, 1) := by decide +kernel
theorem dX5_take_55 : decode cX5_take 55 = .ok (.aload_n 0, 1) := by decide +kernel
theorem dX5_take_56 : decode cX5_take 56 = .ok (.iload_n 1, 1) := by decide +kernel
theorem dX5_take_57 : decode cX5_take 57 = .ok (.iload_n 2, 1) := by decide +kernel
theorem dX5_take_58 : decode cX5_take 58 = .ok (.invokevirtual 94, 3) := by decide +kernel
theorem dX5_take_61 : decode cX5_take 61 = .ok (.ireturn, 1) := by decide +kernel
theorem dX5_take_62 : decode cX5_take 62 = .ok (.aload_n 0, 1) := by decide +kernel
theorem dX5_take_63 : decode cX5_take 63 = .ok (.iload_n 1, 1) := by decide +kernel
theorem dX5_take_64 : decode cX5_take 64 = .ok (.invokevirtual 97, 3) := by decide +kernel
theorem dX5_take_67 : decode cX5_take 67 = .ok (.ireturn, 1) := by decide +kernel
theorem dX5_takeRuleStart_0 : decode cX5_takeRuleStart 0 = .ok (.iload_n 1, 1) := by decide +kernel
theorem dX5_takeRuleStart_1 : decode cX5_takeRuleStart 1 = .ok (.tableswitch 55 4 7 #[31, 39, 47, 39], 31) := by decide +kernel
theorem dX5_takeRuleStart_32 : decode cX5_takeRuleStart 32 = .ok (.aload_n 0, 1) := by decide +kernel
theorem dX5_takeRuleStart_33 : decode cX5_takeRuleStart 33 = .ok (.iconst 3, 1) := by decide +kernel
theorem dX5_takeRuleStart_34 : decode cX5_takeRuleStart 34 = .ok (.putfield 44, 3) := by decide +kernel
theorem dX5_takeRuleStart_37 : decode cX5_takeRuleStart 37 = .ok (.goto 21, 3) := by decide +kernel
theorem dX5_takeRuleStart_40 : decode cX5_takeRuleStart 40 = .ok (.aload_n 0, 1) := by decide +kernel
theorem dX5_takeRuleStart_41 : decode cX5_takeRuleStart 41 = .ok (.iconst 1, 1) := by decide +kernel
theorem dX5_takeRuleStart_42 : decode cX5_takeRuleStart 42 = .ok (.putfield 44, 3) := by decide +kernel
theorem dX5_takeRuleStart_45 : decode cX5_takeRuleStart 45 = .ok (.goto 13, 3) := by decide +kernel
theorem dX5_takeRuleStart_48 : decode cX5_takeRuleStart 48 = .ok (.aload_n 0, 1) := by decide +kernel
theorem dX5_takeRuleStart_49 : decode cX5_takeRuleStart 49 = .ok (.iconst 2, 1) := by decide +kernel
theorem dX5_takeRuleStart_50 : decode cX5_takeRuleStart 50 = .ok (.putfield 44, 3) := by decide +kernel
theorem dX5_takeRuleStart_53 : decode cX5_takeRuleStart 53 = .ok (.goto 5, 3) := by decide +kernel
theorem dX5_takeRuleStart_56 : decode cX5_takeRuleStart 56 = .ok (.iconst 1, 1) := by decide +kernel
theorem dX5_takeRuleStart_57 : decode cX5_takeRuleStart 57 = .ok (.ireturn, 1) := by decide +kernel
theorem dX5_takeRuleStart_58 : decode cX5_takeRuleStart 58 = .ok (.aload_n 0, 1) := by decide +kernel
theorem dX5_takeRuleStart_59 : decode cX5_takeRuleStart 59 = .ok (.iconst 0, 1) := by decide +kernel
theorem dX5_takeRuleStart_60 : decode cX5_takeRuleStart 60 = .ok (.putfield 74, 3) := by decide +kernel
theorem dX5_takeRuleStart_63 : decode cX5_takeRuleStart 63 = .ok (.aload_n 0, 1) := by decide +kernel
theorem dX5_takeRuleStart_64 : decode cX5_takeRuleStart 64 = .ok (.getfield 22, 3) := by decide +kernel
theorem dX5_takeRuleStart_67 : decode cX5_takeRuleStart 67 = .ok (.iload_n 1, 1) := by decide +kernel
theorem dX5_takeRuleStart_68 : decode cX5_takeRuleStart 68 = .ok (.invokevirtual 100, 3) := by decide +kernel
theorem dX5_takeRuleStart_71 : decode cX5_takeRuleStart 71 = .ok (.ifCond .eq 7, 3) := by decide +kernel
theorem dX5_takeRuleStart_74 : decode cX5_takeRuleStart 74 = .ok (.iconst 0, 1) := by decide +kernel
theorem dX5_takeRuleStart_75 : decode cX5_takeRuleStart 75 = .ok (.goto 4, 3) := by decide +kernel
theorem dX5_takeRuleStart_78 : decode cX5_takeRuleStart 78 = .ok (.iconst 2, 1) := by decide +kernel
theorem dX5_takeRuleStart_79 : decode cX5_takeRuleStart 79 = .ok (.ireturn, 1) := by decide +kernel
theorem dX5_takeNumber_0 : decode cX5_takeNumber 0 = .ok (.iload_n 1, 1) := by decide +kernel
theorem dX5_takeNumber_1 : decode cX5_takeNumber 1 = .ok (.iconst 2, 1) := by decide +kernel
theorem dX5_takeNumber_2 : decode cX5_takeNumber 2 = .ok (.if_icmp .eq 5, 3) := by decide +kernel
theorem dX5_takeNumber_5 : decode cX5_takeNumber 5 = .ok (.iconst 1, 1) := by decide +kernel
theorem dX5_takeNumber_6 : decode cX5_takeNumber 6 = .ok (.ireturn, 1) := by decide +kernel
theorem dX5_takeNumber_7 : decode cX5_takeNumber 7 = .ok (.aload_n 0, 1) := by decide +kernel
theorem dX5_takeNumber_8 : decode cX5_takeNumber 8 = .ok (.getfield 22, 3) := by decide +kernel
theorem dX5_takeNumber_11 : decode cX5_takeNumber 11 = .ok (.invokevirtual 104, 3) := by decide +kernel
theorem dX5_takeNumber_14 : decode cX5_takeNumber 14 = .ok (.bipush 7, 2) := by decide +kernel
theorem dX5_takeNumber_16 : decode cX5_takeNumber 16 = .ok (.if_icmp .ne 7, 3) := by decide +kernel
theorem dX5_takeNumber_19 : decode cX5_takeNumber 19 = .ok (.iconst 1, 1) := by decide +kernel
theorem dX5_takeNumber_20 : decode cX5_takeNumber 20 = .ok (.goto 4, 3) := by decide +kernel
theorem dX5_takeNumber_23 : decode cX5_takeNumber 23 = .ok (.iconst 0, 1) := by decide +kernel
theorem dX5_takeNumber_24 : decode cX5_takeNumber 24 = .ok (.istore_n 3, 1) := by decide +kernel
theorem dX5_takeNumber_25 : decode cX5_takeNumber 25 = .ok (.iload_n 3, 1) := by decide +kernel
theorem dX5_takeNumber_26 : decode cX5_takeNumber 26 = .ok (.ifCond .eq 13, 3) := by decide +kernel
theorem dX5_takeNumber_29 : decode cX5_takeNumber 29 = .ok (.iload_n 2, 1) := by decide +kernel
theorem dX5_takeNumber_30 : decode cX5_takeNumber 30 = .ok (.iconst 1, 1) := by decide +kernel
theorem dX5_takeNumber_31 : decode cX5_takeNumber 31 = .ok (.bipush 60, 2) := by decide +kernel
theorem dX5_takeNumber_33 : decode cX5_takeNumber 33 = .ok (.invokestatic 107, 3) := by decide +kernel
theorem dX5_takeNumber_36 : decode cX5_takeNumber 36 = .ok (.goto 14, 3) := by decide +kernel
theorem dX5_takeNumber_39 : decode cX5_takeNumber 39 = .ok (.iload_n 2, 1) := by decide +kernel
theorem dX5_takeNumber_40 : decode cX5_takeNumber 40 = .ok (.bipush 7, 2) := by decide +kernel
theorem dX5_takeNumber_42 : decode cX5_takeNumber 42 = .ok (.if_icmp .gt 7, 3) := by decide +kernel
theorem dX5_takeNumber_45 : decode cX5_takeNumber 45 = .ok (.iconst 1, 1) := by decide +kernel
theorem dX5_takeNumber_46 : decode cX5_takeNumber 46 = .ok (.goto 4, 3) := by decide +kernel
theorem dX5_takeNumber_49 : decode cX5_takeNumber 49 = .ok (.iconst 0, 1) := by decide +kernel
theorem dX5_takeNumber_50 : decode cX5_takeNumber 50 = .ok (.istore 4, 2) := by decide +kernel
theorem dX5_takeNumber_52 : decode cX5_takeNumber 52 = .ok (.iload 4, 2) := by decide +kernel
theorem dX5_takeNumber_54 : decode cX5_takeNumber 54 = .ok (.ifCond .ne 22, 3) := by decide +kernel
theorem dX5_takeNumber_57 : decode cX5_takeNumber 57 = .ok (.aload_n 0, 1) := by decide +kernel
theorem dX5_takeNumber_58 : decode cX5_takeNumber 58 = .ok (.getfield 57, 3) := by decide +kernel
theorem dX5_takeNumber_61 : decode cX5_takeNumber 61 = .ok (.iconst (-1), 1) := by decide +kernel
theorem dX5_takeNumber_62 : decode cX5_takeNumber 62 = .ok (.if_icmp .ne 14, 3) := by decide +kernel
theorem dX5_takeNumber_65 : decode cX5_takeNumber 65 = .ok (.aload_n 0, 1) := by decide +kernel
theorem dX5_takeNumber_66 : decode cX5_takeNumber 66 = .ok (.aload_n 0, 1) := by decide +kernel
theorem dX5_takeNumber_67 : decode cX5_takeNumber 67 = .ok (.getfield 12, 3) := by decide +kernel
theorem dX5_takeNumber_70 : decode cX5_takeNumber 70 = .ok (.invokevirtual 54, 3) := by decide +kernel
theorem dX5_takeNumber_73 : decode cX5_takeNumber 73 = .ok (.putfield 57, 3) := by decide +kernel
theorem dX5_takeNumber_76 : decode cX5_takeNumber 76 = .ok (.aload_n 0, 1) := by decide +kernel
theorem dX5_takeNumber_77 : decode cX5_takeNumber 77 = .ok (.getfield 22, 3) := by decide +kernel
theorem dX5_takeNumber_80 : decode cX5_takeNumber 80 = .ok (.iload_n 2, 1) := by decide +kernel
theorem dX5_takeNumber_81 : decode cX5_takeNumber 81 = .ok (.invokevirtual 111, 3) := by decide +kernel
theorem dX5_takeNumber_84 : decode cX5_takeNumber 84 = .ok (.aload_n 0, 1) := by decide +kernel
theorem dX5_takeNumber_85 : decode cX5_takeNumber 85 = .ok (.iconst 2, 1) := by decide +kernel
theorem dX5_takeNumber_86 : decode cX5_takeNumber 86 = .ok (.putfield 44, 3) := by decide +kernel
theorem dX5_takeNumber_89 : decode cX5_takeNumber 89 = .ok (.iconst 0, 1) := by decide +kernel
theorem dX5_takeNumber_90 : decode cX5_takeNumber 90 = .ok (.ireturn, 1) := by decide +kernel
theorem dX5_takeIf_0 : decode cX5_takeIf 0 = .ok (.iload_n 1, 1) := by decide +kernel
theorem dX5_takeIf_1 : decode cX5_takeIf 1 = .ok (.bipush 8, 2) := by decide +kernel
theorem dX5_takeIf_3 : decode cX5_takeIf 3 = .ok (.if_icmp .eq 5, 3) := by decide +kernel
theorem dX5_takeIf_6 : decode cX5_takeIf 6 = .ok (.iconst 1, 1) := by decide +kernel
theorem dX5_takeIf_7 : decode cX5_takeIf 7 = .ok (.ireturn, 1) := by decide +kernel
theorem dX5_takeIf_8 : decode cX5_takeIf 8 = .ok (.aload_n 0, 1) := by decide +kernel
theorem dX5_takeIf_9 : decode cX5_takeIf 9 = .ok (.invokevirtual 115, 3) := by decide +kernel
theorem dX5_takeIf_12 : decode cX5_takeIf 12 = .ok (.iconst 0, 1) := by decide +kernel
theorem dX5_takeIf_13 : decode cX5_takeIf 13 = .ok (.ireturn, 1) := by decide +kernel
theorem dX5_takeOperand_0 : decode cX5_takeOperand 0 = .ok (.iload_n 1, 1) := by decide +kernel
theorem dX5_takeOperand_1 : decode cX5_takeOperand 1 = .ok (.iconst 2, 1) := by decide +kernel
theorem dX5_takeOperand_2 : decode cX5_takeOperand 2 = .ok (.if_icmp .eq 8, 3) := by decide +kernel
theorem dX5_takeOperand_5 : decode cX5_takeOperand 5 = .ok (.iload_n 1, 1) := by decide +kernel
theorem dX5_takeOperand_6 : decode cX5_takeOperand 6 = .ok (.iconst 3, 1) := by decide +kernel
theorem dX5_takeOperand_7 : decode cX5_takeOperand 7 = .ok (.if_icmp .ne 19, 3) := by decide +kernel
theorem dX5_takeOperand_10 : decode cX5_takeOperand 10 = .ok (.aload_n 0, 1) := by decide +kernel
theorem dX5_takeOperand_11 : decode cX5_takeOperand 11 = .ok (.getfield 22, 3) := by decide +kernel
theorem dX5_takeOperand_14 : decode cX5_takeOperand 14 = .ok (.iload_n 1, 1) := by decide +kernel
theorem dX5_takeOperand_15 : decode cX5_takeOperand 15 = .ok (.iload_n 2, 1) := by decide +kernel
theorem dX5_takeOperand_16 : decode cX5_takeOperand 16 = .ok (.invokevirtual 118, 3) := by decide +kernel
theorem dX5_takeOperand_19 : decode cX5_takeOperand 19 = .ok (.aload_n 0, 1) := by decide +kernel
theorem dX5_takeOperand_20 : decode cX5_takeOperand 20 = .ok (.iconst 4, 1) := by decide +kernel
theorem dX5_takeOperand_21 : decode cX5_takeOperand 21 = .ok (.putfield 44, 3) := by decide +kernel
theorem dX5_takeOperand_24 : decode cX5_takeOperand 24 = .ok (.iconst 0, 1) := by decide +kernel
theorem dX5_takeOperand_25 : decode cX5_takeOperand 25 = .ok (.ireturn, 1) := by decide +kernel
theorem dX5_takeOperand_26 : decode cX5_takeOperand 26 = .ok (.iload_n 1, 1) := by decide +kernel
theorem dX5_takeOperand_27 : decode cX5_takeOperand 27 = .ok (.bipush 11, 2) := by decide +kernel
theorem dX5_takeOperand_29 : decode cX5_takeOperand 29 = .ok (.if_icmp .eq 5, 3) := by decide +kernel
theorem dX5_takeOperand_32 : decode cX5_takeOperand 32 = .ok (.iconst 1, 1) := by decide +kernel
theorem dX5_takeOperand_33 : decode cX5_takeOperand 33 = .ok (.ireturn, 1) := by decide +kernel
theorem dX5_takeOperand_34 : decode cX5_takeOperand 34 = .ok (.aload_n 0, 1) := by decide +kernel
theorem dX5_takeOperand_35 : decode cX5_takeOperand 35 = .ok (.getfield 71, 3) := by decide +kernel
theorem dX5_takeOperand_38 : decode cX5_takeOperand 38 = .ok (.bipush 6, 2) := by decide +kernel
theorem dX5_takeOperand_40 : decode cX5_takeOperand 40 = .ok (.if_icmp .ne 5, 3) := by decide +kernel
theorem dX5_takeOperand_43 : decode cX5_takeOperand 43 = .ok (.iconst 2, 1) := by decide +kernel
theorem dX5_takeOperand_44 : decode cX5_takeOperand 44 = .ok (.ireturn, 1) := by decide +kernel
theorem dX5_takeOperand_45 : decode cX5_takeOperand 45 = .ok (.aload_n 0, 1) := by decide +kernel
theorem dX5_takeOperand_46 : decode cX5_takeOperand 46 = .ok (.dup, 1) := by decide +kernel
theorem dX5_takeOperand_47 : decode cX5_takeOperand 47 = .ok (.getfield 71, 3) := by decide +kernel
theorem dX5_takeOperand_50 : decode cX5_takeOperand 50 = .ok (.iconst 1, 1) := by decide +kernel
theorem dX5_takeOperand_51 : decode cX5_takeOperand 51 = .ok (.iadd, 1) := by decide +kernel
theorem dX5_takeOperand_52 : decode cX5_takeOperand 52 = .ok (.putfield 71, 3) := by decide +kernel
theorem dX5_takeOperand_55 : decode cX5_takeOperand 55 = .ok (.aload_n 0, 1) := by decide +kernel
theorem dX5_takeOperand_56 : decode cX5_takeOperand 56 = .ok (.iload_n 1, 1) := by decide +kernel
theorem dX5_takeOperand_57 : decode cX5_takeOperand 57 = .ok (.invokevirtual 122, 3) := by decide +kernel
theorem dX5_takeOperand_60 : decode cX5_takeOperand 60 = .ok (.iconst 0, 1) := by decide +kernel
theorem dX5_takeOperand_61 : decode cX5_takeOperand 61 = .ok (.ireturn, 1) := by decide +kernel
theorem dX5_takeBehindOperand_0 : decode cX5_takeBehindOperand 0 = .ok (.iload_n 1, 1) := by decide +kernel
theorem dX5_takeBehindOperand_1 : decode cX5_takeBehindOperand 1 = .ok (.invokestatic 125, 3) := by decide +kernel
theorem dX5_takeBehindOperand_4 : decode cX5_takeBehindOperand 4 = .ok (.ifCond .eq 23, 3) := by decide +kernel
theorem dX5_takeBehindOperand_7 : decode cX5_takeBehindOperand 7 = .ok (.aload_n 0, 1) := by decide +kernel
theorem dX5_takeBehindOperand_8 : decode cX5_takeBehindOperand 8 = .ok (.iload_n 1, 1) := by decide +kernel
theorem dX5_takeBehindOperand_9 : decode cX5_takeBehindOperand 9 = .ok (.invokestatic 128, 3) := by decide +kernel
theorem dX5_takeBehindOperand_12 : decode cX5_takeBehindOperand 12 = .ok (.invokevirtual 131, 3) := by decide +kernel
theorem dX5_takeBehindOperand_15 : decode cX5_takeBehindOperand 15 = .ok (.aload_n 0, 1) := by decide +kernel
theorem dX5_takeBehindOperand_16 : decode cX5_takeBehindOperand 16 = .ok (.iload_n 1, 1) := by decide +kernel
theorem dX5_takeBehindOperand_17 : decode cX5_takeBehindOperand 17 = .ok (.invokevirtual 122, 3) := by decide +kernel
theorem dX5_takeBehindOperand_20 : decode cX5_takeBehindOperand 20 = .ok (.aload_n 0, 1) := by decide +kernel
theorem dX5_takeBehindOperand_21 : decode cX5_takeBehindOperand 21 = .ok (.iconst 3, 1) := by decide +kernel
theorem dX5_takeBehindOperand_22 : decode cX5_takeBehindOperand 22 = .ok (.putfield 44, 3) := by decide +kernel
theorem dX5_takeBehindOperand_25 : decode cX5_takeBehindOperand 25 = .ok (.iconst 0, 1) := by decide +kernel
theorem dX5_takeBehindOperand_26 : decode cX5_takeBehindOperand 26 = .ok (.ireturn, 1) := by decide +kernel
theorem dX5_takeBehindOperand_27 : decode cX5_takeBehindOperand 27 = .ok (.aload_n 0, 1) := by decide +kernel
theorem dX5_takeBehindOperand_28 : decode cX5_takeBehindOperand 28 = .ok (.getfield 71, 3) := by decide +kernel
theorem dX5_takeBehindOperand_31 : decode cX5_takeBehindOperand 31 = .ok (.ifCond .le 9, 3) := by decide +kernel
theorem dX5_takeBehindOperand_34 : decode cX5_takeBehindOperand 34 = .ok (.aload_n 0, 1) := by decide +kernel
theorem dX5_takeBehindOperand_35 : decode cX5_takeBehindOperand 35 = .ok (.iload_n 1, 1) := by decide +kernel
theorem dX5_takeBehindOperand_36 : decode cX5_takeBehindOperand 36 = .ok (.invokevirtual 134, 3) := by decide +kernel
theorem dX5_takeBehindOperand_39 : decode cX5_takeBehindOperand 39 = .ok (.ireturn, 1) := by decide +kernel
theorem dX5_takeBehindOperand_40 : decode cX5_takeBehindOperand 40 = .ok (.aload_n 0, 1) := by decide +kernel
theorem dX5_takeBehindOperand_41 : decode cX5_takeBehindOperand 41 = .ok (.getfield 74, 3) := by decide +kernel
theorem dX5_takeBehindOperand_44 : decode cX5_takeBehindOperand 44 = .ok (.lookupswitch 40 #[(0, 28), (1, 34)], 28) := by decide +kernel
theorem dX5_takeBehindOperand_72 : decode cX5_takeBehindOperand 72 = .ok (.aload_n 0, 1) := by decide +kernel
theorem dX5_takeBehindOperand_73 : decode cX5_takeBehindOperand 73 = .ok (.iload_n 1, 1) := by decide +kernel
theorem dX5_takeBehindOperand_74 : decode cX5_takeBehindOperand 74 = .ok (.invokevirtual 137, 3) := by decide +kernel
theorem dX5_takeBehindOperand_77 : decode cX5_takeBehindOperand 77 = .ok (.ireturn, 1) := by decide +kernel
theorem dX5_takeBehindOperand_78 : decode cX5_takeBehindOperand 78 = .ok (.aload_n 0, 1) := by decide +kernel
theorem dX5_takeBehindOperand_79 : decode cX5_takeBehindOperand 79 = .ok (.iload_n 1, 1) := by decide +kernel
theorem dX5_takeBehindOperand_80 : decode cX5_takeBehindOperand 80 = .ok (.invokevirtual 140, 3) := by decide +kernel
theorem dX5_takeBehindOperand_83 : decode cX5_takeBehindOperand 83 = .ok (.ireturn, 1) := by decide +kernel
theorem dX5_takeBehindOperand_84 : decode cX5_takeBehindOperand 84 = .ok (.aload_n 0, 1) := by decide +kernel
theorem dX5_takeBehindOperand_85 : decode cX5_takeBehindOperand 85 = .ok (.iload_n 1, 1) := by decide +kernel
theorem dX5_takeBehindOperand_86 : decode cX5_takeBehindOperand 86 = .ok (.invokevirtual 143, 3) := by decide +kernel
theorem dX5_takeBehindOperand_89 : decode cX5_takeBehindOperand 89 = .ok (.ireturn, 1) := by decide +kernel
theorem dX5_takeClose_0 : decode cX5_takeClose 0 = .ok (.iload_n 1, 1) := by decide +kernel
theorem dX5_takeClose_1 : decode cX5_takeClose 1 = .ok (.bipush 12, 2) := by decide +kernel
theorem dX5_takeClose_3 : decode cX5_takeClose 3 = .ok (.if_icmp .eq 5, 3) := by decide +kernel
theorem dX5_takeClose_6 : decode cX5_takeClose 6 = .ok (.iconst 1, 1) := by decide +kernel
theorem dX5_takeClose_7 : decode cX5_takeClose 7 = .ok (.ireturn, 1) := by decide +kernel
theorem dX5_takeClose_8 : decode cX5_takeClose 8 = .ok (.aload_n 0, 1) := by decide +kernel
theorem dX5_takeClose_9 : decode cX5_takeClose 9 = .ok (.iconst 1, 1) := by decide +kernel
theorem dX5_takeClose_10 : decode cX5_takeClose 10 = .ok (.invokevirtual 131, 3) := by decide +kernel
theorem dX5_takeClose_13 : decode cX5_takeClose 13 = .ok (.aload_n 0, 1) := by decide +kernel
theorem dX5_takeClose_14 : decode cX5_takeClose 14 = .ok (.getfield 68, 3) := by decide +kernel
theorem dX5_takeClose_17 : decode cX5_takeClose 17 = .ok (.ifCond .le 13, 3) := by decide +kernel
theorem dX5_takeClose_20 : decode cX5_takeClose 20 = .ok (.aload_n 0, 1) := by decide +kernel
theorem dX5_takeClose_21 : decode cX5_takeClose 21 = .ok (.dup, 1) := by decide +kernel
theorem dX5_takeClose_22 : decode cX5_takeClose 22 = .ok (.getfield 68, 3) := by decide +kernel
theorem dX5_takeClose_25 : decode cX5_takeClose 25 = .ok (.iconst 1, 1) := by decide +kernel
theorem dX5_takeClose_26 : decode cX5_takeClose 26 = .ok (.isub, 1) := by decide +kernel
theorem dX5_takeClose_27 : decode cX5_takeClose 27 = .ok (.putfield 68, 3) := by decide +kernel
theorem dX5_takeClose_30 : decode cX5_takeClose 30 = .ok (.aload_n 0, 1) := by decide +kernel
theorem dX5_takeClose_31 : decode cX5_takeClose 31 = .ok (.dup, 1) := by decide +kernel
theorem dX5_takeClose_32 : decode cX5_takeClose 32 = .ok (.getfield 71, 3) := by decide +kernel
theorem dX5_takeClose_35 : decode cX5_takeClose 35 = .ok (.iconst 1, 1) := by decide +kernel
theorem dX5_takeClose_36 : decode cX5_takeClose 36 = .ok (.isub, 1) := by decide +kernel
theorem dX5_takeClose_37 : decode cX5_takeClose 37 = .ok (.putfield 71, 3) := by decide +kernel
theorem dX5_takeClose_40 : decode cX5_takeClose 40 = .ok (.iconst 0, 1) := by decide +kernel
theorem dX5_takeClose_41 : decode cX5_takeClose 41 = .ok (.ireturn, 1) := by decide +kernel
theorem dX5_takeBehindFirst_0 : decode cX5_takeBehindFirst 0 = .ok (.iload_n 1, 1) := by decide +kernel
theorem dX5_takeBehindFirst_1 : decode cX5_takeBehindFirst 1 = .ok (.bipush 8, 2) := by decide +kernel
theorem dX5_takeBehindFirst_3 : decode cX5_takeBehindFirst 3 = .ok (.if_icmp .eq 11, 3) := by decide +kernel
theorem dX5_takeBehindFirst_6 : decode cX5_takeBehindFirst 6 = .ok (.iload_n 1, 1) := by decide +kernel
theorem dX5_takeBehindFirst_7 : decode cX5_takeBehindFirst 7 = .ok (.bipush 10, 2) := by decide +kernel
theorem dX5_takeBehindFirst_9 : decode cX5_takeBehindFirst 9 = .ok (.if_icmp .eq 5, 3) := by decide +kernel
theorem dX5_takeBehindFirst_12 : decode cX5_takeBehindFirst 12 = .ok (.iconst 1, 1) := by decide +kernel
theorem dX5_takeBehindFirst_13 : decode cX5_takeBehindFirst 13 = .ok (.ireturn, 1) := by decide +kernel
theorem dX5_takeBehindFirst_14 : decode cX5_takeBehindFirst 14 = .ok (.aload_n 0, 1) := by decide +kernel
theorem dX5_takeBehindFirst_15 : decode cX5_takeBehindFirst 15 = .ok (.iconst 1, 1) := by decide +kernel
theorem dX5_takeBehindFirst_16 : decode cX5_takeBehindFirst 16 = .ok (.invokevirtual 131, 3) := by decide +kernel
theorem dX5_takeBehindFirst_19 : decode cX5_takeBehindFirst 19 = .ok (.iload_n 1, 1) := by decide +kernel
theorem dX5_takeBehindFirst_20 : decode cX5_takeBehindFirst 20 = .ok (.bipush 8, 2) := by decide +kernel
theorem dX5_takeBehindFirst_22 : decode cX5_takeBehindFirst 22 = .ok (.if_icmp .ne 10, 3) := by decide +kernel
theorem dX5_takeBehindFirst_25 : decode cX5_takeBehindFirst 25 = .ok (.aload_n 0, 1) := by decide +kernel
theorem dX5_takeBehindFirst_26 : decode cX5_takeBehindFirst 26 = .ok (.invokevirtual 115, 3) := by decide +kernel
theorem dX5_takeBehindFirst_29 : decode cX5_takeBehindFirst 29 = .ok (.goto 14, 3) := by decide +kernel
theorem dX5_takeBehindFirst_32 : decode cX5_takeBehindFirst 32 = .ok (.aload_n 0, 1) := by decide +kernel
theorem dX5_takeBehindFirst_33 : decode cX5_takeBehindFirst 33 = .ok (.getfield 22, 3) := by decide +kernel
theorem dX5_takeBehindFirst_36 : decode cX5_takeBehindFirst 36 = .ok (.invokevirtual 146, 3) := by decide +kernel
theorem dX5_takeBehindFirst_39 : decode cX5_takeBehindFirst 39 = .ok (.aload_n 0, 1) := by decide +kernel
theorem dX5_takeBehindFirst_40 : decode cX5_takeBehindFirst 40 = .ok (.invokevirtual 147, 3) := by decide +kernel
theorem dX5_takeBehindFirst_43 : decode cX5_takeBehindFirst 43 = .ok (.iconst 0, 1) := by decide +kernel
theorem dX5_takeBehindFirst_44 : decode cX5_takeBehindFirst 44 = .ok (.ireturn, 1) := by decide +kernel
theorem dX5_takeRelation_0 : decode cX5_takeRelation 0 = .ok (.iload_n 1, 1) := by decide +kernel
theorem dX5_takeRelation_1 : decode cX5_takeRelation 1 = .ok (.invokestatic 150, 3) := by decide +kernel
theorem dX5_takeRelation_4 : decode cX5_takeRelation 4 = .ok (.ifCond .ne 5, 3) := by decide +kernel
theorem dX5_takeRelation_7 : decode cX5_takeRelation 7 = .ok (.iconst 1, 1) := by decide +kernel
theorem dX5_takeRelation_8 : decode cX5_takeRelation 8 = .ok (.ireturn, 1) := by decide +kernel
theorem dX5_takeRelation_9 : decode cX5_takeRelation 9 = .ok (.aload_n 0, 1) := by decide +kernel
theorem dX5_takeRelation_10 : decode cX5_takeRelation 10 = .ok (.iconst 1, 1) := by decide +kernel
theorem dX5_takeRelation_11 : decode cX5_takeRelation 11 = .ok (.invokevirtual 131, 3) := by decide +kernel
theorem dX5_takeRelation_14 : decode cX5_takeRelation 14 = .ok (.aload_n 0, 1) := by decide +kernel
theorem dX5_takeRelation_15 : decode cX5_takeRelation 15 = .ok (.iload_n 1, 1) := by decide +kernel
theorem dX5_takeRelation_16 : decode cX5_takeRelation 16 = .ok (.putfield 77, 3) := by decide +kernel
theorem dX5_takeRelation_19 : decode cX5_takeRelation 19 = .ok (.aload_n 0, 1) := by decide +kernel
theorem dX5_takeRelation_20 : decode cX5_takeRelation 20 = .ok (.iconst 2, 1) := by decide +kernel
theorem dX5_takeRelation_21 : decode cX5_takeRelation 21 = .ok (.putfield 74, 3) := by decide +kernel
theorem dX5_takeRelation_24 : decode cX5_takeRelation 24 = .ok (.aload_n 0, 1) := by decide +kernel
theorem dX5_takeRelation_25 : decode cX5_takeRelation 25 = .ok (.iconst 3, 1) := by decide +kernel
theorem dX5_takeRelation_26 : decode cX5_takeRelation 26 = .ok (.putfield 44, 3) := by decide +kernel
theorem dX5_takeRelation_29 : decode cX5_takeRelation 29 = .ok (.iconst 0, 1) := by decide +kernel
theorem dX5_takeRelation_30 : decode cX5_takeRelation 30 = .ok (.ireturn, 1) := by decide +kernel
theorem dX5_takeBehindRelation_0 : decode cX5_takeBehindRelation 0 = .ok (.iload_n 1, 1) := by decide +kernel
theorem dX5_takeBehindRelation_1 : decode cX5_takeBehindRelation 1 = .ok (.bipush 9, 2) := by decide +kernel
theorem dX5_takeBehindRelation_3 : decode cX5_takeBehindRelation 3 = .ok (.if_icmp .eq 11, 3) := by decide +kernel
theorem dX5_takeBehindRelation_6 : decode cX5_takeBehindRelation 6 = .ok (.iload_n 1, 1) := by decide +kernel
theorem dX5_takeBehindRelation_7 : decode cX5_takeBehindRelation 7 = .ok (.bipush 10, 2) := by decide +kernel
theorem dX5_takeBehindRelation_9 : decode cX5_takeBehindRelation 9 = .ok (.if_icmp .eq 5, 3) := by decide +kernel
theorem dX5_takeBehindRelation_12 : decode cX5_takeBehindRelation 12 = .ok (.iconst 1, 1) := by decide +kernel
theorem dX5_takeBehindRelation_13 : decode cX5_takeBehindRelation 13 = .ok (.ireturn, 1) := by decide +kernel
theorem dX5_takeBehindRelation_14 : decode cX5_takeBehindRelation 14 = .ok (.aload_n 0, 1) := by decide +kernel
theorem dX5_takeBehindRelation_15 : decode cX5_takeBehindRelation 15 = .ok (.iconst 1, 1) := by decide +kernel
theorem dX5_takeBehindRelation_16 : decode cX5_takeBehindRelation 16 = .ok (.invokevirtual 131, 3) := by decide +kernel
theorem dX5_takeBehindRelation_19 : decode cX5_takeBehindRelation 19 = .ok (.aload_n 0, 1) := by decide +kernel
theorem dX5_takeBehindRelation_20 : decode cX5_takeBehindRelation 20 = .ok (.getfield 22, 3) := by decide +kernel
theorem dX5_takeBehindRelation_23 : decode cX5_takeBehindRelation 23 = .ok (.aload_n 0, 1) := by decide +kernel
theorem dX5_takeBehindRelation_24 : decode cX5_takeBehindRelation 24 = .ok (.getfield 77, 3) := by decide +kernel
theorem dX5_takeBehindRelation_27 : decode cX5_takeBehindRelation 27 = .ok (.iconst 0, 1) := by decide +kernel
theorem dX5_takeBehindRelation_28 : decode cX5_takeBehindRelation 28 = .ok (.invokevirtual 118, 3) := by decide +kernel
theorem dX5_takeBehindRelation_31 : decode cX5_takeBehindRelation 31 = .ok (.aload_n 0, 1) := by decide +kernel
theorem dX5_takeBehindRelation_32 : decode cX5_takeBehindRelation 32 = .ok (.getfield 80, 3) := by decide +kernel
theorem dX5_takeBehindRelation_35 : decode cX5_takeBehindRelation 35 = .ok (.ifCond .eq 13, 3) := by decide +kernel
theorem dX5_takeBehindRelation_38 : decode cX5_takeBehindRelation 38 = .ok (.aload_n 0, 1) := by decide +kernel
theorem dX5_takeBehindRelation_39 : decode cX5_takeBehindRelation 39 = .ok (.getfield 22, 3) := by decide +kernel
theorem dX5_takeBehindRelation_42 : decode cX5_takeBehindRelation 42 = .ok (.bipush 9, 2) := by decide +kernel
theorem dX5_takeBehindRelation_44 : decode cX5_takeBehindRelation 44 = .ok (.iconst 0, 1) := by decide +kernel
theorem dX5_takeBehindRelation_45 : decode cX5_takeBehindRelation 45 = .ok (.invokevirtual 118, 3) := by decide +kernel
theorem dX5_takeBehindRelation_48 : decode cX5_takeBehindRelation 48 = .ok (.iload_n 1, 1) := by decide +kernel
theorem dX5_takeBehindRelation_49 : decode cX5_takeBehindRelation 49 = .ok (.bipush 9, 2) := by decide +kernel
theorem dX5_takeBehindRelation_51 : decode cX5_takeBehindRelation 51 = .ok (.if_icmp .ne 21, 3) := by decide +kernel
theorem dX5_takeBehindRelation_54 : decode cX5_takeBehindRelation 54 = .ok (.aload_n 0, 1) := by decide +kernel
theorem dX5_takeBehindRelation_55 : decode cX5_takeBehindRelation 55 = .ok (.iconst 1, 1) := by decide +kernel
theorem dX5_takeBehindRelation_56 : decode cX5_takeBehindRelation 56 = .ok (.putfield 80, 3) := by decide +kernel
theorem dX5_takeBehindRelation_59 : decode cX5_takeBehindRelation 59 = .ok (.aload_n 0, 1) := by decide +kernel
theorem dX5_takeBehindRelation_60 : decode cX5_takeBehindRelation 60 = .ok (.iconst 1, 1) := by decide +kernel
theorem dX5_takeBehindRelation_61 : decode cX5_takeBehindRelation 61 = .ok (.putfield 74, 3) := by decide +kernel
theorem dX5_takeBehindRelation_64 : decode cX5_takeBehindRelation 64 = .ok (.aload_n 0, 1) := by decide +kernel
theorem dX5_takeBehindRelation_65 : decode cX5_takeBehindRelation 65 = .ok (.iconst 3, 1) := by decide +kernel
theorem dX5_takeBehindRelation_66 : decode cX5_takeBehindRelation 66 = .ok (.putfield 44, 3) := by decide +kernel
theorem dX5_takeBehindRelation_69 : decode cX5_takeBehindRelation 69 = .ok (.goto 7, 3) := by decide +kernel
theorem dX5_takeBehindRelation_72 : decode cX5_takeBehindRelation 72 = .ok (.aload_n 0, 1) := by decide +kernel
theorem dX5_takeBehindRelation_73 : decode cX5_takeBehindRelation 73 = .ok (.invokevirtual 147, 3) := by decide +kernel
theorem dX5_takeBehindRelation_76 : decode cX5_takeBehindRelation 76 = .ok (.iconst 0, 1) := by decide +kernel
theorem dX5_takeBehindRelation_77 : decode cX5_takeBehindRelation 77 = .ok (.ireturn, 1) := by decide +kernel
theorem dX5_beginCondition_0 : decode cX5_beginCondition 0 = .ok (.aload_n 0, 1) := by decide +kernel
theorem dX5_beginCondition_1 : decode cX5_beginCondition 1 = .ok (.getfield 22, 3) := by decide +kernel
theorem dX5_beginCondition_4 : decode cX5_beginCondition 4 = .ok (.invokevirtual 146, 3) := by decide +kernel
theorem dX5_beginCondition_7 : decode cX5_beginCondition 7 = .ok (.aload_n 0, 1) := by decide +kernel
theorem dX5_beginCondition_8 : decode cX5_beginCondition 8 = .ok (.iconst 0, 1) := by decide +kernel
theorem dX5_beginCondition_9 : decode cX5_beginCondition 9 = .ok (.putfield 80, 3) := by decide +kernel
theorem dX5_beginCondition_12 : decode cX5_beginCondition 12 = .ok (.aload_n 0, 1) := by decide +kernel
theorem dX5_beginCondition_13 : decode cX5_beginCondition 13 = .ok (.iconst 1, 1) := by decide +kernel
theorem dX5_beginCondition_14 : decode cX5_beginCondition 14 = .ok (.putfield 74, 3) := by decide +kernel
theorem dX5_beginCondition_17 : decode cX5_beginCondition 17 = .ok (.aload_n 0, 1) := by decide +kernel
theorem dX5_beginCondition_18 : decode cX5_beginCondition 18 = .ok (.iconst 3, 1) := by decide +kernel
theorem dX5_beginCondition_19 : decode cX5_beginCondition 19 = .ok (.putfield 44, 3) := by decide +kernel
theorem dX5_beginCondition_22 : decode cX5_beginCondition 22 = .ok (.return_, 1) := by decide +kernel
theorem dX5_endRule_0 : decode cX5_endRule 0 = .ok (.aload_n 0, 1) := by decide +kernel
theorem dX5_endRule_1 : decode cX5_endRule 1 = .ok (.getfield 22, 3) := by decide +kernel
theorem dX5_endRule_4 : decode cX5_endRule 4 = .ok (.invokevirtual 153, 3) := by decide +kernel
theorem dX5_endRule_7 : decode cX5_endRule 7 = .ok (.aload_n 0, 1) := by decide +kernel
theorem dX5_endRule_8 : decode cX5_endRule 8 = .ok (.iconst 0, 1) := by decide +kernel
theorem dX5_endRule_9 : decode cX5_endRule 9 = .ok (.putfield 44, 3) := by decide +kernel
theorem dX5_endRule_12 : decode cX5_endRule 12 = .ok (.return_, 1) := by decide +kernel
theorem dX5_push_0 : decode cX5_push 0 = .ok (.aload_n 0, 1) := by decide +kernel
theorem dX5_push_1 : decode cX5_push 1 = .ok (.getfield 68, 3) := by decide +kernel
theorem dX5_push_4 : decode cX5_push 4 = .ok (.bipush 20, 2) := by decide +kernel
theorem dX5_push_6 : decode cX5_push 6 = .ok (.if_icmp .ge 23, 3) := by decide +kernel
theorem dX5_push_9 : decode cX5_push 9 = .ok (.aload_n 0, 1) := by decide +kernel
theorem dX5_push_10 : decode cX5_push 10 = .ok (.getfield 18, 3) := by decide +kernel
theorem dX5_push_13 : decode cX5_push 13 = .ok (.aload_n 0, 1) := by decide +kernel
theorem dX5_push_14 : decode cX5_push 14 = .ok (.getfield 68, 3) := by decide +kernel
theorem dX5_push_17 : decode cX5_push 17 = .ok (.iload_n 1, 1) := by decide +kernel
theorem dX5_push_18 : decode cX5_push 18 = .ok (.iastore, 1) := by decide +kernel
theorem dX5_push_19 : decode cX5_push 19 = .ok (.aload_n 0, 1) := by decide +kernel
theorem dX5_push_20 : decode cX5_push 20 = .ok (.dup, 1) := by decide +kernel
theorem dX5_push_21 : decode cX5_push 21 = .ok (.getfield 68, 3) := by decide +kernel
theorem dX5_push_24 : decode cX5_push 24 = .ok (.iconst 1, 1) := by decide +kernel
theorem dX5_push_25 : decode cX5_push 25 = .ok (.iadd, 1) := by decide +kernel
theorem dX5_push_26 : decode cX5_push 26 = .ok (.putfield 68, 3) := by decide +kernel
theorem dX5_push_29 : decode cX5_push 29 = .ok (.return_, 1) := by decide +kernel
theorem dX5_writeOperators_0 : decode cX5_writeOperators 0 = .ok (.aload_n 0, 1) := by decide +kernel
theorem dX5_writeOperators_1 : decode cX5_writeOperators 1 = .ok (.getfield 68, 3) := by decide +kernel
theorem dX5_writeOperators_4 : decode cX5_writeOperators 4 = .ok (.iconst 1, 1) := by decide +kernel
theorem dX5_writeOperators_5 : decode cX5_writeOperators 5 = .ok (.isub, 1) := by decide +kernel
theorem dX5_writeOperators_6 : decode cX5_writeOperators 6 = .ok (.istore_n 2, 1) := by decide +kernel
theorem dX5_writeOperators_7 : decode cX5_writeOperators 7 = .ok (.iload_n 2, 1) := by decide +kernel
theorem dX5_writeOperators_8 : decode cX5_writeOperators 8 = .ok (.ifCond .lt 41, 3) := by decide +kernel
theorem dX5_writeOperators_11 : decode cX5_writeOperators 11 = .ok (.aload_n 0, 1) := by decide +kernel
theorem dX5_writeOperators_12 : decode cX5_writeOperators 12 = .ok (.getfield 18, 3) := by decide +kernel
theorem dX5_writeOperators_15 : decode cX5_writeOperators 15 = .ok (.iload_n 2, 1) := by decide +kernel
theorem dX5_writeOperators_16 : decode cX5_writeOperators 16 = .ok (.iaload, 1) := by decide +kernel
theorem dX5_writeOperators_17 : decode cX5_writeOperators 17 = .ok (.invokestatic 128, 3) := by decide +kernel
theorem dX5_writeOperators_20 : decode cX5_writeOperators 20 = .ok (.iload_n 1, 1) := by decide +kernel
theorem dX5_writeOperators_21 : decode cX5_writeOperators 21 = .ok (.if_icmp .lt 28, 3) := by decide +kernel
theorem dX5_writeOperators_24 : decode cX5_writeOperators 24 = .ok (.aload_n 0, 1) := by decide +kernel
theorem dX5_writeOperators_25 : decode cX5_writeOperators 25 = .ok (.getfield 22, 3) := by decide +kernel
theorem dX5_writeOperators_28 : decode cX5_writeOperators 28 = .ok (.aload_n 0, 1) := by decide +kernel
theorem dX5_writeOperators_29 : decode cX5_writeOperators 29 = .ok (.getfield 18, 3) := by decide +kernel
theorem dX5_writeOperators_32 : decode cX5_writeOperators 32 = .ok (.iload_n 2, 1) := by decide +kernel
theorem dX5_writeOperators_33 : decode cX5_writeOperators 33 = .ok (.iaload, 1) := by decide +kernel
theorem dX5_writeOperators_34 : decode cX5_writeOperators 34 = .ok (.iconst 0, 1) := by decide +kernel
theorem dX5_writeOperators_35 : decode cX5_writeOperators 35 = .ok (.invokevirtual 118, 3) := by decide +kernel
theorem dX5_writeOperators_38 : decode cX5_writeOperators 38 = .ok (.aload_n 0, 1) := by decide +kernel
theorem dX5_writeOperators_39 : decode cX5_writeOperators 39 = .ok (.iload_n 2, 1) := by decide +kernel
theorem dX5_writeOperators_40 : decode cX5_writeOperators 40 = .ok (.putfield 68, 3) := by decide +kernel
theorem dX5_writeOperators_43 : decode cX5_writeOperators 43 = .ok (.iinc 2 (-1), 3) := by decide +kernel
theorem dX5_writeOperators_46 : decode cX5_writeOperators 46 = .ok (.goto (-39), 3) := by decide +kernel
theorem dX5_writeOperators_49 : decode cX5_writeOperators 49 = .ok (.return_, 1) := by decide +kernel
theorem dX5_isArithmetic_0 : decode cX5_isArithmetic 0 = .ok (.iload_n 0, 1) := by decide +kernel
theorem dX5_isArithmetic_1 : decode cX5_isArithmetic 1 = .ok (.invokestatic 128, 3) := by decide +kernel
theorem dX5_isArithmetic_4 : decode cX5_isArithmetic 4 = .ok (.ifCond .le 7, 3) := by decide +kernel
theorem dX5_isArithmetic_7 : decode cX5_isArithmetic 7 = .ok (.iconst 1, 1) := by decide +kernel
theorem dX5_isArithmetic_8 : decode cX5_isArithmetic 8 = .ok (.goto 4, 3) := by decide +kernel
theorem dX5_isArithmetic_11 : decode cX5_isArithmetic 11 = .ok (.iconst 0, 1) := by decide +kernel
theorem dX5_isArithmetic_12 : decode cX5_isArithmetic 12 = .ok (.ireturn, 1) := by decide +kernel
theorem dX5_isRelation_0 : decode cX5_isRelation 0 = .ok (.iload_n 0, 1) := by decide +kernel
theorem dX5_isRelation_1 : decode cX5_isRelation 1 = .ok (.bipush 16, 2) := by decide +kernel
theorem dX5_isRelation_3 : decode cX5_isRelation 3 = .ok (.bipush 19, 2) := by decide +kernel
theorem dX5_isRelation_5 : decode cX5_isRelation 5 = .ok (.invokestatic 107, 3) := by decide +kernel
theorem dX5_isRelation_8 : decode cX5_isRelation 8 = .ok (.ireturn, 1) := by decide +kernel
theorem dX5_rankOf_0 : decode cX5_rankOf 0 = .ok (.iload_n 0, 1) := by decide +kernel
theorem dX5_rankOf_1 : decode cX5_rankOf 1 = .ok (.tableswitch 31 13 15 #[29, 29, 27], 27) := by decide +kernel
theorem dX5_rankOf_28 : decode cX5_rankOf 28 = .ok (.iconst 2, 1) := by decide +kernel
theorem dX5_rankOf_29 : decode cX5_rankOf 29 = .ok (.ireturn, 1) := by decide +kernel
theorem dX5_rankOf_30 : decode cX5_rankOf 30 = .ok (.iconst 1, 1) := by decide +kernel
theorem dX5_rankOf_31 : decode cX5_rankOf 31 = .ok (.ireturn, 1) := by decide +kernel
theorem dX5_rankOf_32 : decode cX5_rankOf 32 = .ok (.iconst 0, 1) := by decide +kernel
theorem dX5_rankOf_33 : decode cX5_rankOf 33 = .ok (.ireturn, 1) := by decide +kernel
theorem dX6_clear_0 : decode cX6_clear 0 = .ok (.aload_n 0, 1) := by decide +kernel
theorem dX6_clear_1 : decode cX6_clear 1 = .ok (.iconst 0, 1) := by decide +kernel
theorem dX6_clear_2 : decode cX6_clear 2 = .ok (.putfield 33, 3) := by decide +kernel
theorem dX6_clear_5 : decode cX6_clear 5 = .ok (.aload_n 0, 1) := by decide +kernel
theorem dX6_clear_6 : decode cX6_clear 6 = .ok (.iconst 0, 1) := by decide +kernel
theorem dX6_clear_7 : decode cX6_clear 7 = .ok (.putfield 37, 3) := by decide +kernel
theorem dX6_clear_10 : decode cX6_clear 10 = .ok (.return_, 1) := by decide +kernel
theorem dX6_size_0 : decode cX6_size 0 = .ok (.aload_n 0, 1) := by decide +kernel
theorem dX6_size_1 : decode cX6_size 1 = .ok (.getfield 33, 3) := by decide +kernel
theorem dX6_size_4 : decode cX6_size 4 = .ok (.ireturn, 1) := by decide +kernel
theorem dX6_begin_0 : decode cX6_begin 0 = .ok (.aload_n 0, 1) := by decide +kernel
theorem dX6_begin_1 : decode cX6_begin 1 = .ok (.getfield 33, 3) := by decide +kernel
theorem dX6_begin_4 : decode cX6_begin 4 = .ok (.bipush 20, 2) := by decide +kernel
theorem dX6_begin_6 : decode cX6_begin 6 = .ok (.if_icmp .lt 5, 3) := by decide +kernel
theorem dX6_begin_9 : decode cX6_begin 9 = .ok (.iconst 0, 1) := by decide +kernel
theorem dX6_begin_10 : decode cX6_begin 10 = .ok (.ireturn, 1) := by decide +kernel
theorem dX6_begin_11 : decode cX6_begin 11 = .ok (.aload_n 0, 1) := by decide +kernel
theorem dX6_begin_12 : decode cX6_begin 12 = .ok (.getfield 11, 3) := by decide +kernel
theorem dX6_begin_15 : decode cX6_begin 15 = .ok (.aload_n 0, 1) := by decide +kernel
theorem dX6_begin_16 : decode cX6_begin 16 = .ok (.getfield 33, 3) := by decide +kernel
theorem dX6_begin_19 : decode cX6_begin 19 = .ok (.iload_n 1, 1) := by decide +kernel
theorem dX6_begin_20 : decode cX6_begin 20 = .ok (.iastore, 1) := by decide +kernel
theorem dX6_begin_21 : decode cX6_begin 21 = .ok (.aload_n 0, 1) := by decide +kernel
theorem dX6_begin_22 : decode cX6_begin 22 = .ok (.getfield 15, 3) := by decide +kernel
theorem dX6_begin_25 : decode cX6_begin 25 = .ok (.aload_n 0, 1) := by decide +kernel
theorem dX6_begin_26 : decode cX6_begin 26 = .ok (.getfield 33, 3) := by decide +kernel
theorem dX6_begin_29 : decode cX6_begin 29 = .ok (.iconst 0, 1) := by decide +kernel
theorem dX6_begin_30 : decode cX6_begin 30 = .ok (.iastore, 1) := by decide +kernel
theorem dX6_begin_31 : decode cX6_begin 31 = .ok (.aload_n 0, 1) := by decide +kernel
theorem dX6_begin_32 : decode cX6_begin 32 = .ok (.getfield 18, 3) := by decide +kernel
theorem dX6_begin_35 : decode cX6_begin 35 = .ok (.aload_n 0, 1) := by decide +kernel
theorem dX6_begin_36 : decode cX6_begin 36 = .ok (.getfield 33, 3) := by decide +kernel
theorem dX6_begin_39 : decode cX6_begin 39 = .ok (.aload_n 0, 1) := by decide +kernel
theorem dX6_begin_40 : decode cX6_begin 40 = .ok (.getfield 37, 3) := by decide +kernel
theorem dX6_begin_43 : decode cX6_begin 43 = .ok (.iastore, 1) := by decide +kernel
theorem dX6_begin_44 : decode cX6_begin 44 = .ok (.aload_n 0, 1) := by decide +kernel
theorem dX6_begin_45 : decode cX6_begin 45 = .ok (.getfield 21, 3) := by decide +kernel
theorem dX6_begin_48 : decode cX6_begin 48 = .ok (.aload_n 0, 1) := by decide +kernel
theorem dX6_begin_49 : decode cX6_begin 49 = .ok (.getfield 33, 3) := by decide +kernel
theorem dX6_begin_52 : decode cX6_begin 52 = .ok (.aload_n 0, 1) := by decide +kernel
theorem dX6_begin_53 : decode cX6_begin 53 = .ok (.getfield 37, 3) := by decide +kernel
theorem dX6_begin_56 : decode cX6_begin 56 = .ok (.iastore, 1) := by decide +kernel
theorem dX6_begin_57 : decode cX6_begin 57 = .ok (.aload_n 0, 1) := by decide +kernel
theorem dX6_begin_58 : decode cX6_begin 58 = .ok (.getfield 24, 3) := by decide +kernel
theorem dX6_begin_61 : decode cX6_begin 61 = .ok (.aload_n 0, 1) := by decide +kernel
theorem dX6_begin_62 : decode cX6_begin 62 = .ok (.getfield 33, 3) := by decide +kernel
theorem dX6_begin_65 : decode cX6_begin 65 = .ok (.aload_n 0, 1) := by decide +kernel
theorem dX6_begin_66 : decode cX6_begin 66 = .ok (.getfield 37, 3) := by decide +kernel
theorem dX6_begin_69 : decode cX6_begin 69 = .ok (.iastore, 1) := by decide +kernel
theorem dX6_begin_70 : decode cX6_begin 70 = .ok (.aload_n 0, 1) := by decide +kernel
theorem dX6_begin_71 : decode cX6_begin 71 = .ok (.dup, 1) := by decide +kernel
theorem dX6_begin_72 : decode cX6_begin 72 = .ok (.getfield 33, 3) := by decide +kernel
theorem dX6_begin_75 : decode cX6_begin 75 = .ok (.iconst 1, 1) := by decide +kernel
theorem dX6_begin_76 : decode cX6_begin 76 = .ok (.iadd, 1) := by decide +kernel
theorem dX6_begin_77 : decode cX6_begin 77 = .ok (.putfield 33, 3) := by decide +kernel
theorem dX6_begin_80 : decode cX6_begin 80 = .ok (.iconst 1, 1) := by decide +kernel
theorem dX6_begin_81 : decode cX6_begin 81 = .ok (.ireturn, 1) := by decide +kernel
theorem dX6_lastKind_0 : decode cX6_lastKind 0 = .ok (.aload_n 0, 1) := by decide +kernel
theorem dX6_lastKind_1 : decode cX6_lastKind 1 = .ok (.aload_n 0, 1) := by decide +kernel
theorem dX6_lastKind_2 : decode cX6_lastKind 2 = .ok (.getfield 33, 3) := by decide +kernel
theorem dX6_lastKind_5 : decode cX6_lastKind 5 = .ok (.iconst 1, 1) := by decide +kernel
theorem dX6_lastKind_6 : decode cX6_lastKind 6 = .ok (.isub, 1) := by decide +kernel
theorem dX6_lastKind_7 : decode cX6_lastKind 7 = .ok (.invokevirtual 40, 3) := by decide +kernel
theorem dX6_lastKind_10 : decode cX6_lastKind 10 = .ok (.ireturn, 1) := by decide +kernel
theorem dX6_setNumber_0 : decode cX6_setNumber 0 = .ok (.aload_n 0, 1) := by decide +kernel
theorem dX6_setNumber_1 : decode cX6_setNumber 1 = .ok (.getfield 33, 3) := by decide +kernel
theorem dX6_setNumber_4 : decode cX6_setNumber 4 = .ok (.ifCond .le 15, 3) := by decide +kernel
theorem dX6_setNumber_7 : decode cX6_setNumber 7 = .ok (.aload_n 0, 1) := by decide +kernel
theorem dX6_setNumber_8 : decode cX6_setNumber 8 = .ok (.getfield 15, 3) := by decide +kernel
theorem dX6_setNumber_11 : decode cX6_setNumber 11 = .ok (.aload_n 0, 1) := by decide +kernel
theorem dX6_setNumber_12 : decode cX6_setNumber 12 = .ok (.getfield 33, 3) := by decide +kernel
theorem dX6_setNumber_15 : decode cX6_setNumber 15 = .ok (.iconst 1, 1) := by decide +kernel
theorem dX6_setNumber_16 : decode cX6_setNumber 16 = .ok (.isub, 1) := by decide +kernel
theorem dX6_setNumber_17 : decode cX6_setNumber 17 = .ok (.iload_n 1, 1) := by decide +kernel
theorem dX6_setNumber_18 : decode cX6_setNumber 18 = .ok (.iastore, 1) := by decide +kernel
theorem dX6_setNumber_19 : decode cX6_setNumber 19 = .ok (.return_, 1) := by decide +kernel
theorem dX6_beginCondition_0 : decode cX6_beginCondition 0 = .ok (.aload_n 0, 1) := by decide +kernel
theorem dX6_beginCondition_1 : decode cX6_beginCondition 1 = .ok (.getfield 33, 3) := by decide +kernel
theorem dX6_beginCondition_4 : decode cX6_beginCondition 4 = .ok (.ifCond .le 18, 3) := by decide +kernel
theorem dX6_beginCondition_7 : decode cX6_beginCondition 7 = .ok (.aload_n 0, 1) := by decide +kernel
theorem dX6_beginCondition_8 : decode cX6_beginCondition 8 = .ok (.getfield 21, 3) := by decide +kernel
theorem dX6_beginCondition_11 : decode cX6_beginCondition 11 = .ok (.aload_n 0, 1) := by decide +kernel
theorem dX6_beginCondition_12 : decode cX6_beginCondition 12 = .ok (.getfield 33, 3) := by decide +kernel
theorem dX6_beginCondition_15 : decode cX6_beginCondition 15 = .ok (.iconst 1, 1) := by decide +kernel
theorem dX6_beginCondition_16 : decode cX6_beginCondition 16 = .ok (.isub, 1) := by decide +kernel
theorem dX6_beginCondition_17 : decode cX6_beginCondition 17 = .ok (.aload_n 0, 1) := by decide +kernel
theorem dX6_beginCondition_18 : decode cX6_beginCondition 18 = .ok (.getfield 37, 3) := by decide +kernel
theorem dX6_beginCondition_21 : decode cX6_beginCondition 21 = .ok (.iastore, 1) := by decide +kernel
theorem dX6_beginCondition_22 : decode cX6_beginCondition 22 = .ok (.return_, 1) := by decide +kernel
theorem dX6_end_0 : decode cX6_end 0 = .ok (.aload_n 0, 1) := by decide +kernel
theorem dX6_end_1 : decode cX6_end 1 = .ok (.getfield 33, 3) := by decide +kernel
theorem dX6_end_4 : decode cX6_end 4 = .ok (.ifCond .le 18, 3) := by decide +kernel
theorem dX6_end_7 : decode cX6_end 7 = .ok (.aload_n 0, 1) := by decide +kernel
theorem dX6_end_8 : decode cX6_end 8 = .ok (.getfield 24, 3) := by decide +kernel
theorem dX6_end_11 : decode cX6_end 11 = .ok (.aload_n 0, 1) := by decide +kernel
theorem dX6_end_12 : decode cX6_end 12 = .ok (.getfield 33, 3) := by decide +kernel
theorem dX6_end_15 : decode cX6_end 15 = .ok (.iconst 1, 1) := by decide +kernel
theorem dX6_end_16 : decode cX6_end 16 = .ok (.isub, 1) := by decide +kernel
theorem dX6_end_17 : decode cX6_end 17 = .ok (.aload_n 0, 1) := by decide +kernel
theorem dX6_end_18 : decode cX6_end 18 = .ok (.getfield 37, 3) := by decide +kernel
theorem dX6_end_21 : decode cX6_end 21 = .ok (.iastore, 1) := by decide +kernel
theorem dX6_end_22 : decode cX6_end 22 = .ok (.return_, 1) := by decide +kernel
theorem dX6_write_0 : decode cX6_write 0 = .ok (.aload_n 0, 1) := by decide +kernel
theorem dX6_write_1 : decode cX6_write 1 = .ok (.getfield 37, 3) := by decide +kernel
theorem dX6_write_4 : decode cX6_write 4 = .ok (.sipush 400, 3) := by decide +kernel
theorem dX6_write_7 : decode cX6_write 7 = .ok (.if_icmp .ge 27, 3) := by decide +kernel
theorem dX6_write_10 : decode cX6_write 10 = .ok (.aload_n 0, 1) := by decide +kernel
theorem dX6_write_11 : decode cX6_write 11 = .ok (.getfield 27, 3) := by decide +kernel
