theorem dX6_write_14 : decode cX6_write 14 = .ok (.aload_n 0, 1) := by decide +kernel
theorem dX6_write_15 : decode cX6_write 15 = .ok (.getfield 37, 3) := by decide +kernel
theorem dX6_write_18 : decode cX6_write 18 = .ok (.iload_n 2, 1) := by decide +kernel
theorem dX6_write_19 : decode cX6_write 19 = .ok (.iconst 5, 1) := by decide +kernel
theorem dX6_write_20 : decode cX6_write 20 = .ok (.ishl, 1) := by decide +kernel
theorem dX6_write_21 : decode cX6_write 21 = .ok (.iload_n 1, 1) := by decide +kernel
theorem dX6_write_22 : decode cX6_write 22 = .ok (.ior, 1) := by decide +kernel
theorem dX6_write_23 : decode cX6_write 23 = .ok (.iastore, 1) := by decide +kernel
theorem dX6_write_24 : decode cX6_write 24 = .ok (.aload_n 0, 1) := by decide +kernel
theorem dX6_write_25 : decode cX6_write 25 = .ok (.dup, 1) := by decide +kernel
theorem dX6_write_26 : decode cX6_write 26 = .ok (.getfield 37, 3) := by decide +kernel
theorem dX6_write_29 : decode cX6_write 29 = .ok (.iconst 1, 1) := by decide +kernel
theorem dX6_write_30 : decode cX6_write 30 = .ok (.iadd, 1) := by decide +kernel
theorem dX6_write_31 : decode cX6_write 31 = .ok (.putfield 37, 3) := by decide +kernel
theorem dX6_write_34 : decode cX6_write 34 = .ok (.return_, 1) := by decide +kernel
theorem dX6_kindOf_0 : decode cX6_kindOf 0 = .ok (.iload_n 1, 1) := by decide +kernel
theorem dX6_kindOf_1 : decode cX6_kindOf 1 = .ok (.ifCond .lt 20, 3) := by decide +kernel
theorem dX6_kindOf_4 : decode cX6_kindOf 4 = .ok (.iload_n 1, 1) := by decide +kernel
theorem dX6_kindOf_5 : decode cX6_kindOf 5 = .ok (.aload_n 0, 1) := by decide +kernel
theorem dX6_kindOf_6 : decode cX6_kindOf 6 = .ok (.getfield 33, 3) := by decide +kernel
theorem dX6_kindOf_9 : decode cX6_kindOf 9 = .ok (.if_icmp .ge 12, 3) := by decide +kernel
theorem dX6_kindOf_12 : decode cX6_kindOf 12 = .ok (.aload_n 0, 1) := by decide +kernel
theorem dX6_kindOf_13 : decode cX6_kindOf 13 = .ok (.getfield 11, 3) := by decide +kernel
theorem dX6_kindOf_16 : decode cX6_kindOf 16 = .ok (.iload_n 1, 1) := by decide +kernel
theorem dX6_kindOf_17 : decode cX6_kindOf 17 = .ok (.iaload, 1) := by decide +kernel
theorem dX6_kindOf_18 : decode cX6_kindOf 18 = .ok (.goto 4, 3) := by decide +kernel
theorem dX6_kindOf_21 : decode cX6_kindOf 21 = .ok (.iconst (-1), 1) := by decide +kernel
theorem dX6_kindOf_22 : decode cX6_kindOf 22 = .ok (.ireturn, 1) := by decide +kernel
theorem dX6_numberOf_0 : decode cX6_numberOf 0 = .ok (.iload_n 1, 1) := by decide +kernel
theorem dX6_numberOf_1 : decode cX6_numberOf 1 = .ok (.ifCond .lt 20, 3) := by decide +kernel
theorem dX6_numberOf_4 : decode cX6_numberOf 4 = .ok (.iload_n 1, 1) := by decide +kernel
theorem dX6_numberOf_5 : decode cX6_numberOf 5 = .ok (.aload_n 0, 1) := by decide +kernel
theorem dX6_numberOf_6 : decode cX6_numberOf 6 = .ok (.getfield 33, 3) := by decide +kernel
theorem dX6_numberOf_9 : decode cX6_numberOf 9 = .ok (.if_icmp .ge 12, 3) := by decide +kernel
theorem dX6_numberOf_12 : decode cX6_numberOf 12 = .ok (.aload_n 0, 1) := by decide +kernel
theorem dX6_numberOf_13 : decode cX6_numberOf 13 = .ok (.getfield 15, 3) := by decide +kernel
theorem dX6_numberOf_16 : decode cX6_numberOf 16 = .ok (.iload_n 1, 1) := by decide +kernel
theorem dX6_numberOf_17 : decode cX6_numberOf 17 = .ok (.iaload, 1) := by decide +kernel
theorem dX6_numberOf_18 : decode cX6_numberOf 18 = .ok (.goto 4, 3) := by decide +kernel
theorem dX6_numberOf_21 : decode cX6_numberOf 21 = .ok (.iconst 0, 1) := by decide +kernel
theorem dX6_numberOf_22 : decode cX6_numberOf 22 = .ok (.ireturn, 1) := by decide +kernel
theorem dX6_holds_0 : decode cX6_holds 0 = .ok (.iload_n 1, 1) := by decide +kernel
theorem dX6_holds_1 : decode cX6_holds 1 = .ok (.ifCond .lt 11, 3) := by decide +kernel
theorem dX6_holds_4 : decode cX6_holds 4 = .ok (.iload_n 1, 1) := by decide +kernel
theorem dX6_holds_5 : decode cX6_holds 5 = .ok (.aload_n 0, 1) := by decide +kernel
theorem dX6_holds_6 : decode cX6_holds 6 = .ok (.getfield 33, 3) := by decide +kernel
theorem dX6_holds_9 : decode cX6_holds 9 = .ok (.if_icmp .lt 5, 3) := by decide +kernel
theorem dX6_holds_12 : decode cX6_holds 12 = .ok (.iconst 0, 1) := by decide +kernel
theorem dX6_holds_13 : decode cX6_holds 13 = .ok (.ireturn, 1) := by decide +kernel
theorem dX6_holds_14 : decode cX6_holds 14 = .ok (.aload_n 0, 1) := by decide +kernel
theorem dX6_holds_15 : decode cX6_holds 15 = .ok (.getfield 21, 3) := by decide +kernel
theorem dX6_holds_18 : decode cX6_holds 18 = .ok (.iload_n 1, 1) := by decide +kernel
theorem dX6_holds_19 : decode cX6_holds 19 = .ok (.iaload, 1) := by decide +kernel
theorem dX6_holds_20 : decode cX6_holds 20 = .ok (.aload_n 0, 1) := by decide +kernel
theorem dX6_holds_21 : decode cX6_holds 21 = .ok (.getfield 24, 3) := by decide +kernel
theorem dX6_holds_24 : decode cX6_holds 24 = .ok (.iload_n 1, 1) := by decide +kernel
theorem dX6_holds_25 : decode cX6_holds 25 = .ok (.iaload, 1) := by decide +kernel
theorem dX6_holds_26 : decode cX6_holds 26 = .ok (.if_icmp .eq 23, 3) := by decide +kernel
theorem dX6_holds_29 : decode cX6_holds 29 = .ok (.aload_n 0, 1) := by decide +kernel
theorem dX6_holds_30 : decode cX6_holds 30 = .ok (.aload_n 0, 1) := by decide +kernel
theorem dX6_holds_31 : decode cX6_holds 31 = .ok (.getfield 21, 3) := by decide +kernel
theorem dX6_holds_34 : decode cX6_holds 34 = .ok (.iload_n 1, 1) := by decide +kernel
theorem dX6_holds_35 : decode cX6_holds 35 = .ok (.iaload, 1) := by decide +kernel
theorem dX6_holds_36 : decode cX6_holds 36 = .ok (.aload_n 0, 1) := by decide +kernel
theorem dX6_holds_37 : decode cX6_holds 37 = .ok (.getfield 24, 3) := by decide +kernel
theorem dX6_holds_40 : decode cX6_holds 40 = .ok (.iload_n 1, 1) := by decide +kernel
theorem dX6_holds_41 : decode cX6_holds 41 = .ok (.iaload, 1) := by decide +kernel
theorem dX6_holds_42 : decode cX6_holds 42 = .ok (.aload_n 2, 1) := by decide +kernel
theorem dX6_holds_43 : decode cX6_holds 43 = .ok (.invokevirtual 44, 3) := by decide +kernel
theorem dX6_holds_46 : decode cX6_holds 46 = .ok (.ifCond .eq 7, 3) := by decide +kernel
theorem dX6_holds_49 : decode cX6_holds 49 = .ok (.iconst 1, 1) := by decide +kernel
theorem dX6_holds_50 : decode cX6_holds 50 = .ok (.goto 4, 3) := by decide +kernel
theorem dX6_holds_53 : decode cX6_holds 53 = .ok (.iconst 0, 1) := by decide +kernel
theorem dX6_holds_54 : decode cX6_holds 54 = .ok (.ireturn, 1) := by decide +kernel
theorem dX6_firstHolding_0 : decode cX6_firstHolding 0 = .ok (.iconst 0, 1) := by decide +kernel
theorem dX6_firstHolding_1 : decode cX6_firstHolding 1 = .ok (.istore_n 3, 1) := by decide +kernel
theorem dX6_firstHolding_2 : decode cX6_firstHolding 2 = .ok (.iload_n 3, 1) := by decide +kernel
theorem dX6_firstHolding_3 : decode cX6_firstHolding 3 = .ok (.aload_n 0, 1) := by decide +kernel
theorem dX6_firstHolding_4 : decode cX6_firstHolding 4 = .ok (.getfield 33, 3) := by decide +kernel
theorem dX6_firstHolding_7 : decode cX6_firstHolding 7 = .ok (.if_icmp .ge 30, 3) := by decide +kernel
theorem dX6_firstHolding_10 : decode cX6_firstHolding 10 = .ok (.aload_n 0, 1) := by decide +kernel
theorem dX6_firstHolding_11 : decode cX6_firstHolding 11 = .ok (.getfield 11, 3) := by decide +kernel
theorem dX6_firstHolding_14 : decode cX6_firstHolding 14 = .ok (.iload_n 3, 1) := by decide +kernel
theorem dX6_firstHolding_15 : decode cX6_firstHolding 15 = .ok (.iaload, 1) := by decide +kernel
theorem dX6_firstHolding_16 : decode cX6_firstHolding 16 = .ok (.iload_n 1, 1) := by decide +kernel
theorem dX6_firstHolding_17 : decode cX6_firstHolding 17 = .ok (.if_icmp .ne 14, 3) := by decide +kernel
theorem dX6_firstHolding_20 : decode cX6_firstHolding 20 = .ok (.aload_n 0, 1) := by decide +kernel
theorem dX6_firstHolding_21 : decode cX6_firstHolding 21 = .ok (.iload_n 3, 1) := by decide +kernel
theorem dX6_firstHolding_22 : decode cX6_firstHolding 22 = .ok (.aload_n 2, 1) := by decide +kernel
theorem dX6_firstHolding_23 : decode cX6_firstHolding 23 = .ok (.invokevirtual 48, 3) := by decide +kernel
theorem dX6_firstHolding_26 : decode cX6_firstHolding 26 = .ok (.ifCond .eq 5, 3) := by decide +kernel
theorem dX6_firstHolding_29 : decode cX6_firstHolding 29 = .ok (.iload_n 3, 1) := by decide +kernel
theorem dX6_firstHolding_30 : decode cX6_firstHolding 30 = .ok (.ireturn, 1) := by decide +kernel
theorem dX6_firstHolding_31 : decode cX6_firstHolding 31 = .ok (.iinc 3 1, 3) := by decide +kernel
theorem dX6_firstHolding_34 : decode cX6_firstHolding 34 = .ok (.goto (-32), 3) := by decide +kernel
theorem dX6_firstHolding_37 : decode cX6_firstHolding 37 = .ok (.iconst (-1), 1) := by decide +kernel
theorem dX6_firstHolding_38 : decode cX6_firstHolding 38 = .ok (.ireturn, 1) := by decide +kernel
theorem dX6_termOf_0 : decode cX6_termOf 0 = .ok (.iload_n 1, 1) := by decide +kernel
theorem dX6_termOf_1 : decode cX6_termOf 1 = .ok (.ifCond .lt 31, 3) := by decide +kernel
theorem dX6_termOf_4 : decode cX6_termOf 4 = .ok (.iload_n 1, 1) := by decide +kernel
theorem dX6_termOf_5 : decode cX6_termOf 5 = .ok (.aload_n 0, 1) := by decide +kernel
theorem dX6_termOf_6 : decode cX6_termOf 6 = .ok (.getfield 33, 3) := by decide +kernel
theorem dX6_termOf_9 : decode cX6_termOf 9 = .ok (.if_icmp .ge 23, 3) := by decide +kernel
theorem dX6_termOf_12 : decode cX6_termOf 12 = .ok (.aload_n 0, 1) := by decide +kernel
theorem dX6_termOf_13 : decode cX6_termOf 13 = .ok (.aload_n 0, 1) := by decide +kernel
theorem dX6_termOf_14 : decode cX6_termOf 14 = .ok (.getfield 18, 3) := by decide +kernel
theorem dX6_termOf_17 : decode cX6_termOf 17 = .ok (.iload_n 1, 1) := by decide +kernel
theorem dX6_termOf_18 : decode cX6_termOf 18 = .ok (.iaload, 1) := by decide +kernel
theorem dX6_termOf_19 : decode cX6_termOf 19 = .ok (.aload_n 0, 1) := by decide +kernel
theorem dX6_termOf_20 : decode cX6_termOf 20 = .ok (.getfield 21, 3) := by decide +kernel
theorem dX6_termOf_23 : decode cX6_termOf 23 = .ok (.iload_n 1, 1) := by decide +kernel
theorem dX6_termOf_24 : decode cX6_termOf 24 = .ok (.iaload, 1) := by decide +kernel
theorem dX6_termOf_25 : decode cX6_termOf 25 = .ok (.aload_n 2, 1) := by decide +kernel
theorem dX6_termOf_26 : decode cX6_termOf 26 = .ok (.invokevirtual 44, 3) := by decide +kernel
theorem dX6_termOf_29 : decode cX6_termOf 29 = .ok (.goto 4, 3) := by decide +kernel
theorem dX6_termOf_32 : decode cX6_termOf 32 = .ok (.iconst 0, 1) := by decide +kernel
theorem dX6_termOf_33 : decode cX6_termOf 33 = .ok (.ireturn, 1) := by decide +kernel
theorem dX6_workOut_0 : decode cX6_workOut 0 = .ok (.iconst 0, 1) := by decide +kernel
theorem dX6_workOut_1 : decode cX6_workOut 1 = .ok (.istore 4, 2) := by decide +kernel
theorem dX6_workOut_3 : decode cX6_workOut 3 = .ok (.iload_n 1, 1) := by decide +kernel
theorem dX6_workOut_4 : decode cX6_workOut 4 = .ok (.iconst 0, 1) := by decide +kernel
theorem dX6_workOut_5 : decode cX6_workOut 5 = .ok (.invokestatic 52, 3) := by decide +kernel
theorem dX6_workOut_8 : decode cX6_workOut 8 = .ok (.istore 5, 2) := by decide +kernel
theorem dX6_workOut_10 : decode cX6_workOut 10 = .ok (.iload 5, 2) := by decide +kernel
theorem dX6_workOut_12 : decode cX6_workOut 12 = .ok (.iload_n 2, 1) := by decide +kernel
theorem dX6_workOut_13 : decode cX6_workOut 13 = .ok (.if_icmp .ge 150, 3) := by decide +kernel
theorem dX6_workOut_16 : decode cX6_workOut 16 = .ok (.iload 5, 2) := by decide +kernel
theorem dX6_workOut_18 : decode cX6_workOut 18 = .ok (.aload_n 0, 1) := by decide +kernel
theorem dX6_workOut_19 : decode cX6_workOut 19 = .ok (.getfield 37, 3) := by decide +kernel
theorem dX6_workOut_22 : decode cX6_workOut 22 = .ok (.if_icmp .ge 141, 3) := by decide +kernel
theorem dX6_workOut_25 : decode cX6_workOut 25 = .ok (.aload_n 0, 1) := by decide +kernel
theorem dX6_workOut_26 : decode cX6_workOut 26 = .ok (.getfield 27, 3) := by decide +kernel
theorem dX6_workOut_29 : decode cX6_workOut 29 = .ok (.iload 5, 2) := by decide +kernel
theorem dX6_workOut_31 : decode cX6_workOut 31 = .ok (.iaload, 1) := by decide +kernel
theorem dX6_workOut_32 : decode cX6_workOut 32 = .ok (.bipush 31, 2) := by decide +kernel
theorem dX6_workOut_34 : decode cX6_workOut 34 = .ok (.iand, 1) := by decide +kernel
theorem dX6_workOut_35 : decode cX6_workOut 35 = .ok (.istore 6, 2) := by decide +kernel
theorem dX6_workOut_37 : decode cX6_workOut 37 = .ok (.aload_n 0, 1) := by decide +kernel
theorem dX6_workOut_38 : decode cX6_workOut 38 = .ok (.getfield 27, 3) := by decide +kernel
theorem dX6_workOut_41 : decode cX6_workOut 41 = .ok (.iload 5, 2) := by decide +kernel
theorem dX6_workOut_43 : decode cX6_workOut 43 = .ok (.iaload, 1) := by decide +kernel
theorem dX6_workOut_44 : decode cX6_workOut 44 = .ok (.iconst 5, 1) := by decide +kernel
theorem dX6_workOut_45 : decode cX6_workOut 45 = .ok (.ishr, 1) := by decide +kernel
theorem dX6_workOut_46 : decode cX6_workOut 46 = .ok (.istore 7, 2) := by decide +kernel
theorem dX6_workOut_48 : decode cX6_workOut 48 = .ok (.iload 6, 2) := by decide +kernel
theorem dX6_workOut_50 : decode cX6_workOut 50 = .ok (.iconst 2, 1) := by decide +kernel
theorem dX6_workOut_51 : decode cX6_workOut 51 = .ok (.if_icmp .ne 25, 3) := by decide +kernel
theorem dX6_workOut_54 : decode cX6_workOut 54 = .ok (.iload 4, 2) := by decide +kernel
theorem dX6_workOut_56 : decode cX6_workOut 56 = .ok (.bipush 32, 2) := by decide +kernel
theorem dX6_workOut_58 : decode cX6_workOut 58 = .ok (.if_icmp .ge 18, 3) := by decide +kernel
theorem dX6_workOut_61 : decode cX6_workOut 61 = .ok (.aload_n 0, 1) := by decide +kernel
theorem dX6_workOut_62 : decode cX6_workOut 62 = .ok (.getfield 30, 3) := by decide +kernel
theorem dX6_workOut_65 : decode cX6_workOut 65 = .ok (.iload 4, 2) := by decide +kernel
theorem dX6_workOut_67 : decode cX6_workOut 67 = .ok (.iload 7, 2) := by decide +kernel
theorem dX6_workOut_69 : decode cX6_workOut 69 = .ok (.iastore, 1) := by decide +kernel
theorem dX6_workOut_70 : decode cX6_workOut 70 = .ok (.iinc 4 1, 3) := by decide +kernel
theorem dX6_workOut_73 : decode cX6_workOut 73 = .ok (.goto 84, 3) := by decide +kernel
theorem dX6_workOut_76 : decode cX6_workOut 76 = .ok (.iload 6, 2) := by decide +kernel
theorem dX6_workOut_78 : decode cX6_workOut 78 = .ok (.iconst 3, 1) := by decide +kernel
theorem dX6_workOut_79 : decode cX6_workOut 79 = .ok (.if_icmp .ne 39, 3) := by decide +kernel
theorem dX6_workOut_82 : decode cX6_workOut 82 = .ok (.iload 4, 2) := by decide +kernel
theorem dX6_workOut_84 : decode cX6_workOut 84 = .ok (.bipush 32, 2) := by decide +kernel
theorem dX6_workOut_86 : decode cX6_workOut 86 = .ok (.if_icmp .ge 32, 3) := by decide +kernel
theorem dX6_workOut_89 : decode cX6_workOut 89 = .ok (.iload 7, 2) := by decide +kernel
theorem dX6_workOut_91 : decode cX6_workOut 91 = .ok (.ifCond .lt 27, 3) := by decide +kernel
theorem dX6_workOut_94 : decode cX6_workOut 94 = .ok (.iload 7, 2) := by decide +kernel
theorem dX6_workOut_96 : decode cX6_workOut 96 = .ok (.aload_n 3, 1) := by decide +kernel
theorem dX6_workOut_97 : decode cX6_workOut 97 = .ok (.arraylength, 1) := by decide +kernel
theorem dX6_workOut_98 : decode cX6_workOut 98 = .ok (.if_icmp .ge 20, 3) := by decide +kernel
theorem dX6_workOut_101 : decode cX6_workOut 101 = .ok (.aload_n 0, 1) := by decide +kernel
theorem dX6_workOut_102 : decode cX6_workOut 102 = .ok (.getfield 30, 3) := by decide +kernel
theorem dX6_workOut_105 : decode cX6_workOut 105 = .ok (.iload 4, 2) := by decide +kernel
theorem dX6_workOut_107 : decode cX6_workOut 107 = .ok (.aload_n 3, 1) := by decide +kernel
theorem dX6_workOut_108 : decode cX6_workOut 108 = .ok (.iload 7, 2) := by decide +kernel
theorem dX6_workOut_110 : decode cX6_workOut 110 = .ok (.iaload, 1) := by decide +kernel
theorem dX6_workOut_111 : decode cX6_workOut 111 = .ok (.iastore, 1) := by decide +kernel
theorem dX6_workOut_112 : decode cX6_workOut 112 = .ok (.iinc 4 1, 3) := by decide +kernel
theorem dX6_workOut_115 : decode cX6_workOut 115 = .ok (.goto 42, 3) := by decide +kernel
theorem dX6_workOut_118 : decode cX6_workOut 118 = .ok (.iload 4, 2) := by decide +kernel
theorem dX6_workOut_120 : decode cX6_workOut 120 = .ok (.iconst 2, 1) := by decide +kernel
theorem dX6_workOut_121 : decode cX6_workOut 121 = .ok (.if_icmp .lt 36, 3) := by decide +kernel
theorem dX6_workOut_124 : decode cX6_workOut 124 = .ok (.iinc 4 (-1), 3) := by decide +kernel
theorem dX6_workOut_127 : decode cX6_workOut 127 = .ok (.aload_n 0, 1) := by decide +kernel
theorem dX6_workOut_128 : decode cX6_workOut 128 = .ok (.getfield 30, 3) := by decide +kernel
theorem dX6_workOut_131 : decode cX6_workOut 131 = .ok (.iload 4, 2) := by decide +kernel
theorem dX6_workOut_133 : decode cX6_workOut 133 = .ok (.iconst 1, 1) := by decide +kernel
theorem dX6_workOut_134 : decode cX6_workOut 134 = .ok (.isub, 1) := by decide +kernel
theorem dX6_workOut_135 : decode cX6_workOut 135 = .ok (.iload 6, 2) := by decide +kernel
theorem dX6_workOut_137 : decode cX6_workOut 137 = .ok (.aload_n 0, 1) := by decide +kernel
theorem dX6_workOut_138 : decode cX6_workOut 138 = .ok (.getfield 30, 3) := by decide +kernel
theorem dX6_workOut_141 : decode cX6_workOut 141 = .ok (.iload 4, 2) := by decide +kernel
theorem dX6_workOut_143 : decode cX6_workOut 143 = .ok (.iconst 1, 1) := by decide +kernel
theorem dX6_workOut_144 : decode cX6_workOut 144 = .ok (.isub, 1) := by decide +kernel
theorem dX6_workOut_145 : decode cX6_workOut 145 = .ok (.iaload, 1) := by decide +kernel
theorem dX6_workOut_146 : decode cX6_workOut 146 = .ok (.aload_n 0, 1) := by decide +kernel
theorem dX6_workOut_147 : decode cX6_workOut 147 = .ok (.getfield 30, 3) := by decide +kernel
theorem dX6_workOut_150 : decode cX6_workOut 150 = .ok (.iload 4, 2) := by decide +kernel
theorem dX6_workOut_152 : decode cX6_workOut 152 = .ok (.iaload, 1) := by decide +kernel
theorem dX6_workOut_153 : decode cX6_workOut 153 = .ok (.invokestatic 60, 3) := by decide +kernel
theorem dX6_workOut_156 : decode cX6_workOut 156 = .ok (.iastore, 1) := by decide +kernel
theorem dX6_workOut_157 : decode cX6_workOut 157 = .ok (.iinc 5 1, 3) := by decide +kernel
theorem dX6_workOut_160 : decode cX6_workOut 160 = .ok (.goto (-150), 3) := by decide +kernel
theorem dX6_workOut_163 : decode cX6_workOut 163 = .ok (.aload_n 0, 1) := by decide +kernel
theorem dX6_workOut_164 : decode cX6_workOut 164 = .ok (.getfield 30, 3) := by decide +kernel
theorem dX6_workOut_167 : decode cX6_workOut 167 = .ok (.iconst 0, 1) := by decide +kernel
theorem dX6_workOut_168 : decode cX6_workOut 168 = .ok (.iaload, 1) := by decide +kernel
theorem dX6_workOut_169 : decode cX6_workOut 169 = .ok (.ireturn, 1) := by decide +kernel
theorem dX6_combine_0 : decode cX6_combine 0 = .ok (.iload_n 0, 1) := by decide +kernel
theorem dX6_combine_1 : decode cX6_combine 1 = .ok (.tableswitch 99 13 19 #[43, 47, 51, 55, 66, 77, 88], 43) := by decide +kernel
theorem dX6_combine_44 : decode cX6_combine 44 = .ok (.iload_n 1, 1) := by decide +kernel
theorem dX6_combine_45 : decode cX6_combine 45 = .ok (.iload_n 2, 1) := by decide +kernel
theorem dX6_combine_46 : decode cX6_combine 46 = .ok (.iadd, 1) := by decide +kernel
theorem dX6_combine_47 : decode cX6_combine 47 = .ok (.ireturn, 1) := by decide +kernel
theorem dX6_combine_48 : decode cX6_combine 48 = .ok (.iload_n 1, 1) := by decide +kernel
theorem dX6_combine_49 : decode cX6_combine 49 = .ok (.iload_n 2, 1) := by decide +kernel
theorem dX6_combine_50 : decode cX6_combine 50 = .ok (.isub, 1) := by decide +kernel
theorem dX6_combine_51 : decode cX6_combine 51 = .ok (.ireturn, 1) := by decide +kernel
theorem dX6_combine_52 : decode cX6_combine 52 = .ok (.iload_n 1, 1) := by decide +kernel
theorem dX6_combine_53 : decode cX6_combine 53 = .ok (.iload_n 2, 1) := by decide +kernel
theorem dX6_combine_54 : decode cX6_combine 54 = .ok (.imul, 1) := by decide +kernel
theorem dX6_combine_55 : decode cX6_combine 55 = .ok (.ireturn, 1) := by decide +kernel
theorem dX6_combine_56 : decode cX6_combine 56 = .ok (.iload_n 1, 1) := by decide +kernel
theorem dX6_combine_57 : decode cX6_combine 57 = .ok (.iload_n 2, 1) := by decide +kernel
theorem dX6_combine_58 : decode cX6_combine 58 = .ok (.if_icmp .ne 7, 3) := by decide +kernel
theorem dX6_combine_61 : decode cX6_combine 61 = .ok (.iconst 1, 1) := by decide +kernel
theorem dX6_combine_62 : decode cX6_combine 62 = .ok (.goto 4, 3) := by decide +kernel
theorem dX6_combine_65 : decode cX6_combine 65 = .ok (.iconst 0, 1) := by decide +kernel
theorem dX6_combine_66 : decode cX6_combine 66 = .ok (.ireturn, 1) := by decide +kernel
theorem dX6_combine_67 : decode cX6_combine 67 = .ok (.iload_n 1, 1) := by decide +kernel
theorem dX6_combine_68 : decode cX6_combine 68 = .ok (.iload_n 2, 1) := by decide +kernel
theorem dX6_combine_69 : decode cX6_combine 69 = .ok (.if_icmp .eq 7, 3) := by decide +kernel
theorem dX6_combine_72 : decode cX6_combine 72 = .ok (.iconst 1, 1) := by decide +kernel
theorem dX6_combine_73 : decode cX6_combine 73 = .ok (.goto 4, 3) := by decide +kernel
theorem dX6_combine_76 : decode cX6_combine 76 = .ok (.iconst 0, 1) := by decide +kernel
theorem dX6_combine_77 : decode cX6_combine 77 = .ok (.ireturn, 1) := by decide +kernel
theorem dX6_combine_78 : decode cX6_combine 78 = .ok (.iload_n 1, 1) := by decide +kernel
theorem dX6_combine_79 : decode cX6_combine 79 = .ok (.iload_n 2, 1) := by decide +kernel
theorem dX6_combine_80 : decode cX6_combine 80 = .ok (.if_icmp .ge 7, 3) := by decide +kernel
theorem dX6_combine_83 : decode cX6_combine 83 = .ok (.iconst 1, 1) := by decide +kernel
theorem dX6_combine_84 : decode cX6_combine 84 = .ok (.goto 4, 3) := by decide +kernel
theorem dX6_combine_87 : decode cX6_combine 87 = .ok (.iconst 0, 1) := by decide +kernel
theorem dX6_combine_88 : decode cX6_combine 88 = .ok (.ireturn, 1) := by decide +kernel
theorem dX6_combine_89 : decode cX6_combine 89 = .ok (.iload_n 1, 1) := by decide +kernel
theorem dX6_combine_90 : decode cX6_combine 90 = .ok (.iload_n 2, 1) := by decide +kernel
theorem dX6_combine_91 : decode cX6_combine 91 = .ok (.if_icmp .gt 7, 3) := by decide +kernel
theorem dX6_combine_94 : decode cX6_combine 94 = .ok (.iconst 1, 1) := by decide +kernel
theorem dX6_combine_95 : decode cX6_combine 95 = .ok (.goto 4, 3) := by decide +kernel
theorem dX6_combine_98 : decode cX6_combine 98 = .ok (.iconst 0, 1) := by decide +kernel
theorem dX6_combine_99 : decode cX6_combine 99 = .ok (.ireturn, 1) := by decide +kernel
theorem dX6_combine_100 : decode cX6_combine 100 = .ok (.iload_n 1, 1) := by decide +kernel
theorem dX6_combine_101 : decode cX6_combine 101 = .ok (.iload_n 2, 1) := by decide +kernel
theorem dX6_combine_102 : decode cX6_combine 102 = .ok (.iand, 1) := by decide +kernel
theorem dX6_combine_103 : decode cX6_combine 103 = .ok (.ireturn, 1) := by decide +kernel
theorem dX7_clear_0 : decode cX7_clear 0 = .ok (.aload_n 0, 1) := by decide +kernel
theorem dX7_clear_1 : decode cX7_clear 1 = .ok (.iconst 0, 1) := by decide +kernel
theorem dX7_clear_2 : decode cX7_clear 2 = .ok (.putfield 45, 3) := by decide +kernel
theorem dX7_clear_5 : decode cX7_clear 5 = .ok (.return_, 1) := by decide +kernel
theorem dX7_add_0 : decode cX7_add 0 = .ok (.aload_n 0, 1) := by decide +kernel
theorem dX7_add_1 : decode cX7_add 1 = .ok (.getfield 45, 3) := by decide +kernel
theorem dX7_add_4 : decode cX7_add 4 = .ok (.iconst 5, 1) := by decide +kernel
theorem dX7_add_5 : decode cX7_add 5 = .ok (.if_icmp .ge 43, 3) := by decide +kernel
theorem dX7_add_8 : decode cX7_add 8 = .ok (.aload_n 0, 1) := by decide +kernel
theorem dX7_add_9 : decode cX7_add 9 = .ok (.getfield 11, 3) := by decide +kernel
theorem dX7_add_12 : decode cX7_add 12 = .ok (.aload_n 0, 1) := by decide +kernel
theorem dX7_add_13 : decode cX7_add 13 = .ok (.getfield 45, 3) := by decide +kernel
theorem dX7_add_16 : decode cX7_add 16 = .ok (.iload_n 1, 1) := by decide +kernel
theorem dX7_add_17 : decode cX7_add 17 = .ok (.iastore, 1) := by decide +kernel
theorem dX7_add_18 : decode cX7_add 18 = .ok (.aload_n 0, 1) := by decide +kernel
theorem dX7_add_19 : decode cX7_add 19 = .ok (.getfield 17, 3) := by decide +kernel
theorem dX7_add_22 : decode cX7_add 22 = .ok (.aload_n 0, 1) := by decide +kernel
theorem dX7_add_23 : decode cX7_add 23 = .ok (.getfield 45, 3) := by decide +kernel
theorem dX7_add_26 : decode cX7_add 26 = .ok (.iload_n 2, 1) := by decide +kernel
theorem dX7_add_27 : decode cX7_add 27 = .ok (.iastore, 1) := by decide +kernel
theorem dX7_add_28 : decode cX7_add 28 = .ok (.aload_n 0, 1) := by decide +kernel
theorem dX7_add_29 : decode cX7_add 29 = .ok (.getfield 20, 3) := by decide +kernel
theorem dX7_add_32 : decode cX7_add 32 = .ok (.aload_n 0, 1) := by decide +kernel
theorem dX7_add_33 : decode cX7_add 33 = .ok (.getfield 45, 3) := by decide +kernel
theorem dX7_add_36 : decode cX7_add 36 = .ok (.iload_n 3, 1) := by decide +kernel
theorem dX7_add_37 : decode cX7_add 37 = .ok (.bastore, 1) := by decide +kernel
theorem dX7_add_38 : decode cX7_add 38 = .ok (.aload_n 0, 1) := by decide +kernel
theorem dX7_add_39 : decode cX7_add 39 = .ok (.dup, 1) := by decide +kernel
theorem dX7_add_40 : decode cX7_add 40 = .ok (.getfield 45, 3) := by decide +kernel
theorem dX7_add_43 : decode cX7_add 43 = .ok (.iconst 1, 1) := by decide +kernel
theorem dX7_add_44 : decode cX7_add 44 = .ok (.iadd, 1) := by decide +kernel
theorem dX7_add_45 : decode cX7_add 45 = .ok (.putfield 45, 3) := by decide +kernel
theorem dX7_add_48 : decode cX7_add 48 = .ok (.return_, 1) := by decide +kernel
theorem dX7_shiftOf_0 : decode cX7_shiftOf 0 = .ok (.iload_n 1, 1) := by decide +kernel
theorem dX7_shiftOf_1 : decode cX7_shiftOf 1 = .ok (.ifCond .lt 20, 3) := by decide +kernel
theorem dX7_shiftOf_4 : decode cX7_shiftOf 4 = .ok (.iload_n 1, 1) := by decide +kernel
theorem dX7_shiftOf_5 : decode cX7_shiftOf 5 = .ok (.aload_n 0, 1) := by decide +kernel
theorem dX7_shiftOf_6 : decode cX7_shiftOf 6 = .ok (.getfield 45, 3) := by decide +kernel
theorem dX7_shiftOf_9 : decode cX7_shiftOf 9 = .ok (.if_icmp .ge 12, 3) := by decide +kernel
theorem dX7_shiftOf_12 : decode cX7_shiftOf 12 = .ok (.aload_n 0, 1) := by decide +kernel
theorem dX7_shiftOf_13 : decode cX7_shiftOf 13 = .ok (.getfield 42, 3) := by decide +kernel
theorem dX7_shiftOf_16 : decode cX7_shiftOf 16 = .ok (.iload_n 1, 1) := by decide +kernel
theorem dX7_shiftOf_17 : decode cX7_shiftOf 17 = .ok (.iaload, 1) := by decide +kernel
theorem dX7_shiftOf_18 : decode cX7_shiftOf 18 = .ok (.goto 4, 3) := by decide +kernel
theorem dX7_shiftOf_21 : decode cX7_shiftOf 21 = .ok (.iconst 0, 1) := by decide +kernel
theorem dX7_shiftOf_22 : decode cX7_shiftOf 22 = .ok (.ireturn, 1) := by decide +kernel
theorem dX7_findBest_0 : decode cX7_findBest 0 = .ok (.aload_n 0, 1) := by decide +kernel
theorem dX7_findBest_1 : decode cX7_findBest 1 = .ok (.invokevirtual 55, 3) := by decide +kernel
theorem dX7_findBest_4 : decode cX7_findBest 4 = .ok (.aload_n 0, 1) := by decide +kernel
theorem dX7_findBest_5 : decode cX7_findBest 5 = .ok (.iconst (-1), 1) := by decide +kernel
theorem dX7_findBest_6 : decode cX7_findBest 6 = .ok (.putfield 49, 3) := by decide +kernel
theorem dX7_findBest_9 : decode cX7_findBest 9 = .ok (.aload_n 0, 1) := by decide +kernel
theorem dX7_findBest_10 : decode cX7_findBest 10 = .ok (.iconst 0, 1) := by decide +kernel
theorem dX7_findBest_11 : decode cX7_findBest 11 = .ok (.putfield 52, 3) := by decide +kernel
theorem dX7_findBest_14 : decode cX7_findBest 14 = .ok (.aload_n 0, 1) := by decide +kernel
theorem dX7_findBest_15 : decode cX7_findBest 15 = .ok (.iconst 0, 1) := by decide +kernel
theorem dX7_findBest_16 : decode cX7_findBest 16 = .ok (.iconst 0, 1) := by decide +kernel
theorem dX7_findBest_17 : decode cX7_findBest 17 = .ok (.iconst 0, 1) := by decide +kernel
theorem dX7_findBest_18 : decode cX7_findBest 18 = .ok (.iconst 0, 1) := by decide +kernel
theorem dX7_findBest_19 : decode cX7_findBest 19 = .ok (.iconst 0, 1) := by decide +kernel
theorem dX7_findBest_20 : decode cX7_findBest 20 = .ok (.invokevirtual 58, 3) := by decide +kernel
theorem dX7_findBest_23 : decode cX7_findBest 23 = .ok (.aload_n 0, 1) := by decide +kernel
theorem dX7_findBest_24 : decode cX7_findBest 24 = .ok (.getfield 49, 3) := by decide +kernel
theorem dX7_findBest_27 : decode cX7_findBest 27 = .ok (.ireturn, 1) := by decide +kernel
theorem dX7_lookAhead_0 : decode cX7_lookAhead 0 = .ok (.aload_n 0, 1) := by decide +kernel
theorem dX7_lookAhead_1 : decode cX7_lookAhead 1 = .ok (.getfield 24, 3) := by decide +kernel
theorem dX7_lookAhead_4 : decode cX7_lookAhead 4 = .ok (.aload_n 0, 1) := by decide +kernel
theorem dX7_lookAhead_5 : decode cX7_lookAhead 5 = .ok (.getfield 45, 3) := by decide +kernel
theorem dX7_lookAhead_8 : decode cX7_lookAhead 8 = .ok (.iconst 0, 1) := by decide +kernel
theorem dX7_lookAhead_9 : decode cX7_lookAhead 9 = .ok (.iastore, 1) := by decide +kernel
theorem dX7_lookAhead_10 : decode cX7_lookAhead 10 = .ok (.aload_n 0, 1) := by decide +kernel
theorem dX7_lookAhead_11 : decode cX7_lookAhead 11 = .ok (.getfield 27, 3) := by decide +kernel
theorem dX7_lookAhead_14 : decode cX7_lookAhead 14 = .ok (.aload_n 0, 1) := by decide +kernel
theorem dX7_lookAhead_15 : decode cX7_lookAhead 15 = .ok (.getfield 45, 3) := by decide +kernel
theorem dX7_lookAhead_18 : decode cX7_lookAhead 18 = .ok (.iconst 0, 1) := by decide +kernel
theorem dX7_lookAhead_19 : decode cX7_lookAhead 19 = .ok (.iastore, 1) := by decide +kernel
theorem dX7_lookAhead_20 : decode cX7_lookAhead 20 = .ok (.aload_n 0, 1) := by decide +kernel
theorem dX7_lookAhead_21 : decode cX7_lookAhead 21 = .ok (.getfield 30, 3) := by decide +kernel
theorem dX7_lookAhead_24 : decode cX7_lookAhead 24 = .ok (.aload_n 0, 1) := by decide +kernel
theorem dX7_lookAhead_25 : decode cX7_lookAhead 25 = .ok (.getfield 45, 3) := by decide +kernel
theorem dX7_lookAhead_28 : decode cX7_lookAhead 28 = .ok (.iconst 0, 1) := by decide +kernel
theorem dX7_lookAhead_29 : decode cX7_lookAhead 29 = .ok (.iastore, 1) := by decide +kernel
theorem dX7_lookAhead_30 : decode cX7_lookAhead 30 = .ok (.aload_n 0, 1) := by decide +kernel
theorem dX7_lookAhead_31 : decode cX7_lookAhead 31 = .ok (.getfield 33, 3) := by decide +kernel
theorem dX7_lookAhead_34 : decode cX7_lookAhead 34 = .ok (.aload_n 0, 1) := by decide +kernel
theorem dX7_lookAhead_35 : decode cX7_lookAhead 35 = .ok (.getfield 45, 3) := by decide +kernel
theorem dX7_lookAhead_38 : decode cX7_lookAhead 38 = .ok (.iconst 0, 1) := by decide +kernel
theorem dX7_lookAhead_39 : decode cX7_lookAhead 39 = .ok (.iastore, 1) := by decide +kernel
theorem dX7_lookAhead_40 : decode cX7_lookAhead 40 = .ok (.aload_n 0, 1) := by decide +kernel
theorem dX7_lookAhead_41 : decode cX7_lookAhead 41 = .ok (.getfield 36, 3) := by decide +kernel
theorem dX7_lookAhead_44 : decode cX7_lookAhead 44 = .ok (.aload_n 0, 1) := by decide +kernel
theorem dX7_lookAhead_45 : decode cX7_lookAhead 45 = .ok (.getfield 45, 3) := by decide +kernel
theorem dX7_lookAhead_48 : decode cX7_lookAhead 48 = .ok (.iconst 0, 1) := by decide +kernel
theorem dX7_lookAhead_49 : decode cX7_lookAhead 49 = .ok (.iastore, 1) := by decide +kernel
theorem dX7_lookAhead_50 : decode cX7_lookAhead 50 = .ok (.aload_n 0, 1) := by decide +kernel
theorem dX7_lookAhead_51 : decode cX7_lookAhead 51 = .ok (.getfield 45, 3) := by decide +kernel
theorem dX7_lookAhead_54 : decode cX7_lookAhead 54 = .ok (.iconst 1, 1) := by decide +kernel
theorem dX7_lookAhead_55 : decode cX7_lookAhead 55 = .ok (.isub, 1) := by decide +kernel
theorem dX7_lookAhead_56 : decode cX7_lookAhead 56 = .ok (.istore_n 1, 1) := by decide +kernel
theorem dX7_lookAhead_57 : decode cX7_lookAhead 57 = .ok (.iload_n 1, 1) := by decide +kernel
theorem dX7_lookAhead_58 : decode cX7_lookAhead 58 = .ok (.ifCond .lt 158, 3) := by decide +kernel
theorem dX7_lookAhead_61 : decode cX7_lookAhead 61 = .ok (.aload_n 0, 1) := by decide +kernel
theorem dX7_lookAhead_62 : decode cX7_lookAhead 62 = .ok (.getfield 17, 3) := by decide +kernel
theorem dX7_lookAhead_65 : decode cX7_lookAhead 65 = .ok (.iload_n 1, 1) := by decide +kernel
theorem dX7_lookAhead_66 : decode cX7_lookAhead 66 = .ok (.iaload, 1) := by decide +kernel
theorem dX7_lookAhead_67 : decode cX7_lookAhead 67 = .ok (.aload_n 0, 1) := by decide +kernel
theorem dX7_lookAhead_68 : decode cX7_lookAhead 68 = .ok (.getfield 11, 3) := by decide +kernel
theorem dX7_lookAhead_71 : decode cX7_lookAhead 71 = .ok (.iload_n 1, 1) := by decide +kernel
theorem dX7_lookAhead_72 : decode cX7_lookAhead 72 = .ok (.iaload, 1) := by decide +kernel
theorem dX7_lookAhead_73 : decode cX7_lookAhead 73 = .ok (.invokestatic 62, 3) := by decide +kernel
theorem dX7_lookAhead_76 : decode cX7_lookAhead 76 = .ok (.invokestatic 68, 3) := by decide +kernel
theorem dX7_lookAhead_79 : decode cX7_lookAhead 79 = .ok (.istore_n 2, 1) := by decide +kernel
theorem dX7_lookAhead_80 : decode cX7_lookAhead 80 = .ok (.aload_n 0, 1) := by decide +kernel
theorem dX7_lookAhead_81 : decode cX7_lookAhead 81 = .ok (.getfield 24, 3) := by decide +kernel
theorem dX7_lookAhead_84 : decode cX7_lookAhead 84 = .ok (.iload_n 1, 1) := by decide +kernel
theorem dX7_lookAhead_85 : decode cX7_lookAhead 85 = .ok (.aload_n 0, 1) := by decide +kernel
theorem dX7_lookAhead_86 : decode cX7_lookAhead 86 = .ok (.getfield 24, 3) := by decide +kernel
theorem dX7_lookAhead_89 : decode cX7_lookAhead 89 = .ok (.iload_n 1, 1) := by decide +kernel
theorem dX7_lookAhead_90 : decode cX7_lookAhead 90 = .ok (.iconst 1, 1) := by decide +kernel
theorem dX7_lookAhead_91 : decode cX7_lookAhead 91 = .ok (.iadd, 1) := by decide +kernel
theorem dX7_lookAhead_92 : decode cX7_lookAhead 92 = .ok (.iaload, 1) := by decide +kernel
theorem dX7_lookAhead_93 : decode cX7_lookAhead 93 = .ok (.aload_n 0, 1) := by decide +kernel
theorem dX7_lookAhead_94 : decode cX7_lookAhead 94 = .ok (.getfield 11, 3) := by decide +kernel
theorem dX7_lookAhead_97 : decode cX7_lookAhead 97 = .ok (.iload_n 1, 1) := by decide +kernel
theorem dX7_lookAhead_98 : decode cX7_lookAhead 98 = .ok (.iaload, 1) := by decide +kernel
theorem dX7_lookAhead_99 : decode cX7_lookAhead 99 = .ok (.ior, 1) := by decide +kernel
theorem dX7_lookAhead_100 : decode cX7_lookAhead 100 = .ok (.iastore, 1) := by decide +kernel
theorem dX7_lookAhead_101 : decode cX7_lookAhead 101 = .ok (.aload_n 0, 1) := by decide +kernel
theorem dX7_lookAhead_102 : decode cX7_lookAhead 102 = .ok (.getfield 27, 3) := by decide +kernel
theorem dX7_lookAhead_105 : decode cX7_lookAhead 105 = .ok (.iload_n 1, 1) := by decide +kernel
theorem dX7_lookAhead_106 : decode cX7_lookAhead 106 = .ok (.aload_n 0, 1) := by decide +kernel
theorem dX7_lookAhead_107 : decode cX7_lookAhead 107 = .ok (.getfield 27, 3) := by decide +kernel
theorem dX7_lookAhead_110 : decode cX7_lookAhead 110 = .ok (.iload_n 1, 1) := by decide +kernel
theorem dX7_lookAhead_111 : decode cX7_lookAhead 111 = .ok (.iconst 1, 1) := by decide +kernel
theorem dX7_lookAhead_112 : decode cX7_lookAhead 112 = .ok (.iadd, 1) := by decide +kernel
theorem dX7_lookAhead_113 : decode cX7_lookAhead 113 = .ok (.iaload, 1) := by decide +kernel
theorem dX7_lookAhead_114 : decode cX7_lookAhead 114 = .ok (.aload_n 0, 1) := by decide +kernel
theorem dX7_lookAhead_115 : decode cX7_lookAhead 115 = .ok (.getfield 24, 3) := by decide +kernel
theorem dX7_lookAhead_118 : decode cX7_lookAhead 118 = .ok (.iload_n 1, 1) := by decide +kernel
theorem dX7_lookAhead_119 : decode cX7_lookAhead 119 = .ok (.iconst 1, 1) := by decide +kernel
theorem dX7_lookAhead_120 : decode cX7_lookAhead 120 = .ok (.iadd, 1) := by decide +kernel
theorem dX7_lookAhead_121 : decode cX7_lookAhead 121 = .ok (.iaload, 1) := by decide +kernel
theorem dX7_lookAhead_122 : decode cX7_lookAhead 122 = .ok (.aload_n 0, 1) := by decide +kernel
theorem dX7_lookAhead_123 : decode cX7_lookAhead 123 = .ok (.getfield 11, 3) := by decide +kernel
theorem dX7_lookAhead_126 : decode cX7_lookAhead 126 = .ok (.iload_n 1, 1) := by decide +kernel
theorem dX7_lookAhead_127 : decode cX7_lookAhead 127 = .ok (.iaload, 1) := by decide +kernel
theorem dX7_lookAhead_128 : decode cX7_lookAhead 128 = .ok (.iand, 1) := by decide +kernel
theorem dX7_lookAhead_129 : decode cX7_lookAhead 129 = .ok (.ior, 1) := by decide +kernel
theorem dX7_lookAhead_130 : decode cX7_lookAhead 130 = .ok (.iastore, 1) := by decide +kernel
theorem dX7_lookAhead_131 : decode cX7_lookAhead 131 = .ok (.aload_n 0, 1) := by decide +kernel
theorem dX7_lookAhead_132 : decode cX7_lookAhead 132 = .ok (.getfield 30, 3) := by decide +kernel
theorem dX7_lookAhead_135 : decode cX7_lookAhead 135 = .ok (.iload_n 1, 1) := by decide +kernel
theorem dX7_lookAhead_136 : decode cX7_lookAhead 136 = .ok (.aload_n 0, 1) := by decide +kernel
theorem dX7_lookAhead_137 : decode cX7_lookAhead 137 = .ok (.getfield 30, 3) := by decide +kernel
theorem dX7_lookAhead_140 : decode cX7_lookAhead 140 = .ok (.iload_n 1, 1) := by decide +kernel
theorem dX7_lookAhead_141 : decode cX7_lookAhead 141 = .ok (.iconst 1, 1) := by decide +kernel
theorem dX7_lookAhead_142 : decode cX7_lookAhead 142 = .ok (.iadd, 1) := by decide +kernel
theorem dX7_lookAhead_143 : decode cX7_lookAhead 143 = .ok (.iaload, 1) := by decide +kernel
theorem dX7_lookAhead_144 : decode cX7_lookAhead 144 = .ok (.aload_n 0, 1) := by decide +kernel
theorem dX7_lookAhead_145 : decode cX7_lookAhead 145 = .ok (.getfield 20, 3) := by decide +kernel
theorem dX7_lookAhead_148 : decode cX7_lookAhead 148 = .ok (.iload_n 1, 1) := by decide +kernel
theorem dX7_lookAhead_149 : decode cX7_lookAhead 149 = .ok (.baload, 1) := by decide +kernel
theorem dX7_lookAhead_150 : decode cX7_lookAhead 150 = .ok (.ifCond .eq 12, 3) := by decide +kernel
theorem dX7_lookAhead_153 : decode cX7_lookAhead 153 = .ok (.aload_n 0, 1) := by decide +kernel
theorem dX7_lookAhead_154 : decode cX7_lookAhead 154 = .ok (.getfield 11, 3) := by decide +kernel
theorem dX7_lookAhead_157 : decode cX7_lookAhead 157 = .ok (.iload_n 1, 1) := by decide +kernel
theorem dX7_lookAhead_158 : decode cX7_lookAhead 158 = .ok (.iaload, 1) := by decide +kernel
theorem dX7_lookAhead_159 : decode cX7_lookAhead 159 = .ok (.goto 4, 3) := by decide +kernel
theorem dX7_lookAhead_162 : decode cX7_lookAhead 162 = .ok (.iconst 0, 1) := by decide +kernel
theorem dX7_lookAhead_163 : decode cX7_lookAhead 163 = .ok (.ior, 1) := by decide +kernel
theorem dX7_lookAhead_164 : decode cX7_lookAhead 164 = .ok (.iastore, 1) := by decide +kernel
theorem dX7_lookAhead_165 : decode cX7_lookAhead 165 = .ok (.aload_n 0, 1) := by decide +kernel
theorem dX7_lookAhead_166 : decode cX7_lookAhead 166 = .ok (.getfield 33, 3) := by decide +kernel
theorem dX7_lookAhead_169 : decode cX7_lookAhead 169 = .ok (.iload_n 1, 1) := by decide +kernel
theorem dX7_lookAhead_170 : decode cX7_lookAhead 170 = .ok (.aload_n 0, 1) := by decide +kernel
theorem dX7_lookAhead_171 : decode cX7_lookAhead 171 = .ok (.getfield 33, 3) := by decide +kernel
theorem dX7_lookAhead_174 : decode cX7_lookAhead 174 = .ok (.iload_n 1, 1) := by decide +kernel
theorem dX7_lookAhead_175 : decode cX7_lookAhead 175 = .ok (.iconst 1, 1) := by decide +kernel
theorem dX7_lookAhead_176 : decode cX7_lookAhead 176 = .ok (.iadd, 1) := by decide +kernel
theorem dX7_lookAhead_177 : decode cX7_lookAhead 177 = .ok (.iaload, 1) := by decide +kernel
theorem dX7_lookAhead_178 : decode cX7_lookAhead 178 = .ok (.iload_n 2, 1) := by decide +kernel
theorem dX7_lookAhead_179 : decode cX7_lookAhead 179 = .ok (.iadd, 1) := by decide +kernel
theorem dX7_lookAhead_180 : decode cX7_lookAhead 180 = .ok (.iastore, 1) := by decide +kernel
theorem dX7_lookAhead_181 : decode cX7_lookAhead 181 = .ok (.aload_n 0, 1) := by decide +kernel
theorem dX7_lookAhead_182 : decode cX7_lookAhead 182 = .ok (.getfield 36, 3) := by decide +kernel
theorem dX7_lookAhead_185 : decode cX7_lookAhead 185 = .ok (.iload_n 1, 1) := by decide +kernel
theorem dX7_lookAhead_186 : decode cX7_lookAhead 186 = .ok (.aload_n 0, 1) := by decide +kernel
theorem dX7_lookAhead_187 : decode cX7_lookAhead 187 = .ok (.getfield 36, 3) := by decide +kernel
theorem dX7_lookAhead_190 : decode cX7_lookAhead 190 = .ok (.iload_n 1, 1) := by decide +kernel
theorem dX7_lookAhead_191 : decode cX7_lookAhead 191 = .ok (.iconst 1, 1) := by decide +kernel
theorem dX7_lookAhead_192 : decode cX7_lookAhead 192 = .ok (.iadd, 1) := by decide +kernel
theorem dX7_lookAhead_193 : decode cX7_lookAhead 193 = .ok (.iaload, 1) := by decide +kernel
theorem dX7_lookAhead_194 : decode cX7_lookAhead 194 = .ok (.aload_n 0, 1) := by decide +kernel
theorem dX7_lookAhead_195 : decode cX7_lookAhead 195 = .ok (.getfield 20, 3) := by decide +kernel
theorem dX7_lookAhead_198 : decode cX7_lookAhead 198 = .ok (.iload_n 1, 1) := by decide +kernel
theorem dX7_lookAhead_199 : decode cX7_lookAhead 199 = .ok (.baload, 1) := by decide +kernel
theorem dX7_lookAhead_200 : decode cX7_lookAhead 200 = .ok (.ifCond .eq 7, 3) := by decide +kernel
theorem dX7_lookAhead_203 : decode cX7_lookAhead 203 = .ok (.iload_n 2, 1) := by decide +kernel
theorem dX7_lookAhead_204 : decode cX7_lookAhead 204 = .ok (.goto 4, 3) := by decide +kernel
theorem dX7_lookAhead_207 : decode cX7_lookAhead 207 = .ok (.iconst 0, 1) := by decide +kernel
theorem dX7_lookAhead_208 : decode cX7_lookAhead 208 = .ok (.iadd, 1) := by decide +kernel
theorem dX7_lookAhead_209 : decode cX7_lookAhead 209 = .ok (.iastore, 1) := by decide +kernel
theorem dX7_lookAhead_210 : decode cX7_lookAhead 210 = .ok (.iinc 1 (-1), 3) := by decide +kernel
theorem dX7_lookAhead_213 : decode cX7_lookAhead 213 = .ok (.goto (-156), 3) := by decide +kernel
theorem dX7_lookAhead_216 : decode cX7_lookAhead 216 = .ok (.return_, 1) := by decide +kernel
theorem dX7_tryFrom_0 : decode cX7_tryFrom 0 = .ok (.iload_n 1, 1) := by decide +kernel
theorem dX7_tryFrom_1 : decode cX7_tryFrom 1 = .ok (.ifCond .lt 25, 3) := by decide +kernel
theorem dX7_tryFrom_4 : decode cX7_tryFrom 4 = .ok (.iload_n 1, 1) := by decide +kernel
theorem dX7_tryFrom_5 : decode cX7_tryFrom 5 = .ok (.aload_n 0, 1) := by decide +kernel
theorem dX7_tryFrom_6 : decode cX7_tryFrom 6 = .ok (.getfield 45, 3) := by decide +kernel
theorem dX7_tryFrom_9 : decode cX7_tryFrom 9 = .ok (.if_icmp .gt 17, 3) := by decide +kernel
theorem dX7_tryFrom_12 : decode cX7_tryFrom 12 = .ok (.aload_n 0, 1) := by decide +kernel
theorem dX7_tryFrom_13 : decode cX7_tryFrom 13 = .ok (.iload_n 1, 1) := by decide +kernel
theorem dX7_tryFrom_14 : decode cX7_tryFrom 14 = .ok (.iload_n 2, 1) := by decide +kernel
theorem dX7_tryFrom_15 : decode cX7_tryFrom 15 = .ok (.iload_n 3, 1) := by decide +kernel
theorem dX7_tryFrom_16 : decode cX7_tryFrom 16 = .ok (.iload 4, 2) := by decide +kernel
theorem dX7_tryFrom_18 : decode cX7_tryFrom 18 = .ok (.iload 5, 2) := by decide +kernel
theorem dX7_tryFrom_20 : decode cX7_tryFrom 20 = .ok (.invokevirtual 74, 3) := by decide +kernel
theorem dX7_tryFrom_23 : decode cX7_tryFrom 23 = .ok (.ifCond .ne 4, 3) := by decide +kernel
theorem dX7_tryFrom_26 : decode cX7_tryFrom 26 = .ok (.return_, 1) := by decide +kernel
theorem dX7_tryFrom_27 : decode cX7_tryFrom 27 = .ok (.iload_n 1, 1) := by decide +kernel
theorem dX7_tryFrom_28 : decode cX7_tryFrom 28 = .ok (.aload_n 0, 1) := by decide +kernel
theorem dX7_tryFrom_29 : decode cX7_tryFrom 29 = .ok (.getfield 45, 3) := by decide +kernel
theorem dX7_tryFrom_32 : decode cX7_tryFrom 32 = .ok (.if_icmp .ne 38, 3) := by decide +kernel
theorem dX7_tryFrom_35 : decode cX7_tryFrom 35 = .ok (.aload_n 0, 1) := by decide +kernel
theorem dX7_tryFrom_36 : decode cX7_tryFrom 36 = .ok (.iload_n 3, 1) := by decide +kernel
theorem dX7_tryFrom_37 : decode cX7_tryFrom 37 = .ok (.iload 4, 2) := by decide +kernel
theorem dX7_tryFrom_39 : decode cX7_tryFrom 39 = .ok (.iand, 1) := by decide +kernel
theorem dX7_tryFrom_40 : decode cX7_tryFrom 40 = .ok (.invokestatic 62, 3) := by decide +kernel
theorem dX7_tryFrom_43 : decode cX7_tryFrom 43 = .ok (.putfield 49, 3) := by decide +kernel
theorem dX7_tryFrom_46 : decode cX7_tryFrom 46 = .ok (.aload_n 0, 1) := by decide +kernel
theorem dX7_tryFrom_47 : decode cX7_tryFrom 47 = .ok (.iload 5, 2) := by decide +kernel
theorem dX7_tryFrom_49 : decode cX7_tryFrom 49 = .ok (.putfield 52, 3) := by decide +kernel
theorem dX7_tryFrom_52 : decode cX7_tryFrom 52 = .ok (.aload_n 0, 1) := by decide +kernel
theorem dX7_tryFrom_53 : decode cX7_tryFrom 53 = .ok (.getfield 39, 3) := by decide +kernel
theorem dX7_tryFrom_56 : decode cX7_tryFrom 56 = .ok (.iconst 0, 1) := by decide +kernel
theorem dX7_tryFrom_57 : decode cX7_tryFrom 57 = .ok (.aload_n 0, 1) := by decide +kernel
theorem dX7_tryFrom_58 : decode cX7_tryFrom 58 = .ok (.getfield 42, 3) := by decide +kernel
theorem dX7_tryFrom_61 : decode cX7_tryFrom 61 = .ok (.iconst 0, 1) := by decide +kernel
theorem dX7_tryFrom_62 : decode cX7_tryFrom 62 = .ok (.aload_n 0, 1) := by decide +kernel
theorem dX7_tryFrom_63 : decode cX7_tryFrom 63 = .ok (.getfield 45, 3) := by decide +kernel
theorem dX7_tryFrom_66 : decode cX7_tryFrom 66 = .ok (.invokestatic 78, 3) := by decide +kernel
theorem dX7_tryFrom_69 : decode cX7_tryFrom 69 = .ok (.return_, 1) := by decide +kernel
theorem dX7_tryFrom_70 : decode cX7_tryFrom 70 = .ok (.aload_n 0, 1) := by decide +kernel
theorem dX7_tryFrom_71 : decode cX7_tryFrom 71 = .ok (.getfield 39, 3) := by decide +kernel
theorem dX7_tryFrom_74 : decode cX7_tryFrom 74 = .ok (.iload_n 1, 1) := by decide +kernel
theorem dX7_tryFrom_75 : decode cX7_tryFrom 75 = .ok (.iconst 0, 1) := by decide +kernel
theorem dX7_tryFrom_76 : decode cX7_tryFrom 76 = .ok (.iastore, 1) := by decide +kernel
theorem dX7_tryFrom_77 : decode cX7_tryFrom 77 = .ok (.aload_n 0, 1) := by decide +kernel
theorem dX7_tryFrom_78 : decode cX7_tryFrom 78 = .ok (.iload_n 1, 1) := by decide +kernel
theorem dX7_tryFrom_79 : decode cX7_tryFrom 79 = .ok (.iconst 1, 1) := by decide +kernel
theorem dX7_tryFrom_80 : decode cX7_tryFrom 80 = .ok (.iadd, 1) := by decide +kernel
theorem dX7_tryFrom_81 : decode cX7_tryFrom 81 = .ok (.iload_n 2, 1) := by decide +kernel
theorem dX7_tryFrom_82 : decode cX7_tryFrom 82 = .ok (.iload_n 3, 1) := by decide +kernel
theorem dX7_tryFrom_83 : decode cX7_tryFrom 83 = .ok (.iload 4, 2) := by decide +kernel
theorem dX7_tryFrom_85 : decode cX7_tryFrom 85 = .ok (.iload 5, 2) := by decide +kernel
theorem dX7_tryFrom_87 : decode cX7_tryFrom 87 = .ok (.invokevirtual 58, 3) := by decide +kernel
theorem dX7_tryFrom_90 : decode cX7_tryFrom 90 = .ok (.iconst 0, 1) := by decide +kernel
theorem dX7_tryFrom_91 : decode cX7_tryFrom 91 = .ok (.istore 6, 2) := by decide +kernel
theorem dX7_tryFrom_93 : decode cX7_tryFrom 93 = .ok (.iload 6, 2) := by decide +kernel
theorem dX7_tryFrom_95 : decode cX7_tryFrom 95 = .ok (.bipush 6, 2) := by decide +kernel
theorem dX7_tryFrom_97 : decode cX7_tryFrom 97 = .ok (.if_icmp .ge 110, 3) := by decide +kernel
theorem dX7_tryFrom_100 : decode cX7_tryFrom 100 = .ok (.iconst 1, 1) := by decide +kernel
theorem dX7_tryFrom_101 : decode cX7_tryFrom 101 = .ok (.istore 7, 2) := by decide +kernel
theorem dX7_tryFrom_103 : decode cX7_tryFrom 103 = .ok (.iload 7, 2) := by decide +kernel
theorem dX7_tryFrom_105 : decode cX7_tryFrom 105 = .ok (.aload_n 0, 1) := by decide +kernel
theorem dX7_tryFrom_106 : decode cX7_tryFrom 106 = .ok (.getfield 17, 3) := by decide +kernel
theorem dX7_tryFrom_109 : decode cX7_tryFrom 109 = .ok (.iload_n 1, 1) := by decide +kernel
theorem dX7_tryFrom_110 : decode cX7_tryFrom 110 = .ok (.iaload, 1) := by decide +kernel
theorem dX7_tryFrom_111 : decode cX7_tryFrom 111 = .ok (.if_icmp .gt 90, 3) := by decide +kernel
theorem dX7_tryFrom_114 : decode cX7_tryFrom 114 = .ok (.iconst 1, 1) := by decide +kernel
theorem dX7_tryFrom_115 : decode cX7_tryFrom 115 = .ok (.iload 7, 2) := by decide +kernel
theorem dX7_tryFrom_117 : decode cX7_tryFrom 117 = .ok (.ishl, 1) := by decide +kernel
theorem dX7_tryFrom_118 : decode cX7_tryFrom 118 = .ok (.iconst 1, 1) := by decide +kernel
theorem dX7_tryFrom_119 : decode cX7_tryFrom 119 = .ok (.isub, 1) := by decide +kernel
theorem dX7_tryFrom_120 : decode cX7_tryFrom 120 = .ok (.iload 6, 2) := by decide +kernel
theorem dX7_tryFrom_122 : decode cX7_tryFrom 122 = .ok (.ishl, 1) := by decide +kernel
theorem dX7_tryFrom_123 : decode cX7_tryFrom 123 = .ok (.istore 8, 2) := by decide +kernel
theorem dX7_tryFrom_125 : decode cX7_tryFrom 125 = .ok (.iload 8, 2) := by decide +kernel
theorem dX7_tryFrom_127 : decode cX7_tryFrom 127 = .ok (.aload_n 0, 1) := by decide +kernel
theorem dX7_tryFrom_128 : decode cX7_tryFrom 128 = .ok (.getfield 11, 3) := by decide +kernel
theorem dX7_tryFrom_131 : decode cX7_tryFrom 131 = .ok (.iload_n 1, 1) := by decide +kernel
theorem dX7_tryFrom_132 : decode cX7_tryFrom 132 = .ok (.iaload, 1) := by decide +kernel
theorem dX7_tryFrom_133 : decode cX7_tryFrom 133 = .ok (.iconst (-1), 1) := by decide +kernel
theorem dX7_tryFrom_134 : decode cX7_tryFrom 134 = .ok (.ixor, 1) := by decide +kernel
theorem dX7_tryFrom_135 : decode cX7_tryFrom 135 = .ok (.iand, 1) := by decide +kernel
theorem dX7_tryFrom_136 : decode cX7_tryFrom 136 = .ok (.ifCond .eq 6, 3) := by decide +kernel
theorem dX7_tryFrom_139 : decode cX7_tryFrom 139 = .ok (.goto 62, 3) := by decide +kernel
theorem dX7_tryFrom_142 : decode cX7_tryFrom 142 = .ok (.aload_n 0, 1) := by decide +kernel
theorem dX7_tryFrom_143 : decode cX7_tryFrom 143 = .ok (.getfield 39, 3) := by decide +kernel
theorem dX7_tryFrom_146 : decode cX7_tryFrom 146 = .ok (.iload_n 1, 1) := by decide +kernel
theorem dX7_tryFrom_147 : decode cX7_tryFrom 147 = .ok (.iload 8, 2) := by decide +kernel
theorem dX7_tryFrom_149 : decode cX7_tryFrom 149 = .ok (.iastore, 1) := by decide +kernel
theorem dX7_tryFrom_150 : decode cX7_tryFrom 150 = .ok (.aload_n 0, 1) := by decide +kernel
theorem dX7_tryFrom_151 : decode cX7_tryFrom 151 = .ok (.getfield 20, 3) := by decide +kernel
theorem dX7_tryFrom_154 : decode cX7_tryFrom 154 = .ok (.iload_n 1, 1) := by decide +kernel
theorem dX7_tryFrom_155 : decode cX7_tryFrom 155 = .ok (.baload, 1) := by decide +kernel
theorem dX7_tryFrom_156 : decode cX7_tryFrom 156 = .ok (.ifCond .eq 11, 3) := by decide +kernel
theorem dX7_tryFrom_159 : decode cX7_tryFrom 159 = .ok (.iload 4, 2) := by decide +kernel
theorem dX7_tryFrom_161 : decode cX7_tryFrom 161 = .ok (.iload 8, 2) := by decide +kernel
theorem dX7_tryFrom_163 : decode cX7_tryFrom 163 = .ok (.ior, 1) := by decide +kernel
theorem dX7_tryFrom_164 : decode cX7_tryFrom 164 = .ok (.goto 5, 3) := by decide +kernel
theorem dX7_tryFrom_167 : decode cX7_tryFrom 167 = .ok (.iload 4, 2) := by decide +kernel
theorem dX7_tryFrom_169 : decode cX7_tryFrom 169 = .ok (.istore 9, 2) := by decide +kernel
theorem dX7_tryFrom_171 : decode cX7_tryFrom 171 = .ok (.aload_n 0, 1) := by decide +kernel
theorem dX7_tryFrom_172 : decode cX7_tryFrom 172 = .ok (.iload_n 1, 1) := by decide +kernel
theorem dX7_tryFrom_173 : decode cX7_tryFrom 173 = .ok (.iconst 1, 1) := by decide +kernel
theorem dX7_tryFrom_174 : decode cX7_tryFrom 174 = .ok (.iadd, 1) := by decide +kernel
theorem dX7_tryFrom_175 : decode cX7_tryFrom 175 = .ok (.iload_n 2, 1) := by decide +kernel
theorem dX7_tryFrom_176 : decode cX7_tryFrom 176 = .ok (.iload 8, 2) := by decide +kernel
theorem dX7_tryFrom_178 : decode cX7_tryFrom 178 = .ok (.ior, 1) := by decide +kernel
theorem dX7_tryFrom_179 : decode cX7_tryFrom 179 = .ok (.iload_n 3, 1) := by decide +kernel
theorem dX7_tryFrom_180 : decode cX7_tryFrom 180 = .ok (.iload_n 2, 1) := by decide +kernel
theorem dX7_tryFrom_181 : decode cX7_tryFrom 181 = .ok (.iload 8, 2) := by decide +kernel
theorem dX7_tryFrom_183 : decode cX7_tryFrom 183 = .ok (.iand, 1) := by decide +kernel
theorem dX7_tryFrom_184 : decode cX7_tryFrom 184 = .ok (.ior, 1) := by decide +kernel
theorem dX7_tryFrom_185 : decode cX7_tryFrom 185 = .ok (.iload 9, 2) := by decide +kernel
theorem dX7_tryFrom_187 : decode cX7_tryFrom 187 = .ok (.iload 5, 2) := by decide +kernel
theorem dX7_tryFrom_189 : decode cX7_tryFrom 189 = .ok (.iload 7, 2) := by decide +kernel
theorem dX7_tryFrom_191 : decode cX7_tryFrom 191 = .ok (.iadd, 1) := by decide +kernel
theorem dX7_tryFrom_192 : decode cX7_tryFrom 192 = .ok (.invokevirtual 58, 3) := by decide +kernel
theorem dX7_tryFrom_195 : decode cX7_tryFrom 195 = .ok (.iinc 7 1, 3) := by decide +kernel
theorem dX7_tryFrom_198 : decode cX7_tryFrom 198 = .ok (.goto (-95), 3) := by decide +kernel
theorem dX7_tryFrom_201 : decode cX7_tryFrom 201 = .ok (.iinc 6 1, 3) := by decide +kernel
theorem dX7_tryFrom_204 : decode cX7_tryFrom 204 = .ok (.goto (-111), 3) := by decide +kernel
theorem dX7_tryFrom_207 : decode cX7_tryFrom 207 = .ok (.return_, 1) := by decide +kernel
theorem dX7_canBeBetter_0 : decode cX7_canBeBetter 0 = .ok (.iload_n 3, 1) := by decide +kernel
theorem dX7_canBeBetter_1 : decode cX7_canBeBetter 1 = .ok (.iload_n 2, 1) := by decide +kernel
theorem dX7_canBeBetter_2 : decode cX7_canBeBetter 2 = .ok (.aload_n 0, 1) := by decide +kernel
theorem dX7_canBeBetter_3 : decode cX7_canBeBetter 3 = .ok (.getfield 24, 3) := by decide +kernel
theorem dX7_canBeBetter_6 : decode cX7_canBeBetter 6 = .ok (.iload_n 1, 1) := by decide +kernel
theorem dX7_canBeBetter_7 : decode cX7_canBeBetter 7 = .ok (.iaload, 1) := by decide +kernel
theorem dX7_canBeBetter_8 : decode cX7_canBeBetter 8 = .ok (.iand, 1) := by decide +kernel
theorem dX7_canBeBetter_9 : decode cX7_canBeBetter 9 = .ok (.ior, 1) := by decide +kernel
theorem dX7_canBeBetter_10 : decode cX7_canBeBetter 10 = .ok (.aload_n 0, 1) := by decide +kernel
theorem dX7_canBeBetter_11 : decode cX7_canBeBetter 11 = .ok (.getfield 27, 3) := by decide +kernel
theorem dX7_canBeBetter_14 : decode cX7_canBeBetter 14 = .ok (.iload_n 1, 1) := by decide +kernel
theorem dX7_canBeBetter_15 : decode cX7_canBeBetter 15 = .ok (.iaload, 1) := by decide +kernel
theorem dX7_canBeBetter_16 : decode cX7_canBeBetter 16 = .ok (.ior, 1) := by decide +kernel
theorem dX7_canBeBetter_17 : decode cX7_canBeBetter 17 = .ok (.iload 4, 2) := by decide +kernel
theorem dX7_canBeBetter_19 : decode cX7_canBeBetter 19 = .ok (.aload_n 0, 1) := by decide +kernel
theorem dX7_canBeBetter_20 : decode cX7_canBeBetter 20 = .ok (.getfield 30, 3) := by decide +kernel
theorem dX7_canBeBetter_23 : decode cX7_canBeBetter 23 = .ok (.iload_n 1, 1) := by decide +kernel
theorem dX7_canBeBetter_24 : decode cX7_canBeBetter 24 = .ok (.iaload, 1) := by decide +kernel
theorem dX7_canBeBetter_25 : decode cX7_canBeBetter 25 = .ok (.ior, 1) := by decide +kernel
theorem dX7_canBeBetter_26 : decode cX7_canBeBetter 26 = .ok (.iand, 1) := by decide +kernel
theorem dX7_canBeBetter_27 : decode cX7_canBeBetter 27 = .ok (.istore 6, 2) := by decide +kernel
theorem dX7_canBeBetter_29 : decode cX7_canBeBetter 29 = .ok (.iload_n 2, 1) := by decide +kernel
theorem dX7_canBeBetter_30 : decode cX7_canBeBetter 30 = .ok (.iload 6, 2) := by decide +kernel
theorem dX7_canBeBetter_32 : decode cX7_canBeBetter 32 = .ok (.iand, 1) := by decide +kernel
theorem dX7_canBeBetter_33 : decode cX7_canBeBetter 33 = .ok (.invokestatic 62, 3) := by decide +kernel
theorem dX7_canBeBetter_36 : decode cX7_canBeBetter 36 = .ok (.iload_n 3, 1) := by decide +kernel
theorem dX7_canBeBetter_37 : decode cX7_canBeBetter 37 = .ok (.iload 6, 2) := by decide +kernel
theorem dX7_canBeBetter_39 : decode cX7_canBeBetter 39 = .ok (.iand, 1) := by decide +kernel
theorem dX7_canBeBetter_40 : decode cX7_canBeBetter 40 = .ok (.invokestatic 62, 3) := by decide +kernel
theorem dX7_canBeBetter_43 : decode cX7_canBeBetter 43 = .ok (.iadd, 1) := by decide +kernel
theorem dX7_canBeBetter_44 : decode cX7_canBeBetter 44 = .ok (.istore 7, 2) := by decide +kernel
theorem dX7_canBeBetter_46 : decode cX7_canBeBetter 46 = .ok (.iload 6, 2) := by decide +kernel
theorem dX7_canBeBetter_48 : decode cX7_canBeBetter 48 = .ok (.invokestatic 62, 3) := by decide +kernel
theorem dX7_canBeBetter_51 : decode cX7_canBeBetter 51 = .ok (.iload 7, 2) := by decide +kernel
theorem dX7_canBeBetter_53 : decode cX7_canBeBetter 53 = .ok (.aload_n 0, 1) := by decide +kernel
theorem dX7_canBeBetter_54 : decode cX7_canBeBetter 54 = .ok (.getfield 33, 3) := by decide +kernel
theorem dX7_canBeBetter_57 : decode cX7_canBeBetter 57 = .ok (.iload_n 1, 1) := by decide +kernel
theorem dX7_canBeBetter_58 : decode cX7_canBeBetter 58 = .ok (.iaload, 1) := by decide +kernel
theorem dX7_canBeBetter_59 : decode cX7_canBeBetter 59 = .ok (.iadd, 1) := by decide +kernel
theorem dX7_canBeBetter_60 : decode cX7_canBeBetter 60 = .ok (.iconst 2, 1) := by decide +kernel
theorem dX7_canBeBetter_61 : decode cX7_canBeBetter 61 = .ok (.idiv, 1) := by decide +kernel
theorem dX7_canBeBetter_62 : decode cX7_canBeBetter 62 = .ok (.invokestatic 68, 3) := by decide +kernel
theorem dX7_canBeBetter_65 : decode cX7_canBeBetter 65 = .ok (.istore 8, 2) := by decide +kernel
theorem dX7_canBeBetter_67 : decode cX7_canBeBetter 67 = .ok (.iload 8, 2) := by decide +kernel
theorem dX7_canBeBetter_69 : decode cX7_canBeBetter 69 = .ok (.iload 4, 2) := by decide +kernel
theorem dX7_canBeBetter_71 : decode cX7_canBeBetter 71 = .ok (.iload 6, 2) := by decide +kernel
theorem dX7_canBeBetter_73 : decode cX7_canBeBetter 73 = .ok (.iand, 1) := by decide +kernel
theorem dX7_canBeBetter_74 : decode cX7_canBeBetter 74 = .ok (.invokestatic 62, 3) := by decide +kernel
theorem dX7_canBeBetter_77 : decode cX7_canBeBetter 77 = .ok (.aload_n 0, 1) := by decide +kernel
theorem dX7_canBeBetter_78 : decode cX7_canBeBetter 78 = .ok (.getfield 36, 3) := by decide +kernel
theorem dX7_canBeBetter_81 : decode cX7_canBeBetter 81 = .ok (.iload_n 1, 1) := by decide +kernel
theorem dX7_canBeBetter_82 : decode cX7_canBeBetter 82 = .ok (.iaload, 1) := by decide +kernel
theorem dX7_canBeBetter_83 : decode cX7_canBeBetter 83 = .ok (.iadd, 1) := by decide +kernel
theorem dX7_canBeBetter_84 : decode cX7_canBeBetter 84 = .ok (.invokestatic 68, 3) := by decide +kernel
theorem dX7_canBeBetter_87 : decode cX7_canBeBetter 87 = .ok (.istore 8, 2) := by decide +kernel
theorem dX7_canBeBetter_89 : decode cX7_canBeBetter 89 = .ok (.iload 8, 2) := by decide +kernel
theorem dX7_canBeBetter_91 : decode cX7_canBeBetter 91 = .ok (.aload_n 0, 1) := by decide +kernel
theorem dX7_canBeBetter_92 : decode cX7_canBeBetter 92 = .ok (.getfield 49, 3) := by decide +kernel
theorem dX7_canBeBetter_95 : decode cX7_canBeBetter 95 = .ok (.if_icmp .eq 18, 3) := by decide +kernel
theorem dX7_canBeBetter_98 : decode cX7_canBeBetter 98 = .ok (.iload 8, 2) := by decide +kernel
theorem dX7_canBeBetter_100 : decode cX7_canBeBetter 100 = .ok (.aload_n 0, 1) := by decide +kernel
theorem dX7_canBeBetter_101 : decode cX7_canBeBetter 101 = .ok (.getfield 49, 3) := by decide +kernel
theorem dX7_canBeBetter_104 : decode cX7_canBeBetter 104 = .ok (.if_icmp .le 7, 3) := by decide +kernel
theorem dX7_canBeBetter_107 : decode cX7_canBeBetter 107 = .ok (.iconst 1, 1) := by decide +kernel
theorem dX7_canBeBetter_108 : decode cX7_canBeBetter 108 = .ok (.goto 4, 3) := by decide +kernel
theorem dX7_canBeBetter_111 : decode cX7_canBeBetter 111 = .ok (.iconst 0, 1) := by decide +kernel
theorem dX7_canBeBetter_112 : decode cX7_canBeBetter 112 = .ok (.ireturn, 1) := by decide +kernel
theorem dX7_canBeBetter_113 : decode cX7_canBeBetter 113 = .ok (.iload 5, 2) := by decide +kernel
theorem dX7_canBeBetter_115 : decode cX7_canBeBetter 115 = .ok (.iconst 0, 1) := by decide +kernel
theorem dX7_canBeBetter_116 : decode cX7_canBeBetter 116 = .ok (.iconst 2, 1) := by decide +kernel
theorem dX7_canBeBetter_117 : decode cX7_canBeBetter 117 = .ok (.aload_n 0, 1) := by decide +kernel
theorem dX7_canBeBetter_118 : decode cX7_canBeBetter 118 = .ok (.getfield 49, 3) := by decide +kernel
theorem dX7_canBeBetter_121 : decode cX7_canBeBetter 121 = .ok (.imul, 1) := by decide +kernel
theorem dX7_canBeBetter_122 : decode cX7_canBeBetter 122 = .ok (.iload 7, 2) := by decide +kernel
theorem dX7_canBeBetter_124 : decode cX7_canBeBetter 124 = .ok (.isub, 1) := by decide +kernel
theorem dX7_canBeBetter_125 : decode cX7_canBeBetter 125 = .ok (.invokestatic 84, 3) := by decide +kernel
theorem dX7_canBeBetter_128 : decode cX7_canBeBetter 128 = .ok (.iadd, 1) := by decide +kernel
theorem dX7_canBeBetter_129 : decode cX7_canBeBetter 129 = .ok (.aload_n 0, 1) := by decide +kernel
theorem dX7_canBeBetter_130 : decode cX7_canBeBetter 130 = .ok (.getfield 52, 3) := by decide +kernel
theorem dX7_canBeBetter_133 : decode cX7_canBeBetter 133 = .ok (.if_icmp .ge 7, 3) := by decide +kernel
theorem dX7_canBeBetter_136 : decode cX7_canBeBetter 136 = .ok (.iconst 1, 1) := by decide +kernel
theorem dX7_canBeBetter_137 : decode cX7_canBeBetter 137 = .ok (.goto 4, 3) := by decide +kernel
theorem dX7_canBeBetter_140 : decode cX7_canBeBetter 140 = .ok (.iconst 0, 1) := by decide +kernel
theorem dX7_canBeBetter_141 : decode cX7_canBeBetter 141 = .ok (.ireturn, 1) := by decide +kernel
theorem dX8_length_0 : decode cX8_length 0 = .ok (.aload_n 0, 1) := by decide +kernel
theorem dX8_length_1 : decode cX8_length 1 = .ok (.getfield 15, 3) := by decide +kernel
theorem dX8_length_4 : decode cX8_length 4 = .ok (.ireturn, 1) := by decide +kernel
theorem dX8_hasRoomFor_0 : decode cX8_hasRoomFor 0 = .ok (.aload_n 0, 1) := by decide +kernel
theorem dX8_hasRoomFor_1 : decode cX8_hasRoomFor 1 = .ok (.getfield 15, 3) := by decide +kernel
theorem dX8_hasRoomFor_4 : decode cX8_hasRoomFor 4 = .ok (.iload_n 1, 1) := by decide +kernel
theorem dX8_hasRoomFor_5 : decode cX8_hasRoomFor 5 = .ok (.iadd, 1) := by decide +kernel
theorem dX8_hasRoomFor_6 : decode cX8_hasRoomFor 6 = .ok (.sipush 2000, 3) := by decide +kernel
theorem dX8_hasRoomFor_9 : decode cX8_hasRoomFor 9 = .ok (.if_icmp .gt 7, 3) := by decide +kernel
theorem dX8_hasRoomFor_12 : decode cX8_hasRoomFor 12 = .ok (.iconst 1, 1) := by decide +kernel
theorem dX8_hasRoomFor_13 : decode cX8_hasRoomFor 13 = .ok (.goto 4, 3) := by decide +kernel
theorem dX8_hasRoomFor_16 : decode cX8_hasRoomFor 16 = .ok (.iconst 0, 1) := by decide +kernel
theorem dX8_hasRoomFor_17 : decode cX8_hasRoomFor 17 = .ok (.ireturn, 1) := by decide +kernel
theorem dX8_append_0 : decode cX8_append 0 = .ok (.bipush 24, 2) := by decide +kernel
theorem dX8_append_2 : decode cX8_append 2 = .ok (.istore_n 2, 1) := by decide +kernel
theorem dX8_append_3 : decode cX8_append 3 = .ok (.iload_n 2, 1) := by decide +kernel
theorem dX8_append_4 : decode cX8_append 4 = .ok (.ifCond .lt 42, 3) := by decide +kernel
theorem dX8_append_7 : decode cX8_append 7 = .ok (.aload_n 0, 1) := by decide +kernel
theorem dX8_append_8 : decode cX8_append 8 = .ok (.getfield 15, 3) := by decide +kernel
theorem dX8_append_11 : decode cX8_append 11 = .ok (.sipush 2000, 3) := by decide +kernel
theorem dX8_append_14 : decode cX8_append 14 = .ok (.if_icmp .ge 26, 3) := by decide +kernel
theorem dX8_append_17 : decode cX8_append 17 = .ok (.aload_n 0, 1) := by decide +kernel
theorem dX8_append_18 : decode cX8_append 18 = .ok (.getfield 11, 3) := by decide +kernel
theorem dX8_append_21 : decode cX8_append 21 = .ok (.aload_n 0, 1) := by decide +kernel
theorem dX8_append_22 : decode cX8_append 22 = .ok (.getfield 15, 3) := by decide +kernel
theorem dX8_append_25 : decode cX8_append 25 = .ok (.iload_n 1, 1) := by decide +kernel
theorem dX8_append_26 : decode cX8_append 26 = .ok (.iload_n 2, 1) := by decide +kernel
theorem dX8_append_27 : decode cX8_append 27 = .ok (.iushr, 1) := by decide +kernel
theorem dX8_append_28 : decode cX8_append 28 = .ok (.i2b, 1) := by decide +kernel
theorem dX8_append_29 : decode cX8_append 29 = .ok (.bastore, 1) := by decide +kernel
theorem dX8_append_30 : decode cX8_append 30 = .ok (.aload_n 0, 1) := by decide +kernel
theorem dX8_append_31 : decode cX8_append 31 = .ok (.dup, 1) := by decide +kernel
theorem dX8_append_32 : decode cX8_append 32 = .ok (.getfield 15, 3) := by decide +kernel
theorem dX8_append_35 : decode cX8_append 35 = .ok (.iconst 1, 1) := by decide +kernel
theorem dX8_append_36 : decode cX8_append 36 = .ok (.iadd, 1) := by decide +kernel
theorem dX8_append_37 : decode cX8_append 37 = .ok (.putfield 15, 3) := by decide +kernel
theorem dX8_append_40 : decode cX8_append 40 = .ok (.iinc 2 (-8), 3) := by decide +kernel
theorem dX8_append_43 : decode cX8_append 43 = .ok (.goto (-40), 3) := by decide +kernel
theorem dX8_append_46 : decode cX8_append 46 = .ok (.return_, 1) := by decide +kernel
theorem dX8_cutTo_0 : decode cX8_cutTo 0 = .ok (.iload_n 1, 1) := by decide +kernel
theorem dX8_cutTo_1 : decode cX8_cutTo 1 = .ok (.ifCond .lt 16, 3) := by decide +kernel
theorem dX8_cutTo_4 : decode cX8_cutTo 4 = .ok (.iload_n 1, 1) := by decide +kernel
theorem dX8_cutTo_5 : decode cX8_cutTo 5 = .ok (.aload_n 0, 1) := by decide +kernel
theorem dX8_cutTo_6 : decode cX8_cutTo 6 = .ok (.getfield 15, 3) := by decide +kernel
theorem dX8_cutTo_9 : decode cX8_cutTo 9 = .ok (.if_icmp .gt 8, 3) := by decide +kernel
theorem dX8_cutTo_12 : decode cX8_cutTo 12 = .ok (.aload_n 0, 1) := by decide +kernel
theorem dX8_cutTo_13 : decode cX8_cutTo 13 = .ok (.iload_n 1, 1) := by decide +kernel
theorem dX8_cutTo_14 : decode cX8_cutTo 14 = .ok (.putfield 15, 3) := by decide +kernel
theorem dX8_cutTo_17 : decode cX8_cutTo 17 = .ok (.return_, 1) := by decide +kernel
theorem dX8_byteAt_0 : decode cX8_byteAt 0 = .ok (.iload_n 1, 1) := by decide +kernel
theorem dX8_byteAt_1 : decode cX8_byteAt 1 = .ok (.ifCond .lt 24, 3) := by decide +kernel
theorem dX8_byteAt_4 : decode cX8_byteAt 4 = .ok (.iload_n 1, 1) := by decide +kernel
theorem dX8_byteAt_5 : decode cX8_byteAt 5 = .ok (.aload_n 0, 1) := by decide +kernel
theorem dX8_byteAt_6 : decode cX8_byteAt 6 = .ok (.getfield 15, 3) := by decide +kernel
theorem dX8_byteAt_9 : decode cX8_byteAt 9 = .ok (.if_icmp .ge 16, 3) := by decide +kernel
theorem dX8_byteAt_12 : decode cX8_byteAt 12 = .ok (.aload_n 0, 1) := by decide +kernel
theorem dX8_byteAt_13 : decode cX8_byteAt 13 = .ok (.getfield 11, 3) := by decide +kernel
theorem dX8_byteAt_16 : decode cX8_byteAt 16 = .ok (.iload_n 1, 1) := by decide +kernel
theorem dX8_byteAt_17 : decode cX8_byteAt 17 = .ok (.baload, 1) := by decide +kernel
theorem dX8_byteAt_18 : decode cX8_byteAt 18 = .ok (.sipush 255, 3) := by decide +kernel
theorem dX8_byteAt_21 : decode cX8_byteAt 21 = .ok (.iand, 1) := by decide +kernel
theorem dX8_byteAt_22 : decode cX8_byteAt 22 = .ok (.goto 4, 3) := by decide +kernel
theorem dX8_byteAt_25 : decode cX8_byteAt 25 = .ok (.iconst (-1), 1) := by decide +kernel
theorem dX8_byteAt_26 : decode cX8_byteAt 26 = .ok (.ireturn, 1) := by decide +kernel
theorem dX9_size_0 : decode cX9_size 0 = .ok (.aload_n 0, 1) := by decide +kernel
theorem dX9_size_1 : decode cX9_size 1 = .ok (.getfield 18, 3) := by decide +kernel
theorem dX9_size_4 : decode cX9_size 4 = .ok (.ireturn, 1) := by decide +kernel
theorem dX9_stepCount_0 : decode cX9_stepCount 0 = .ok (.aload_n 0, 1) := by decide +kernel
theorem dX9_stepCount_1 : decode cX9_stepCount 1 = .ok (.getfield 28, 3) := by decide +kernel
theorem dX9_stepCount_4 : decode cX9_stepCount 4 = .ok (.ireturn, 1) := by decide +kernel
theorem dX9_isVolunteer_0 : decode cX9_isVolunteer 0 = .ok (.iload_n 1, 1) := by decide +kernel
theorem dX9_isVolunteer_1 : decode cX9_isVolunteer 1 = .ok (.ifCond .lt 15, 3) := by decide +kernel
theorem dX9_isVolunteer_4 : decode cX9_isVolunteer 4 = .ok (.iload_n 1, 1) := by decide +kernel
theorem dX9_isVolunteer_5 : decode cX9_isVolunteer 5 = .ok (.aload_n 0, 1) := by decide +kernel
theorem dX9_isVolunteer_6 : decode cX9_isVolunteer 6 = .ok (.getfield 18, 3) := by decide +kernel
theorem dX9_isVolunteer_9 : decode cX9_isVolunteer 9 = .ok (.if_icmp .ge 7, 3) := by decide +kernel
theorem dX9_isVolunteer_12 : decode cX9_isVolunteer 12 = .ok (.iconst 1, 1) := by decide +kernel
theorem dX9_isVolunteer_13 : decode cX9_isVolunteer 13 = .ok (.goto 4, 3) := by decide +kernel
theorem dX9_isVolunteer_16 : decode cX9_isVolunteer 16 = .ok (.iconst 0, 1) := by decide +kernel
theorem dX9_isVolunteer_17 : decode cX9_isVolunteer 17 = .ok (.ireturn, 1) := by decide +kernel
theorem dX9_isStep_0 : decode cX9_isStep 0 = .ok (.iload_n 1, 1) := by decide +kernel
theorem dX9_isStep_1 : decode cX9_isStep 1 = .ok (.ifCond .lt 15, 3) := by decide +kernel
theorem dX9_isStep_4 : decode cX9_isStep 4 = .ok (.iload_n 1, 1) := by decide +kernel
theorem dX9_isStep_5 : decode cX9_isStep 5 = .ok (.aload_n 0, 1) := by decide +kernel
theorem dX9_isStep_6 : decode cX9_isStep 6 = .ok (.getfield 28, 3) := by decide +kernel
theorem dX9_isStep_9 : decode cX9_isStep 9 = .ok (.if_icmp .ge 7, 3) := by decide +kernel
theorem dX9_isStep_12 : decode cX9_isStep 12 = .ok (.iconst 1, 1) := by decide +kernel
theorem dX9_isStep_13 : decode cX9_isStep 13 = .ok (.goto 4, 3) := by decide +kernel
theorem dX9_isStep_16 : decode cX9_isStep 16 = .ok (.iconst 0, 1) := by decide +kernel
theorem dX9_isStep_17 : decode cX9_isStep 17 = .ok (.ireturn, 1) := by decide +kernel
theorem dX9_addVolunteer_0 : decode cX9_addVolunteer 0 = .ok (.aload_n 0, 1) := by decide +kernel
theorem dX9_addVolunteer_1 : decode cX9_addVolunteer 1 = .ok (.getfield 18, 3) := by decide +kernel
theorem dX9_addVolunteer_4 : decode cX9_addVolunteer 4 = .ok (.bipush 8, 2) := by decide +kernel
theorem dX9_addVolunteer_6 : decode cX9_addVolunteer 6 = .ok (.if_icmp .lt 5, 3) := by decide +kernel
theorem dX9_addVolunteer_9 : decode cX9_addVolunteer 9 = .ok (.iconst (-1), 1) := by decide +kernel
theorem dX9_addVolunteer_10 : decode cX9_addVolunteer 10 = .ok (.ireturn, 1) := by decide +kernel
theorem dX9_addVolunteer_11 : decode cX9_addVolunteer 11 = .ok (.aload_n 0, 1) := by decide +kernel
theorem dX9_addVolunteer_12 : decode cX9_addVolunteer 12 = .ok (.getfield 11, 3) := by decide +kernel
theorem dX9_addVolunteer_15 : decode cX9_addVolunteer 15 = .ok (.aload_n 0, 1) := by decide +kernel
theorem dX9_addVolunteer_16 : decode cX9_addVolunteer 16 = .ok (.getfield 18, 3) := by decide +kernel
theorem dX9_addVolunteer_19 : decode cX9_addVolunteer 19 = .ok (.iload_n 1, 1) := by decide +kernel
theorem dX9_addVolunteer_20 : decode cX9_addVolunteer 20 = .ok (.iastore, 1) := by decide +kernel
theorem dX9_addVolunteer_21 : decode cX9_addVolunteer 21 = .ok (.aload_n 0, 1) := by decide +kernel
theorem dX9_addVolunteer_22 : decode cX9_addVolunteer 22 = .ok (.dup, 1) := by decide +kernel
theorem dX9_addVolunteer_23 : decode cX9_addVolunteer 23 = .ok (.getfield 18, 3) := by decide +kernel
theorem dX9_addVolunteer_26 : decode cX9_addVolunteer 26 = .ok (.iconst 1, 1) := by decide +kernel
theorem dX9_addVolunteer_27 : decode cX9_addVolunteer 27 = .ok (.iadd, 1) := by decide +kernel
theorem dX9_addVolunteer_28 : decode cX9_addVolunteer 28 = .ok (.putfield 18, 3) := by decide +kernel
theorem dX9_addVolunteer_31 : decode cX9_addVolunteer 31 = .ok (.aload_n 0, 1) := by decide +kernel
theorem dX9_addVolunteer_32 : decode cX9_addVolunteer 32 = .ok (.getfield 18, 3) := by decide +kernel
theorem dX9_addVolunteer_35 : decode cX9_addVolunteer 35 = .ok (.iconst 1, 1) := by decide +kernel
theorem dX9_addVolunteer_36 : decode cX9_addVolunteer 36 = .ok (.isub, 1) := by decide +kernel
theorem dX9_addVolunteer_37 : decode cX9_addVolunteer 37 = .ok (.ireturn, 1) := by decide +kernel
theorem dX9_addStep_0 : decode cX9_addStep 0 = .ok (.aload_n 0, 1) := by decide +kernel
theorem dX9_addStep_1 : decode cX9_addStep 1 = .ok (.getfield 28, 3) := by decide +kernel
theorem dX9_addStep_4 : decode cX9_addStep 4 = .ok (.bipush 8, 2) := by decide +kernel
theorem dX9_addStep_6 : decode cX9_addStep 6 = .ok (.if_icmp .lt 5, 3) := by decide +kernel
theorem dX9_addStep_9 : decode cX9_addStep 9 = .ok (.iconst (-1), 1) := by decide +kernel
theorem dX9_addStep_10 : decode cX9_addStep 10 = .ok (.ireturn, 1) := by decide +kernel
theorem dX9_addStep_11 : decode cX9_addStep 11 = .ok (.aload_n 0, 1) := by decide +kernel
theorem dX9_addStep_12 : decode cX9_addStep 12 = .ok (.getfield 22, 3) := by decide +kernel
theorem dX9_addStep_15 : decode cX9_addStep 15 = .ok (.aload_n 0, 1) := by decide +kernel
theorem dX9_addStep_16 : decode cX9_addStep 16 = .ok (.getfield 28, 3) := by decide +kernel
theorem dX9_addStep_19 : decode cX9_addStep 19 = .ok (.iload_n 1, 1) := by decide +kernel
theorem dX9_addStep_20 : decode cX9_addStep 20 = .ok (.iastore, 1) := by decide +kernel
theorem dX9_addStep_21 : decode cX9_addStep 21 = .ok (.aload_n 0, 1) := by decide +kernel
theorem dX9_addStep_22 : decode cX9_addStep 22 = .ok (.getfield 25, 3) := by decide +kernel
theorem dX9_addStep_25 : decode cX9_addStep 25 = .ok (.aload_n 0, 1) := by decide +kernel
theorem dX9_addStep_26 : decode cX9_addStep 26 = .ok (.getfield 28, 3) := by decide +kernel
theorem dX9_addStep_29 : decode cX9_addStep 29 = .ok (.iload_n 2, 1) := by decide +kernel
theorem dX9_addStep_30 : decode cX9_addStep 30 = .ok (.iastore, 1) := by decide +kernel
theorem dX9_addStep_31 : decode cX9_addStep 31 = .ok (.aload_n 0, 1) := by decide +kernel
theorem dX9_addStep_32 : decode cX9_addStep 32 = .ok (.dup, 1) := by decide +kernel
theorem dX9_addStep_33 : decode cX9_addStep 33 = .ok (.getfield 28, 3) := by decide +kernel
theorem dX9_addStep_36 : decode cX9_addStep 36 = .ok (.iconst 1, 1) := by decide +kernel
theorem dX9_addStep_37 : decode cX9_addStep 37 = .ok (.iadd, 1) := by decide +kernel
theorem dX9_addStep_38 : decode cX9_addStep 38 = .ok (.putfield 28, 3) := by decide +kernel
theorem dX9_addStep_41 : decode cX9_addStep 41 = .ok (.aload_n 0, 1) := by decide +kernel
theorem dX9_addStep_42 : decode cX9_addStep 42 = .ok (.getfield 28, 3) := by decide +kernel
theorem dX9_addStep_45 : decode cX9_addStep 45 = .ok (.iconst 1, 1) := by decide +kernel
theorem dX9_addStep_46 : decode cX9_addStep 46 = .ok (.isub, 1) := by decide +kernel
theorem dX9_addStep_47 : decode cX9_addStep 47 = .ok (.ireturn, 1) := by decide +kernel
theorem dX9_rankOf_0 : decode cX9_rankOf 0 = .ok (.aload_n 0, 1) := by decide +kernel
theorem dX9_rankOf_1 : decode cX9_rankOf 1 = .ok (.iload_n 1, 1) := by decide +kernel
theorem dX9_rankOf_2 : decode cX9_rankOf 2 = .ok (.invokevirtual 38, 3) := by decide +kernel
theorem dX9_rankOf_5 : decode cX9_rankOf 5 = .ok (.ifCond .eq 12, 3) := by decide +kernel
theorem dX9_rankOf_8 : decode cX9_rankOf 8 = .ok (.aload_n 0, 1) := by decide +kernel
theorem dX9_rankOf_9 : decode cX9_rankOf 9 = .ok (.getfield 11, 3) := by decide +kernel
theorem dX9_rankOf_12 : decode cX9_rankOf 12 = .ok (.iload_n 1, 1) := by decide +kernel
theorem dX9_rankOf_13 : decode cX9_rankOf 13 = .ok (.iaload, 1) := by decide +kernel
theorem dX9_rankOf_14 : decode cX9_rankOf 14 = .ok (.goto 4, 3) := by decide +kernel
theorem dX9_rankOf_17 : decode cX9_rankOf 17 = .ok (.iconst (-1), 1) := by decide +kernel
theorem dX9_rankOf_18 : decode cX9_rankOf 18 = .ok (.ireturn, 1) := by decide +kernel
theorem dX9_teach_0 : decode cX9_teach 0 = .ok (.aload_n 0, 1) := by decide +kernel
theorem dX9_teach_1 : decode cX9_teach 1 = .ok (.iload_n 1, 1) := by decide +kernel
theorem dX9_teach_2 : decode cX9_teach 2 = .ok (.invokevirtual 38, 3) := by decide +kernel
theorem dX9_teach_5 : decode cX9_teach 5 = .ok (.ifCond .eq 11, 3) := by decide +kernel
theorem dX9_teach_8 : decode cX9_teach 8 = .ok (.aload_n 0, 1) := by decide +kernel
theorem dX9_teach_9 : decode cX9_teach 9 = .ok (.iload_n 2, 1) := by decide +kernel
theorem dX9_teach_10 : decode cX9_teach 10 = .ok (.invokevirtual 42, 3) := by decide +kernel
theorem dX9_teach_13 : decode cX9_teach 13 = .ok (.ifCond .ne 5, 3) := by decide +kernel
theorem dX9_teach_16 : decode cX9_teach 16 = .ok (.iconst 0, 1) := by decide +kernel
theorem dX9_teach_17 : decode cX9_teach 17 = .ok (.ireturn, 1) := by decide +kernel
theorem dX9_teach_18 : decode cX9_teach 18 = .ok (.aload_n 0, 1) := by decide +kernel
theorem dX9_teach_19 : decode cX9_teach 19 = .ok (.getfield 22, 3) := by decide +kernel
theorem dX9_teach_22 : decode cX9_teach 22 = .ok (.iload_n 2, 1) := by decide +kernel
theorem dX9_teach_23 : decode cX9_teach 23 = .ok (.iaload, 1) := by decide +kernel
theorem dX9_teach_24 : decode cX9_teach 24 = .ok (.iconst (-1), 1) := by decide +kernel
theorem dX9_teach_25 : decode cX9_teach 25 = .ok (.if_icmp .eq 20, 3) := by decide +kernel
theorem dX9_teach_28 : decode cX9_teach 28 = .ok (.aload_n 0, 1) := by decide +kernel
theorem dX9_teach_29 : decode cX9_teach 29 = .ok (.iload_n 1, 1) := by decide +kernel
theorem dX9_teach_30 : decode cX9_teach 30 = .ok (.aload_n 0, 1) := by decide +kernel
theorem dX9_teach_31 : decode cX9_teach 31 = .ok (.getfield 22, 3) := by decide +kernel
theorem dX9_teach_34 : decode cX9_teach 34 = .ok (.iload_n 2, 1) := by decide +kernel
theorem dX9_teach_35 : decode cX9_teach 35 = .ok (.iaload, 1) := by decide +kernel
theorem dX9_teach_36 : decode cX9_teach 36 = .ok (.iload_n 3, 1) := by decide +kernel
theorem dX9_teach_37 : decode cX9_teach 37 = .ok (.invokevirtual 45, 3) := by decide +kernel
theorem dX9_teach_40 : decode cX9_teach 40 = .ok (.ifCond .ne 5, 3) := by decide +kernel
theorem dX9_teach_43 : decode cX9_teach 43 = .ok (.iconst 0, 1) := by decide +kernel
theorem dX9_teach_44 : decode cX9_teach 44 = .ok (.ireturn, 1) := by decide +kernel
theorem dX9_teach_45 : decode cX9_teach 45 = .ok (.iload_n 3, 1) := by decide +kernel
theorem dX9_teach_46 : decode cX9_teach 46 = .ok (.istore 4, 2) := by decide +kernel
theorem dX9_teach_48 : decode cX9_teach 48 = .ok (.iload 4, 2) := by decide +kernel
theorem dX9_teach_50 : decode cX9_teach 50 = .ok (.iload_n 3, 1) := by decide +kernel
theorem dX9_teach_51 : decode cX9_teach 51 = .ok (.aload_n 0, 1) := by decide +kernel
theorem dX9_teach_52 : decode cX9_teach 52 = .ok (.getfield 25, 3) := by decide +kernel
theorem dX9_teach_55 : decode cX9_teach 55 = .ok (.iload_n 2, 1) := by decide +kernel
theorem dX9_teach_56 : decode cX9_teach 56 = .ok (.iaload, 1) := by decide +kernel
theorem dX9_teach_57 : decode cX9_teach 57 = .ok (.iadd, 1) := by decide +kernel
theorem dX9_teach_58 : decode cX9_teach 58 = .ok (.if_icmp .ge 32, 3) := by decide +kernel
theorem dX9_teach_61 : decode cX9_teach 61 = .ok (.iload 4, 2) := by decide +kernel
theorem dX9_teach_63 : decode cX9_teach 63 = .ok (.invokestatic 49, 3) := by decide +kernel
theorem dX9_teach_66 : decode cX9_teach 66 = .ok (.ifCond .eq 24, 3) := by decide +kernel
theorem dX9_teach_69 : decode cX9_teach 69 = .ok (.aload_n 0, 1) := by decide +kernel
theorem dX9_teach_70 : decode cX9_teach 70 = .ok (.getfield 31, 3) := by decide +kernel
theorem dX9_teach_73 : decode cX9_teach 73 = .ok (.iload 4, 2) := by decide +kernel
theorem dX9_teach_75 : decode cX9_teach 75 = .ok (.dup2, 1) := by decide +kernel
theorem dX9_teach_76 : decode cX9_teach 76 = .ok (.laload, 1) := by decide +kernel
theorem dX9_teach_77 : decode cX9_teach 77 = .ok (.iload_n 1, 1) := by decide +kernel
theorem dX9_teach_78 : decode cX9_teach 78 = .ok (.iload_n 2, 1) := by decide +kernel
theorem dX9_teach_79 : decode cX9_teach 79 = .ok (.invokestatic 52, 3) := by decide +kernel
theorem dX9_teach_82 : decode cX9_teach 82 = .ok (.lor, 1) := by decide +kernel
theorem dX9_teach_83 : decode cX9_teach 83 = .ok (.lastore, 1) := by decide +kernel
theorem dX9_teach_84 : decode cX9_teach 84 = .ok (.iinc 4 1, 3) := by decide +kernel
theorem dX9_teach_87 : decode cX9_teach 87 = .ok (.goto (-39), 3) := by decide +kernel
theorem dX9_teach_90 : decode cX9_teach 90 = .ok (.iconst 1, 1) := by decide +kernel
theorem dX9_teach_91 : decode cX9_teach 91 = .ok (.ireturn, 1) := by decide +kernel
theorem dX9_hasStep_0 : decode cX9_hasStep 0 = .ok (.aload_n 0, 1) := by decide +kernel
theorem dX9_hasStep_1 : decode cX9_hasStep 1 = .ok (.iload_n 1, 1) := by decide +kernel
theorem dX9_hasStep_2 : decode cX9_hasStep 2 = .ok (.invokevirtual 38, 3) := by decide +kernel
theorem dX9_hasStep_5 : decode cX9_hasStep 5 = .ok (.ifCond .eq 18, 3) := by decide +kernel
theorem dX9_hasStep_8 : decode cX9_hasStep 8 = .ok (.aload_n 0, 1) := by decide +kernel
theorem dX9_hasStep_9 : decode cX9_hasStep 9 = .ok (.iload_n 2, 1) := by decide +kernel
theorem dX9_hasStep_10 : decode cX9_hasStep 10 = .ok (.invokevirtual 42, 3) := by decide +kernel
theorem dX9_hasStep_13 : decode cX9_hasStep 13 = .ok (.ifCond .eq 10, 3) := by decide +kernel
theorem dX9_hasStep_16 : decode cX9_hasStep 16 = .ok (.iload_n 3, 1) := by decide +kernel
theorem dX9_hasStep_17 : decode cX9_hasStep 17 = .ok (.invokestatic 49, 3) := by decide +kernel
theorem dX9_hasStep_20 : decode cX9_hasStep 20 = .ok (.ifCond .ne 5, 3) := by decide +kernel
theorem dX9_hasStep_23 : decode cX9_hasStep 23 = .ok (.iconst 0, 1) := by decide +kernel
theorem dX9_hasStep_24 : decode cX9_hasStep 24 = .ok (.ireturn, 1) := by decide +kernel
theorem dX9_hasStep_25 : decode cX9_hasStep 25 = .ok (.iload_n 2, 1) := by decide +kernel
theorem dX9_hasStep_26 : decode cX9_hasStep 26 = .ok (.istore 4, 2) := by decide +kernel
theorem dX9_hasStep_28 : decode cX9_hasStep 28 = .ok (.iconst 0, 1) := by decide +kernel
theorem dX9_hasStep_29 : decode cX9_hasStep 29 = .ok (.istore 5, 2) := by decide +kernel
theorem dX9_hasStep_31 : decode cX9_hasStep 31 = .ok (.iload 5, 2) := by decide +kernel
theorem dX9_hasStep_33 : decode cX9_hasStep 33 = .ok (.bipush 8, 2) := by decide +kernel
theorem dX9_hasStep_35 : decode cX9_hasStep 35 = .ok (.if_icmp .ge 47, 3) := by decide +kernel
theorem dX9_hasStep_38 : decode cX9_hasStep 38 = .ok (.aload_n 0, 1) := by decide +kernel
theorem dX9_hasStep_39 : decode cX9_hasStep 39 = .ok (.iload 4, 2) := by decide +kernel
theorem dX9_hasStep_41 : decode cX9_hasStep 41 = .ok (.invokevirtual 42, 3) := by decide +kernel
theorem dX9_hasStep_44 : decode cX9_hasStep 44 = .ok (.ifCond .eq 38, 3) := by decide +kernel
theorem dX9_hasStep_47 : decode cX9_hasStep 47 = .ok (.aload_n 0, 1) := by decide +kernel
theorem dX9_hasStep_48 : decode cX9_hasStep 48 = .ok (.getfield 31, 3) := by decide +kernel
theorem dX9_hasStep_51 : decode cX9_hasStep 51 = .ok (.iload_n 3, 1) := by decide +kernel
theorem dX9_hasStep_52 : decode cX9_hasStep 52 = .ok (.laload, 1) := by decide +kernel
theorem dX9_hasStep_53 : decode cX9_hasStep 53 = .ok (.iload_n 1, 1) := by decide +kernel
theorem dX9_hasStep_54 : decode cX9_hasStep 54 = .ok (.iload 4, 2) := by decide +kernel
theorem dX9_hasStep_56 : decode cX9_hasStep 56 = .ok (.invokestatic 52, 3) := by decide +kernel
theorem dX9_hasStep_59 : decode cX9_hasStep 59 = .ok (.land, 1) := by decide +kernel
theorem dX9_hasStep_60 : decode cX9_hasStep 60 = .ok (.lconst 0, 1) := by decide +kernel
theorem dX9_hasStep_61 : decode cX9_hasStep 61 = .ok (.lcmp, 1) := by decide +kernel
theorem dX9_hasStep_62 : decode cX9_hasStep 62 = .ok (.ifCond .ne 5, 3) := by decide +kernel
theorem dX9_hasStep_65 : decode cX9_hasStep 65 = .ok (.iconst 0, 1) := by decide +kernel
theorem dX9_hasStep_66 : decode cX9_hasStep 66 = .ok (.ireturn, 1) := by decide +kernel
theorem dX9_hasStep_67 : decode cX9_hasStep 67 = .ok (.aload_n 0, 1) := by decide +kernel
theorem dX9_hasStep_68 : decode cX9_hasStep 68 = .ok (.getfield 22, 3) := by decide +kernel
theorem dX9_hasStep_71 : decode cX9_hasStep 71 = .ok (.iload 4, 2) := by decide +kernel
theorem dX9_hasStep_73 : decode cX9_hasStep 73 = .ok (.iaload, 1) := by decide +kernel
theorem dX9_hasStep_74 : decode cX9_hasStep 74 = .ok (.istore 4, 2) := by decide +kernel
theorem dX9_hasStep_76 : decode cX9_hasStep 76 = .ok (.iinc 5 1, 3) := by decide +kernel
theorem dX9_hasStep_79 : decode cX9_hasStep 79 = .ok (.goto (-48), 3) := by decide +kernel
theorem dX9_hasStep_82 : decode cX9_hasStep 82 = .ok (.iconst 1, 1) := by decide +kernel
theorem dX9_hasStep_83 : decode cX9_hasStep 83 = .ok (.ireturn, 1) := by decide +kernel
theorem dX9_addBar_0 : decode cX9_addBar 0 = .ok (.iload_n 1, 1) := by decide +kernel
theorem dX9_addBar_1 : decode cX9_addBar 1 = .ok (.invokestatic 56, 3) := by decide +kernel
theorem dX9_addBar_4 : decode cX9_addBar 4 = .ok (.ifCond .eq 25, 3) := by decide +kernel
theorem dX9_addBar_7 : decode cX9_addBar 7 = .ok (.aload_n 0, 1) := by decide +kernel
theorem dX9_addBar_8 : decode cX9_addBar 8 = .ok (.iload_n 2, 1) := by decide +kernel
theorem dX9_addBar_9 : decode cX9_addBar 9 = .ok (.invokevirtual 38, 3) := by decide +kernel
theorem dX9_addBar_12 : decode cX9_addBar 12 = .ok (.ifCond .eq 17, 3) := by decide +kernel
theorem dX9_addBar_15 : decode cX9_addBar 15 = .ok (.aload_n 0, 1) := by decide +kernel
theorem dX9_addBar_16 : decode cX9_addBar 16 = .ok (.getfield 35, 3) := by decide +kernel
theorem dX9_addBar_19 : decode cX9_addBar 19 = .ok (.iload_n 1, 1) := by decide +kernel
theorem dX9_addBar_20 : decode cX9_addBar 20 = .ok (.iload_n 2, 1) := by decide +kernel
theorem dX9_addBar_21 : decode cX9_addBar 21 = .ok (.invokestatic 59, 3) := by decide +kernel
theorem dX9_addBar_24 : decode cX9_addBar 24 = .ok (.iaload, 1) := by decide +kernel
theorem dX9_addBar_25 : decode cX9_addBar 25 = .ok (.iconst (-1), 1) := by decide +kernel
theorem dX9_addBar_26 : decode cX9_addBar 26 = .ok (.if_icmp .eq 5, 3) := by decide +kernel
theorem dX9_addBar_29 : decode cX9_addBar 29 = .ok (.iconst 0, 1) := by decide +kernel
theorem dX9_addBar_30 : decode cX9_addBar 30 = .ok (.ireturn, 1) := by decide +kernel
theorem dX9_addBar_31 : decode cX9_addBar 31 = .ok (.aload_n 0, 1) := by decide +kernel
theorem dX9_addBar_32 : decode cX9_addBar 32 = .ok (.getfield 35, 3) := by decide +kernel
theorem dX9_addBar_35 : decode cX9_addBar 35 = .ok (.iload_n 1, 1) := by decide +kernel
theorem dX9_addBar_36 : decode cX9_addBar 36 = .ok (.iload_n 2, 1) := by decide +kernel
theorem dX9_addBar_37 : decode cX9_addBar 37 = .ok (.invokestatic 59, 3) := by decide +kernel
theorem dX9_addBar_40 : decode cX9_addBar 40 = .ok (.iload_n 3, 1) := by decide +kernel
theorem dX9_addBar_41 : decode cX9_addBar 41 = .ok (.iastore, 1) := by decide +kernel
theorem dX9_addBar_42 : decode cX9_addBar 42 = .ok (.iconst 1, 1) := by decide +kernel
theorem dX9_addBar_43 : decode cX9_addBar 43 = .ok (.ireturn, 1) := by decide +kernel
theorem dX9_isBarred_0 : decode cX9_isBarred 0 = .ok (.iload_n 1, 1) := by decide +kernel
theorem dX9_isBarred_1 : decode cX9_isBarred 1 = .ok (.invokestatic 56, 3) := by decide +kernel
theorem dX9_isBarred_4 : decode cX9_isBarred 4 = .ok (.ifCond .eq 11, 3) := by decide +kernel
theorem dX9_isBarred_7 : decode cX9_isBarred 7 = .ok (.aload_n 0, 1) := by decide +kernel
theorem dX9_isBarred_8 : decode cX9_isBarred 8 = .ok (.iload_n 2, 1) := by decide +kernel
theorem dX9_isBarred_9 : decode cX9_isBarred 9 = .ok (.invokevirtual 38, 3) := by decide +kernel
theorem dX9_isBarred_12 : decode cX9_isBarred 12 = .ok (.ifCond .ne 5, 3) := by decide +kernel
theorem dX9_isBarred_15 : decode cX9_isBarred 15 = .ok (.iconst 0, 1) := by decide +kernel
theorem dX9_isBarred_16 : decode cX9_isBarred 16 = .ok (.ireturn, 1) := by decide +kernel
theorem dX9_isBarred_17 : decode cX9_isBarred 17 = .ok (.aload_n 0, 1) := by decide +kernel
theorem dX9_isBarred_18 : decode cX9_isBarred 18 = .ok (.getfield 35, 3) := by decide +kernel
theorem dX9_isBarred_21 : decode cX9_isBarred 21 = .ok (.iload_n 1, 1) := by decide +kernel
theorem dX9_isBarred_22 : decode cX9_isBarred 22 = .ok (.iload_n 2, 1) := by decide +kernel
theorem dX9_isBarred_23 : decode cX9_isBarred 23 = .ok (.invokestatic 59, 3) := by decide +kernel
theorem dX9_isBarred_26 : decode cX9_isBarred 26 = .ok (.iaload, 1) := by decide +kernel
theorem dX9_isBarred_27 : decode cX9_isBarred 27 = .ok (.istore 4, 2) := by decide +kernel
theorem dX9_isBarred_29 : decode cX9_isBarred 29 = .ok (.iload 4, 2) := by decide +kernel
theorem dX9_isBarred_31 : decode cX9_isBarred 31 = .ok (.iconst (-1), 1) := by decide +kernel
theorem dX9_isBarred_32 : decode cX9_isBarred 32 = .ok (.if_icmp .eq 13, 3) := by decide +kernel
theorem dX9_isBarred_35 : decode cX9_isBarred 35 = .ok (.iload 4, 2) := by decide +kernel
theorem dX9_isBarred_37 : decode cX9_isBarred 37 = .ok (.iload_n 3, 1) := by decide +kernel
theorem dX9_isBarred_38 : decode cX9_isBarred 38 = .ok (.if_icmp .gt 7, 3) := by decide +kernel
theorem dX9_isBarred_41 : decode cX9_isBarred 41 = .ok (.iconst 1, 1) := by decide +kernel
theorem dX9_isBarred_42 : decode cX9_isBarred 42 = .ok (.goto 4, 3) := by decide +kernel
theorem dX9_isBarred_45 : decode cX9_isBarred 45 = .ok (.iconst 0, 1) := by decide +kernel
theorem dX9_isBarred_46 : decode cX9_isBarred 46 = .ok (.ireturn, 1) := by decide +kernel
theorem dX9_giveCare_0 : decode cX9_giveCare 0 = .ok (.aload_n 0, 1) := by decide +kernel
theorem dX9_giveCare_1 : decode cX9_giveCare 1 = .ok (.iload_n 1, 1) := by decide +kernel
theorem dX9_giveCare_2 : decode cX9_giveCare 2 = .ok (.invokevirtual 38, 3) := by decide +kernel
theorem dX9_giveCare_5 : decode cX9_giveCare 5 = .ok (.ifCond .eq 10, 3) := by decide +kernel
theorem dX9_giveCare_8 : decode cX9_giveCare 8 = .ok (.aload_n 0, 1) := by decide +kernel
theorem dX9_giveCare_9 : decode cX9_giveCare 9 = .ok (.getfield 15, 3) := by decide +kernel
theorem dX9_giveCare_12 : decode cX9_giveCare 12 = .ok (.iload_n 1, 1) := by decide +kernel
theorem dX9_giveCare_13 : decode cX9_giveCare 13 = .ok (.iload_n 2, 1) := by decide +kernel
theorem dX9_giveCare_14 : decode cX9_giveCare 14 = .ok (.iastore, 1) := by decide +kernel
theorem dX9_giveCare_15 : decode cX9_giveCare 15 = .ok (.return_, 1) := by decide +kernel
theorem dX9_caredFrom_0 : decode cX9_caredFrom 0 = .ok (.aload_n 0, 1) := by decide +kernel
theorem dX9_caredFrom_1 : decode cX9_caredFrom 1 = .ok (.iload_n 1, 1) := by decide +kernel
theorem dX9_caredFrom_2 : decode cX9_caredFrom 2 = .ok (.invokevirtual 38, 3) := by decide +kernel
theorem dX9_caredFrom_5 : decode cX9_caredFrom 5 = .ok (.ifCond .eq 12, 3) := by decide +kernel
theorem dX9_caredFrom_8 : decode cX9_caredFrom 8 = .ok (.aload_n 0, 1) := by decide +kernel
theorem dX9_caredFrom_9 : decode cX9_caredFrom 9 = .ok (.getfield 15, 3) := by decide +kernel
theorem dX9_caredFrom_12 : decode cX9_caredFrom 12 = .ok (.iload_n 1, 1) := by decide +kernel
theorem dX9_caredFrom_13 : decode cX9_caredFrom 13 = .ok (.iaload, 1) := by decide +kernel
theorem dX9_caredFrom_14 : decode cX9_caredFrom 14 = .ok (.goto 4, 3) := by decide +kernel
theorem dX9_caredFrom_17 : decode cX9_caredFrom 17 = .ok (.iconst 0, 1) := by decide +kernel
theorem dX9_caredFrom_18 : decode cX9_caredFrom 18 = .ok (.ireturn, 1) := by decide +kernel
theorem dX9_learnedBit_0 : decode cX9_learnedBit 0 = .ok (.lconst 1, 1) := by decide +kernel
theorem dX9_learnedBit_1 : decode cX9_learnedBit 1 = .ok (.iload_n 0, 1) := by decide +kernel
theorem dX9_learnedBit_2 : decode cX9_learnedBit 2 = .ok (.bipush 8, 2) := by decide +kernel
theorem dX9_learnedBit_4 : decode cX9_learnedBit 4 = .ok (.imul, 1) := by decide +kernel
theorem dX9_learnedBit_5 : decode cX9_learnedBit 5 = .ok (.iload_n 1, 1) := by decide +kernel
theorem dX9_learnedBit_6 : decode cX9_learnedBit 6 = .ok (.iadd, 1) := by decide +kernel
theorem dX9_learnedBit_7 : decode cX9_learnedBit 7 = .ok (.lshl, 1) := by decide +kernel
theorem dX9_learnedBit_8 : decode cX9_learnedBit 8 = .ok (.lreturn, 1) := by decide +kernel
theorem dX9_barIndex_0 : decode cX9_barIndex 0 = .ok (.iload_n 0, 1) := by decide +kernel
theorem dX9_barIndex_1 : decode cX9_barIndex 1 = .ok (.bipush 8, 2) := by decide +kernel
theorem dX9_barIndex_3 : decode cX9_barIndex 3 = .ok (.imul, 1) := by decide +kernel
theorem dX9_barIndex_4 : decode cX9_barIndex 4 = .ok (.iload_n 1, 1) := by decide +kernel
theorem dX9_barIndex_5 : decode cX9_barIndex 5 = .ok (.iadd, 1) := by decide +kernel
theorem dX9_barIndex_6 : decode cX9_barIndex 6 = .ok (.ireturn, 1) := by decide +kernel
theorem dX10_restart_0 : decode cX10_restart 0 = .ok (.aload_n 0, 1) := by decide +kernel
theorem dX10_restart_1 : decode cX10_restart 1 = .ok (.iconst 0, 1) := by decide +kernel
theorem dX10_restart_2 : decode cX10_restart 2 = .ok (.putfield 9, 3) := by decide +kernel
theorem dX10_restart_5 : decode cX10_restart 5 = .ok (.return_, 1) := by decide +kernel
theorem dX10_start_0 : decode cX10_start 0 = .ok (.aload_n 0, 1) := by decide +kernel
theorem dX10_start_1 : decode cX10_start 1 = .ok (.getfield 15, 3) := by decide +kernel
theorem dX10_start_4 : decode cX10_start 4 = .ok (.ireturn, 1) := by decide +kernel
theorem dX10_kind_0 : decode cX10_kind 0 = .ok (.aload_n 0, 1) := by decide +kernel
theorem dX10_kind_1 : decode cX10_kind 1 = .ok (.getfield 18, 3) := by decide +kernel
theorem dX10_kind_4 : decode cX10_kind 4 = .ok (.ireturn, 1) := by decide +kernel
theorem dX10_value_0 : decode cX10_value 0 = .ok (.aload_n 0, 1) := by decide +kernel
theorem dX10_value_1 : decode cX10_value 1 = .ok (.getfield 21, 3) := by decide +kernel
theorem dX10_value_4 : decode cX10_value 4 = .ok (.ireturn, 1) := by decide +kernel
theorem dX10_scan_0 : decode cX10_scan 0 = .ok (.aload_n 0, 1) := by decide +kernel
theorem dX10_scan_1 : decode cX10_scan 1 = .ok (.aload_n 1, 1) := by decide +kernel
theorem dX10_scan_2 : decode cX10_scan 2 = .ok (.invokevirtual 24, 3) := by decide +kernel
theorem dX10_scan_5 : decode cX10_scan 5 = .ok (.aload_n 0, 1) := by decide +kernel
theorem dX10_scan_6 : decode cX10_scan 6 = .ok (.aload_n 0, 1) := by decide +kernel
theorem dX10_scan_7 : decode cX10_scan 7 = .ok (.getfield 9, 3) := by decide +kernel
theorem dX10_scan_10 : decode cX10_scan 10 = .ok (.putfield 15, 3) := by decide +kernel
theorem dX10_scan_13 : decode cX10_scan 13 = .ok (.aload_n 0, 1) := by decide +kernel
theorem dX10_scan_14 : decode cX10_scan 14 = .ok (.iconst 0, 1) := by decide +kernel
theorem dX10_scan_15 : decode cX10_scan 15 = .ok (.putfield 21, 3) := by decide +kernel
theorem dX10_scan_18 : decode cX10_scan 18 = .ok (.aload_n 1, 1) := by decide +kernel
theorem dX10_scan_19 : decode cX10_scan 19 = .ok (.aload_n 0, 1) := by decide +kernel
theorem dX10_scan_20 : decode cX10_scan 20 = .ok (.getfield 15, 3) := by decide +kernel
theorem dX10_scan_23 : decode cX10_scan 23 = .ok (.invokevirtual 28, 3) := by decide +kernel
theorem dX10_scan_26 : decode cX10_scan 26 = .ok (.istore_n 2, 1) := by decide +kernel
theorem dX10_scan_27 : decode cX10_scan 27 = .ok (.iload_n 2, 1) := by decide +kernel
theorem dX10_scan_28 : decode cX10_scan 28 = .ok (.iconst (-1), 1) := by decide +kernel
theorem dX10_scan_29 : decode cX10_scan 29 = .ok (.if_icmp .ne 11, 3) := by decide +kernel
theorem dX10_scan_32 : decode cX10_scan 32 = .ok (.aload_n 0, 1) := by decide +kernel
theorem dX10_scan_33 : decode cX10_scan 33 = .ok (.iconst 0, 1) := by decide +kernel
theorem dX10_scan_34 : decode cX10_scan 34 = .ok (.putfield 18, 3) := by decide +kernel
theorem dX10_scan_37 : decode cX10_scan 37 = .ok (.goto 48, 3) := by decide +kernel
theorem dX10_scan_40 : decode cX10_scan 40 = .ok (.iload_n 2, 1) := by decide +kernel
theorem dX10_scan_41 : decode cX10_scan 41 = .ok (.invokestatic 34, 3) := by decide +kernel
theorem dX10_scan_44 : decode cX10_scan 44 = .ok (.ifCond .eq 11, 3) := by decide +kernel
theorem dX10_scan_47 : decode cX10_scan 47 = .ok (.aload_n 0, 1) := by decide +kernel
theorem dX10_scan_48 : decode cX10_scan 48 = .ok (.aload_n 1, 1) := by decide +kernel
theorem dX10_scan_49 : decode cX10_scan 49 = .ok (.invokevirtual 38, 3) := by decide +kernel
theorem dX10_scan_52 : decode cX10_scan 52 = .ok (.goto 33, 3) := by decide +kernel
theorem dX10_scan_55 : decode cX10_scan 55 = .ok (.iload_n 2, 1) := by decide +kernel
theorem dX10_scan_56 : decode cX10_scan 56 = .ok (.invokestatic 41, 3) := by decide +kernel
theorem dX10_scan_59 : decode cX10_scan 59 = .ok (.ifCond .eq 11, 3) := by decide +kernel
theorem dX10_scan_62 : decode cX10_scan 62 = .ok (.aload_n 0, 1) := by decide +kernel
theorem dX10_scan_63 : decode cX10_scan 63 = .ok (.aload_n 1, 1) := by decide +kernel
theorem dX10_scan_64 : decode cX10_scan 64 = .ok (.invokevirtual 44, 3) := by decide +kernel
theorem dX10_scan_67 : decode cX10_scan 67 = .ok (.goto 18, 3) := by decide +kernel
theorem dX10_scan_70 : decode cX10_scan 70 = .ok (.aload_n 0, 1) := by decide +kernel
theorem dX10_scan_71 : decode cX10_scan 71 = .ok (.iload_n 2, 1) := by decide +kernel
theorem dX10_scan_72 : decode cX10_scan 72 = .ok (.aload_n 1, 1) := by decide +kernel
theorem dX10_scan_73 : decode cX10_scan 73 = .ok (.aload_n 0, 1) := by decide +kernel
theorem dX10_scan_74 : decode cX10_scan 74 = .ok (.getfield 15, 3) := by decide +kernel
theorem dX10_scan_77 : decode cX10_scan 77 = .ok (.iconst 1, 1) := by decide +kernel
theorem dX10_scan_78 : decode cX10_scan 78 = .ok (.iadd, 1) := by decide +kernel
theorem dX10_scan_79 : decode cX10_scan 79 = .ok (.invokevirtual 28, 3) := by decide +kernel
theorem dX10_scan_82 : decode cX10_scan 82 = .ok (.invokevirtual 47, 3) := by decide +kernel
theorem dX10_scan_85 : decode cX10_scan 85 = .ok (.return_, 1) := by decide +kernel
theorem dX10_skipBlanks_0 : decode cX10_skipBlanks 0 = .ok (.iconst 0, 1) := by decide +kernel
theorem dX10_skipBlanks_1 : decode cX10_skipBlanks 1 = .ok (.istore_n 2, 1) := by decide +kernel
theorem dX10_skipBlanks_2 : decode cX10_skipBlanks 2 = .ok (.iload_n 2, 1) := by decide +kernel
theorem dX10_skipBlanks_3 : decode cX10_skipBlanks 3 = .ok (.sipush 2000, 3) := by decide +kernel
theorem dX10_skipBlanks_6 : decode cX10_skipBlanks 6 = .ok (.if_icmp .ge 33, 3) := by decide +kernel
theorem dX10_skipBlanks_9 : decode cX10_skipBlanks 9 = .ok (.aload_n 1, 1) := by decide +kernel
theorem dX10_skipBlanks_10 : decode cX10_skipBlanks 10 = .ok (.aload_n 0, 1) := by decide +kernel
theorem dX10_skipBlanks_11 : decode cX10_skipBlanks 11 = .ok (.getfield 9, 3) := by decide +kernel
theorem dX10_skipBlanks_14 : decode cX10_skipBlanks 14 = .ok (.invokevirtual 28, 3) := by decide +kernel
theorem dX10_skipBlanks_17 : decode cX10_skipBlanks 17 = .ok (.invokestatic 51, 3) := by decide +kernel
theorem dX10_skipBlanks_20 : decode cX10_skipBlanks 20 = .ok (.ifCond .eq 19, 3) := by decide +kernel
theorem dX10_skipBlanks_23 : decode cX10_skipBlanks 23 = .ok (.aload_n 0, 1) := by decide +kernel
theorem dX10_skipBlanks_24 : decode cX10_skipBlanks 24 = .ok (.dup, 1) := by decide +kernel
theorem dX10_skipBlanks_25 : decode cX10_skipBlanks 25 = .ok (.getfield 9, 3) := by decide +kernel
theorem dX10_skipBlanks_28 : decode cX10_skipBlanks 28 = .ok (.iconst 1, 1) := by decide +kernel
theorem dX10_skipBlanks_29 : decode cX10_skipBlanks 29 = .ok (.iadd, 1) := by decide +kernel
theorem dX10_skipBlanks_30 : decode cX10_skipBlanks 30 = .ok (.putfield 9, 3) := by decide +kernel
theorem dX10_skipBlanks_33 : decode cX10_skipBlanks 33 = .ok (.iinc 2 1, 3) := by decide +kernel
theorem dX10_skipBlanks_36 : decode cX10_skipBlanks 36 = .ok (.goto (-34), 3) := by decide +kernel
theorem dX10_skipBlanks_39 : decode cX10_skipBlanks 39 = .ok (.return_, 1) := by decide +kernel
theorem dX10_scanWord_0 : decode cX10_scanWord 0 = .ok (.iconst 0, 1) := by decide +kernel
theorem dX10_scanWord_1 : decode cX10_scanWord 1 = .ok (.istore_n 2, 1) := by decide +kernel
theorem dX10_scanWord_2 : decode cX10_scanWord 2 = .ok (.iload_n 2, 1) := by decide +kernel
theorem dX10_scanWord_3 : decode cX10_scanWord 3 = .ok (.sipush 2000, 3) := by decide +kernel
theorem dX10_scanWord_6 : decode cX10_scanWord 6 = .ok (.if_icmp .ge 33, 3) := by decide +kernel
theorem dX10_scanWord_9 : decode cX10_scanWord 9 = .ok (.aload_n 1, 1) := by decide +kernel
theorem dX10_scanWord_10 : decode cX10_scanWord 10 = .ok (.aload_n 0, 1) := by decide +kernel
theorem dX10_scanWord_11 : decode cX10_scanWord 11 = .ok (.getfield 9, 3) := by decide +kernel
theorem dX10_scanWord_14 : decode cX10_scanWord 14 = .ok (.invokevirtual 28, 3) := by decide +kernel
theorem dX10_scanWord_17 : decode cX10_scanWord 17 = .ok (.invokestatic 34, 3) := by decide +kernel
theorem dX10_scanWord_20 : decode cX10_scanWord 20 = .ok (.ifCond .eq 19, 3) := by decide +kernel
theorem dX10_scanWord_23 : decode cX10_scanWord 23 = .ok (.aload_n 0, 1) := by decide +kernel
theorem dX10_scanWord_24 : decode cX10_scanWord 24 = .ok (.dup, 1) := by decide +kernel
theorem dX10_scanWord_25 : decode cX10_scanWord 25 = .ok (.getfield 9, 3) := by decide +kernel
theorem dX10_scanWord_28 : decode cX10_scanWord 28 = .ok (.iconst 1, 1) := by decide +kernel
theorem dX10_scanWord_29 : decode cX10_scanWord 29 = .ok (.iadd, 1) := by decide +kernel
theorem dX10_scanWord_30 : decode cX10_scanWord 30 = .ok (.putfield 9, 3) := by decide +kernel
theorem dX10_scanWord_33 : decode cX10_scanWord 33 = .ok (.iinc 2 1, 3) := by decide +kernel
theorem dX10_scanWord_36 : decode cX10_scanWord 36 = .ok (.goto (-34), 3) := by decide +kernel
theorem dX10_scanWord_39 : decode cX10_scanWord 39 = .ok (.aload_n 0, 1) := by decide +kernel
theorem dX10_scanWord_40 : decode cX10_scanWord 40 = .ok (.aload_n 0, 1) := by decide +kernel
theorem dX10_scanWord_41 : decode cX10_scanWord 41 = .ok (.getfield 9, 3) := by decide +kernel
theorem dX10_scanWord_44 : decode cX10_scanWord 44 = .ok (.aload_n 0, 1) := by decide +kernel
theorem dX10_scanWord_45 : decode cX10_scanWord 45 = .ok (.getfield 15, 3) := by decide +kernel
theorem dX10_scanWord_48 : decode cX10_scanWord 48 = .ok (.isub, 1) := by decide +kernel
theorem dX10_scanWord_49 : decode cX10_scanWord 49 = .ok (.bipush 8, 2) := by decide +kernel
theorem dX10_scanWord_51 : decode cX10_scanWord 51 = .ok (.if_icmp .le 7, 3) := by decide +kernel
theorem dX10_scanWord_54 : decode cX10_scanWord 54 = .ok (.iconst 1, 1) := by decide +kernel
theorem dX10_scanWord_55 : decode cX10_scanWord 55 = .ok (.goto 8, 3) := by decide +kernel
theorem dX10_scanWord_58 : decode cX10_scanWord 58 = .ok (.aload_n 0, 1) := by decide +kernel
theorem dX10_scanWord_59 : decode cX10_scanWord 59 = .ok (.aload_n 1, 1) := by decide +kernel
theorem dX10_scanWord_60 : decode cX10_scanWord 60 = .ok (.invokevirtual 54, 3) := by decide +kernel
theorem dX10_scanWord_63 : decode cX10_scanWord 63 = .ok (.putfield 18, 3) := by decide +kernel
theorem dX10_scanWord_66 : decode cX10_scanWord 66 = .ok (.aload_n 0, 1) := by decide +kernel
theorem dX10_scanWord_67 : decode cX10_scanWord 67 = .ok (.getfield 18, 3) := by decide +kernel
theorem dX10_scanWord_70 : decode cX10_scanWord 70 = .ok (.iconst 1, 1) := by decide +kernel
theorem dX10_scanWord_71 : decode cX10_scanWord 71 = .ok (.if_icmp .ne 29, 3) := by decide +kernel
theorem dX10_scanWord_74 : decode cX10_scanWord 74 = .ok (.aload_n 0, 1) := by decide +kernel
theorem dX10_scanWord_75 : decode cX10_scanWord 75 = .ok (.aload_n 0, 1) := by decide +kernel
theorem dX10_scanWord_76 : decode cX10_scanWord 76 = .ok (.aload_n 1, 1) := by decide +kernel
theorem dX10_scanWord_77 : decode cX10_scanWord 77 = .ok (.invokevirtual 58, 3) := by decide +kernel
theorem dX10_scanWord_80 : decode cX10_scanWord 80 = .ok (.putfield 21, 3) := by decide +kernel
theorem dX10_scanWord_83 : decode cX10_scanWord 83 = .ok (.aload_n 0, 1) := by decide +kernel
theorem dX10_scanWord_84 : decode cX10_scanWord 84 = .ok (.aload_n 0, 1) := by decide +kernel
theorem dX10_scanWord_85 : decode cX10_scanWord 85 = .ok (.getfield 21, 3) := by decide +kernel
theorem dX10_scanWord_88 : decode cX10_scanWord 88 = .ok (.iconst (-1), 1) := by decide +kernel
theorem dX10_scanWord_89 : decode cX10_scanWord 89 = .ok (.if_icmp .ne 7, 3) := by decide +kernel
theorem dX10_scanWord_92 : decode cX10_scanWord 92 = .ok (.iconst 1, 1) := by decide +kernel
theorem dX10_scanWord_93 : decode cX10_scanWord 93 = .ok (.goto 4, 3) := by decide +kernel
theorem dX10_scanWord_96 : decode cX10_scanWord 96 = .ok (.iconst 3, 1) := by decide +kernel
theorem dX10_scanWord_97 : decode cX10_scanWord 97 = .ok (.putfield 18, 3) := by decide +kernel
theorem dX10_scanWord_100 : decode cX10_scanWord 100 = .ok (.return_, 1) := by decide +kernel
theorem dX10_scanNumber_0 : decode cX10_scanNumber 0 = .ok (.iconst 0, 1) := by decide +kernel
theorem dX10_scanNumber_1 : decode cX10_scanNumber 1 = .ok (.istore_n 2, 1) := by decide +kernel
theorem dX10_scanNumber_2 : decode cX10_scanNumber 2 = .ok (.iconst 0, 1) := by decide +kernel
theorem dX10_scanNumber_3 : decode cX10_scanNumber 3 = .ok (.istore_n 3, 1) := by decide +kernel
theorem dX10_scanNumber_4 : decode cX10_scanNumber 4 = .ok (.iload_n 3, 1) := by decide +kernel
theorem dX10_scanNumber_5 : decode cX10_scanNumber 5 = .ok (.sipush 2000, 3) := by decide +kernel
theorem dX10_scanNumber_8 : decode cX10_scanNumber 8 = .ok (.if_icmp .ge 50, 3) := by decide +kernel
theorem dX10_scanNumber_11 : decode cX10_scanNumber 11 = .ok (.aload_n 1, 1) := by decide +kernel
theorem dX10_scanNumber_12 : decode cX10_scanNumber 12 = .ok (.aload_n 0, 1) := by decide +kernel
theorem dX10_scanNumber_13 : decode cX10_scanNumber 13 = .ok (.getfield 9, 3) := by decide +kernel
theorem dX10_scanNumber_16 : decode cX10_scanNumber 16 = .ok (.invokevirtual 28, 3) := by decide +kernel
theorem dX10_scanNumber_19 : decode cX10_scanNumber 19 = .ok (.invokestatic 41, 3) := by decide +kernel
theorem dX10_scanNumber_22 : decode cX10_scanNumber 22 = .ok (.ifCond .eq 36, 3) := by decide +kernel
theorem dX10_scanNumber_25 : decode cX10_scanNumber 25 = .ok (.iload_n 2, 1) := by decide +kernel
theorem dX10_scanNumber_26 : decode cX10_scanNumber 26 = .ok (.bipush 10, 2) := by decide +kernel
theorem dX10_scanNumber_28 : decode cX10_scanNumber 28 = .ok (.imul, 1) := by decide +kernel
theorem dX10_scanNumber_29 : decode cX10_scanNumber 29 = .ok (.aload_n 1, 1) := by decide +kernel
theorem dX10_scanNumber_30 : decode cX10_scanNumber 30 = .ok (.aload_n 0, 1) := by decide +kernel
theorem dX10_scanNumber_31 : decode cX10_scanNumber 31 = .ok (.getfield 9, 3) := by decide +kernel
theorem dX10_scanNumber_34 : decode cX10_scanNumber 34 = .ok (.invokevirtual 28, 3) := by decide +kernel
theorem dX10_scanNumber_37 : decode cX10_scanNumber 37 = .ok (.iadd, 1) := by decide +kernel
theorem dX10_scanNumber_38 : decode cX10_scanNumber 38 = .ok (.bipush 48, 2) := by decide +kernel
theorem dX10_scanNumber_40 : decode cX10_scanNumber 40 = .ok (.isub, 1) := by decide +kernel
theorem dX10_scanNumber_41 : decode cX10_scanNumber 41 = .ok (.istore_n 2, 1) := by decide +kernel
theorem dX10_scanNumber_42 : decode cX10_scanNumber 42 = .ok (.aload_n 0, 1) := by decide +kernel
theorem dX10_scanNumber_43 : decode cX10_scanNumber 43 = .ok (.dup, 1) := by decide +kernel
theorem dX10_scanNumber_44 : decode cX10_scanNumber 44 = .ok (.getfield 9, 3) := by decide +kernel
theorem dX10_scanNumber_47 : decode cX10_scanNumber 47 = .ok (.iconst 1, 1) := by decide +kernel
theorem dX10_scanNumber_48 : decode cX10_scanNumber 48 = .ok (.iadd, 1) := by decide +kernel
theorem dX10_scanNumber_49 : decode cX10_scanNumber 49 = .ok (.putfield 9, 3) := by decide +kernel
theorem dX10_scanNumber_52 : decode cX10_scanNumber 52 = .ok (.iinc 3 1, 3) := by decide +kernel
theorem dX10_scanNumber_55 : decode cX10_scanNumber 55 = .ok (.goto (-51), 3) := by decide +kernel
theorem dX10_scanNumber_58 : decode cX10_scanNumber 58 = .ok (.aload_n 0, 1) := by decide +kernel
theorem dX10_scanNumber_59 : decode cX10_scanNumber 59 = .ok (.aload_n 0, 1) := by decide +kernel
theorem dX10_scanNumber_60 : decode cX10_scanNumber 60 = .ok (.getfield 9, 3) := by decide +kernel
theorem dX10_scanNumber_63 : decode cX10_scanNumber 63 = .ok (.aload_n 0, 1) := by decide +kernel
theorem dX10_scanNumber_64 : decode cX10_scanNumber 64 = .ok (.getfield 15, 3) := by decide +kernel
theorem dX10_scanNumber_67 : decode cX10_scanNumber 67 = .ok (.isub, 1) := by decide +kernel
theorem dX10_scanNumber_68 : decode cX10_scanNumber 68 = .ok (.iconst 4, 1) := by decide +kernel
theorem dX10_scanNumber_69 : decode cX10_scanNumber 69 = .ok (.if_icmp .le 7, 3) := by decide +kernel
theorem dX10_scanNumber_72 : decode cX10_scanNumber 72 = .ok (.iconst 1, 1) := by decide +kernel
theorem dX10_scanNumber_73 : decode cX10_scanNumber 73 = .ok (.goto 4, 3) := by decide +kernel
theorem dX10_scanNumber_76 : decode cX10_scanNumber 76 = .ok (.iconst 2, 1) := by decide +kernel
theorem dX10_scanNumber_77 : decode cX10_scanNumber 77 = .ok (.putfield 18, 3) := by decide +kernel
theorem dX10_scanNumber_80 : decode cX10_scanNumber 80 = .ok (.aload_n 0, 1) := by decide +kernel
theorem dX10_scanNumber_81 : decode cX10_scanNumber 81 = .ok (.aload_n 0, 1) := by decide +kernel
theorem dX10_scanNumber_82 : decode cX10_scanNumber 82 = .ok (.getfield 18, 3) := by decide +kernel
theorem dX10_scanNumber_85 : decode cX10_scanNumber 85 = .ok (.iconst 2, 1) := by decide +kernel
theorem dX10_scanNumber_86 : decode cX10_scanNumber 86 = .ok (.if_icmp .ne 7, 3) := by decide +kernel
theorem dX10_scanNumber_89 : decode cX10_scanNumber 89 = .ok (.iload_n 2, 1) := by decide +kernel
theorem dX10_scanNumber_90 : decode cX10_scanNumber 90 = .ok (.goto 4, 3) := by decide +kernel
theorem dX10_scanNumber_93 : decode cX10_scanNumber 93 = .ok (.iconst 0, 1) := by decide +kernel
theorem dX10_scanNumber_94 : decode cX10_scanNumber 94 = .ok (.putfield 21, 3) := by decide +kernel
theorem dX10_scanNumber_97 : decode cX10_scanNumber 97 = .ok (.return_, 1) := by decide +kernel
theorem dX10_scanSign_0 : decode cX10_scanSign 0 = .ok (.iload_n 2, 1) := by decide +kernel
theorem dX10_scanSign_1 : decode cX10_scanSign 1 = .ok (.bipush 61, 2) := by decide +kernel
theorem dX10_scanSign_3 : decode cX10_scanSign 3 = .ok (.if_icmp .ne 25, 3) := by decide +kernel
theorem dX10_scanSign_6 : decode cX10_scanSign 6 = .ok (.iload_n 1, 1) := by decide +kernel
theorem dX10_scanSign_7 : decode cX10_scanSign 7 = .ok (.bipush 61, 2) := by decide +kernel
theorem dX10_scanSign_9 : decode cX10_scanSign 9 = .ok (.if_icmp .eq 15, 3) := by decide +kernel
theorem dX10_scanSign_12 : decode cX10_scanSign 12 = .ok (.iload_n 1, 1) := by decide +kernel
theorem dX10_scanSign_13 : decode cX10_scanSign 13 = .ok (.bipush 33, 2) := by decide +kernel
theorem dX10_scanSign_15 : decode cX10_scanSign 15 = .ok (.if_icmp .eq 9, 3) := by decide +kernel
theorem dX10_scanSign_18 : decode cX10_scanSign 18 = .ok (.iload_n 1, 1) := by decide +kernel
theorem dX10_scanSign_19 : decode cX10_scanSign 19 = .ok (.bipush 60, 2) := by decide +kernel
theorem dX10_scanSign_21 : decode cX10_scanSign 21 = .ok (.if_icmp .ne 7, 3) := by decide +kernel
theorem dX10_scanSign_24 : decode cX10_scanSign 24 = .ok (.iconst 1, 1) := by decide +kernel
theorem dX10_scanSign_25 : decode cX10_scanSign 25 = .ok (.goto 4, 3) := by decide +kernel
theorem dX10_scanSign_28 : decode cX10_scanSign 28 = .ok (.iconst 0, 1) := by decide +kernel
theorem dX10_scanSign_29 : decode cX10_scanSign 29 = .ok (.istore_n 3, 1) := by decide +kernel
theorem dX10_scanSign_30 : decode cX10_scanSign 30 = .ok (.aload_n 0, 1) := by decide +kernel
theorem dX10_scanSign_31 : decode cX10_scanSign 31 = .ok (.iload_n 3, 1) := by decide +kernel
theorem dX10_scanSign_32 : decode cX10_scanSign 32 = .ok (.ifCond .eq 12, 3) := by decide +kernel
theorem dX10_scanSign_35 : decode cX10_scanSign 35 = .ok (.aload_n 0, 1) := by decide +kernel
theorem dX10_scanSign_36 : decode cX10_scanSign 36 = .ok (.getfield 15, 3) := by decide +kernel
theorem dX10_scanSign_39 : decode cX10_scanSign 39 = .ok (.iconst 2, 1) := by decide +kernel
theorem dX10_scanSign_40 : decode cX10_scanSign 40 = .ok (.iadd, 1) := by decide +kernel
theorem dX10_scanSign_41 : decode cX10_scanSign 41 = .ok (.goto 9, 3) := by decide +kernel
theorem dX10_scanSign_44 : decode cX10_scanSign 44 = .ok (.aload_n 0, 1) := by decide +kernel
theorem dX10_scanSign_45 : decode cX10_scanSign 45 = .ok (.getfield 15, 3) := by decide +kernel
theorem dX10_scanSign_48 : decode cX10_scanSign 48 = .ok (.iconst 1, 1) := by decide +kernel
theorem dX10_scanSign_49 : decode cX10_scanSign 49 = .ok (.iadd, 1) := by decide +kernel
theorem dX10_scanSign_50 : decode cX10_scanSign 50 = .ok (.putfield 9, 3) := by decide +kernel
theorem dX10_scanSign_53 : decode cX10_scanSign 53 = .ok (.aload_n 0, 1) := by decide +kernel
theorem dX10_scanSign_54 : decode cX10_scanSign 54 = .ok (.iload_n 3, 1) := by decide +kernel
theorem dX10_scanSign_55 : decode cX10_scanSign 55 = .ok (.ifCond .eq 10, 3) := by decide +kernel
theorem dX10_scanSign_58 : decode cX10_scanSign 58 = .ok (.iload_n 1, 1) := by decide +kernel
theorem dX10_scanSign_59 : decode cX10_scanSign 59 = .ok (.invokestatic 61, 3) := by decide +kernel
theorem dX10_scanSign_62 : decode cX10_scanSign 62 = .ok (.goto 7, 3) := by decide +kernel
theorem dX10_scanSign_65 : decode cX10_scanSign 65 = .ok (.iload_n 1, 1) := by decide +kernel
theorem dX10_scanSign_66 : decode cX10_scanSign 66 = .ok (.invokestatic 64, 3) := by decide +kernel
theorem dX10_scanSign_69 : decode cX10_scanSign 69 = .ok (.putfield 18, 3) := by decide +kernel
theorem dX10_scanSign_72 : decode cX10_scanSign 72 = .ok (.return_, 1) := by decide +kernel
theorem dX10_doubleSignKind_0 : decode cX10_doubleSignKind 0 = .ok (.iload_n 0, 1) := by decide +kernel
theorem dX10_doubleSignKind_1 : decode cX10_doubleSignKind 1 = .ok (.lookupswitch 33 #[(33, 30), (61, 27)], 27) := by decide +kernel
theorem dX10_doubleSignKind_28 : decode cX10_doubleSignKind 28 = .ok (.bipush 16, 2) := by decide +kernel
theorem dX10_doubleSignKind_30 : decode cX10_doubleSignKind 30 = .ok (.ireturn, 1) := by decide +kernel
theorem dX10_doubleSignKind_31 : decode cX10_doubleSignKind 31 = .ok (.bipush 17, 2) := by decide +kernel
theorem dX10_doubleSignKind_33 : decode cX10_doubleSignKind 33 = .ok (.ireturn, 1) := by decide +kernel
theorem dX10_doubleSignKind_34 : decode cX10_doubleSignKind 34 = .ok (.bipush 19, 2) := by decide +kernel
theorem dX10_doubleSignKind_36 : decode cX10_doubleSignKind 36 = .ok (.ireturn, 1) := by decide +kernel
theorem dX10_singleSignKind_0 : decode cX10_singleSignKind 0 = .ok (.iload_n 0, 1) := by decide +kernel
theorem dX10_singleSignKind_1 : decode cX10_singleSignKind 1 = .ok (.tableswitch 120 40 60 #[114, 117, 108, 102, 120, 105, 120, 120, 120, 120, 120, 120, 120, 120, 120, 120, 120, 120, 120, 99, 111], 99) := by decide +kernel
theorem dX10_singleSignKind_100 : decode cX10_singleSignKind 100 = .ok (.bipush 10, 2) := by decide +kernel
theorem dX10_singleSignKind_102 : decode cX10_singleSignKind 102 = .ok (.ireturn, 1) := by decide +kernel
theorem dX10_singleSignKind_103 : decode cX10_singleSignKind 103 = .ok (.bipush 13, 2) := by decide +kernel
theorem dX10_singleSignKind_105 : decode cX10_singleSignKind 105 = .ok (.ireturn, 1) := by decide +kernel
theorem dX10_singleSignKind_106 : decode cX10_singleSignKind 106 = .ok (.bipush 14, 2) := by decide +kernel
theorem dX10_singleSignKind_108 : decode cX10_singleSignKind 108 = .ok (.ireturn, 1) := by decide +kernel
theorem dX10_singleSignKind_109 : decode cX10_singleSignKind 109 = .ok (.bipush 15, 2) := by decide +kernel
theorem dX10_singleSignKind_111 : decode cX10_singleSignKind 111 = .ok (.ireturn, 1) := by decide +kernel
theorem dX10_singleSignKind_112 : decode cX10_singleSignKind 112 = .ok (.bipush 18, 2) := by decide +kernel
theorem dX10_singleSignKind_114 : decode cX10_singleSignKind 114 = .ok (.ireturn, 1) := by decide +kernel
theorem dX10_singleSignKind_115 : decode cX10_singleSignKind 115 = .ok (.bipush 11, 2) := by decide +kernel
theorem dX10_singleSignKind_117 : decode cX10_singleSignKind 117 = .ok (.ireturn, 1) := by decide +kernel
theorem dX10_singleSignKind_118 : decode cX10_singleSignKind 118 = .ok (.bipush 12, 2) := by decide +kernel
theorem dX10_singleSignKind_120 : decode cX10_singleSignKind 120 = .ok (.ireturn, 1) := by decide +kernel
theorem dX10_singleSignKind_121 : decode cX10_singleSignKind 121 = .ok (.iconst 1, 1) := by decide +kernel
theorem dX10_singleSignKind_122 : decode cX10_singleSignKind 122 = .ok (.ireturn, 1) := by decide +kernel
theorem dX10_keywordKind_0 : decode cX10_keywordKind 0 = .ok (.aload_n 0, 1) := by decide +kernel
theorem dX10_keywordKind_1 : decode cX10_keywordKind 1 = .ok (.aload_n 1, 1) := by decide +kernel
theorem dX10_keywordKind_2 : decode cX10_keywordKind 2 = .ok (.ldc 67, 2) := by decide +kernel
theorem dX10_keywordKind_4 : decode cX10_keywordKind 4 = .ok (.invokevirtual 69, 3) := by decide +kernel
theorem dX10_keywordKind_7 : decode cX10_keywordKind 7 = .ok (.ifCond .eq 5, 3) := by decide +kernel
theorem dX10_keywordKind_10 : decode cX10_keywordKind 10 = .ok (.iconst 4, 1) := by decide +kernel
theorem dX10_keywordKind_11 : decode cX10_keywordKind 11 = .ok (.ireturn, 1) := by decide +kernel
theorem dX10_keywordKind_12 : decode cX10_keywordKind 12 = .ok (.aload_n 0, 1) := by decide +kernel
theorem dX10_keywordKind_13 : decode cX10_keywordKind 13 = .ok (.aload_n 1, 1) := by decide +kernel
theorem dX10_keywordKind_14 : decode cX10_keywordKind 14 = .ok (.ldc 73, 2) := by decide +kernel
theorem dX10_keywordKind_16 : decode cX10_keywordKind 16 = .ok (.invokevirtual 69, 3) := by decide +kernel
theorem dX10_keywordKind_19 : decode cX10_keywordKind 19 = .ok (.ifCond .eq 5, 3) := by decide +kernel
theorem dX10_keywordKind_22 : decode cX10_keywordKind 22 = .ok (.iconst 5, 1) := by decide +kernel
theorem dX10_keywordKind_23 : decode cX10_keywordKind 23 = .ok (.ireturn, 1) := by decide +kernel
theorem dX10_keywordKind_24 : decode cX10_keywordKind 24 = .ok (.aload_n 0, 1) := by decide +kernel
theorem dX10_keywordKind_25 : decode cX10_keywordKind 25 = .ok (.aload_n 1, 1) := by decide +kernel
theorem dX10_keywordKind_26 : decode cX10_keywordKind 26 = .ok (.ldc 75, 2) := by decide +kernel
theorem dX10_keywordKind_28 : decode cX10_keywordKind 28 = .ok (.invokevirtual 69, 3) := by decide +kernel
theorem dX10_keywordKind_31 : decode cX10_keywordKind 31 = .ok (.ifCond .eq 6, 3) := by decide +kernel
theorem dX10_keywordKind_34 : decode cX10_keywordKind 34 = .ok (.bipush 6, 2) := by decide +kernel
theorem dX10_keywordKind_36 : decode cX10_keywordKind 36 = .ok (.ireturn, 1) := by decide +kernel
theorem dX10_keywordKind_37 : decode cX10_keywordKind 37 = .ok (.aload_n 0, 1) := by decide +kernel
theorem dX10_keywordKind_38 : decode cX10_keywordKind 38 = .ok (.aload_n 1, 1) := by decide +kernel
theorem dX10_keywordKind_39 : decode cX10_keywordKind 39 = .ok (.ldc 77, 2) := by decide +kernel
theorem dX10_keywordKind_41 : decode cX10_keywordKind 41 = .ok (.invokevirtual 69, 3) := by decide +kernel
theorem dX10_keywordKind_44 : decode cX10_keywordKind 44 = .ok (.ifCond .eq 6, 3) := by decide +kernel
theorem dX10_keywordKind_47 : decode cX10_keywordKind 47 = .ok (.bipush 7, 2) := by decide +kernel
theorem dX10_keywordKind_49 : decode cX10_keywordKind 49 = .ok (.ireturn, 1) := by decide +kernel
theorem dX10_keywordKind_50 : decode cX10_keywordKind 50 = .ok (.aload_n 0, 1) := by decide +kernel
theorem dX10_keywordKind_51 : decode cX10_keywordKind 51 = .ok (.aload_n 1, 1) := by decide +kernel
theorem dX10_keywordKind_52 : decode cX10_keywordKind 52 = .ok (.ldc 79, 2) := by decide +kernel
theorem dX10_keywordKind_54 : decode cX10_keywordKind 54 = .ok (.invokevirtual 69, 3) := by decide +kernel
theorem dX10_keywordKind_57 : decode cX10_keywordKind 57 = .ok (.ifCond .eq 6, 3) := by decide +kernel
theorem dX10_keywordKind_60 : decode cX10_keywordKind 60 = .ok (.bipush 8, 2) := by decide +kernel
theorem dX10_keywordKind_62 : decode cX10_keywordKind 62 = .ok (.ireturn, 1) := by decide +kernel
theorem dX10_keywordKind_63 : decode cX10_keywordKind 63 = .ok (.aload_n 0, 1) := by decide +kernel
theorem dX10_keywordKind_64 : decode cX10_keywordKind 64 = .ok (.aload_n 1, 1) := by decide +kernel
theorem dX10_keywordKind_65 : decode cX10_keywordKind 65 = .ok (.ldc 81, 2) := by decide +kernel
theorem dX10_keywordKind_67 : decode cX10_keywordKind 67 = .ok (.invokevirtual 69, 3) := by decide +kernel
theorem dX10_keywordKind_70 : decode cX10_keywordKind 70 = .ok (.ifCond .eq 8, 3) := by decide +kernel
theorem dX10_keywordKind_73 : decode cX10_keywordKind 73 = .ok (.bipush 9, 2) := by decide +kernel
theorem dX10_keywordKind_75 : decode cX10_keywordKind 75 = .ok (.goto 4, 3) := by decide +kernel
theorem dX10_keywordKind_78 : decode cX10_keywordKind 78 = .ok (.iconst 1, 1) := by decide +kernel
theorem dX10_keywordKind_79 : decode cX10_keywordKind 79 = .ok (.ireturn, 1) := by decide +kernel
theorem dX10_factIndex_0 : decode cX10_factIndex 0 = .ok (.aload_n 0, 1) := by decide +kernel
theorem dX10_factIndex_1 : decode cX10_factIndex 1 = .ok (.aload_n 1, 1) := by decide +kernel
theorem dX10_factIndex_2 : decode cX10_factIndex 2 = .ok (.ldc 83, 2) := by decide +kernel
theorem dX10_factIndex_4 : decode cX10_factIndex 4 = .ok (.invokevirtual 69, 3) := by decide +kernel
theorem dX10_factIndex_7 : decode cX10_factIndex 7 = .ok (.ifCond .eq 5, 3) := by decide +kernel
theorem dX10_factIndex_10 : decode cX10_factIndex 10 = .ok (.iconst 0, 1) := by decide +kernel
theorem dX10_factIndex_11 : decode cX10_factIndex 11 = .ok (.ireturn, 1) := by decide +kernel
theorem dX10_factIndex_12 : decode cX10_factIndex 12 = .ok (.aload_n 0, 1) := by decide +kernel
theorem dX10_factIndex_13 : decode cX10_factIndex 13 = .ok (.aload_n 1, 1) := by decide +kernel
theorem dX10_factIndex_14 : decode cX10_factIndex 14 = .ok (.ldc 87, 2) := by decide +kernel
theorem dX10_factIndex_16 : decode cX10_factIndex 16 = .ok (.invokevirtual 69, 3) := by decide +kernel
theorem dX10_factIndex_19 : decode cX10_factIndex 19 = .ok (.ifCond .eq 5, 3) := by decide +kernel
theorem dX10_factIndex_22 : decode cX10_factIndex 22 = .ok (.iconst 1, 1) := by decide +kernel
theorem dX10_factIndex_23 : decode cX10_factIndex 23 = .ok (.ireturn, 1) := by decide +kernel
theorem dX10_factIndex_24 : decode cX10_factIndex 24 = .ok (.aload_n 0, 1) := by decide +kernel
theorem dX10_factIndex_25 : decode cX10_factIndex 25 = .ok (.aload_n 1, 1) := by decide +kernel
theorem dX10_factIndex_26 : decode cX10_factIndex 26 = .ok (.ldc 89, 2) := by decide +kernel
theorem dX10_factIndex_28 : decode cX10_factIndex 28 = .ok (.invokevirtual 69, 3) := by decide +kernel
theorem dX10_factIndex_31 : decode cX10_factIndex 31 = .ok (.ifCond .eq 5, 3) := by decide +kernel
theorem dX10_factIndex_34 : decode cX10_factIndex 34 = .ok (.iconst 2, 1) := by decide +kernel
theorem dX10_factIndex_35 : decode cX10_factIndex 35 = .ok (.ireturn, 1) := by decide +kernel
theorem dX10_factIndex_36 : decode cX10_factIndex 36 = .ok (.aload_n 0, 1) := by decide +kernel
theorem dX10_factIndex_37 : decode cX10_factIndex 37 = .ok (.aload_n 1, 1) := by decide +kernel
theorem dX10_factIndex_38 : decode cX10_factIndex 38 = .ok (.ldc 91, 2) := by decide +kernel
theorem dX10_factIndex_40 : decode cX10_factIndex 40 = .ok (.invokevirtual 69, 3) := by decide +kernel
theorem dX10_factIndex_43 : decode cX10_factIndex 43 = .ok (.ifCond .eq 5, 3) := by decide +kernel
theorem dX10_factIndex_46 : decode cX10_factIndex 46 = .ok (.iconst 3, 1) := by decide +kernel
theorem dX10_factIndex_47 : decode cX10_factIndex 47 = .ok (.ireturn, 1) := by decide +kernel
theorem dX10_factIndex_48 : decode cX10_factIndex 48 = .ok (.aload_n 0, 1) := by decide +kernel
theorem dX10_factIndex_49 : decode cX10_factIndex 49 = .ok (.aload_n 1, 1) := by decide +kernel
theorem dX10_factIndex_50 : decode cX10_factIndex 50 = .ok (.ldc 93, 2) := by decide +kernel
theorem dX10_factIndex_52 : decode cX10_factIndex 52 = .ok (.invokevirtual 69, 3) := by decide +kernel
theorem dX10_factIndex_55 : decode cX10_factIndex 55 = .ok (.ifCond .eq 5, 3) := by decide +kernel
theorem dX10_factIndex_58 : decode cX10_factIndex 58 = .ok (.iconst 4, 1) := by decide +kernel
theorem dX10_factIndex_59 : decode cX10_factIndex 59 = .ok (.ireturn, 1) := by decide +kernel
theorem dX10_factIndex_60 : decode cX10_factIndex 60 = .ok (.aload_n 0, 1) := by decide +kernel
theorem dX10_factIndex_61 : decode cX10_factIndex 61 = .ok (.aload_n 1, 1) := by decide +kernel
theorem dX10_factIndex_62 : decode cX10_factIndex 62 = .ok (.ldc 95, 2) := by decide +kernel
theorem dX10_factIndex_64 : decode cX10_factIndex 64 = .ok (.invokevirtual 69, 3) := by decide +kernel
theorem dX10_factIndex_67 : decode cX10_factIndex 67 = .ok (.ifCond .eq 7, 3) := by decide +kernel
theorem dX10_factIndex_70 : decode cX10_factIndex 70 = .ok (.iconst 5, 1) := by decide +kernel
theorem dX10_factIndex_71 : decode cX10_factIndex 71 = .ok (.goto 4, 3) := by decide +kernel
theorem dX10_factIndex_74 : decode cX10_factIndex 74 = .ok (.iconst (-1), 1) := by decide +kernel
theorem dX10_factIndex_75 : decode cX10_factIndex 75 = .ok (.ireturn, 1) := by decide +kernel
theorem dX10_spells_0 : decode cX10_spells 0 = .ok (.aload_n 0, 1) := by decide +kernel
theorem dX10_spells_1 : decode cX10_spells 1 = .ok (.getfield 9, 3) := by decide +kernel
theorem dX10_spells_4 : decode cX10_spells 4 = .ok (.aload_n 0, 1) := by decide +kernel
theorem dX10_spells_5 : decode cX10_spells 5 = .ok (.getfield 15, 3) := by decide +kernel
theorem dX10_spells_8 : decode cX10_spells 8 = .ok (.isub, 1) := by decide +kernel
theorem dX10_spells_9 : decode cX10_spells 9 = .ok (.aload_n 2, 1) := by decide +kernel
theorem dX10_spells_10 : decode cX10_spells 10 = .ok (.invokevirtual 97, 3) := by decide +kernel
theorem dX10_spells_13 : decode cX10_spells 13 = .ok (.if_icmp .eq 5, 3) := by decide +kernel
theorem dX10_spells_16 : decode cX10_spells 16 = .ok (.iconst 0, 1) := by decide +kernel
theorem dX10_spells_17 : decode cX10_spells 17 = .ok (.ireturn, 1) := by decide +kernel
theorem dX10_spells_18 : decode cX10_spells 18 = .ok (.iconst 0, 1) := by decide +kernel
theorem dX10_spells_19 : decode cX10_spells 19 = .ok (.istore_n 3, 1) := by decide +kernel
theorem dX10_spells_20 : decode cX10_spells 20 = .ok (.iload_n 3, 1) := by decide +kernel
theorem dX10_spells_21 : decode cX10_spells 21 = .ok (.aload_n 2, 1) := by decide +kernel
theorem dX10_spells_22 : decode cX10_spells 22 = .ok (.invokevirtual 97, 3) := by decide +kernel
theorem dX10_spells_25 : decode cX10_spells 25 = .ok (.if_icmp .ge 29, 3) := by decide +kernel
theorem dX10_spells_28 : decode cX10_spells 28 = .ok (.aload_n 1, 1) := by decide +kernel
theorem dX10_spells_29 : decode cX10_spells 29 = .ok (.aload_n 0, 1) := by decide +kernel
theorem dX10_spells_30 : decode cX10_spells 30 = .ok (.getfield 15, 3) := by decide +kernel
theorem dX10_spells_33 : decode cX10_spells 33 = .ok (.iload_n 3, 1) := by decide +kernel
theorem dX10_spells_34 : decode cX10_spells 34 = .ok (.iadd, 1) := by decide +kernel
theorem dX10_spells_35 : decode cX10_spells 35 = .ok (.invokevirtual 28, 3) := by decide +kernel
theorem dX10_spells_38 : decode cX10_spells 38 = .ok (.aload_n 2, 1) := by decide +kernel
theorem dX10_spells_39 : decode cX10_spells 39 = .ok (.iload_n 3, 1) := by decide +kernel
theorem dX10_spells_40 : decode cX10_spells 40 = .ok (.invokevirtual 103, 3) := by decide +kernel
theorem dX10_spells_43 : decode cX10_spells 43 = .ok (.if_icmp .eq 5, 3) := by decide +kernel
theorem dX10_spells_46 : decode cX10_spells 46 = .ok (.iconst 0, 1) := by decide +kernel
theorem dX10_spells_47 : decode cX10_spells 47 = .ok (.ireturn, 1) := by decide +kernel
theorem dX10_spells_48 : decode cX10_spells 48 = .ok (.iinc 3 1, 3) := by decide +kernel
theorem dX10_spells_51 : decode cX10_spells 51 = .ok (.goto (-31), 3) := by decide +kernel
theorem dX10_spells_54 : decode cX10_spells 54 = .ok (.iconst 1, 1) := by decide +kernel
theorem dX10_spells_55 : decode cX10_spells 55 = .ok (.ireturn, 1) := by decide +kernel
theorem dX10_isBlank_0 : decode cX10_isBlank 0 = .ok (.iload_n 0, 1) := by decide +kernel
theorem dX10_isBlank_1 : decode cX10_isBlank 1 = .ok (.bipush 9, 2) := by decide +kernel
theorem dX10_isBlank_3 : decode cX10_isBlank 3 = .ok (.if_icmp .eq 21, 3) := by decide +kernel
theorem dX10_isBlank_6 : decode cX10_isBlank 6 = .ok (.iload_n 0, 1) := by decide +kernel
theorem dX10_isBlank_7 : decode cX10_isBlank 7 = .ok (.bipush 10, 2) := by decide +kernel
theorem dX10_isBlank_9 : decode cX10_isBlank 9 = .ok (.if_icmp .eq 15, 3) := by decide +kernel
theorem dX10_isBlank_12 : decode cX10_isBlank 12 = .ok (.iload_n 0, 1) := by decide +kernel
theorem dX10_isBlank_13 : decode cX10_isBlank 13 = .ok (.bipush 13, 2) := by decide +kernel
theorem dX10_isBlank_15 : decode cX10_isBlank 15 = .ok (.if_icmp .eq 9, 3) := by decide +kernel
theorem dX10_isBlank_18 : decode cX10_isBlank 18 = .ok (.iload_n 0, 1) := by decide +kernel
theorem dX10_isBlank_19 : decode cX10_isBlank 19 = .ok (.bipush 32, 2) := by decide +kernel
theorem dX10_isBlank_21 : decode cX10_isBlank 21 = .ok (.if_icmp .ne 7, 3) := by decide +kernel
theorem dX10_isBlank_24 : decode cX10_isBlank 24 = .ok (.iconst 1, 1) := by decide +kernel
theorem dX10_isBlank_25 : decode cX10_isBlank 25 = .ok (.goto 4, 3) := by decide +kernel
theorem dX10_isBlank_28 : decode cX10_isBlank 28 = .ok (.iconst 0, 1) := by decide +kernel
theorem dX10_isBlank_29 : decode cX10_isBlank 29 = .ok (.ireturn, 1) := by decide +kernel
theorem dX10_isLetter_0 : decode cX10_isLetter 0 = .ok (.iload_n 0, 1) := by decide +kernel
theorem dX10_isLetter_1 : decode cX10_isLetter 1 = .ok (.bipush 97, 2) := by decide +kernel
theorem dX10_isLetter_3 : decode cX10_isLetter 3 = .ok (.if_icmp .lt 13, 3) := by decide +kernel
theorem dX10_isLetter_6 : decode cX10_isLetter 6 = .ok (.iload_n 0, 1) := by decide +kernel
theorem dX10_isLetter_7 : decode cX10_isLetter 7 = .ok (.bipush 122, 2) := by decide +kernel
theorem dX10_isLetter_9 : decode cX10_isLetter 9 = .ok (.if_icmp .gt 7, 3) := by decide +kernel
theorem dX10_isLetter_12 : decode cX10_isLetter 12 = .ok (.iconst 1, 1) := by decide +kernel
theorem dX10_isLetter_13 : decode cX10_isLetter 13 = .ok (.goto 4, 3) := by decide +kernel
theorem dX10_isLetter_16 : decode cX10_isLetter 16 = .ok (.iconst 0, 1) := by decide +kernel
theorem dX10_isLetter_17 : decode cX10_isLetter 17 = .ok (.ireturn, 1) := by decide +kernel
theorem dX10_isDigit_0 : decode cX10_isDigit 0 = .ok (.iload_n 0, 1) := by decide +kernel
theorem dX10_isDigit_1 : decode cX10_isDigit 1 = .ok (.bipush 48, 2) := by decide +kernel
theorem dX10_isDigit_3 : decode cX10_isDigit 3 = .ok (.if_icmp .lt 13, 3) := by decide +kernel
theorem dX10_isDigit_6 : decode cX10_isDigit 6 = .ok (.iload_n 0, 1) := by decide +kernel
theorem dX10_isDigit_7 : decode cX10_isDigit 7 = .ok (.bipush 57, 2) := by decide +kernel
theorem dX10_isDigit_9 : decode cX10_isDigit 9 = .ok (.if_icmp .gt 7, 3) := by decide +kernel
theorem dX10_isDigit_12 : decode cX10_isDigit 12 = .ok (.iconst 1, 1) := by decide +kernel
theorem dX10_isDigit_13 : decode cX10_isDigit 13 = .ok (.goto 4, 3) := by decide +kernel
theorem dX10_isDigit_16 : decode cX10_isDigit 16 = .ok (.iconst 0, 1) := by decide +kernel
theorem dX10_isDigit_17 : decode cX10_isDigit 17 = .ok (.ireturn, 1) := by decide +kernel
theorem dX11_feed_0 : decode cX11_feed 0 = .ok (.aload_n 0, 1) := by decide +kernel
theorem dX11_feed_1 : decode cX11_feed 1 = .ok (.getfield 10, 3) := by decide +kernel
theorem dX11_feed_4 : decode cX11_feed 4 = .ok (.bipush 20, 2) := by decide +kernel
theorem dX11_feed_6 : decode cX11_feed 6 = .ok (.invokevirtual 90, 3) := by decide +kernel
theorem dX11_feed_9 : decode cX11_feed 9 = .ok (.ifCond .ne 5, 3) := by decide +kernel
theorem dX11_feed_12 : decode cX11_feed 12 = .ok (.iconst (-1), 1) := by decide +kernel
theorem dX11_feed_13 : decode cX11_feed 13 = .ok (.ireturn, 1) := by decide +kernel
theorem dX11_feed_14 : decode cX11_feed 14 = .ok (.aload_n 0, 1) := by decide +kernel
theorem dX11_feed_15 : decode cX11_feed 15 = .ok (.getfield 10, 3) := by decide +kernel
theorem dX11_feed_18 : decode cX11_feed 18 = .ok (.iload_n 1, 1) := by decide +kernel
theorem dX11_feed_19 : decode cX11_feed 19 = .ok (.invokevirtual 94, 3) := by decide +kernel
theorem dX11_feed_22 : decode cX11_feed 22 = .ok (.aload_n 0, 1) := by decide +kernel
theorem dX11_feed_23 : decode cX11_feed 23 = .ok (.getfield 10, 3) := by decide +kernel
theorem dX11_feed_26 : decode cX11_feed 26 = .ok (.iload_n 2, 1) := by decide +kernel
theorem dX11_feed_27 : decode cX11_feed 27 = .ok (.invokevirtual 94, 3) := by decide +kernel
theorem dX11_feed_30 : decode cX11_feed 30 = .ok (.aload_n 0, 1) := by decide +kernel
theorem dX11_feed_31 : decode cX11_feed 31 = .ok (.getfield 10, 3) := by decide +kernel
theorem dX11_feed_34 : decode cX11_feed 34 = .ok (.iload_n 3, 1) := by decide +kernel
theorem dX11_feed_35 : decode cX11_feed 35 = .ok (.invokevirtual 94, 3) := by decide +kernel
theorem dX11_feed_38 : decode cX11_feed 38 = .ok (.aload_n 0, 1) := by decide +kernel
theorem dX11_feed_39 : decode cX11_feed 39 = .ok (.getfield 10, 3) := by decide +kernel
theorem dX11_feed_42 : decode cX11_feed 42 = .ok (.iload 4, 2) := by decide +kernel
theorem dX11_feed_44 : decode cX11_feed 44 = .ok (.invokevirtual 94, 3) := by decide +kernel
theorem dX11_feed_47 : decode cX11_feed 47 = .ok (.aload_n 0, 1) := by decide +kernel
theorem dX11_feed_48 : decode cX11_feed 48 = .ok (.getfield 10, 3) := by decide +kernel
theorem dX11_feed_51 : decode cX11_feed 51 = .ok (.iload 5, 2) := by decide +kernel
theorem dX11_feed_53 : decode cX11_feed 53 = .ok (.invokevirtual 94, 3) := by decide +kernel
theorem dX11_feed_56 : decode cX11_feed 56 = .ok (.aload_n 0, 1) := by decide +kernel
theorem dX11_feed_57 : decode cX11_feed 57 = .ok (.getfield 10, 3) := by decide +kernel
theorem dX11_feed_60 : decode cX11_feed 60 = .ok (.invokevirtual 98, 3) := by decide +kernel
theorem dX11_feed_63 : decode cX11_feed 63 = .ok (.ireturn, 1) := by decide +kernel
theorem dX11_back_0 : decode cX11_back 0 = .ok (.iload_n 1, 1) := by decide +kernel
theorem dX11_back_1 : decode cX11_back 1 = .ok (.iconst 0, 1) := by decide +kernel
theorem dX11_back_2 : decode cX11_back 2 = .ok (.aload_n 0, 1) := by decide +kernel
theorem dX11_back_3 : decode cX11_back 3 = .ok (.getfield 10, 3) := by decide +kernel
theorem dX11_back_6 : decode cX11_back 6 = .ok (.invokevirtual 98, 3) := by decide +kernel
theorem dX11_back_9 : decode cX11_back 9 = .ok (.invokestatic 102, 3) := by decide +kernel
theorem dX11_back_12 : decode cX11_back 12 = .ok (.ifCond .ne 5, 3) := by decide +kernel
theorem dX11_back_15 : decode cX11_back 15 = .ok (.iconst (-1), 1) := by decide +kernel
theorem dX11_back_16 : decode cX11_back 16 = .ok (.ireturn, 1) := by decide +kernel
theorem dX11_back_17 : decode cX11_back 17 = .ok (.aload_n 0, 1) := by decide +kernel
theorem dX11_back_18 : decode cX11_back 18 = .ok (.getfield 10, 3) := by decide +kernel
theorem dX11_back_21 : decode cX11_back 21 = .ok (.aload_n 0, 1) := by decide +kernel
theorem dX11_back_22 : decode cX11_back 22 = .ok (.getfield 10, 3) := by decide +kernel
theorem dX11_back_25 : decode cX11_back 25 = .ok (.invokevirtual 98, 3) := by decide +kernel
theorem dX11_back_28 : decode cX11_back 28 = .ok (.iload_n 1, 1) := by decide +kernel
theorem dX11_back_29 : decode cX11_back 29 = .ok (.isub, 1) := by decide +kernel
theorem dX11_back_30 : decode cX11_back 30 = .ok (.invokevirtual 106, 3) := by decide +kernel
theorem dX11_back_33 : decode cX11_back 33 = .ok (.aload_n 0, 1) := by decide +kernel
theorem dX11_back_34 : decode cX11_back 34 = .ok (.getfield 10, 3) := by decide +kernel
theorem dX11_back_37 : decode cX11_back 37 = .ok (.invokevirtual 98, 3) := by decide +kernel
theorem dX11_back_40 : decode cX11_back 40 = .ok (.ireturn, 1) := by decide +kernel
theorem dX11_read_0 : decode cX11_read 0 = .ok (.aload_n 0, 1) := by decide +kernel
theorem dX11_read_1 : decode cX11_read 1 = .ok (.getfield 31, 3) := by decide +kernel
theorem dX11_read_4 : decode cX11_read 4 = .ok (.aload_n 0, 1) := by decide +kernel
theorem dX11_read_5 : decode cX11_read 5 = .ok (.getfield 10, 3) := by decide +kernel
theorem dX11_read_8 : decode cX11_read 8 = .ok (.aload_n 0, 1) := by decide +kernel
theorem dX11_read_9 : decode cX11_read 9 = .ok (.getfield 23, 3) := by decide +kernel
theorem dX11_read_12 : decode cX11_read 12 = .ok (.invokevirtual 109, 3) := by decide +kernel
theorem dX11_read_15 : decode cX11_read 15 = .ok (.istore_n 1, 1) := by decide +kernel
theorem dX11_read_16 : decode cX11_read 16 = .ok (.aload_n 0, 1) := by decide +kernel
theorem dX11_read_17 : decode cX11_read 17 = .ok (.getfield 10, 3) := by decide +kernel
theorem dX11_read_20 : decode cX11_read 20 = .ok (.iconst 0, 1) := by decide +kernel
theorem dX11_read_21 : decode cX11_read 21 = .ok (.invokevirtual 106, 3) := by decide +kernel
theorem dX11_read_24 : decode cX11_read 24 = .ok (.iload_n 1, 1) := by decide +kernel
theorem dX11_read_25 : decode cX11_read 25 = .ok (.ifCond .ne 21, 3) := by decide +kernel
theorem dX11_read_28 : decode cX11_read 28 = .ok (.aload_n 0, 1) := by decide +kernel
theorem dX11_read_29 : decode cX11_read 29 = .ok (.getfield 19, 3) := by decide +kernel
theorem dX11_read_32 : decode cX11_read 32 = .ok (.astore_n 2, 1) := by decide +kernel
theorem dX11_read_33 : decode cX11_read 33 = .ok (.aload_n 0, 1) := by decide +kernel
theorem dX11_read_34 : decode cX11_read 34 = .ok (.aload_n 0, 1) := by decide +kernel
theorem dX11_read_35 : decode cX11_read 35 = .ok (.getfield 23, 3) := by decide +kernel
theorem dX11_read_38 : decode cX11_read 38 = .ok (.putfield 19, 3) := by decide +kernel
theorem dX11_read_41 : decode cX11_read 41 = .ok (.aload_n 0, 1) := by decide +kernel
theorem dX11_read_42 : decode cX11_read 42 = .ok (.aload_n 2, 1) := by decide +kernel
theorem dX11_read_43 : decode cX11_read 43 = .ok (.putfield 23, 3) := by decide +kernel
theorem dX11_read_46 : decode cX11_read 46 = .ok (.iload_n 1, 1) := by decide +kernel
theorem dX11_read_47 : decode cX11_read 47 = .ok (.ireturn, 1) := by decide +kernel
theorem dX11_place_0 : decode cX11_place 0 = .ok (.aload_n 0, 1) := by decide +kernel
theorem dX11_place_1 : decode cX11_place 1 = .ok (.getfield 31, 3) := by decide +kernel
theorem dX11_place_4 : decode cX11_place 4 = .ok (.invokevirtual 113, 3) := by decide +kernel
theorem dX11_place_7 : decode cX11_place 7 = .ok (.ireturn, 1) := by decide +kernel
theorem dX11_volunteer_0 : decode cX11_volunteer 0 = .ok (.iload_n 1, 1) := by decide +kernel
theorem dX11_volunteer_1 : decode cX11_volunteer 1 = .ok (.iconst 0, 1) := by decide +kernel
theorem dX11_volunteer_2 : decode cX11_volunteer 2 = .ok (.iconst 3, 1) := by decide +kernel
theorem dX11_volunteer_3 : decode cX11_volunteer 3 = .ok (.invokestatic 102, 3) := by decide +kernel
theorem dX11_volunteer_6 : decode cX11_volunteer 6 = .ok (.ifCond .eq 14, 3) := by decide +kernel
theorem dX11_volunteer_9 : decode cX11_volunteer 9 = .ok (.aload_n 0, 1) := by decide +kernel
theorem dX11_volunteer_10 : decode cX11_volunteer 10 = .ok (.getfield 38, 3) := by decide +kernel
theorem dX11_volunteer_13 : decode cX11_volunteer 13 = .ok (.iload_n 1, 1) := by decide +kernel
theorem dX11_volunteer_14 : decode cX11_volunteer 14 = .ok (.invokevirtual 116, 3) := by decide +kernel
theorem dX11_volunteer_17 : decode cX11_volunteer 17 = .ok (.goto 4, 3) := by decide +kernel
theorem dX11_volunteer_20 : decode cX11_volunteer 20 = .ok (.iconst (-1), 1) := by decide +kernel
theorem dX11_volunteer_21 : decode cX11_volunteer 21 = .ok (.ireturn, 1) := by decide +kernel
theorem dX11_step_0 : decode cX11_step 0 = .ok (.iload_n 1, 1) := by decide +kernel
theorem dX11_step_1 : decode cX11_step 1 = .ok (.iconst (-1), 1) := by decide +kernel
theorem dX11_step_2 : decode cX11_step 2 = .ok (.if_icmp .eq 14, 3) := by decide +kernel
theorem dX11_step_5 : decode cX11_step 5 = .ok (.aload_n 0, 1) := by decide +kernel
theorem dX11_step_6 : decode cX11_step 6 = .ok (.getfield 38, 3) := by decide +kernel
theorem dX11_step_9 : decode cX11_step 9 = .ok (.iload_n 1, 1) := by decide +kernel
theorem dX11_step_10 : decode cX11_step 10 = .ok (.invokevirtual 120, 3) := by decide +kernel
theorem dX11_step_13 : decode cX11_step 13 = .ok (.ifCond .eq 7, 3) := by decide +kernel
theorem dX11_step_16 : decode cX11_step 16 = .ok (.iconst 1, 1) := by decide +kernel
theorem dX11_step_17 : decode cX11_step 17 = .ok (.goto 4, 3) := by decide +kernel
theorem dX11_step_20 : decode cX11_step 20 = .ok (.iconst 0, 1) := by decide +kernel
theorem dX11_step_21 : decode cX11_step 21 = .ok (.istore_n 3, 1) := by decide +kernel
theorem dX11_step_22 : decode cX11_step 22 = .ok (.iload_n 3, 1) := by decide +kernel
theorem dX11_step_23 : decode cX11_step 23 = .ok (.ifCond .eq 26, 3) := by decide +kernel
theorem dX11_step_26 : decode cX11_step 26 = .ok (.iload_n 2, 1) := by decide +kernel
theorem dX11_step_27 : decode cX11_step 27 = .ok (.iconst 1, 1) := by decide +kernel
theorem dX11_step_28 : decode cX11_step 28 = .ok (.sipush 200, 3) := by decide +kernel
theorem dX11_step_31 : decode cX11_step 31 = .ok (.invokestatic 102, 3) := by decide +kernel
theorem dX11_step_34 : decode cX11_step 34 = .ok (.ifCond .eq 15, 3) := by decide +kernel
theorem dX11_step_37 : decode cX11_step 37 = .ok (.aload_n 0, 1) := by decide +kernel
theorem dX11_step_38 : decode cX11_step 38 = .ok (.getfield 38, 3) := by decide +kernel
theorem dX11_step_41 : decode cX11_step 41 = .ok (.iload_n 1, 1) := by decide +kernel
theorem dX11_step_42 : decode cX11_step 42 = .ok (.iload_n 2, 1) := by decide +kernel
theorem dX11_step_43 : decode cX11_step 43 = .ok (.invokevirtual 123, 3) := by decide +kernel
theorem dX11_step_46 : decode cX11_step 46 = .ok (.goto 4, 3) := by decide +kernel
theorem dX11_step_49 : decode cX11_step 49 = .ok (.iconst (-1), 1) := by decide +kernel
theorem dX11_step_50 : decode cX11_step 50 = .ok (.ireturn, 1) := by decide +kernel
theorem dX11_learn_0 : decode cX11_learn 0 = .ok (.aload_n 0, 1) := by decide +kernel
theorem dX11_learn_1 : decode cX11_learn 1 = .ok (.getfield 38, 3) := by decide +kernel
theorem dX11_learn_4 : decode cX11_learn 4 = .ok (.iload_n 1, 1) := by decide +kernel
theorem dX11_learn_5 : decode cX11_learn 5 = .ok (.iload_n 2, 1) := by decide +kernel
theorem dX11_learn_6 : decode cX11_learn 6 = .ok (.aload_n 0, 1) := by decide +kernel
theorem dX11_learn_7 : decode cX11_learn 7 = .ok (.getfield 86, 3) := by decide +kernel
theorem dX11_learn_10 : decode cX11_learn 10 = .ok (.invokevirtual 127, 3) := by decide +kernel
theorem dX11_learn_13 : decode cX11_learn 13 = .ok (.ireturn, 1) := by decide +kernel
theorem dX11_has_0 : decode cX11_has 0 = .ok (.aload_n 0, 1) := by decide +kernel
theorem dX11_has_1 : decode cX11_has 1 = .ok (.getfield 38, 3) := by decide +kernel
theorem dX11_has_4 : decode cX11_has 4 = .ok (.iload_n 1, 1) := by decide +kernel
theorem dX11_has_5 : decode cX11_has 5 = .ok (.invokevirtual 130, 3) := by decide +kernel
theorem dX11_has_8 : decode cX11_has 8 = .ok (.ifCond .eq 21, 3) := by decide +kernel
theorem dX11_has_11 : decode cX11_has 11 = .ok (.aload_n 0, 1) := by decide +kernel
theorem dX11_has_12 : decode cX11_has 12 = .ok (.getfield 38, 3) := by decide +kernel
theorem dX11_has_15 : decode cX11_has 15 = .ok (.iload_n 2, 1) := by decide +kernel
theorem dX11_has_16 : decode cX11_has 16 = .ok (.invokevirtual 120, 3) := by decide +kernel
theorem dX11_has_19 : decode cX11_has 19 = .ok (.ifCond .eq 10, 3) := by decide +kernel
theorem dX11_has_22 : decode cX11_has 22 = .ok (.iload_n 3, 1) := by decide +kernel
theorem dX11_has_23 : decode cX11_has 23 = .ok (.invokestatic 133, 3) := by decide +kernel
theorem dX11_has_26 : decode cX11_has 26 = .ok (.ifCond .ne 5, 3) := by decide +kernel
theorem dX11_has_29 : decode cX11_has 29 = .ok (.iconst (-1), 1) := by decide +kernel
theorem dX11_has_30 : decode cX11_has 30 = .ok (.ireturn, 1) := by decide +kernel
theorem dX11_has_31 : decode cX11_has 31 = .ok (.aload_n 0, 1) := by decide +kernel
theorem dX11_has_32 : decode cX11_has 32 = .ok (.getfield 38, 3) := by decide +kernel
theorem dX11_has_35 : decode cX11_has 35 = .ok (.iload_n 1, 1) := by decide +kernel
theorem dX11_has_36 : decode cX11_has 36 = .ok (.iload_n 2, 1) := by decide +kernel
theorem dX11_has_37 : decode cX11_has 37 = .ok (.iload_n 3, 1) := by decide +kernel
theorem dX11_has_38 : decode cX11_has 38 = .ok (.invokevirtual 136, 3) := by decide +kernel
theorem dX11_has_41 : decode cX11_has 41 = .ok (.ifCond .eq 7, 3) := by decide +kernel
theorem dX11_has_44 : decode cX11_has 44 = .ok (.iconst 1, 1) := by decide +kernel
theorem dX11_has_45 : decode cX11_has 45 = .ok (.goto 4, 3) := by decide +kernel
theorem dX11_has_48 : decode cX11_has 48 = .ok (.iconst 0, 1) := by decide +kernel
theorem dX11_has_49 : decode cX11_has 49 = .ok (.ireturn, 1) := by decide +kernel
theorem dX11_bar_0 : decode cX11_bar 0 = .ok (.aload_n 0, 1) := by decide +kernel
theorem dX11_bar_1 : decode cX11_bar 1 = .ok (.getfield 38, 3) := by decide +kernel
theorem dX11_bar_4 : decode cX11_bar 4 = .ok (.iload_n 1, 1) := by decide +kernel
theorem dX11_bar_5 : decode cX11_bar 5 = .ok (.iload_n 2, 1) := by decide +kernel
theorem dX11_bar_6 : decode cX11_bar 6 = .ok (.aload_n 0, 1) := by decide +kernel
theorem dX11_bar_7 : decode cX11_bar 7 = .ok (.getfield 86, 3) := by decide +kernel
theorem dX11_bar_10 : decode cX11_bar 10 = .ok (.invokevirtual 139, 3) := by decide +kernel
theorem dX11_bar_13 : decode cX11_bar 13 = .ok (.ireturn, 1) := by decide +kernel
theorem dX11_care_0 : decode cX11_care 0 = .ok (.aload_n 0, 1) := by decide +kernel
theorem dX11_care_1 : decode cX11_care 1 = .ok (.getfield 38, 3) := by decide +kernel
theorem dX11_care_4 : decode cX11_care 4 = .ok (.iload_n 1, 1) := by decide +kernel
theorem dX11_care_5 : decode cX11_care 5 = .ok (.invokevirtual 130, 3) := by decide +kernel
theorem dX11_care_8 : decode cX11_care 8 = .ok (.ifCond .eq 11, 3) := by decide +kernel
theorem dX11_care_11 : decode cX11_care 11 = .ok (.aload_n 0, 1) := by decide +kernel
theorem dX11_care_12 : decode cX11_care 12 = .ok (.iload_n 1, 1) := by decide +kernel
theorem dX11_care_13 : decode cX11_care 13 = .ok (.invokevirtual 142, 3) := by decide +kernel
theorem dX11_care_16 : decode cX11_care 16 = .ok (.ifCond .ne 5, 3) := by decide +kernel
theorem dX11_care_19 : decode cX11_care 19 = .ok (.iconst 0, 1) := by decide +kernel
theorem dX11_care_20 : decode cX11_care 20 = .ok (.ireturn, 1) := by decide +kernel
theorem dX11_care_21 : decode cX11_care 21 = .ok (.aload_n 0, 1) := by decide +kernel
theorem dX11_care_22 : decode cX11_care 22 = .ok (.getfield 38, 3) := by decide +kernel
theorem dX11_care_25 : decode cX11_care 25 = .ok (.iload_n 1, 1) := by decide +kernel
theorem dX11_care_26 : decode cX11_care 26 = .ok (.aload_n 0, 1) := by decide +kernel
theorem dX11_care_27 : decode cX11_care 27 = .ok (.getfield 86, 3) := by decide +kernel
theorem dX11_care_30 : decode cX11_care 30 = .ok (.invokevirtual 145, 3) := by decide +kernel
theorem dX11_care_33 : decode cX11_care 33 = .ok (.iconst 1, 1) := by decide +kernel
theorem dX11_care_34 : decode cX11_care 34 = .ok (.ireturn, 1) := by decide +kernel
theorem dX11_due_0 : decode cX11_due 0 = .ok (.aload_n 0, 1) := by decide +kernel
theorem dX11_due_1 : decode cX11_due 1 = .ok (.getfield 38, 3) := by decide +kernel
theorem dX11_due_4 : decode cX11_due 4 = .ok (.iload_n 1, 1) := by decide +kernel
theorem dX11_due_5 : decode cX11_due 5 = .ok (.invokevirtual 130, 3) := by decide +kernel
theorem dX11_due_8 : decode cX11_due 8 = .ok (.ifCond .ne 5, 3) := by decide +kernel
theorem dX11_due_11 : decode cX11_due 11 = .ok (.iconst (-1), 1) := by decide +kernel
theorem dX11_due_12 : decode cX11_due 12 = .ok (.ireturn, 1) := by decide +kernel
theorem dX11_due_13 : decode cX11_due 13 = .ok (.aload_n 0, 1) := by decide +kernel
theorem dX11_due_14 : decode cX11_due 14 = .ok (.iload_n 1, 1) := by decide +kernel
theorem dX11_due_15 : decode cX11_due 15 = .ok (.invokevirtual 142, 3) := by decide +kernel
theorem dX11_due_18 : decode cX11_due 18 = .ok (.ifCond .eq 7, 3) := by decide +kernel
theorem dX11_due_21 : decode cX11_due 21 = .ok (.iconst 1, 1) := by decide +kernel
theorem dX11_due_22 : decode cX11_due 22 = .ok (.goto 4, 3) := by decide +kernel
theorem dX11_due_25 : decode cX11_due 25 = .ok (.iconst 0, 1) := by decide +kernel
theorem dX11_due_26 : decode cX11_due 26 = .ok (.ireturn, 1) := by decide +kernel
theorem dX11_clock_0 : decode cX11_clock 0 = .ok (.iload_n 1, 1) := by decide +kernel
theorem dX11_clock_1 : decode cX11_clock 1 = .ok (.aload_n 0, 1) := by decide +kernel
theorem dX11_clock_2 : decode cX11_clock 2 = .ok (.getfield 86, 3) := by decide +kernel
theorem dX11_clock_5 : decode cX11_clock 5 = .ok (.sipush 199, 3) := by decide +kernel
theorem dX11_clock_8 : decode cX11_clock 8 = .ok (.invokestatic 102, 3) := by decide +kernel
theorem dX11_clock_11 : decode cX11_clock 11 = .ok (.ifCond .ne 5, 3) := by decide +kernel
theorem dX11_clock_14 : decode cX11_clock 14 = .ok (.iconst 0, 1) := by decide +kernel
theorem dX11_clock_15 : decode cX11_clock 15 = .ok (.ireturn, 1) := by decide +kernel
theorem dX11_clock_16 : decode cX11_clock 16 = .ok (.iload_n 1, 1) := by decide +kernel
theorem dX11_clock_17 : decode cX11_clock 17 = .ok (.aload_n 0, 1) := by decide +kernel
theorem dX11_clock_18 : decode cX11_clock 18 = .ok (.getfield 86, 3) := by decide +kernel
theorem dX11_clock_21 : decode cX11_clock 21 = .ok (.if_icmp .eq 22, 3) := by decide +kernel
theorem dX11_clock_24 : decode cX11_clock 24 = .ok (.aload_n 0, 1) := by decide +kernel
theorem dX11_clock_25 : decode cX11_clock 25 = .ok (.iload_n 1, 1) := by decide +kernel
theorem dX11_clock_26 : decode cX11_clock 26 = .ok (.putfield 86, 3) := by decide +kernel
theorem dX11_clock_29 : decode cX11_clock 29 = .ok (.aload_n 0, 1) := by decide +kernel
theorem dX11_clock_30 : decode cX11_clock 30 = .ok (.getfield 52, 3) := by decide +kernel
theorem dX11_clock_33 : decode cX11_clock 33 = .ok (.invokevirtual 149, 3) := by decide +kernel
theorem dX11_clock_36 : decode cX11_clock 36 = .ok (.aload_n 0, 1) := by decide +kernel
theorem dX11_clock_37 : decode cX11_clock 37 = .ok (.getfield 66, 3) := by decide +kernel
theorem dX11_clock_40 : decode cX11_clock 40 = .ok (.invokevirtual 152, 3) := by decide +kernel
theorem dX11_clock_43 : decode cX11_clock 43 = .ok (.iconst 1, 1) := by decide +kernel
theorem dX11_clock_44 : decode cX11_clock 44 = .ok (.ireturn, 1) := by decide +kernel
theorem dX11_holiday_0 : decode cX11_holiday 0 = .ok (.iload_n 1, 1) := by decide +kernel
theorem dX11_holiday_1 : decode cX11_holiday 1 = .ok (.invokestatic 133, 3) := by decide +kernel
theorem dX11_holiday_4 : decode cX11_holiday 4 = .ok (.ifCond .eq 25, 3) := by decide +kernel
theorem dX11_holiday_7 : decode cX11_holiday 7 = .ok (.aload_n 0, 1) := by decide +kernel
theorem dX11_holiday_8 : decode cX11_holiday 8 = .ok (.getfield 45, 3) := by decide +kernel
theorem dX11_holiday_11 : decode cX11_holiday 11 = .ok (.iload_n 1, 1) := by decide +kernel
theorem dX11_holiday_12 : decode cX11_holiday 12 = .ok (.invokevirtual 155, 3) := by decide +kernel
theorem dX11_holiday_15 : decode cX11_holiday 15 = .ok (.ifCond .ne 14, 3) := by decide +kernel
theorem dX11_holiday_18 : decode cX11_holiday 18 = .ok (.aload_n 0, 1) := by decide +kernel
theorem dX11_holiday_19 : decode cX11_holiday 19 = .ok (.getfield 45, 3) := by decide +kernel
theorem dX11_holiday_22 : decode cX11_holiday 22 = .ok (.iload_n 1, 1) := by decide +kernel
theorem dX11_holiday_23 : decode cX11_holiday 23 = .ok (.invokevirtual 158, 3) := by decide +kernel
theorem dX11_holiday_26 : decode cX11_holiday 26 = .ok (.ifCond .eq 5, 3) := by decide +kernel
theorem dX11_holiday_29 : decode cX11_holiday 29 = .ok (.iconst 0, 1) := by decide +kernel
theorem dX11_holiday_30 : decode cX11_holiday 30 = .ok (.ireturn, 1) := by decide +kernel
theorem dX11_holiday_31 : decode cX11_holiday 31 = .ok (.aload_n 0, 1) := by decide +kernel
theorem dX11_holiday_32 : decode cX11_holiday 32 = .ok (.getfield 45, 3) := by decide +kernel
theorem dX11_holiday_35 : decode cX11_holiday 35 = .ok (.iload_n 1, 1) := by decide +kernel
theorem dX11_holiday_36 : decode cX11_holiday 36 = .ok (.invokevirtual 161, 3) := by decide +kernel
theorem dX11_holiday_39 : decode cX11_holiday 39 = .ok (.iconst 1, 1) := by decide +kernel
theorem dX11_holiday_40 : decode cX11_holiday 40 = .ok (.ireturn, 1) := by decide +kernel
theorem dX11_offer_0 : decode cX11_offer 0 = .ok (.aload_n 0, 1) := by decide +kernel
theorem dX11_offer_1 : decode cX11_offer 1 = .ok (.getfield 38, 3) := by decide +kernel
theorem dX11_offer_4 : decode cX11_offer 4 = .ok (.iload_n 1, 1) := by decide +kernel
theorem dX11_offer_5 : decode cX11_offer 5 = .ok (.invokevirtual 130, 3) := by decide +kernel
theorem dX11_offer_8 : decode cX11_offer 8 = .ok (.ifCond .eq 26, 3) := by decide +kernel
theorem dX11_offer_11 : decode cX11_offer 11 = .ok (.iload_n 2, 1) := by decide +kernel
theorem dX11_offer_12 : decode cX11_offer 12 = .ok (.iconst 1, 1) := by decide +kernel
theorem dX11_offer_13 : decode cX11_offer 13 = .ok (.bipush 63, 2) := by decide +kernel
theorem dX11_offer_15 : decode cX11_offer 15 = .ok (.invokestatic 102, 3) := by decide +kernel
theorem dX11_offer_18 : decode cX11_offer 18 = .ok (.ifCond .eq 16, 3) := by decide +kernel
theorem dX11_offer_21 : decode cX11_offer 21 = .ok (.iload_n 3, 1) := by decide +kernel
theorem dX11_offer_22 : decode cX11_offer 22 = .ok (.iconst 1, 1) := by decide +kernel
theorem dX11_offer_23 : decode cX11_offer 23 = .ok (.iconst 3, 1) := by decide +kernel
theorem dX11_offer_24 : decode cX11_offer 24 = .ok (.invokestatic 102, 3) := by decide +kernel
theorem dX11_offer_27 : decode cX11_offer 27 = .ok (.ifCond .eq 7, 3) := by decide +kernel
theorem dX11_offer_30 : decode cX11_offer 30 = .ok (.iconst 1, 1) := by decide +kernel
theorem dX11_offer_31 : decode cX11_offer 31 = .ok (.goto 4, 3) := by decide +kernel
theorem dX11_offer_34 : decode cX11_offer 34 = .ok (.iconst 0, 1) := by decide +kernel
theorem dX11_offer_35 : decode cX11_offer 35 = .ok (.istore 4, 2) := by decide +kernel
theorem dX11_offer_37 : decode cX11_offer 37 = .ok (.iload 4, 2) := by decide +kernel
theorem dX11_offer_39 : decode cX11_offer 39 = .ok (.ifCond .eq 31, 3) := by decide +kernel
theorem dX11_offer_42 : decode cX11_offer 42 = .ok (.aload_n 0, 1) := by decide +kernel
theorem dX11_offer_43 : decode cX11_offer 43 = .ok (.getfield 45, 3) := by decide +kernel
theorem dX11_offer_46 : decode cX11_offer 46 = .ok (.aload_n 0, 1) := by decide +kernel
theorem dX11_offer_47 : decode cX11_offer 47 = .ok (.getfield 86, 3) := by decide +kernel
theorem dX11_offer_50 : decode cX11_offer 50 = .ok (.invokevirtual 164, 3) := by decide +kernel
theorem dX11_offer_53 : decode cX11_offer 53 = .ok (.ifCond .ne 17, 3) := by decide +kernel
theorem dX11_offer_56 : decode cX11_offer 56 = .ok (.aload_n 0, 1) := by decide +kernel
theorem dX11_offer_57 : decode cX11_offer 57 = .ok (.getfield 45, 3) := by decide +kernel
theorem dX11_offer_60 : decode cX11_offer 60 = .ok (.aload_n 0, 1) := by decide +kernel
theorem dX11_offer_61 : decode cX11_offer 61 = .ok (.getfield 86, 3) := by decide +kernel
theorem dX11_offer_64 : decode cX11_offer 64 = .ok (.invokevirtual 158, 3) := by decide +kernel
theorem dX11_offer_67 : decode cX11_offer 67 = .ok (.ifCond .eq 5, 3) := by decide +kernel
theorem dX11_offer_70 : decode cX11_offer 70 = .ok (.iconst (-1), 1) := by decide +kernel
theorem dX11_offer_71 : decode cX11_offer 71 = .ok (.ireturn, 1) := by decide +kernel
theorem dX11_offer_72 : decode cX11_offer 72 = .ok (.aload_n 0, 1) := by decide +kernel
theorem dX11_offer_73 : decode cX11_offer 73 = .ok (.getfield 52, 3) := by decide +kernel
theorem dX11_offer_76 : decode cX11_offer 76 = .ok (.iload_n 1, 1) := by decide +kernel
theorem dX11_offer_77 : decode cX11_offer 77 = .ok (.iload_n 2, 1) := by decide +kernel
theorem dX11_offer_78 : decode cX11_offer 78 = .ok (.iload_n 3, 1) := by decide +kernel
theorem dX11_offer_79 : decode cX11_offer 79 = .ok (.invokevirtual 167, 3) := by decide +kernel
theorem dX11_offer_82 : decode cX11_offer 82 = .ok (.ireturn, 1) := by decide +kernel
theorem dX11_shifts_0 : decode cX11_shifts 0 = .ok (.aload_n 0, 1) := by decide +kernel
theorem dX11_shifts_1 : decode cX11_shifts 1 = .ok (.getfield 45, 3) := by decide +kernel
theorem dX11_shifts_4 : decode cX11_shifts 4 = .ok (.aload_n 0, 1) := by decide +kernel
theorem dX11_shifts_5 : decode cX11_shifts 5 = .ok (.getfield 86, 3) := by decide +kernel
theorem dX11_shifts_8 : decode cX11_shifts 8 = .ok (.invokevirtual 164, 3) := by decide +kernel
theorem dX11_shifts_11 : decode cX11_shifts 11 = .ok (.ifCond .ne 17, 3) := by decide +kernel
theorem dX11_shifts_14 : decode cX11_shifts 14 = .ok (.aload_n 0, 1) := by decide +kernel
theorem dX11_shifts_15 : decode cX11_shifts 15 = .ok (.getfield 45, 3) := by decide +kernel
theorem dX11_shifts_18 : decode cX11_shifts 18 = .ok (.aload_n 0, 1) := by decide +kernel
theorem dX11_shifts_19 : decode cX11_shifts 19 = .ok (.getfield 86, 3) := by decide +kernel
theorem dX11_shifts_22 : decode cX11_shifts 22 = .ok (.invokevirtual 158, 3) := by decide +kernel
theorem dX11_shifts_25 : decode cX11_shifts 25 = .ok (.ifCond .eq 5, 3) := by decide +kernel
theorem dX11_shifts_28 : decode cX11_shifts 28 = .ok (.iconst (-1), 1) := by decide +kernel
theorem dX11_shifts_29 : decode cX11_shifts 29 = .ok (.ireturn, 1) := by decide +kernel
theorem dX11_shifts_30 : decode cX11_shifts 30 = .ok (.aload_n 0, 1) := by decide +kernel
theorem dX11_shifts_31 : decode cX11_shifts 31 = .ok (.getfield 59, 3) := by decide +kernel
theorem dX11_shifts_34 : decode cX11_shifts 34 = .ok (.invokevirtual 171, 3) := by decide +kernel
theorem dX11_shifts_37 : decode cX11_shifts 37 = .ok (.iconst 0, 1) := by decide +kernel
theorem dX11_shifts_38 : decode cX11_shifts 38 = .ok (.istore_n 1, 1) := by decide +kernel
theorem dX11_shifts_39 : decode cX11_shifts 39 = .ok (.iload_n 1, 1) := by decide +kernel
theorem dX11_shifts_40 : decode cX11_shifts 40 = .ok (.aload_n 0, 1) := by decide +kernel
theorem dX11_shifts_41 : decode cX11_shifts 41 = .ok (.getfield 52, 3) := by decide +kernel
theorem dX11_shifts_44 : decode cX11_shifts 44 = .ok (.invokevirtual 172, 3) := by decide +kernel
theorem dX11_shifts_47 : decode cX11_shifts 47 = .ok (.if_icmp .ge 68, 3) := by decide +kernel
theorem dX11_shifts_50 : decode cX11_shifts 50 = .ok (.aload_n 0, 1) := by decide +kernel
theorem dX11_shifts_51 : decode cX11_shifts 51 = .ok (.getfield 52, 3) := by decide +kernel
theorem dX11_shifts_54 : decode cX11_shifts 54 = .ok (.iload_n 1, 1) := by decide +kernel
theorem dX11_shifts_55 : decode cX11_shifts 55 = .ok (.invokevirtual 175, 3) := by decide +kernel
theorem dX11_shifts_58 : decode cX11_shifts 58 = .ok (.istore_n 2, 1) := by decide +kernel
theorem dX11_shifts_59 : decode cX11_shifts 59 = .ok (.aload_n 0, 1) := by decide +kernel
theorem dX11_shifts_60 : decode cX11_shifts 60 = .ok (.iload_n 2, 1) := by decide +kernel
theorem dX11_shifts_61 : decode cX11_shifts 61 = .ok (.invokevirtual 142, 3) := by decide +kernel
theorem dX11_shifts_64 : decode cX11_shifts 64 = .ok (.ifCond .eq 7, 3) := by decide +kernel
theorem dX11_shifts_67 : decode cX11_shifts 67 = .ok (.iconst 0, 1) := by decide +kernel
theorem dX11_shifts_68 : decode cX11_shifts 68 = .ok (.goto 11, 3) := by decide +kernel
theorem dX11_shifts_71 : decode cX11_shifts 71 = .ok (.aload_n 0, 1) := by decide +kernel
theorem dX11_shifts_72 : decode cX11_shifts 72 = .ok (.getfield 52, 3) := by decide +kernel
theorem dX11_shifts_75 : decode cX11_shifts 75 = .ok (.iload_n 1, 1) := by decide +kernel
theorem dX11_shifts_76 : decode cX11_shifts 76 = .ok (.invokevirtual 178, 3) := by decide +kernel
theorem dX11_shifts_79 : decode cX11_shifts 79 = .ok (.istore_n 3, 1) := by decide +kernel
theorem dX11_shifts_80 : decode cX11_shifts 80 = .ok (.aload_n 0, 1) := by decide +kernel
theorem dX11_shifts_81 : decode cX11_shifts 81 = .ok (.getfield 59, 3) := by decide +kernel
theorem dX11_shifts_84 : decode cX11_shifts 84 = .ok (.iload_n 3, 1) := by decide +kernel
theorem dX11_shifts_85 : decode cX11_shifts 85 = .ok (.aload_n 0, 1) := by decide +kernel
theorem dX11_shifts_86 : decode cX11_shifts 86 = .ok (.getfield 52, 3) := by decide +kernel
theorem dX11_shifts_89 : decode cX11_shifts 89 = .ok (.iload_n 1, 1) := by decide +kernel
theorem dX11_shifts_90 : decode cX11_shifts 90 = .ok (.invokevirtual 181, 3) := by decide +kernel
theorem dX11_shifts_93 : decode cX11_shifts 93 = .ok (.aload_n 0, 1) := by decide +kernel
theorem dX11_shifts_94 : decode cX11_shifts 94 = .ok (.getfield 38, 3) := by decide +kernel
theorem dX11_shifts_97 : decode cX11_shifts 97 = .ok (.iload_n 2, 1) := by decide +kernel
theorem dX11_shifts_98 : decode cX11_shifts 98 = .ok (.iconst 0, 1) := by decide +kernel
theorem dX11_shifts_99 : decode cX11_shifts 99 = .ok (.aload_n 0, 1) := by decide +kernel
theorem dX11_shifts_100 : decode cX11_shifts 100 = .ok (.getfield 86, 3) := by decide +kernel
theorem dX11_shifts_103 : decode cX11_shifts 103 = .ok (.invokevirtual 136, 3) := by decide +kernel
theorem dX11_shifts_106 : decode cX11_shifts 106 = .ok (.invokevirtual 184, 3) := by decide +kernel
theorem dX11_shifts_109 : decode cX11_shifts 109 = .ok (.iinc 1 1, 3) := by decide +kernel
theorem dX11_shifts_112 : decode cX11_shifts 112 = .ok (.goto (-73), 3) := by decide +kernel
theorem dX11_shifts_115 : decode cX11_shifts 115 = .ok (.aload_n 0, 1) := by decide +kernel
theorem dX11_shifts_116 : decode cX11_shifts 116 = .ok (.getfield 59, 3) := by decide +kernel
theorem dX11_shifts_119 : decode cX11_shifts 119 = .ok (.invokevirtual 187, 3) := by decide +kernel
theorem dX11_shifts_122 : decode cX11_shifts 122 = .ok (.istore_n 1, 1) := by decide +kernel
theorem dX11_shifts_123 : decode cX11_shifts 123 = .ok (.iconst 0, 1) := by decide +kernel
theorem dX11_shifts_124 : decode cX11_shifts 124 = .ok (.istore_n 2, 1) := by decide +kernel
theorem dX11_shifts_125 : decode cX11_shifts 125 = .ok (.iload_n 2, 1) := by decide +kernel
theorem dX11_shifts_126 : decode cX11_shifts 126 = .ok (.aload_n 0, 1) := by decide +kernel
theorem dX11_shifts_127 : decode cX11_shifts 127 = .ok (.getfield 52, 3) := by decide +kernel
theorem dX11_shifts_130 : decode cX11_shifts 130 = .ok (.invokevirtual 172, 3) := by decide +kernel
theorem dX11_shifts_133 : decode cX11_shifts 133 = .ok (.if_icmp .ge 36, 3) := by decide +kernel
theorem dX11_shifts_136 : decode cX11_shifts 136 = .ok (.aload_n 0, 1) := by decide +kernel
theorem dX11_shifts_137 : decode cX11_shifts 137 = .ok (.getfield 45, 3) := by decide +kernel
theorem dX11_shifts_140 : decode cX11_shifts 140 = .ok (.aload_n 0, 1) := by decide +kernel
theorem dX11_shifts_141 : decode cX11_shifts 141 = .ok (.getfield 52, 3) := by decide +kernel
theorem dX11_shifts_144 : decode cX11_shifts 144 = .ok (.iload_n 2, 1) := by decide +kernel
theorem dX11_shifts_145 : decode cX11_shifts 145 = .ok (.invokevirtual 175, 3) := by decide +kernel
theorem dX11_shifts_148 : decode cX11_shifts 148 = .ok (.aload_n 0, 1) := by decide +kernel
theorem dX11_shifts_149 : decode cX11_shifts 149 = .ok (.getfield 86, 3) := by decide +kernel
theorem dX11_shifts_152 : decode cX11_shifts 152 = .ok (.aload_n 0, 1) := by decide +kernel
theorem dX11_shifts_153 : decode cX11_shifts 153 = .ok (.getfield 59, 3) := by decide +kernel
theorem dX11_shifts_156 : decode cX11_shifts 156 = .ok (.iload_n 2, 1) := by decide +kernel
theorem dX11_shifts_157 : decode cX11_shifts 157 = .ok (.invokevirtual 190, 3) := by decide +kernel
theorem dX11_shifts_160 : decode cX11_shifts 160 = .ok (.invokevirtual 193, 3) := by decide +kernel
theorem dX11_shifts_163 : decode cX11_shifts 163 = .ok (.iinc 2 1, 3) := by decide +kernel
theorem dX11_shifts_166 : decode cX11_shifts 166 = .ok (.goto (-41), 3) := by decide +kernel
theorem dX11_shifts_169 : decode cX11_shifts 169 = .ok (.aload_n 0, 1) := by decide +kernel
theorem dX11_shifts_170 : decode cX11_shifts 170 = .ok (.getfield 45, 3) := by decide +kernel
theorem dX11_shifts_173 : decode cX11_shifts 173 = .ok (.aload_n 0, 1) := by decide +kernel
theorem dX11_shifts_174 : decode cX11_shifts 174 = .ok (.getfield 86, 3) := by decide +kernel
theorem dX11_shifts_177 : decode cX11_shifts 177 = .ok (.invokevirtual 197, 3) := by decide +kernel
theorem dX11_shifts_180 : decode cX11_shifts 180 = .ok (.iload_n 1, 1) := by decide +kernel
theorem dX11_shifts_181 : decode cX11_shifts 181 = .ok (.ireturn, 1) := by decide +kernel
theorem dX11_there_0 : decode cX11_there 0 = .ok (.aload_n 0, 1) := by decide +kernel
theorem dX11_there_1 : decode cX11_there 1 = .ok (.getfield 38, 3) := by decide +kernel
theorem dX11_there_4 : decode cX11_there 4 = .ok (.iload_n 1, 1) := by decide +kernel
theorem dX11_there_5 : decode cX11_there 5 = .ok (.invokevirtual 130, 3) := by decide +kernel
theorem dX11_there_8 : decode cX11_there 8 = .ok (.ifCond .eq 22, 3) := by decide +kernel
theorem dX11_there_11 : decode cX11_there 11 = .ok (.iload_n 2, 1) := by decide +kernel
theorem dX11_there_12 : decode cX11_there 12 = .ok (.invokestatic 133, 3) := by decide +kernel
theorem dX11_there_15 : decode cX11_there 15 = .ok (.ifCond .eq 15, 3) := by decide +kernel
theorem dX11_there_18 : decode cX11_there 18 = .ok (.aload_n 0, 1) := by decide +kernel
theorem dX11_there_19 : decode cX11_there 19 = .ok (.getfield 45, 3) := by decide +kernel
theorem dX11_there_22 : decode cX11_there 22 = .ok (.iload_n 1, 1) := by decide +kernel
theorem dX11_there_23 : decode cX11_there 23 = .ok (.iload_n 2, 1) := by decide +kernel
theorem dX11_there_24 : decode cX11_there 24 = .ok (.invokevirtual 200, 3) := by decide +kernel
theorem dX11_there_27 : decode cX11_there 27 = .ok (.goto 4, 3) := by decide +kernel
theorem dX11_there_30 : decode cX11_there 30 = .ok (.iconst (-1), 1) := by decide +kernel
theorem dX11_there_31 : decode cX11_there 31 = .ok (.ireturn, 1) := by decide +kernel
theorem dX11_lacks_0 : decode cX11_lacks 0 = .ok (.iload_n 1, 1) := by decide +kernel
theorem dX11_lacks_1 : decode cX11_lacks 1 = .ok (.invokestatic 133, 3) := by decide +kernel
theorem dX11_lacks_4 : decode cX11_lacks 4 = .ok (.ifCond .eq 27, 3) := by decide +kernel
theorem dX11_lacks_7 : decode cX11_lacks 7 = .ok (.aload_n 0, 1) := by decide +kernel
theorem dX11_lacks_8 : decode cX11_lacks 8 = .ok (.getfield 45, 3) := by decide +kernel
theorem dX11_lacks_11 : decode cX11_lacks 11 = .ok (.iload_n 1, 1) := by decide +kernel
theorem dX11_lacks_12 : decode cX11_lacks 12 = .ok (.invokevirtual 164, 3) := by decide +kernel
theorem dX11_lacks_15 : decode cX11_lacks 15 = .ok (.ifCond .eq 16, 3) := by decide +kernel
theorem dX11_lacks_18 : decode cX11_lacks 18 = .ok (.bipush 63, 2) := by decide +kernel
theorem dX11_lacks_20 : decode cX11_lacks 20 = .ok (.aload_n 0, 1) := by decide +kernel
theorem dX11_lacks_21 : decode cX11_lacks 21 = .ok (.iload_n 1, 1) := by decide +kernel
theorem dX11_lacks_22 : decode cX11_lacks 22 = .ok (.invokevirtual 202, 3) := by decide +kernel
theorem dX11_lacks_25 : decode cX11_lacks 25 = .ok (.iconst (-1), 1) := by decide +kernel
theorem dX11_lacks_26 : decode cX11_lacks 26 = .ok (.ixor, 1) := by decide +kernel
theorem dX11_lacks_27 : decode cX11_lacks 27 = .ok (.iand, 1) := by decide +kernel
theorem dX11_lacks_28 : decode cX11_lacks 28 = .ok (.goto 4, 3) := by decide +kernel
theorem dX11_lacks_31 : decode cX11_lacks 31 = .ok (.iconst (-1), 1) := by decide +kernel
theorem dX11_lacks_32 : decode cX11_lacks 32 = .ok (.ireturn, 1) := by decide +kernel
theorem dX11_call_0 : decode cX11_call 0 = .ok (.iload_n 1, 1) := by decide +kernel
theorem dX11_call_1 : decode cX11_call 1 = .ok (.iconst 0, 1) := by decide +kernel
theorem dX11_call_2 : decode cX11_call 2 = .ok (.sipush 359, 3) := by decide +kernel
theorem dX11_call_5 : decode cX11_call 5 = .ok (.invokestatic 102, 3) := by decide +kernel
theorem dX11_call_8 : decode cX11_call 8 = .ok (.ifCond .eq 46, 3) := by decide +kernel
theorem dX11_call_11 : decode cX11_call 11 = .ok (.iload_n 2, 1) := by decide +kernel
theorem dX11_call_12 : decode cX11_call 12 = .ok (.invokestatic 205, 3) := by decide +kernel
theorem dX11_call_15 : decode cX11_call 15 = .ok (.ifCond .eq 39, 3) := by decide +kernel
theorem dX11_call_18 : decode cX11_call 18 = .ok (.iload_n 3, 1) := by decide +kernel
theorem dX11_call_19 : decode cX11_call 19 = .ok (.iconst 0, 1) := by decide +kernel
theorem dX11_call_20 : decode cX11_call 20 = .ok (.bipush 9, 2) := by decide +kernel
theorem dX11_call_22 : decode cX11_call 22 = .ok (.invokestatic 102, 3) := by decide +kernel
theorem dX11_call_25 : decode cX11_call 25 = .ok (.ifCond .eq 29, 3) := by decide +kernel
theorem dX11_call_28 : decode cX11_call 28 = .ok (.iload 4, 2) := by decide +kernel
theorem dX11_call_30 : decode cX11_call 30 = .ok (.iconst 0, 1) := by decide +kernel
theorem dX11_call_31 : decode cX11_call 31 = .ok (.bipush 7, 2) := by decide +kernel
theorem dX11_call_33 : decode cX11_call 33 = .ok (.invokestatic 102, 3) := by decide +kernel
theorem dX11_call_36 : decode cX11_call 36 = .ok (.ifCond .eq 18, 3) := by decide +kernel
theorem dX11_call_39 : decode cX11_call 39 = .ok (.iload 5, 2) := by decide +kernel
theorem dX11_call_41 : decode cX11_call 41 = .ok (.iconst 1, 1) := by decide +kernel
theorem dX11_call_42 : decode cX11_call 42 = .ok (.bipush 90, 2) := by decide +kernel
theorem dX11_call_44 : decode cX11_call 44 = .ok (.invokestatic 102, 3) := by decide +kernel
theorem dX11_call_47 : decode cX11_call 47 = .ok (.ifCond .eq 7, 3) := by decide +kernel
theorem dX11_call_50 : decode cX11_call 50 = .ok (.iconst 1, 1) := by decide +kernel
theorem dX11_call_51 : decode cX11_call 51 = .ok (.goto 4, 3) := by decide +kernel
theorem dX11_call_54 : decode cX11_call 54 = .ok (.iconst 0, 1) := by decide +kernel
theorem dX11_call_55 : decode cX11_call 55 = .ok (.istore 6, 2) := by decide +kernel
theorem dX11_call_57 : decode cX11_call 57 = .ok (.iload 6, 2) := by decide +kernel
theorem dX11_call_59 : decode cX11_call 59 = .ok (.ifCond .eq 17, 3) := by decide +kernel
theorem dX11_call_62 : decode cX11_call 62 = .ok (.aload_n 0, 1) := by decide +kernel
theorem dX11_call_63 : decode cX11_call 63 = .ok (.getfield 45, 3) := by decide +kernel
theorem dX11_call_66 : decode cX11_call 66 = .ok (.aload_n 0, 1) := by decide +kernel
theorem dX11_call_67 : decode cX11_call 67 = .ok (.getfield 86, 3) := by decide +kernel
theorem dX11_call_70 : decode cX11_call 70 = .ok (.invokevirtual 158, 3) := by decide +kernel
theorem dX11_call_73 : decode cX11_call 73 = .ok (.ifCond .eq 5, 3) := by decide +kernel
theorem dX11_call_76 : decode cX11_call 76 = .ok (.iconst (-1), 1) := by decide +kernel
theorem dX11_call_77 : decode cX11_call 77 = .ok (.ireturn, 1) := by decide +kernel
theorem dX11_call_78 : decode cX11_call 78 = .ok (.aload_n 0, 1) := by decide +kernel
theorem dX11_call_79 : decode cX11_call 79 = .ok (.getfield 66, 3) := by decide +kernel
theorem dX11_call_82 : decode cX11_call 82 = .ok (.aload_n 0, 1) := by decide +kernel
theorem dX11_call_83 : decode cX11_call 83 = .ok (.getfield 86, 3) := by decide +kernel
theorem dX11_call_86 : decode cX11_call 86 = .ok (.iload_n 1, 1) := by decide +kernel
theorem dX11_call_87 : decode cX11_call 87 = .ok (.iload_n 2, 1) := by decide +kernel
theorem dX11_call_88 : decode cX11_call 88 = .ok (.iload_n 3, 1) := by decide +kernel
theorem dX11_call_89 : decode cX11_call 89 = .ok (.iload 4, 2) := by decide +kernel
theorem dX11_call_91 : decode cX11_call 91 = .ok (.iload 5, 2) := by decide +kernel
theorem dX11_call_93 : decode cX11_call 93 = .ok (.invokevirtual 208, 3) := by decide +kernel
theorem dX11_call_96 : decode cX11_call 96 = .ok (.ireturn, 1) := by decide +kernel
theorem dX11_go_0 : decode cX11_go 0 = .ok (.aload_n 0, 1) := by decide +kernel
theorem dX11_go_1 : decode cX11_go 1 = .ok (.getfield 45, 3) := by decide +kernel
theorem dX11_go_4 : decode cX11_go 4 = .ok (.aload_n 0, 1) := by decide +kernel
theorem dX11_go_5 : decode cX11_go 5 = .ok (.getfield 86, 3) := by decide +kernel
theorem dX11_go_8 : decode cX11_go 8 = .ok (.invokevirtual 158, 3) := by decide +kernel
theorem dX11_go_11 : decode cX11_go 11 = .ok (.ifCond .eq 5, 3) := by decide +kernel
theorem dX11_go_14 : decode cX11_go 14 = .ok (.iconst (-1), 1) := by decide +kernel
theorem dX11_go_15 : decode cX11_go 15 = .ok (.ireturn, 1) := by decide +kernel
theorem dX11_go_16 : decode cX11_go 16 = .ok (.aload_n 0, 1) := by decide +kernel
theorem dX11_go_17 : decode cX11_go 17 = .ok (.getfield 45, 3) := by decide +kernel
theorem dX11_go_20 : decode cX11_go 20 = .ok (.aload_n 0, 1) := by decide +kernel
theorem dX11_go_21 : decode cX11_go 21 = .ok (.getfield 86, 3) := by decide +kernel
theorem dX11_go_24 : decode cX11_go 24 = .ok (.invokevirtual 211, 3) := by decide +kernel
theorem dX11_go_27 : decode cX11_go 27 = .ok (.aload_n 0, 1) := by decide +kernel
theorem dX11_go_28 : decode cX11_go 28 = .ok (.getfield 75, 3) := by decide +kernel
theorem dX11_go_31 : decode cX11_go 31 = .ok (.aload_n 0, 1) := by decide +kernel
theorem dX11_go_32 : decode cX11_go 32 = .ok (.getfield 86, 3) := by decide +kernel
theorem dX11_go_35 : decode cX11_go 35 = .ok (.aload_n 0, 1) := by decide +kernel
theorem dX11_go_36 : decode cX11_go 36 = .ok (.getfield 19, 3) := by decide +kernel
theorem dX11_go_39 : decode cX11_go 39 = .ok (.invokevirtual 214, 3) := by decide +kernel
theorem dX11_go_42 : decode cX11_go 42 = .ok (.ireturn, 1) := by decide +kernel
theorem dX11_told_0 : decode cX11_told 0 = .ok (.aload_n 0, 1) := by decide +kernel
theorem dX11_told_1 : decode cX11_told 1 = .ok (.getfield 66, 3) := by decide +kernel
theorem dX11_told_4 : decode cX11_told 4 = .ok (.iload_n 1, 1) := by decide +kernel
theorem dX11_told_5 : decode cX11_told 5 = .ok (.invokevirtual 218, 3) := by decide +kernel
theorem dX11_told_8 : decode cX11_told 8 = .ok (.ifCond .ne 5, 3) := by decide +kernel
theorem dX11_told_11 : decode cX11_told 11 = .ok (.iconst (-1), 1) := by decide +kernel
theorem dX11_told_12 : decode cX11_told 12 = .ok (.ireturn, 1) := by decide +kernel
theorem dX11_told_13 : decode cX11_told 13 = .ok (.iload_n 2, 1) := by decide +kernel
theorem dX11_told_14 : decode cX11_told 14 = .ok (.tableswitch 92 0 5 #[38, 47, 56, 65, 74, 83], 38) := by decide +kernel
theorem dX11_told_52 : decode cX11_told 52 = .ok (.aload_n 0, 1) := by decide +kernel
theorem dX11_told_53 : decode cX11_told 53 = .ok (.getfield 66, 3) := by decide +kernel
theorem dX11_told_56 : decode cX11_told 56 = .ok (.iload_n 1, 1) := by decide +kernel
theorem dX11_told_57 : decode cX11_told 57 = .ok (.invokevirtual 221, 3) := by decide +kernel
theorem dX11_told_60 : decode cX11_told 60 = .ok (.ireturn, 1) := by decide +kernel
theorem dX11_told_61 : decode cX11_told 61 = .ok (.aload_n 0, 1) := by decide +kernel
theorem dX11_told_62 : decode cX11_told 62 = .ok (.getfield 66, 3) := by decide +kernel
