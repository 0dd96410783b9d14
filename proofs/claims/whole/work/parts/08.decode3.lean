theorem dX11_told_65 : decode cX11_told 65 = .ok (.iload_n 1, 1) := by decide +kernel
theorem dX11_told_66 : decode cX11_told 66 = .ok (.invokevirtual 224, 3) := by decide +kernel
theorem dX11_told_69 : decode cX11_told 69 = .ok (.ireturn, 1) := by decide +kernel
theorem dX11_told_70 : decode cX11_told 70 = .ok (.aload_n 0, 1) := by decide +kernel
theorem dX11_told_71 : decode cX11_told 71 = .ok (.getfield 66, 3) := by decide +kernel
theorem dX11_told_74 : decode cX11_told 74 = .ok (.iload_n 1, 1) := by decide +kernel
theorem dX11_told_75 : decode cX11_told 75 = .ok (.invokevirtual 227, 3) := by decide +kernel
theorem dX11_told_78 : decode cX11_told 78 = .ok (.ireturn, 1) := by decide +kernel
theorem dX11_told_79 : decode cX11_told 79 = .ok (.aload_n 0, 1) := by decide +kernel
theorem dX11_told_80 : decode cX11_told 80 = .ok (.getfield 66, 3) := by decide +kernel
theorem dX11_told_83 : decode cX11_told 83 = .ok (.iload_n 1, 1) := by decide +kernel
theorem dX11_told_84 : decode cX11_told 84 = .ok (.invokevirtual 230, 3) := by decide +kernel
theorem dX11_told_87 : decode cX11_told 87 = .ok (.ireturn, 1) := by decide +kernel
theorem dX11_told_88 : decode cX11_told 88 = .ok (.aload_n 0, 1) := by decide +kernel
theorem dX11_told_89 : decode cX11_told 89 = .ok (.getfield 66, 3) := by decide +kernel
theorem dX11_told_92 : decode cX11_told 92 = .ok (.iload_n 1, 1) := by decide +kernel
theorem dX11_told_93 : decode cX11_told 93 = .ok (.invokevirtual 233, 3) := by decide +kernel
theorem dX11_told_96 : decode cX11_told 96 = .ok (.ireturn, 1) := by decide +kernel
theorem dX11_told_97 : decode cX11_told 97 = .ok (.aload_n 0, 1) := by decide +kernel
theorem dX11_told_98 : decode cX11_told 98 = .ok (.getfield 66, 3) := by decide +kernel
theorem dX11_told_101 : decode cX11_told 101 = .ok (.iload_n 1, 1) := by decide +kernel
theorem dX11_told_102 : decode cX11_told 102 = .ok (.invokevirtual 236, 3) := by decide +kernel
theorem dX11_told_105 : decode cX11_told 105 = .ok (.ireturn, 1) := by decide +kernel
theorem dX11_told_106 : decode cX11_told 106 = .ok (.iconst (-1), 1) := by decide +kernel
theorem dX11_told_107 : decode cX11_told 107 = .ok (.ireturn, 1) := by decide +kernel
theorem dX11_talked_0 : decode cX11_talked 0 = .ok (.aload_n 0, 1) := by decide +kernel
theorem dX11_talked_1 : decode cX11_talked 1 = .ok (.getfield 38, 3) := by decide +kernel
theorem dX11_talked_4 : decode cX11_talked 4 = .ok (.iload_n 1, 1) := by decide +kernel
theorem dX11_talked_5 : decode cX11_talked 5 = .ok (.invokevirtual 130, 3) := by decide +kernel
theorem dX11_talked_8 : decode cX11_talked 8 = .ok (.ifCond .eq 26, 3) := by decide +kernel
theorem dX11_talked_11 : decode cX11_talked 11 = .ok (.aload_n 0, 1) := by decide +kernel
theorem dX11_talked_12 : decode cX11_talked 12 = .ok (.getfield 45, 3) := by decide +kernel
theorem dX11_talked_15 : decode cX11_talked 15 = .ok (.iload_n 2, 1) := by decide +kernel
theorem dX11_talked_16 : decode cX11_talked 16 = .ok (.invokevirtual 158, 3) := by decide +kernel
theorem dX11_talked_19 : decode cX11_talked 19 = .ok (.ifCond .eq 15, 3) := by decide +kernel
theorem dX11_talked_22 : decode cX11_talked 22 = .ok (.aload_n 0, 1) := by decide +kernel
theorem dX11_talked_23 : decode cX11_talked 23 = .ok (.getfield 66, 3) := by decide +kernel
theorem dX11_talked_26 : decode cX11_talked 26 = .ok (.iload_n 1, 1) := by decide +kernel
theorem dX11_talked_27 : decode cX11_talked 27 = .ok (.iload_n 2, 1) := by decide +kernel
theorem dX11_talked_28 : decode cX11_talked 28 = .ok (.invokevirtual 239, 3) := by decide +kernel
theorem dX11_talked_31 : decode cX11_talked 31 = .ok (.goto 4, 3) := by decide +kernel
theorem dX11_talked_34 : decode cX11_talked 34 = .ok (.iconst (-1), 1) := by decide +kernel
theorem dX11_talked_35 : decode cX11_talked 35 = .ok (.ireturn, 1) := by decide +kernel
theorem dX11_note_0 : decode cX11_note 0 = .ok (.iload_n 2, 1) := by decide +kernel
theorem dX11_note_1 : decode cX11_note 1 = .ok (.iconst 0, 1) := by decide +kernel
theorem dX11_note_2 : decode cX11_note 2 = .ok (.iconst 3, 1) := by decide +kernel
theorem dX11_note_3 : decode cX11_note 3 = .ok (.invokestatic 102, 3) := by decide +kernel
theorem dX11_note_6 : decode cX11_note 6 = .ok (.ifCond .eq 15, 3) := by decide +kernel
theorem dX11_note_9 : decode cX11_note 9 = .ok (.aload_n 0, 1) := by decide +kernel
theorem dX11_note_10 : decode cX11_note 10 = .ok (.getfield 66, 3) := by decide +kernel
theorem dX11_note_13 : decode cX11_note 13 = .ok (.iload_n 1, 1) := by decide +kernel
theorem dX11_note_14 : decode cX11_note 14 = .ok (.invokevirtual 224, 3) := by decide +kernel
theorem dX11_note_17 : decode cX11_note 17 = .ok (.iconst 1, 1) := by decide +kernel
theorem dX11_note_18 : decode cX11_note 18 = .ok (.if_icmp .eq 5, 3) := by decide +kernel
theorem dX11_note_21 : decode cX11_note 21 = .ok (.iconst (-1), 1) := by decide +kernel
theorem dX11_note_22 : decode cX11_note 22 = .ok (.ireturn, 1) := by decide +kernel
theorem dX11_note_23 : decode cX11_note 23 = .ok (.aload_n 0, 1) := by decide +kernel
theorem dX11_note_24 : decode cX11_note 24 = .ok (.getfield 82, 3) := by decide +kernel
theorem dX11_note_27 : decode cX11_note 27 = .ok (.iload_n 1, 1) := by decide +kernel
theorem dX11_note_28 : decode cX11_note 28 = .ok (.iload_n 2, 1) := by decide +kernel
theorem dX11_note_29 : decode cX11_note 29 = .ok (.aload_n 0, 1) := by decide +kernel
theorem dX11_note_30 : decode cX11_note 30 = .ok (.getfield 86, 3) := by decide +kernel
theorem dX11_note_33 : decode cX11_note 33 = .ok (.invokevirtual 242, 3) := by decide +kernel
theorem dX11_note_36 : decode cX11_note 36 = .ok (.ireturn, 1) := by decide +kernel
theorem dX11_see_0 : decode cX11_see 0 = .ok (.aload_n 0, 1) := by decide +kernel
theorem dX11_see_1 : decode cX11_see 1 = .ok (.getfield 38, 3) := by decide +kernel
theorem dX11_see_4 : decode cX11_see 4 = .ok (.iload_n 1, 1) := by decide +kernel
theorem dX11_see_5 : decode cX11_see 5 = .ok (.invokevirtual 130, 3) := by decide +kernel
theorem dX11_see_8 : decode cX11_see 8 = .ok (.ifCond .eq 21, 3) := by decide +kernel
theorem dX11_see_11 : decode cX11_see 11 = .ok (.aload_n 0, 1) := by decide +kernel
theorem dX11_see_12 : decode cX11_see 12 = .ok (.getfield 82, 3) := by decide +kernel
theorem dX11_see_15 : decode cX11_see 15 = .ok (.iload_n 2, 1) := by decide +kernel
theorem dX11_see_16 : decode cX11_see 16 = .ok (.invokevirtual 243, 3) := by decide +kernel
theorem dX11_see_19 : decode cX11_see 19 = .ok (.ifCond .eq 10, 3) := by decide +kernel
theorem dX11_see_22 : decode cX11_see 22 = .ok (.iload_n 3, 1) := by decide +kernel
theorem dX11_see_23 : decode cX11_see 23 = .ok (.invokestatic 133, 3) := by decide +kernel
theorem dX11_see_26 : decode cX11_see 26 = .ok (.ifCond .ne 5, 3) := by decide +kernel
theorem dX11_see_29 : decode cX11_see 29 = .ok (.iconst (-1), 1) := by decide +kernel
theorem dX11_see_30 : decode cX11_see 30 = .ok (.ireturn, 1) := by decide +kernel
theorem dX11_see_31 : decode cX11_see 31 = .ok (.aload_n 0, 1) := by decide +kernel
theorem dX11_see_32 : decode cX11_see 32 = .ok (.iload_n 1, 1) := by decide +kernel
theorem dX11_see_33 : decode cX11_see 33 = .ok (.iload_n 2, 1) := by decide +kernel
theorem dX11_see_34 : decode cX11_see 34 = .ok (.iload_n 3, 1) := by decide +kernel
theorem dX11_see_35 : decode cX11_see 35 = .ok (.invokevirtual 246, 3) := by decide +kernel
theorem dX11_see_38 : decode cX11_see 38 = .ok (.ifCond .eq 7, 3) := by decide +kernel
theorem dX11_see_41 : decode cX11_see 41 = .ok (.iconst 1, 1) := by decide +kernel
theorem dX11_see_42 : decode cX11_see 42 = .ok (.goto 4, 3) := by decide +kernel
theorem dX11_see_45 : decode cX11_see 45 = .ok (.iconst 0, 1) := by decide +kernel
theorem dX11_see_46 : decode cX11_see 46 = .ok (.ireturn, 1) := by decide +kernel
theorem dX11_foretold_0 : decode cX11_foretold 0 = .ok (.iload_n 1, 1) := by decide +kernel
theorem dX11_foretold_1 : decode cX11_foretold 1 = .ok (.iconst 0, 1) := by decide +kernel
theorem dX11_foretold_2 : decode cX11_foretold 2 = .ok (.iconst 5, 1) := by decide +kernel
theorem dX11_foretold_3 : decode cX11_foretold 3 = .ok (.invokestatic 102, 3) := by decide +kernel
theorem dX11_foretold_6 : decode cX11_foretold 6 = .ok (.ifCond .eq 10, 3) := by decide +kernel
theorem dX11_foretold_9 : decode cX11_foretold 9 = .ok (.iload_n 2, 1) := by decide +kernel
theorem dX11_foretold_10 : decode cX11_foretold 10 = .ok (.invokestatic 133, 3) := by decide +kernel
theorem dX11_foretold_13 : decode cX11_foretold 13 = .ok (.ifCond .ne 5, 3) := by decide +kernel
theorem dX11_foretold_16 : decode cX11_foretold 16 = .ok (.iconst (-1), 1) := by decide +kernel
theorem dX11_foretold_17 : decode cX11_foretold 17 = .ok (.ireturn, 1) := by decide +kernel
theorem dX11_foretold_18 : decode cX11_foretold 18 = .ok (.iconst 0, 1) := by decide +kernel
theorem dX11_foretold_19 : decode cX11_foretold 19 = .ok (.istore_n 3, 1) := by decide +kernel
theorem dX11_foretold_20 : decode cX11_foretold 20 = .ok (.iconst 0, 1) := by decide +kernel
theorem dX11_foretold_21 : decode cX11_foretold 21 = .ok (.istore 4, 2) := by decide +kernel
theorem dX11_foretold_23 : decode cX11_foretold 23 = .ok (.iload 4, 2) := by decide +kernel
theorem dX11_foretold_25 : decode cX11_foretold 25 = .ok (.aload_n 0, 1) := by decide +kernel
theorem dX11_foretold_26 : decode cX11_foretold 26 = .ok (.getfield 86, 3) := by decide +kernel
theorem dX11_foretold_29 : decode cX11_foretold 29 = .ok (.if_icmp .ge 22, 3) := by decide +kernel
theorem dX11_foretold_32 : decode cX11_foretold 32 = .ok (.aload_n 0, 1) := by decide +kernel
theorem dX11_foretold_33 : decode cX11_foretold 33 = .ok (.iload 4, 2) := by decide +kernel
theorem dX11_foretold_35 : decode cX11_foretold 35 = .ok (.iload_n 2, 1) := by decide +kernel
theorem dX11_foretold_36 : decode cX11_foretold 36 = .ok (.invokevirtual 249, 3) := by decide +kernel
theorem dX11_foretold_39 : decode cX11_foretold 39 = .ok (.ifCond .eq 6, 3) := by decide +kernel
theorem dX11_foretold_42 : decode cX11_foretold 42 = .ok (.iinc 3 1, 3) := by decide +kernel
theorem dX11_foretold_45 : decode cX11_foretold 45 = .ok (.iinc 4 1, 3) := by decide +kernel
theorem dX11_foretold_48 : decode cX11_foretold 48 = .ok (.goto (-25), 3) := by decide +kernel
theorem dX11_foretold_51 : decode cX11_foretold 51 = .ok (.iconst 0, 1) := by decide +kernel
theorem dX11_foretold_52 : decode cX11_foretold 52 = .ok (.istore 4, 2) := by decide +kernel
theorem dX11_foretold_54 : decode cX11_foretold 54 = .ok (.iconst 0, 1) := by decide +kernel
theorem dX11_foretold_55 : decode cX11_foretold 55 = .ok (.istore 5, 2) := by decide +kernel
theorem dX11_foretold_57 : decode cX11_foretold 57 = .ok (.iload 5, 2) := by decide +kernel
theorem dX11_foretold_59 : decode cX11_foretold 59 = .ok (.aload_n 0, 1) := by decide +kernel
theorem dX11_foretold_60 : decode cX11_foretold 60 = .ok (.getfield 66, 3) := by decide +kernel
theorem dX11_foretold_63 : decode cX11_foretold 63 = .ok (.invokevirtual 253, 3) := by decide +kernel
theorem dX11_foretold_66 : decode cX11_foretold 66 = .ok (.if_icmp .ge 45, 3) := by decide +kernel
theorem dX11_foretold_69 : decode cX11_foretold 69 = .ok (.aload_n 0, 1) := by decide +kernel
theorem dX11_foretold_70 : decode cX11_foretold 70 = .ok (.getfield 66, 3) := by decide +kernel
theorem dX11_foretold_73 : decode cX11_foretold 73 = .ok (.iload 5, 2) := by decide +kernel
theorem dX11_foretold_75 : decode cX11_foretold 75 = .ok (.invokevirtual 254, 3) := by decide +kernel
theorem dX11_foretold_78 : decode cX11_foretold 78 = .ok (.bipush 60, 2) := by decide +kernel
theorem dX11_foretold_80 : decode cX11_foretold 80 = .ok (.idiv, 1) := by decide +kernel
theorem dX11_foretold_81 : decode cX11_foretold 81 = .ok (.iload_n 1, 1) := by decide +kernel
theorem dX11_foretold_82 : decode cX11_foretold 82 = .ok (.if_icmp .ne 23, 3) := by decide +kernel
theorem dX11_foretold_85 : decode cX11_foretold 85 = .ok (.aload_n 0, 1) := by decide +kernel
theorem dX11_foretold_86 : decode cX11_foretold 86 = .ok (.aload_n 0, 1) := by decide +kernel
theorem dX11_foretold_87 : decode cX11_foretold 87 = .ok (.getfield 66, 3) := by decide +kernel
theorem dX11_foretold_90 : decode cX11_foretold 90 = .ok (.iload 5, 2) := by decide +kernel
theorem dX11_foretold_92 : decode cX11_foretold 92 = .ok (.invokevirtual 221, 3) := by decide +kernel
theorem dX11_foretold_95 : decode cX11_foretold 95 = .ok (.iload_n 2, 1) := by decide +kernel
theorem dX11_foretold_96 : decode cX11_foretold 96 = .ok (.invokevirtual 249, 3) := by decide +kernel
theorem dX11_foretold_99 : decode cX11_foretold 99 = .ok (.ifCond .eq 6, 3) := by decide +kernel
theorem dX11_foretold_102 : decode cX11_foretold 102 = .ok (.iinc 4 1, 3) := by decide +kernel
theorem dX11_foretold_105 : decode cX11_foretold 105 = .ok (.iinc 5 1, 3) := by decide +kernel
theorem dX11_foretold_108 : decode cX11_foretold 108 = .ok (.goto (-51), 3) := by decide +kernel
theorem dX11_foretold_111 : decode cX11_foretold 111 = .ok (.iload_n 3, 1) := by decide +kernel
theorem dX11_foretold_112 : decode cX11_foretold 112 = .ok (.ifCond .ne 7, 3) := by decide +kernel
theorem dX11_foretold_115 : decode cX11_foretold 115 = .ok (.iconst (-1), 1) := by decide +kernel
theorem dX11_foretold_116 : decode cX11_foretold 116 = .ok (.goto 10, 3) := by decide +kernel
theorem dX11_foretold_119 : decode cX11_foretold 119 = .ok (.iload 4, 2) := by decide +kernel
theorem dX11_foretold_121 : decode cX11_foretold 121 = .ok (.bipush 100, 2) := by decide +kernel
theorem dX11_foretold_123 : decode cX11_foretold 123 = .ok (.imul, 1) := by decide +kernel
theorem dX11_foretold_124 : decode cX11_foretold 124 = .ok (.iload_n 3, 1) := by decide +kernel
theorem dX11_foretold_125 : decode cX11_foretold 125 = .ok (.idiv, 1) := by decide +kernel
theorem dX11_foretold_126 : decode cX11_foretold 126 = .ok (.ireturn, 1) := by decide +kernel
theorem dX11_count_0 : decode cX11_count 0 = .ok (.iload_n 1, 1) := by decide +kernel
theorem dX11_count_1 : decode cX11_count 1 = .ok (.tableswitch 147 0 10 #[59, 67, 75, 80, 88, 97, 106, 115, 123, 131, 139], 59) := by decide +kernel
theorem dX11_count_60 : decode cX11_count 60 = .ok (.aload_n 0, 1) := by decide +kernel
theorem dX11_count_61 : decode cX11_count 61 = .ok (.getfield 38, 3) := by decide +kernel
theorem dX11_count_64 : decode cX11_count 64 = .ok (.invokevirtual 257, 3) := by decide +kernel
theorem dX11_count_67 : decode cX11_count 67 = .ok (.ireturn, 1) := by decide +kernel
theorem dX11_count_68 : decode cX11_count 68 = .ok (.aload_n 0, 1) := by decide +kernel
theorem dX11_count_69 : decode cX11_count 69 = .ok (.getfield 38, 3) := by decide +kernel
theorem dX11_count_72 : decode cX11_count 72 = .ok (.invokevirtual 258, 3) := by decide +kernel
theorem dX11_count_75 : decode cX11_count 75 = .ok (.ireturn, 1) := by decide +kernel
theorem dX11_count_76 : decode cX11_count 76 = .ok (.aload_n 0, 1) := by decide +kernel
theorem dX11_count_77 : decode cX11_count 77 = .ok (.getfield 86, 3) := by decide +kernel
theorem dX11_count_80 : decode cX11_count 80 = .ok (.ireturn, 1) := by decide +kernel
theorem dX11_count_81 : decode cX11_count 81 = .ok (.aload_n 0, 1) := by decide +kernel
theorem dX11_count_82 : decode cX11_count 82 = .ok (.getfield 66, 3) := by decide +kernel
theorem dX11_count_85 : decode cX11_count 85 = .ok (.invokevirtual 253, 3) := by decide +kernel
theorem dX11_count_88 : decode cX11_count 88 = .ok (.ireturn, 1) := by decide +kernel
theorem dX11_count_89 : decode cX11_count 89 = .ok (.aload_n 0, 1) := by decide +kernel
theorem dX11_count_90 : decode cX11_count 90 = .ok (.getfield 66, 3) := by decide +kernel
theorem dX11_count_93 : decode cX11_count 93 = .ok (.iconst 1, 1) := by decide +kernel
theorem dX11_count_94 : decode cX11_count 94 = .ok (.invokevirtual 261, 3) := by decide +kernel
theorem dX11_count_97 : decode cX11_count 97 = .ok (.ireturn, 1) := by decide +kernel
theorem dX11_count_98 : decode cX11_count 98 = .ok (.aload_n 0, 1) := by decide +kernel
theorem dX11_count_99 : decode cX11_count 99 = .ok (.getfield 66, 3) := by decide +kernel
theorem dX11_count_102 : decode cX11_count 102 = .ok (.iconst 2, 1) := by decide +kernel
theorem dX11_count_103 : decode cX11_count 103 = .ok (.invokevirtual 261, 3) := by decide +kernel
theorem dX11_count_106 : decode cX11_count 106 = .ok (.ireturn, 1) := by decide +kernel
theorem dX11_count_107 : decode cX11_count 107 = .ok (.aload_n 0, 1) := by decide +kernel
theorem dX11_count_108 : decode cX11_count 108 = .ok (.getfield 66, 3) := by decide +kernel
theorem dX11_count_111 : decode cX11_count 111 = .ok (.iconst 3, 1) := by decide +kernel
theorem dX11_count_112 : decode cX11_count 112 = .ok (.invokevirtual 261, 3) := by decide +kernel
theorem dX11_count_115 : decode cX11_count 115 = .ok (.ireturn, 1) := by decide +kernel
theorem dX11_count_116 : decode cX11_count 116 = .ok (.aload_n 0, 1) := by decide +kernel
theorem dX11_count_117 : decode cX11_count 117 = .ok (.getfield 82, 3) := by decide +kernel
theorem dX11_count_120 : decode cX11_count 120 = .ok (.invokevirtual 264, 3) := by decide +kernel
theorem dX11_count_123 : decode cX11_count 123 = .ok (.ireturn, 1) := by decide +kernel
theorem dX11_count_124 : decode cX11_count 124 = .ok (.aload_n 0, 1) := by decide +kernel
theorem dX11_count_125 : decode cX11_count 125 = .ok (.getfield 19, 3) := by decide +kernel
theorem dX11_count_128 : decode cX11_count 128 = .ok (.invokevirtual 265, 3) := by decide +kernel
theorem dX11_count_131 : decode cX11_count 131 = .ok (.ireturn, 1) := by decide +kernel
theorem dX11_count_132 : decode cX11_count 132 = .ok (.aload_n 0, 1) := by decide +kernel
theorem dX11_count_133 : decode cX11_count 133 = .ok (.getfield 45, 3) := by decide +kernel
theorem dX11_count_136 : decode cX11_count 136 = .ok (.invokevirtual 266, 3) := by decide +kernel
theorem dX11_count_139 : decode cX11_count 139 = .ok (.ireturn, 1) := by decide +kernel
theorem dX11_count_140 : decode cX11_count 140 = .ok (.aload_n 0, 1) := by decide +kernel
theorem dX11_count_141 : decode cX11_count 141 = .ok (.getfield 10, 3) := by decide +kernel
theorem dX11_count_144 : decode cX11_count 144 = .ok (.invokevirtual 98, 3) := by decide +kernel
theorem dX11_count_147 : decode cX11_count 147 = .ok (.ireturn, 1) := by decide +kernel
theorem dX11_count_148 : decode cX11_count 148 = .ok (.iconst (-1), 1) := by decide +kernel
theorem dX11_count_149 : decode cX11_count 149 = .ok (.ireturn, 1) := by decide +kernel
theorem dX11_isWithin_0 : decode cX11_isWithin 0 = .ok (.iload_n 0, 1) := by decide +kernel
theorem dX11_isWithin_1 : decode cX11_isWithin 1 = .ok (.iload_n 1, 1) := by decide +kernel
theorem dX11_isWithin_2 : decode cX11_isWithin 2 = .ok (.if_icmp .lt 12, 3) := by decide +kernel
theorem dX11_isWithin_5 : decode cX11_isWithin 5 = .ok (.iload_n 0, 1) := by decide +kernel
theorem dX11_isWithin_6 : decode cX11_isWithin 6 = .ok (.iload_n 2, 1) := by decide +kernel
theorem dX11_isWithin_7 : decode cX11_isWithin 7 = .ok (.if_icmp .gt 7, 3) := by decide +kernel
theorem dX11_isWithin_10 : decode cX11_isWithin 10 = .ok (.iconst 1, 1) := by decide +kernel
theorem dX11_isWithin_11 : decode cX11_isWithin 11 = .ok (.goto 4, 3) := by decide +kernel
theorem dX11_isWithin_14 : decode cX11_isWithin 14 = .ok (.iconst 0, 1) := by decide +kernel
theorem dX11_isWithin_15 : decode cX11_isWithin 15 = .ok (.ireturn, 1) := by decide +kernel
theorem dX11_isNight_0 : decode cX11_isNight 0 = .ok (.iload_n 0, 1) := by decide +kernel
theorem dX11_isNight_1 : decode cX11_isNight 1 = .ok (.ifCond .lt 14, 3) := by decide +kernel
theorem dX11_isNight_4 : decode cX11_isNight 4 = .ok (.iload_n 0, 1) := by decide +kernel
theorem dX11_isNight_5 : decode cX11_isNight 5 = .ok (.sipush 200, 3) := by decide +kernel
theorem dX11_isNight_8 : decode cX11_isNight 8 = .ok (.if_icmp .ge 7, 3) := by decide +kernel
theorem dX11_isNight_11 : decode cX11_isNight 11 = .ok (.iconst 1, 1) := by decide +kernel
theorem dX11_isNight_12 : decode cX11_isNight 12 = .ok (.goto 4, 3) := by decide +kernel
theorem dX11_isNight_15 : decode cX11_isNight 15 = .ok (.iconst 0, 1) := by decide +kernel
theorem dX11_isNight_16 : decode cX11_isNight 16 = .ok (.ireturn, 1) := by decide +kernel
theorem dX11_isCaller_0 : decode cX11_isCaller 0 = .ok (.iload_n 0, 1) := by decide +kernel
theorem dX11_isCaller_1 : decode cX11_isCaller 1 = .ok (.ifCond .lt 13, 3) := by decide +kernel
theorem dX11_isCaller_4 : decode cX11_isCaller 4 = .ok (.iload_n 0, 1) := by decide +kernel
theorem dX11_isCaller_5 : decode cX11_isCaller 5 = .ok (.bipush 20, 2) := by decide +kernel
theorem dX11_isCaller_7 : decode cX11_isCaller 7 = .ok (.if_icmp .ge 7, 3) := by decide +kernel
theorem dX11_isCaller_10 : decode cX11_isCaller 10 = .ok (.iconst 1, 1) := by decide +kernel
theorem dX11_isCaller_11 : decode cX11_isCaller 11 = .ok (.goto 4, 3) := by decide +kernel
theorem dX11_isCaller_14 : decode cX11_isCaller 14 = .ok (.iconst 0, 1) := by decide +kernel
theorem dX11_isCaller_15 : decode cX11_isCaller 15 = .ok (.ireturn, 1) := by decide +kernel
theorem dX11_careIsDue_0 : decode cX11_careIsDue 0 = .ok (.aload_n 0, 1) := by decide +kernel
theorem dX11_careIsDue_1 : decode cX11_careIsDue 1 = .ok (.getfield 66, 3) := by decide +kernel
theorem dX11_careIsDue_4 : decode cX11_careIsDue 4 = .ok (.iload_n 1, 1) := by decide +kernel
theorem dX11_careIsDue_5 : decode cX11_careIsDue 5 = .ok (.aload_n 0, 1) := by decide +kernel
theorem dX11_careIsDue_6 : decode cX11_careIsDue 6 = .ok (.getfield 38, 3) := by decide +kernel
theorem dX11_careIsDue_9 : decode cX11_careIsDue 9 = .ok (.iload_n 1, 1) := by decide +kernel
theorem dX11_careIsDue_10 : decode cX11_careIsDue 10 = .ok (.invokevirtual 269, 3) := by decide +kernel
theorem dX11_careIsDue_13 : decode cX11_careIsDue 13 = .ok (.aload_n 0, 1) := by decide +kernel
theorem dX11_careIsDue_14 : decode cX11_careIsDue 14 = .ok (.getfield 86, 3) := by decide +kernel
theorem dX11_careIsDue_17 : decode cX11_careIsDue 17 = .ok (.invokevirtual 272, 3) := by decide +kernel
theorem dX11_careIsDue_20 : decode cX11_careIsDue 20 = .ok (.ireturn, 1) := by decide +kernel
theorem dX11_keptHours_0 : decode cX11_keptHours 0 = .ok (.iconst 0, 1) := by decide +kernel
theorem dX11_keptHours_1 : decode cX11_keptHours 1 = .ok (.istore_n 2, 1) := by decide +kernel
theorem dX11_keptHours_2 : decode cX11_keptHours 2 = .ok (.iconst 0, 1) := by decide +kernel
theorem dX11_keptHours_3 : decode cX11_keptHours 3 = .ok (.istore_n 3, 1) := by decide +kernel
theorem dX11_keptHours_4 : decode cX11_keptHours 4 = .ok (.iconst 0, 1) := by decide +kernel
theorem dX11_keptHours_5 : decode cX11_keptHours 5 = .ok (.istore 4, 2) := by decide +kernel
theorem dX11_keptHours_7 : decode cX11_keptHours 7 = .ok (.iconst 0, 1) := by decide +kernel
theorem dX11_keptHours_8 : decode cX11_keptHours 8 = .ok (.istore 5, 2) := by decide +kernel
theorem dX11_keptHours_10 : decode cX11_keptHours 10 = .ok (.iload 5, 2) := by decide +kernel
theorem dX11_keptHours_12 : decode cX11_keptHours 12 = .ok (.aload_n 0, 1) := by decide +kernel
theorem dX11_keptHours_13 : decode cX11_keptHours 13 = .ok (.getfield 38, 3) := by decide +kernel
theorem dX11_keptHours_16 : decode cX11_keptHours 16 = .ok (.invokevirtual 257, 3) := by decide +kernel
theorem dX11_keptHours_19 : decode cX11_keptHours 19 = .ok (.if_icmp .ge 58, 3) := by decide +kernel
theorem dX11_keptHours_22 : decode cX11_keptHours 22 = .ok (.aload_n 0, 1) := by decide +kernel
theorem dX11_keptHours_23 : decode cX11_keptHours 23 = .ok (.getfield 45, 3) := by decide +kernel
theorem dX11_keptHours_26 : decode cX11_keptHours 26 = .ok (.iload 5, 2) := by decide +kernel
theorem dX11_keptHours_28 : decode cX11_keptHours 28 = .ok (.iload_n 1, 1) := by decide +kernel
theorem dX11_keptHours_29 : decode cX11_keptHours 29 = .ok (.invokevirtual 200, 3) := by decide +kernel
theorem dX11_keptHours_32 : decode cX11_keptHours 32 = .ok (.istore 6, 2) := by decide +kernel
theorem dX11_keptHours_34 : decode cX11_keptHours 34 = .ok (.iload_n 3, 1) := by decide +kernel
theorem dX11_keptHours_35 : decode cX11_keptHours 35 = .ok (.iload_n 2, 1) := by decide +kernel
theorem dX11_keptHours_36 : decode cX11_keptHours 36 = .ok (.iload 6, 2) := by decide +kernel
theorem dX11_keptHours_38 : decode cX11_keptHours 38 = .ok (.iand, 1) := by decide +kernel
theorem dX11_keptHours_39 : decode cX11_keptHours 39 = .ok (.ior, 1) := by decide +kernel
theorem dX11_keptHours_40 : decode cX11_keptHours 40 = .ok (.istore_n 3, 1) := by decide +kernel
theorem dX11_keptHours_41 : decode cX11_keptHours 41 = .ok (.iload_n 2, 1) := by decide +kernel
theorem dX11_keptHours_42 : decode cX11_keptHours 42 = .ok (.iload 6, 2) := by decide +kernel
theorem dX11_keptHours_44 : decode cX11_keptHours 44 = .ok (.ior, 1) := by decide +kernel
theorem dX11_keptHours_45 : decode cX11_keptHours 45 = .ok (.istore_n 2, 1) := by decide +kernel
theorem dX11_keptHours_46 : decode cX11_keptHours 46 = .ok (.iload 4, 2) := by decide +kernel
theorem dX11_keptHours_48 : decode cX11_keptHours 48 = .ok (.aload_n 0, 1) := by decide +kernel
theorem dX11_keptHours_49 : decode cX11_keptHours 49 = .ok (.getfield 38, 3) := by decide +kernel
theorem dX11_keptHours_52 : decode cX11_keptHours 52 = .ok (.iload 5, 2) := by decide +kernel
theorem dX11_keptHours_54 : decode cX11_keptHours 54 = .ok (.iconst 0, 1) := by decide +kernel
theorem dX11_keptHours_55 : decode cX11_keptHours 55 = .ok (.iload_n 1, 1) := by decide +kernel
theorem dX11_keptHours_56 : decode cX11_keptHours 56 = .ok (.invokevirtual 136, 3) := by decide +kernel
theorem dX11_keptHours_59 : decode cX11_keptHours 59 = .ok (.ifCond .eq 8, 3) := by decide +kernel
theorem dX11_keptHours_62 : decode cX11_keptHours 62 = .ok (.iload 6, 2) := by decide +kernel
theorem dX11_keptHours_64 : decode cX11_keptHours 64 = .ok (.goto 4, 3) := by decide +kernel
theorem dX11_keptHours_67 : decode cX11_keptHours 67 = .ok (.iconst 0, 1) := by decide +kernel
theorem dX11_keptHours_68 : decode cX11_keptHours 68 = .ok (.ior, 1) := by decide +kernel
theorem dX11_keptHours_69 : decode cX11_keptHours 69 = .ok (.istore 4, 2) := by decide +kernel
theorem dX11_keptHours_71 : decode cX11_keptHours 71 = .ok (.iinc 5 1, 3) := by decide +kernel
theorem dX11_keptHours_74 : decode cX11_keptHours 74 = .ok (.goto (-64), 3) := by decide +kernel
theorem dX11_keptHours_77 : decode cX11_keptHours 77 = .ok (.iload_n 3, 1) := by decide +kernel
theorem dX11_keptHours_78 : decode cX11_keptHours 78 = .ok (.iload 4, 2) := by decide +kernel
theorem dX11_keptHours_80 : decode cX11_keptHours 80 = .ok (.iand, 1) := by decide +kernel
theorem dX11_keptHours_81 : decode cX11_keptHours 81 = .ok (.ireturn, 1) := by decide +kernel
theorem dX11_maySee_0 : decode cX11_maySee 0 = .ok (.iload_n 3, 1) := by decide +kernel
theorem dX11_maySee_1 : decode cX11_maySee 1 = .ok (.aload_n 0, 1) := by decide +kernel
theorem dX11_maySee_2 : decode cX11_maySee 2 = .ok (.getfield 82, 3) := by decide +kernel
theorem dX11_maySee_5 : decode cX11_maySee 5 = .ok (.iload_n 2, 1) := by decide +kernel
theorem dX11_maySee_6 : decode cX11_maySee 6 = .ok (.invokevirtual 275, 3) := by decide +kernel
theorem dX11_maySee_9 : decode cX11_maySee 9 = .ok (.if_icmp .ge 5, 3) := by decide +kernel
theorem dX11_maySee_12 : decode cX11_maySee 12 = .ok (.iconst 0, 1) := by decide +kernel
theorem dX11_maySee_13 : decode cX11_maySee 13 = .ok (.ireturn, 1) := by decide +kernel
theorem dX11_maySee_14 : decode cX11_maySee 14 = .ok (.aload_n 0, 1) := by decide +kernel
theorem dX11_maySee_15 : decode cX11_maySee 15 = .ok (.getfield 82, 3) := by decide +kernel
theorem dX11_maySee_18 : decode cX11_maySee 18 = .ok (.iload_n 2, 1) := by decide +kernel
theorem dX11_maySee_19 : decode cX11_maySee 19 = .ok (.invokevirtual 276, 3) := by decide +kernel
theorem dX11_maySee_22 : decode cX11_maySee 22 = .ok (.istore 4, 2) := by decide +kernel
theorem dX11_maySee_24 : decode cX11_maySee 24 = .ok (.aload_n 0, 1) := by decide +kernel
theorem dX11_maySee_25 : decode cX11_maySee 25 = .ok (.getfield 66, 3) := by decide +kernel
theorem dX11_maySee_28 : decode cX11_maySee 28 = .ok (.iload 4, 2) := by decide +kernel
theorem dX11_maySee_30 : decode cX11_maySee 30 = .ok (.invokevirtual 227, 3) := by decide +kernel
theorem dX11_maySee_33 : decode cX11_maySee 33 = .ok (.iload_n 1, 1) := by decide +kernel
theorem dX11_maySee_34 : decode cX11_maySee 34 = .ok (.if_icmp .ne 5, 3) := by decide +kernel
theorem dX11_maySee_37 : decode cX11_maySee 37 = .ok (.iconst 1, 1) := by decide +kernel
theorem dX11_maySee_38 : decode cX11_maySee 38 = .ok (.ireturn, 1) := by decide +kernel
theorem dX11_maySee_39 : decode cX11_maySee 39 = .ok (.aload_n 0, 1) := by decide +kernel
theorem dX11_maySee_40 : decode cX11_maySee 40 = .ok (.getfield 38, 3) := by decide +kernel
theorem dX11_maySee_43 : decode cX11_maySee 43 = .ok (.iload_n 1, 1) := by decide +kernel
theorem dX11_maySee_44 : decode cX11_maySee 44 = .ok (.invokevirtual 279, 3) := by decide +kernel
theorem dX11_maySee_47 : decode cX11_maySee 47 = .ok (.aload_n 0, 1) := by decide +kernel
theorem dX11_maySee_48 : decode cX11_maySee 48 = .ok (.getfield 82, 3) := by decide +kernel
theorem dX11_maySee_51 : decode cX11_maySee 51 = .ok (.iload_n 2, 1) := by decide +kernel
theorem dX11_maySee_52 : decode cX11_maySee 52 = .ok (.invokevirtual 282, 3) := by decide +kernel
theorem dX11_maySee_55 : decode cX11_maySee 55 = .ok (.if_icmp .lt 28, 3) := by decide +kernel
theorem dX11_maySee_58 : decode cX11_maySee 58 = .ok (.aload_n 0, 1) := by decide +kernel
theorem dX11_maySee_59 : decode cX11_maySee 59 = .ok (.getfield 38, 3) := by decide +kernel
theorem dX11_maySee_62 : decode cX11_maySee 62 = .ok (.aload_n 0, 1) := by decide +kernel
theorem dX11_maySee_63 : decode cX11_maySee 63 = .ok (.getfield 66, 3) := by decide +kernel
theorem dX11_maySee_66 : decode cX11_maySee 66 = .ok (.iload 4, 2) := by decide +kernel
theorem dX11_maySee_68 : decode cX11_maySee 68 = .ok (.invokevirtual 236, 3) := by decide +kernel
theorem dX11_maySee_71 : decode cX11_maySee 71 = .ok (.iload_n 1, 1) := by decide +kernel
theorem dX11_maySee_72 : decode cX11_maySee 72 = .ok (.iload_n 3, 1) := by decide +kernel
theorem dX11_maySee_73 : decode cX11_maySee 73 = .ok (.invokevirtual 283, 3) := by decide +kernel
theorem dX11_maySee_76 : decode cX11_maySee 76 = .ok (.ifCond .ne 7, 3) := by decide +kernel
theorem dX11_maySee_79 : decode cX11_maySee 79 = .ok (.iconst 1, 1) := by decide +kernel
theorem dX11_maySee_80 : decode cX11_maySee 80 = .ok (.goto 4, 3) := by decide +kernel
theorem dX11_maySee_83 : decode cX11_maySee 83 = .ok (.iconst 0, 1) := by decide +kernel
theorem dX11_maySee_84 : decode cX11_maySee 84 = .ok (.ireturn, 1) := by decide +kernel
theorem dX11_isForerunner_0 : decode cX11_isForerunner 0 = .ok (.iload_n 1, 1) := by decide +kernel
theorem dX11_isForerunner_1 : decode cX11_isForerunner 1 = .ok (.aload_n 0, 1) := by decide +kernel
theorem dX11_isForerunner_2 : decode cX11_isForerunner 2 = .ok (.getfield 86, 3) := by decide +kernel
theorem dX11_isForerunner_5 : decode cX11_isForerunner 5 = .ok (.if_icmp .ge 30, 3) := by decide +kernel
theorem dX11_isForerunner_8 : decode cX11_isForerunner 8 = .ok (.aload_n 0, 1) := by decide +kernel
theorem dX11_isForerunner_9 : decode cX11_isForerunner 9 = .ok (.getfield 45, 3) := by decide +kernel
theorem dX11_isForerunner_12 : decode cX11_isForerunner 12 = .ok (.iload_n 1, 1) := by decide +kernel
theorem dX11_isForerunner_13 : decode cX11_isForerunner 13 = .ok (.invokevirtual 158, 3) := by decide +kernel
theorem dX11_isForerunner_16 : decode cX11_isForerunner 16 = .ok (.ifCond .eq 19, 3) := by decide +kernel
theorem dX11_isForerunner_19 : decode cX11_isForerunner 19 = .ok (.aload_n 0, 1) := by decide +kernel
theorem dX11_isForerunner_20 : decode cX11_isForerunner 20 = .ok (.getfield 45, 3) := by decide +kernel
theorem dX11_isForerunner_23 : decode cX11_isForerunner 23 = .ok (.iload_n 1, 1) := by decide +kernel
theorem dX11_isForerunner_24 : decode cX11_isForerunner 24 = .ok (.iload_n 2, 1) := by decide +kernel
theorem dX11_isForerunner_25 : decode cX11_isForerunner 25 = .ok (.invokevirtual 286, 3) := by decide +kernel
theorem dX11_isForerunner_28 : decode cX11_isForerunner 28 = .ok (.ifCond .eq 7, 3) := by decide +kernel
theorem dX11_isForerunner_31 : decode cX11_isForerunner 31 = .ok (.iconst 1, 1) := by decide +kernel
theorem dX11_isForerunner_32 : decode cX11_isForerunner 32 = .ok (.goto 4, 3) := by decide +kernel
theorem dX11_isForerunner_35 : decode cX11_isForerunner 35 = .ok (.iconst 0, 1) := by decide +kernel
theorem dX11_isForerunner_36 : decode cX11_isForerunner 36 = .ok (.ireturn, 1) := by decide +kernel
theorem dX12_feed_0 : decode cX12_feed 0 = .ok (.aload_n 0, 1) := by decide +kernel
theorem dX12_feed_1 : decode cX12_feed 1 = .ok (.getfield 216, 3) := by decide +kernel
theorem dX12_feed_4 : decode cX12_feed 4 = .ok (.bipush 20, 2) := by decide +kernel
theorem dX12_feed_6 : decode cX12_feed 6 = .ok (.iadd, 1) := by decide +kernel
theorem dX12_feed_7 : decode cX12_feed 7 = .ok (.sipush 2000, 3) := by decide +kernel
theorem dX12_feed_10 : decode cX12_feed 10 = .ok (.if_icmp .le 5, 3) := by decide +kernel
theorem dX12_feed_13 : decode cX12_feed 13 = .ok (.iconst (-1), 1) := by decide +kernel
theorem dX12_feed_14 : decode cX12_feed 14 = .ok (.ireturn, 1) := by decide +kernel
theorem dX12_feed_15 : decode cX12_feed 15 = .ok (.aload_n 0, 1) := by decide +kernel
theorem dX12_feed_16 : decode cX12_feed 16 = .ok (.iload_n 1, 1) := by decide +kernel
theorem dX12_feed_17 : decode cX12_feed 17 = .ok (.invokevirtual 219, 3) := by decide +kernel
theorem dX12_feed_20 : decode cX12_feed 20 = .ok (.aload_n 0, 1) := by decide +kernel
theorem dX12_feed_21 : decode cX12_feed 21 = .ok (.iload_n 2, 1) := by decide +kernel
theorem dX12_feed_22 : decode cX12_feed 22 = .ok (.invokevirtual 219, 3) := by decide +kernel
theorem dX12_feed_25 : decode cX12_feed 25 = .ok (.aload_n 0, 1) := by decide +kernel
theorem dX12_feed_26 : decode cX12_feed 26 = .ok (.iload_n 3, 1) := by decide +kernel
theorem dX12_feed_27 : decode cX12_feed 27 = .ok (.invokevirtual 219, 3) := by decide +kernel
theorem dX12_feed_30 : decode cX12_feed 30 = .ok (.aload_n 0, 1) := by decide +kernel
theorem dX12_feed_31 : decode cX12_feed 31 = .ok (.iload 4, 2) := by decide +kernel
theorem dX12_feed_33 : decode cX12_feed 33 = .ok (.invokevirtual 219, 3) := by decide +kernel
theorem dX12_feed_36 : decode cX12_feed 36 = .ok (.aload_n 0, 1) := by decide +kernel
theorem dX12_feed_37 : decode cX12_feed 37 = .ok (.iload 5, 2) := by decide +kernel
theorem dX12_feed_39 : decode cX12_feed 39 = .ok (.invokevirtual 219, 3) := by decide +kernel
theorem dX12_feed_42 : decode cX12_feed 42 = .ok (.aload_n 0, 1) := by decide +kernel
theorem dX12_feed_43 : decode cX12_feed 43 = .ok (.getfield 216, 3) := by decide +kernel
theorem dX12_feed_46 : decode cX12_feed 46 = .ok (.ireturn, 1) := by decide +kernel
theorem dX12_put_0 : decode cX12_put 0 = .ok (.bipush 24, 2) := by decide +kernel
theorem dX12_put_2 : decode cX12_put 2 = .ok (.istore_n 2, 1) := by decide +kernel
theorem dX12_put_3 : decode cX12_put 3 = .ok (.iload_n 2, 1) := by decide +kernel
theorem dX12_put_4 : decode cX12_put 4 = .ok (.ifCond .lt 32, 3) := by decide +kernel
theorem dX12_put_7 : decode cX12_put 7 = .ok (.aload_n 0, 1) := by decide +kernel
theorem dX12_put_8 : decode cX12_put 8 = .ok (.getfield 13, 3) := by decide +kernel
theorem dX12_put_11 : decode cX12_put 11 = .ok (.aload_n 0, 1) := by decide +kernel
theorem dX12_put_12 : decode cX12_put 12 = .ok (.getfield 216, 3) := by decide +kernel
theorem dX12_put_15 : decode cX12_put 15 = .ok (.iload_n 1, 1) := by decide +kernel
theorem dX12_put_16 : decode cX12_put 16 = .ok (.iload_n 2, 1) := by decide +kernel
theorem dX12_put_17 : decode cX12_put 17 = .ok (.ishr, 1) := by decide +kernel
theorem dX12_put_18 : decode cX12_put 18 = .ok (.i2b, 1) := by decide +kernel
theorem dX12_put_19 : decode cX12_put 19 = .ok (.bastore, 1) := by decide +kernel
theorem dX12_put_20 : decode cX12_put 20 = .ok (.aload_n 0, 1) := by decide +kernel
theorem dX12_put_21 : decode cX12_put 21 = .ok (.dup, 1) := by decide +kernel
theorem dX12_put_22 : decode cX12_put 22 = .ok (.getfield 216, 3) := by decide +kernel
theorem dX12_put_25 : decode cX12_put 25 = .ok (.iconst 1, 1) := by decide +kernel
theorem dX12_put_26 : decode cX12_put 26 = .ok (.iadd, 1) := by decide +kernel
theorem dX12_put_27 : decode cX12_put 27 = .ok (.putfield 216, 3) := by decide +kernel
theorem dX12_put_30 : decode cX12_put 30 = .ok (.iinc 2 (-8), 3) := by decide +kernel
theorem dX12_put_33 : decode cX12_put 33 = .ok (.goto (-30), 3) := by decide +kernel
theorem dX12_put_36 : decode cX12_put 36 = .ok (.return_, 1) := by decide +kernel
theorem dX12_back_0 : decode cX12_back 0 = .ok (.iload_n 1, 1) := by decide +kernel
theorem dX12_back_1 : decode cX12_back 1 = .ok (.ifCond .lt 11, 3) := by decide +kernel
theorem dX12_back_4 : decode cX12_back 4 = .ok (.iload_n 1, 1) := by decide +kernel
theorem dX12_back_5 : decode cX12_back 5 = .ok (.aload_n 0, 1) := by decide +kernel
theorem dX12_back_6 : decode cX12_back 6 = .ok (.getfield 216, 3) := by decide +kernel
theorem dX12_back_9 : decode cX12_back 9 = .ok (.if_icmp .le 5, 3) := by decide +kernel
theorem dX12_back_12 : decode cX12_back 12 = .ok (.iconst (-1), 1) := by decide +kernel
theorem dX12_back_13 : decode cX12_back 13 = .ok (.ireturn, 1) := by decide +kernel
theorem dX12_back_14 : decode cX12_back 14 = .ok (.aload_n 0, 1) := by decide +kernel
theorem dX12_back_15 : decode cX12_back 15 = .ok (.dup, 1) := by decide +kernel
theorem dX12_back_16 : decode cX12_back 16 = .ok (.getfield 216, 3) := by decide +kernel
theorem dX12_back_19 : decode cX12_back 19 = .ok (.iload_n 1, 1) := by decide +kernel
theorem dX12_back_20 : decode cX12_back 20 = .ok (.isub, 1) := by decide +kernel
theorem dX12_back_21 : decode cX12_back 21 = .ok (.putfield 216, 3) := by decide +kernel
theorem dX12_back_24 : decode cX12_back 24 = .ok (.aload_n 0, 1) := by decide +kernel
theorem dX12_back_25 : decode cX12_back 25 = .ok (.getfield 216, 3) := by decide +kernel
theorem dX12_back_28 : decode cX12_back 28 = .ok (.ireturn, 1) := by decide +kernel
theorem dX12_at_0 : decode cX12_at 0 = .ok (.iload_n 1, 1) := by decide +kernel
theorem dX12_at_1 : decode cX12_at 1 = .ok (.aload_n 0, 1) := by decide +kernel
theorem dX12_at_2 : decode cX12_at 2 = .ok (.getfield 223, 3) := by decide +kernel
theorem dX12_at_5 : decode cX12_at 5 = .ok (.if_icmp .ge 16, 3) := by decide +kernel
theorem dX12_at_8 : decode cX12_at 8 = .ok (.aload_n 0, 1) := by decide +kernel
theorem dX12_at_9 : decode cX12_at 9 = .ok (.getfield 17, 3) := by decide +kernel
theorem dX12_at_12 : decode cX12_at 12 = .ok (.iload_n 1, 1) := by decide +kernel
theorem dX12_at_13 : decode cX12_at 13 = .ok (.baload, 1) := by decide +kernel
theorem dX12_at_14 : decode cX12_at 14 = .ok (.sipush 255, 3) := by decide +kernel
theorem dX12_at_17 : decode cX12_at 17 = .ok (.iand, 1) := by decide +kernel
theorem dX12_at_18 : decode cX12_at 18 = .ok (.goto 4, 3) := by decide +kernel
theorem dX12_at_21 : decode cX12_at 21 = .ok (.iconst 0, 1) := by decide +kernel
theorem dX12_at_22 : decode cX12_at 22 = .ok (.ireturn, 1) := by decide +kernel
theorem dX12_isDigit_0 : decode cX12_isDigit 0 = .ok (.iload_n 0, 1) := by decide +kernel
theorem dX12_isDigit_1 : decode cX12_isDigit 1 = .ok (.bipush 48, 2) := by decide +kernel
theorem dX12_isDigit_3 : decode cX12_isDigit 3 = .ok (.if_icmp .lt 13, 3) := by decide +kernel
theorem dX12_isDigit_6 : decode cX12_isDigit 6 = .ok (.iload_n 0, 1) := by decide +kernel
theorem dX12_isDigit_7 : decode cX12_isDigit 7 = .ok (.bipush 57, 2) := by decide +kernel
theorem dX12_isDigit_9 : decode cX12_isDigit 9 = .ok (.if_icmp .gt 7, 3) := by decide +kernel
theorem dX12_isDigit_12 : decode cX12_isDigit 12 = .ok (.iconst 1, 1) := by decide +kernel
theorem dX12_isDigit_13 : decode cX12_isDigit 13 = .ok (.goto 4, 3) := by decide +kernel
theorem dX12_isDigit_16 : decode cX12_isDigit 16 = .ok (.iconst 0, 1) := by decide +kernel
theorem dX12_isDigit_17 : decode cX12_isDigit 17 = .ok (.ireturn, 1) := by decide +kernel
theorem dX12_isLetter_0 : decode cX12_isLetter 0 = .ok (.iload_n 0, 1) := by decide +kernel
theorem dX12_isLetter_1 : decode cX12_isLetter 1 = .ok (.bipush 97, 2) := by decide +kernel
theorem dX12_isLetter_3 : decode cX12_isLetter 3 = .ok (.if_icmp .lt 13, 3) := by decide +kernel
theorem dX12_isLetter_6 : decode cX12_isLetter 6 = .ok (.iload_n 0, 1) := by decide +kernel
theorem dX12_isLetter_7 : decode cX12_isLetter 7 = .ok (.bipush 122, 2) := by decide +kernel
theorem dX12_isLetter_9 : decode cX12_isLetter 9 = .ok (.if_icmp .gt 7, 3) := by decide +kernel
theorem dX12_isLetter_12 : decode cX12_isLetter 12 = .ok (.iconst 1, 1) := by decide +kernel
theorem dX12_isLetter_13 : decode cX12_isLetter 13 = .ok (.goto 4, 3) := by decide +kernel
theorem dX12_isLetter_16 : decode cX12_isLetter 16 = .ok (.iconst 0, 1) := by decide +kernel
theorem dX12_isLetter_17 : decode cX12_isLetter 17 = .ok (.ireturn, 1) := by decide +kernel
theorem dX12_more_0 : decode cX12_more 0 = .ok (.iload_n 2, 1) := by decide +kernel
theorem dX12_more_1 : decode cX12_more 1 = .ok (.ifCond .ne 7, 3) := by decide +kernel
theorem dX12_more_4 : decode cX12_more 4 = .ok (.lload_n 0, 1) := by decide +kernel
theorem dX12_more_5 : decode cX12_more 5 = .ok (.goto 16, 3) := by decide +kernel
theorem dX12_more_8 : decode cX12_more 8 = .ok (.ldc2_w 226, 3) := by decide +kernel
theorem dX12_more_11 : decode cX12_more 11 = .ok (.lload_n 0, 1) := by decide +kernel
theorem dX12_more_12 : decode cX12_more 12 = .ok (.lmul, 1) := by decide +kernel
theorem dX12_more_13 : decode cX12_more 13 = .ok (.iload_n 2, 1) := by decide +kernel
theorem dX12_more_14 : decode cX12_more 14 = .ok (.bipush 97, 2) := by decide +kernel
theorem dX12_more_16 : decode cX12_more 16 = .ok (.isub, 1) := by decide +kernel
theorem dX12_more_17 : decode cX12_more 17 = .ok (.iconst 1, 1) := by decide +kernel
theorem dX12_more_18 : decode cX12_more 18 = .ok (.iadd, 1) := by decide +kernel
theorem dX12_more_19 : decode cX12_more 19 = .ok (.i2l, 1) := by decide +kernel
theorem dX12_more_20 : decode cX12_more 20 = .ok (.ladd, 1) := by decide +kernel
theorem dX12_more_21 : decode cX12_more 21 = .ok (.lreturn, 1) := by decide +kernel
theorem dX12_word_0 : decode cX12_word 0 = .ok (.lconst 0, 1) := by decide +kernel
theorem dX12_word_1 : decode cX12_word 1 = .ok (.iload_n 0, 1) := by decide +kernel
theorem dX12_word_2 : decode cX12_word 2 = .ok (.invokestatic 228, 3) := by decide +kernel
theorem dX12_word_5 : decode cX12_word 5 = .ok (.iload_n 1, 1) := by decide +kernel
theorem dX12_word_6 : decode cX12_word 6 = .ok (.invokestatic 228, 3) := by decide +kernel
theorem dX12_word_9 : decode cX12_word 9 = .ok (.iload_n 2, 1) := by decide +kernel
theorem dX12_word_10 : decode cX12_word 10 = .ok (.invokestatic 228, 3) := by decide +kernel
theorem dX12_word_13 : decode cX12_word 13 = .ok (.iload_n 3, 1) := by decide +kernel
theorem dX12_word_14 : decode cX12_word 14 = .ok (.invokestatic 228, 3) := by decide +kernel
theorem dX12_word_17 : decode cX12_word 17 = .ok (.iload 4, 2) := by decide +kernel
theorem dX12_word_19 : decode cX12_word 19 = .ok (.invokestatic 228, 3) := by decide +kernel
theorem dX12_word_22 : decode cX12_word 22 = .ok (.iload 5, 2) := by decide +kernel
theorem dX12_word_24 : decode cX12_word 24 = .ok (.invokestatic 228, 3) := by decide +kernel
theorem dX12_word_27 : decode cX12_word 27 = .ok (.iload 6, 2) := by decide +kernel
theorem dX12_word_29 : decode cX12_word 29 = .ok (.invokestatic 228, 3) := by decide +kernel
theorem dX12_word_32 : decode cX12_word 32 = .ok (.lreturn, 1) := by decide +kernel
theorem dX12_token_0 : decode cX12_token 0 = .ok (.aload_n 0, 1) := by decide +kernel
theorem dX12_token_1 : decode cX12_token 1 = .ok (.getfield 20, 3) := by decide +kernel
theorem dX12_token_4 : decode cX12_token 4 = .ok (.aload_n 0, 1) := by decide +kernel
theorem dX12_token_5 : decode cX12_token 5 = .ok (.getfield 232, 3) := by decide +kernel
theorem dX12_token_8 : decode cX12_token 8 = .ok (.iload_n 1, 1) := by decide +kernel
theorem dX12_token_9 : decode cX12_token 9 = .ok (.iastore, 1) := by decide +kernel
theorem dX12_token_10 : decode cX12_token 10 = .ok (.aload_n 0, 1) := by decide +kernel
theorem dX12_token_11 : decode cX12_token 11 = .ok (.getfield 24, 3) := by decide +kernel
theorem dX12_token_14 : decode cX12_token 14 = .ok (.aload_n 0, 1) := by decide +kernel
theorem dX12_token_15 : decode cX12_token 15 = .ok (.getfield 232, 3) := by decide +kernel
theorem dX12_token_18 : decode cX12_token 18 = .ok (.iload_n 2, 1) := by decide +kernel
theorem dX12_token_19 : decode cX12_token 19 = .ok (.iastore, 1) := by decide +kernel
theorem dX12_token_20 : decode cX12_token 20 = .ok (.aload_n 0, 1) := by decide +kernel
theorem dX12_token_21 : decode cX12_token 21 = .ok (.getfield 27, 3) := by decide +kernel
theorem dX12_token_24 : decode cX12_token 24 = .ok (.aload_n 0, 1) := by decide +kernel
theorem dX12_token_25 : decode cX12_token 25 = .ok (.getfield 232, 3) := by decide +kernel
theorem dX12_token_28 : decode cX12_token 28 = .ok (.iload_n 3, 1) := by decide +kernel
theorem dX12_token_29 : decode cX12_token 29 = .ok (.iastore, 1) := by decide +kernel
theorem dX12_token_30 : decode cX12_token 30 = .ok (.aload_n 0, 1) := by decide +kernel
theorem dX12_token_31 : decode cX12_token 31 = .ok (.getfield 30, 3) := by decide +kernel
theorem dX12_token_34 : decode cX12_token 34 = .ok (.aload_n 0, 1) := by decide +kernel
theorem dX12_token_35 : decode cX12_token 35 = .ok (.getfield 232, 3) := by decide +kernel
theorem dX12_token_38 : decode cX12_token 38 = .ok (.lload 4, 2) := by decide +kernel
theorem dX12_token_40 : decode cX12_token 40 = .ok (.lastore, 1) := by decide +kernel
theorem dX12_token_41 : decode cX12_token 41 = .ok (.aload_n 0, 1) := by decide +kernel
theorem dX12_token_42 : decode cX12_token 42 = .ok (.dup, 1) := by decide +kernel
theorem dX12_token_43 : decode cX12_token 43 = .ok (.getfield 232, 3) := by decide +kernel
theorem dX12_token_46 : decode cX12_token 46 = .ok (.iconst 1, 1) := by decide +kernel
theorem dX12_token_47 : decode cX12_token 47 = .ok (.iadd, 1) := by decide +kernel
theorem dX12_token_48 : decode cX12_token 48 = .ok (.putfield 232, 3) := by decide +kernel
theorem dX12_token_51 : decode cX12_token 51 = .ok (.return_, 1) := by decide +kernel
theorem dX12_cut_0 : decode cX12_cut 0 = .ok (.aload_n 0, 1) := by decide +kernel
theorem dX12_cut_1 : decode cX12_cut 1 = .ok (.iconst 0, 1) := by decide +kernel
theorem dX12_cut_2 : decode cX12_cut 2 = .ok (.putfield 232, 3) := by decide +kernel
theorem dX12_cut_5 : decode cX12_cut 5 = .ok (.iconst 0, 1) := by decide +kernel
theorem dX12_cut_6 : decode cX12_cut 6 = .ok (.istore_n 1, 1) := by decide +kernel
theorem dX12_cut_7 : decode cX12_cut 7 = .ok (.aload_n 0, 1) := by decide +kernel
theorem dX12_cut_8 : decode cX12_cut 8 = .ok (.getfield 232, 3) := by decide +kernel
theorem dX12_cut_11 : decode cX12_cut 11 = .ok (.sipush 400, 3) := by decide +kernel
theorem dX12_cut_14 : decode cX12_cut 14 = .ok (.if_icmp .gt 280, 3) := by decide +kernel
theorem dX12_cut_17 : decode cX12_cut 17 = .ok (.aload_n 0, 1) := by decide +kernel
theorem dX12_cut_18 : decode cX12_cut 18 = .ok (.iload_n 1, 1) := by decide +kernel
theorem dX12_cut_19 : decode cX12_cut 19 = .ok (.invokevirtual 235, 3) := by decide +kernel
theorem dX12_cut_22 : decode cX12_cut 22 = .ok (.istore_n 2, 1) := by decide +kernel
theorem dX12_cut_23 : decode cX12_cut 23 = .ok (.iload_n 1, 1) := by decide +kernel
theorem dX12_cut_24 : decode cX12_cut 24 = .ok (.aload_n 0, 1) := by decide +kernel
theorem dX12_cut_25 : decode cX12_cut 25 = .ok (.getfield 223, 3) := by decide +kernel
theorem dX12_cut_28 : decode cX12_cut 28 = .ok (.if_icmp .lt 15, 3) := by decide +kernel
theorem dX12_cut_31 : decode cX12_cut 31 = .ok (.aload_n 0, 1) := by decide +kernel
theorem dX12_cut_32 : decode cX12_cut 32 = .ok (.iconst 0, 1) := by decide +kernel
theorem dX12_cut_33 : decode cX12_cut 33 = .ok (.aload_n 0, 1) := by decide +kernel
theorem dX12_cut_34 : decode cX12_cut 34 = .ok (.getfield 223, 3) := by decide +kernel
theorem dX12_cut_37 : decode cX12_cut 37 = .ok (.iconst 0, 1) := by decide +kernel
theorem dX12_cut_38 : decode cX12_cut 38 = .ok (.lconst 0, 1) := by decide +kernel
theorem dX12_cut_39 : decode cX12_cut 39 = .ok (.invokevirtual 238, 3) := by decide +kernel
theorem dX12_cut_42 : decode cX12_cut 42 = .ok (.return_, 1) := by decide +kernel
theorem dX12_cut_43 : decode cX12_cut 43 = .ok (.iload_n 2, 1) := by decide +kernel
theorem dX12_cut_44 : decode cX12_cut 44 = .ok (.bipush 9, 2) := by decide +kernel
theorem dX12_cut_46 : decode cX12_cut 46 = .ok (.if_icmp .eq 21, 3) := by decide +kernel
theorem dX12_cut_49 : decode cX12_cut 49 = .ok (.iload_n 2, 1) := by decide +kernel
theorem dX12_cut_50 : decode cX12_cut 50 = .ok (.bipush 10, 2) := by decide +kernel
theorem dX12_cut_52 : decode cX12_cut 52 = .ok (.if_icmp .eq 15, 3) := by decide +kernel
theorem dX12_cut_55 : decode cX12_cut 55 = .ok (.iload_n 2, 1) := by decide +kernel
theorem dX12_cut_56 : decode cX12_cut 56 = .ok (.bipush 13, 2) := by decide +kernel
theorem dX12_cut_58 : decode cX12_cut 58 = .ok (.if_icmp .eq 9, 3) := by decide +kernel
theorem dX12_cut_61 : decode cX12_cut 61 = .ok (.iload_n 2, 1) := by decide +kernel
theorem dX12_cut_62 : decode cX12_cut 62 = .ok (.bipush 32, 2) := by decide +kernel
theorem dX12_cut_64 : decode cX12_cut 64 = .ok (.if_icmp .ne 9, 3) := by decide +kernel
theorem dX12_cut_67 : decode cX12_cut 67 = .ok (.iinc 1 1, 3) := by decide +kernel
theorem dX12_cut_70 : decode cX12_cut 70 = .ok (.goto 221, 3) := by decide +kernel
theorem dX12_cut_73 : decode cX12_cut 73 = .ok (.iload_n 2, 1) := by decide +kernel
theorem dX12_cut_74 : decode cX12_cut 74 = .ok (.invokestatic 242, 3) := by decide +kernel
theorem dX12_cut_77 : decode cX12_cut 77 = .ok (.ifCond .eq 119, 3) := by decide +kernel
theorem dX12_cut_80 : decode cX12_cut 80 = .ok (.iconst 0, 1) := by decide +kernel
theorem dX12_cut_81 : decode cX12_cut 81 = .ok (.istore_n 3, 1) := by decide +kernel
theorem dX12_cut_82 : decode cX12_cut 82 = .ok (.lconst 0, 1) := by decide +kernel
theorem dX12_cut_83 : decode cX12_cut 83 = .ok (.lstore 4, 2) := by decide +kernel
theorem dX12_cut_85 : decode cX12_cut 85 = .ok (.aload_n 0, 1) := by decide +kernel
theorem dX12_cut_86 : decode cX12_cut 86 = .ok (.iload_n 1, 1) := by decide +kernel
theorem dX12_cut_87 : decode cX12_cut 87 = .ok (.iload_n 3, 1) := by decide +kernel
theorem dX12_cut_88 : decode cX12_cut 88 = .ok (.iadd, 1) := by decide +kernel
theorem dX12_cut_89 : decode cX12_cut 89 = .ok (.invokevirtual 235, 3) := by decide +kernel
theorem dX12_cut_92 : decode cX12_cut 92 = .ok (.invokestatic 242, 3) := by decide +kernel
theorem dX12_cut_95 : decode cX12_cut 95 = .ok (.ifCond .eq 29, 3) := by decide +kernel
theorem dX12_cut_98 : decode cX12_cut 98 = .ok (.iload_n 3, 1) := by decide +kernel
theorem dX12_cut_99 : decode cX12_cut 99 = .ok (.bipush 8, 2) := by decide +kernel
theorem dX12_cut_101 : decode cX12_cut 101 = .ok (.if_icmp .ge 17, 3) := by decide +kernel
theorem dX12_cut_104 : decode cX12_cut 104 = .ok (.lload 4, 2) := by decide +kernel
theorem dX12_cut_106 : decode cX12_cut 106 = .ok (.aload_n 0, 1) := by decide +kernel
theorem dX12_cut_107 : decode cX12_cut 107 = .ok (.iload_n 1, 1) := by decide +kernel
theorem dX12_cut_108 : decode cX12_cut 108 = .ok (.iload_n 3, 1) := by decide +kernel
theorem dX12_cut_109 : decode cX12_cut 109 = .ok (.iadd, 1) := by decide +kernel
theorem dX12_cut_110 : decode cX12_cut 110 = .ok (.invokevirtual 235, 3) := by decide +kernel
theorem dX12_cut_113 : decode cX12_cut 113 = .ok (.invokestatic 228, 3) := by decide +kernel
theorem dX12_cut_116 : decode cX12_cut 116 = .ok (.lstore 4, 2) := by decide +kernel
theorem dX12_cut_118 : decode cX12_cut 118 = .ok (.iinc 3 1, 3) := by decide +kernel
theorem dX12_cut_121 : decode cX12_cut 121 = .ok (.goto (-36), 3) := by decide +kernel
theorem dX12_cut_124 : decode cX12_cut 124 = .ok (.iload_n 3, 1) := by decide +kernel
theorem dX12_cut_125 : decode cX12_cut 125 = .ok (.bipush 8, 2) := by decide +kernel
theorem dX12_cut_127 : decode cX12_cut 127 = .ok (.if_icmp .le 7, 3) := by decide +kernel
theorem dX12_cut_130 : decode cX12_cut 130 = .ok (.iconst 3, 1) := by decide +kernel
theorem dX12_cut_131 : decode cX12_cut 131 = .ok (.goto 4, 3) := by decide +kernel
theorem dX12_cut_134 : decode cX12_cut 134 = .ok (.iconst 1, 1) := by decide +kernel
theorem dX12_cut_135 : decode cX12_cut 135 = .ok (.istore 6, 2) := by decide +kernel
theorem dX12_cut_137 : decode cX12_cut 137 = .ok (.iload_n 3, 1) := by decide +kernel
theorem dX12_cut_138 : decode cX12_cut 138 = .ok (.bipush 7, 2) := by decide +kernel
theorem dX12_cut_140 : decode cX12_cut 140 = .ok (.if_icmp .gt 39, 3) := by decide +kernel
theorem dX12_cut_143 : decode cX12_cut 143 = .ok (.iconst 0, 1) := by decide +kernel
theorem dX12_cut_144 : decode cX12_cut 144 = .ok (.istore 7, 2) := by decide +kernel
theorem dX12_cut_146 : decode cX12_cut 146 = .ok (.iload 7, 2) := by decide +kernel
theorem dX12_cut_148 : decode cX12_cut 148 = .ok (.bipush 12, 2) := by decide +kernel
theorem dX12_cut_150 : decode cX12_cut 150 = .ok (.if_icmp .ge 29, 3) := by decide +kernel
theorem dX12_cut_153 : decode cX12_cut 153 = .ok (.aload_n 0, 1) := by decide +kernel
theorem dX12_cut_154 : decode cX12_cut 154 = .ok (.getfield 34, 3) := by decide +kernel
theorem dX12_cut_157 : decode cX12_cut 157 = .ok (.iload 7, 2) := by decide +kernel
theorem dX12_cut_159 : decode cX12_cut 159 = .ok (.laload, 1) := by decide +kernel
theorem dX12_cut_160 : decode cX12_cut 160 = .ok (.lload 4, 2) := by decide +kernel
theorem dX12_cut_162 : decode cX12_cut 162 = .ok (.lcmp, 1) := by decide +kernel
theorem dX12_cut_163 : decode cX12_cut 163 = .ok (.ifCond .ne 10, 3) := by decide +kernel
theorem dX12_cut_166 : decode cX12_cut 166 = .ok (.bipush 20, 2) := by decide +kernel
theorem dX12_cut_168 : decode cX12_cut 168 = .ok (.iload 7, 2) := by decide +kernel
theorem dX12_cut_170 : decode cX12_cut 170 = .ok (.iadd, 1) := by decide +kernel
theorem dX12_cut_171 : decode cX12_cut 171 = .ok (.istore 6, 2) := by decide +kernel
theorem dX12_cut_173 : decode cX12_cut 173 = .ok (.iinc 7 1, 3) := by decide +kernel
theorem dX12_cut_176 : decode cX12_cut 176 = .ok (.goto (-30), 3) := by decide +kernel
theorem dX12_cut_179 : decode cX12_cut 179 = .ok (.aload_n 0, 1) := by decide +kernel
theorem dX12_cut_180 : decode cX12_cut 180 = .ok (.iload 6, 2) := by decide +kernel
theorem dX12_cut_182 : decode cX12_cut 182 = .ok (.iload_n 1, 1) := by decide +kernel
theorem dX12_cut_183 : decode cX12_cut 183 = .ok (.iconst 0, 1) := by decide +kernel
theorem dX12_cut_184 : decode cX12_cut 184 = .ok (.lload 4, 2) := by decide +kernel
theorem dX12_cut_186 : decode cX12_cut 186 = .ok (.invokevirtual 238, 3) := by decide +kernel
theorem dX12_cut_189 : decode cX12_cut 189 = .ok (.iload_n 1, 1) := by decide +kernel
theorem dX12_cut_190 : decode cX12_cut 190 = .ok (.iload_n 3, 1) := by decide +kernel
theorem dX12_cut_191 : decode cX12_cut 191 = .ok (.iadd, 1) := by decide +kernel
theorem dX12_cut_192 : decode cX12_cut 192 = .ok (.istore_n 1, 1) := by decide +kernel
theorem dX12_cut_193 : decode cX12_cut 193 = .ok (.goto 98, 3) := by decide +kernel
theorem dX12_cut_196 : decode cX12_cut 196 = .ok (.iload_n 2, 1) := by decide +kernel
theorem dX12_cut_197 : decode cX12_cut 197 = .ok (.invokestatic 246, 3) := by decide +kernel
theorem dX12_cut_200 : decode cX12_cut 200 = .ok (.ifCond .eq 75, 3) := by decide +kernel
theorem dX12_cut_203 : decode cX12_cut 203 = .ok (.iconst 0, 1) := by decide +kernel
theorem dX12_cut_204 : decode cX12_cut 204 = .ok (.istore_n 3, 1) := by decide +kernel
theorem dX12_cut_205 : decode cX12_cut 205 = .ok (.iconst 0, 1) := by decide +kernel
theorem dX12_cut_206 : decode cX12_cut 206 = .ok (.istore 4, 2) := by decide +kernel
theorem dX12_cut_208 : decode cX12_cut 208 = .ok (.aload_n 0, 1) := by decide +kernel
theorem dX12_cut_209 : decode cX12_cut 209 = .ok (.iload_n 1, 1) := by decide +kernel
theorem dX12_cut_210 : decode cX12_cut 210 = .ok (.iload_n 3, 1) := by decide +kernel
theorem dX12_cut_211 : decode cX12_cut 211 = .ok (.iadd, 1) := by decide +kernel
theorem dX12_cut_212 : decode cX12_cut 212 = .ok (.invokevirtual 235, 3) := by decide +kernel
theorem dX12_cut_215 : decode cX12_cut 215 = .ok (.invokestatic 246, 3) := by decide +kernel
theorem dX12_cut_218 : decode cX12_cut 218 = .ok (.ifCond .eq 32, 3) := by decide +kernel
theorem dX12_cut_221 : decode cX12_cut 221 = .ok (.iload_n 3, 1) := by decide +kernel
theorem dX12_cut_222 : decode cX12_cut 222 = .ok (.iconst 4, 1) := by decide +kernel
theorem dX12_cut_223 : decode cX12_cut 223 = .ok (.if_icmp .ge 21, 3) := by decide +kernel
theorem dX12_cut_226 : decode cX12_cut 226 = .ok (.bipush 10, 2) := by decide +kernel
theorem dX12_cut_228 : decode cX12_cut 228 = .ok (.iload 4, 2) := by decide +kernel
theorem dX12_cut_230 : decode cX12_cut 230 = .ok (.imul, 1) := by decide +kernel
theorem dX12_cut_231 : decode cX12_cut 231 = .ok (.aload_n 0, 1) := by decide +kernel
theorem dX12_cut_232 : decode cX12_cut 232 = .ok (.iload_n 1, 1) := by decide +kernel
theorem dX12_cut_233 : decode cX12_cut 233 = .ok (.iload_n 3, 1) := by decide +kernel
theorem dX12_cut_234 : decode cX12_cut 234 = .ok (.iadd, 1) := by decide +kernel
theorem dX12_cut_235 : decode cX12_cut 235 = .ok (.invokevirtual 235, 3) := by decide +kernel
theorem dX12_cut_238 : decode cX12_cut 238 = .ok (.iadd, 1) := by decide +kernel
theorem dX12_cut_239 : decode cX12_cut 239 = .ok (.bipush 48, 2) := by decide +kernel
theorem dX12_cut_241 : decode cX12_cut 241 = .ok (.isub, 1) := by decide +kernel
theorem dX12_cut_242 : decode cX12_cut 242 = .ok (.istore 4, 2) := by decide +kernel
theorem dX12_cut_244 : decode cX12_cut 244 = .ok (.iinc 3 1, 3) := by decide +kernel
theorem dX12_cut_247 : decode cX12_cut 247 = .ok (.goto (-39), 3) := by decide +kernel
theorem dX12_cut_250 : decode cX12_cut 250 = .ok (.aload_n 0, 1) := by decide +kernel
theorem dX12_cut_251 : decode cX12_cut 251 = .ok (.iload_n 3, 1) := by decide +kernel
theorem dX12_cut_252 : decode cX12_cut 252 = .ok (.iconst 4, 1) := by decide +kernel
theorem dX12_cut_253 : decode cX12_cut 253 = .ok (.if_icmp .le 7, 3) := by decide +kernel
theorem dX12_cut_256 : decode cX12_cut 256 = .ok (.iconst 3, 1) := by decide +kernel
theorem dX12_cut_257 : decode cX12_cut 257 = .ok (.goto 4, 3) := by decide +kernel
theorem dX12_cut_260 : decode cX12_cut 260 = .ok (.iconst 2, 1) := by decide +kernel
theorem dX12_cut_261 : decode cX12_cut 261 = .ok (.iload_n 1, 1) := by decide +kernel
theorem dX12_cut_262 : decode cX12_cut 262 = .ok (.iload 4, 2) := by decide +kernel
theorem dX12_cut_264 : decode cX12_cut 264 = .ok (.lconst 0, 1) := by decide +kernel
theorem dX12_cut_265 : decode cX12_cut 265 = .ok (.invokevirtual 238, 3) := by decide +kernel
theorem dX12_cut_268 : decode cX12_cut 268 = .ok (.iload_n 1, 1) := by decide +kernel
theorem dX12_cut_269 : decode cX12_cut 269 = .ok (.iload_n 3, 1) := by decide +kernel
theorem dX12_cut_270 : decode cX12_cut 270 = .ok (.iadd, 1) := by decide +kernel
theorem dX12_cut_271 : decode cX12_cut 271 = .ok (.istore_n 1, 1) := by decide +kernel
theorem dX12_cut_272 : decode cX12_cut 272 = .ok (.goto 19, 3) := by decide +kernel
theorem dX12_cut_275 : decode cX12_cut 275 = .ok (.iload_n 1, 1) := by decide +kernel
theorem dX12_cut_276 : decode cX12_cut 276 = .ok (.aload_n 0, 1) := by decide +kernel
theorem dX12_cut_277 : decode cX12_cut 277 = .ok (.iload_n 1, 1) := by decide +kernel
theorem dX12_cut_278 : decode cX12_cut 278 = .ok (.iload_n 2, 1) := by decide +kernel
theorem dX12_cut_279 : decode cX12_cut 279 = .ok (.aload_n 0, 1) := by decide +kernel
theorem dX12_cut_280 : decode cX12_cut 280 = .ok (.iload_n 1, 1) := by decide +kernel
theorem dX12_cut_281 : decode cX12_cut 281 = .ok (.iconst 1, 1) := by decide +kernel
theorem dX12_cut_282 : decode cX12_cut 282 = .ok (.iadd, 1) := by decide +kernel
theorem dX12_cut_283 : decode cX12_cut 283 = .ok (.invokevirtual 235, 3) := by decide +kernel
theorem dX12_cut_286 : decode cX12_cut 286 = .ok (.invokevirtual 249, 3) := by decide +kernel
theorem dX12_cut_289 : decode cX12_cut 289 = .ok (.iadd, 1) := by decide +kernel
theorem dX12_cut_290 : decode cX12_cut 290 = .ok (.istore_n 1, 1) := by decide +kernel
theorem dX12_cut_291 : decode cX12_cut 291 = .ok (.goto (-284), 3) := by decide +kernel
theorem dX12_cut_294 : decode cX12_cut 294 = .ok (.return_, 1) := by decide +kernel
theorem dX12_sign_0 : decode cX12_sign 0 = .ok (.iload_n 3, 1) := by decide +kernel
theorem dX12_sign_1 : decode cX12_sign 1 = .ok (.bipush 61, 2) := by decide +kernel
theorem dX12_sign_3 : decode cX12_sign 3 = .ok (.if_icmp .eq 7, 3) := by decide +kernel
theorem dX12_sign_6 : decode cX12_sign 6 = .ok (.iconst 0, 1) := by decide +kernel
theorem dX12_sign_7 : decode cX12_sign 7 = .ok (.goto 37, 3) := by decide +kernel
theorem dX12_sign_10 : decode cX12_sign 10 = .ok (.iload_n 2, 1) := by decide +kernel
theorem dX12_sign_11 : decode cX12_sign 11 = .ok (.bipush 61, 2) := by decide +kernel
theorem dX12_sign_13 : decode cX12_sign 13 = .ok (.if_icmp .ne 8, 3) := by decide +kernel
theorem dX12_sign_16 : decode cX12_sign 16 = .ok (.bipush 11, 2) := by decide +kernel
theorem dX12_sign_18 : decode cX12_sign 18 = .ok (.goto 26, 3) := by decide +kernel
theorem dX12_sign_21 : decode cX12_sign 21 = .ok (.iload_n 2, 1) := by decide +kernel
theorem dX12_sign_22 : decode cX12_sign 22 = .ok (.bipush 33, 2) := by decide +kernel
theorem dX12_sign_24 : decode cX12_sign 24 = .ok (.if_icmp .ne 8, 3) := by decide +kernel
theorem dX12_sign_27 : decode cX12_sign 27 = .ok (.bipush 12, 2) := by decide +kernel
theorem dX12_sign_29 : decode cX12_sign 29 = .ok (.goto 15, 3) := by decide +kernel
theorem dX12_sign_32 : decode cX12_sign 32 = .ok (.iload_n 2, 1) := by decide +kernel
theorem dX12_sign_33 : decode cX12_sign 33 = .ok (.bipush 60, 2) := by decide +kernel
theorem dX12_sign_35 : decode cX12_sign 35 = .ok (.if_icmp .ne 8, 3) := by decide +kernel
theorem dX12_sign_38 : decode cX12_sign 38 = .ok (.bipush 14, 2) := by decide +kernel
theorem dX12_sign_40 : decode cX12_sign 40 = .ok (.goto 4, 3) := by decide +kernel
theorem dX12_sign_43 : decode cX12_sign 43 = .ok (.iconst 0, 1) := by decide +kernel
theorem dX12_sign_44 : decode cX12_sign 44 = .ok (.istore 4, 2) := by decide +kernel
theorem dX12_sign_46 : decode cX12_sign 46 = .ok (.iconst 3, 1) := by decide +kernel
theorem dX12_sign_47 : decode cX12_sign 47 = .ok (.istore 5, 2) := by decide +kernel
theorem dX12_sign_49 : decode cX12_sign 49 = .ok (.iload 4, 2) := by decide +kernel
theorem dX12_sign_51 : decode cX12_sign 51 = .ok (.ifCond .le 10, 3) := by decide +kernel
theorem dX12_sign_54 : decode cX12_sign 54 = .ok (.iload 4, 2) := by decide +kernel
theorem dX12_sign_56 : decode cX12_sign 56 = .ok (.istore 5, 2) := by decide +kernel
theorem dX12_sign_58 : decode cX12_sign 58 = .ok (.goto 90, 3) := by decide +kernel
theorem dX12_sign_61 : decode cX12_sign 61 = .ok (.iload_n 2, 1) := by decide +kernel
theorem dX12_sign_62 : decode cX12_sign 62 = .ok (.bipush 59, 2) := by decide +kernel
theorem dX12_sign_64 : decode cX12_sign 64 = .ok (.if_icmp .ne 9, 3) := by decide +kernel
theorem dX12_sign_67 : decode cX12_sign 67 = .ok (.iconst 4, 1) := by decide +kernel
theorem dX12_sign_68 : decode cX12_sign 68 = .ok (.istore 5, 2) := by decide +kernel
theorem dX12_sign_70 : decode cX12_sign 70 = .ok (.goto 78, 3) := by decide +kernel
theorem dX12_sign_73 : decode cX12_sign 73 = .ok (.iload_n 2, 1) := by decide +kernel
theorem dX12_sign_74 : decode cX12_sign 74 = .ok (.bipush 40, 2) := by decide +kernel
theorem dX12_sign_76 : decode cX12_sign 76 = .ok (.if_icmp .ne 10, 3) := by decide +kernel
theorem dX12_sign_79 : decode cX12_sign 79 = .ok (.bipush 6, 2) := by decide +kernel
theorem dX12_sign_81 : decode cX12_sign 81 = .ok (.istore 5, 2) := by decide +kernel
theorem dX12_sign_83 : decode cX12_sign 83 = .ok (.goto 65, 3) := by decide +kernel
theorem dX12_sign_86 : decode cX12_sign 86 = .ok (.iload_n 2, 1) := by decide +kernel
theorem dX12_sign_87 : decode cX12_sign 87 = .ok (.bipush 41, 2) := by decide +kernel
theorem dX12_sign_89 : decode cX12_sign 89 = .ok (.if_icmp .ne 10, 3) := by decide +kernel
theorem dX12_sign_92 : decode cX12_sign 92 = .ok (.bipush 7, 2) := by decide +kernel
theorem dX12_sign_94 : decode cX12_sign 94 = .ok (.istore 5, 2) := by decide +kernel
theorem dX12_sign_96 : decode cX12_sign 96 = .ok (.goto 52, 3) := by decide +kernel
theorem dX12_sign_99 : decode cX12_sign 99 = .ok (.iload_n 2, 1) := by decide +kernel
theorem dX12_sign_100 : decode cX12_sign 100 = .ok (.bipush 43, 2) := by decide +kernel
theorem dX12_sign_102 : decode cX12_sign 102 = .ok (.if_icmp .ne 10, 3) := by decide +kernel
theorem dX12_sign_105 : decode cX12_sign 105 = .ok (.bipush 8, 2) := by decide +kernel
theorem dX12_sign_107 : decode cX12_sign 107 = .ok (.istore 5, 2) := by decide +kernel
theorem dX12_sign_109 : decode cX12_sign 109 = .ok (.goto 39, 3) := by decide +kernel
theorem dX12_sign_112 : decode cX12_sign 112 = .ok (.iload_n 2, 1) := by decide +kernel
theorem dX12_sign_113 : decode cX12_sign 113 = .ok (.bipush 45, 2) := by decide +kernel
theorem dX12_sign_115 : decode cX12_sign 115 = .ok (.if_icmp .ne 10, 3) := by decide +kernel
theorem dX12_sign_118 : decode cX12_sign 118 = .ok (.bipush 9, 2) := by decide +kernel
theorem dX12_sign_120 : decode cX12_sign 120 = .ok (.istore 5, 2) := by decide +kernel
theorem dX12_sign_122 : decode cX12_sign 122 = .ok (.goto 26, 3) := by decide +kernel
theorem dX12_sign_125 : decode cX12_sign 125 = .ok (.iload_n 2, 1) := by decide +kernel
theorem dX12_sign_126 : decode cX12_sign 126 = .ok (.bipush 42, 2) := by decide +kernel
theorem dX12_sign_128 : decode cX12_sign 128 = .ok (.if_icmp .ne 10, 3) := by decide +kernel
theorem dX12_sign_131 : decode cX12_sign 131 = .ok (.bipush 10, 2) := by decide +kernel
theorem dX12_sign_133 : decode cX12_sign 133 = .ok (.istore 5, 2) := by decide +kernel
theorem dX12_sign_135 : decode cX12_sign 135 = .ok (.goto 13, 3) := by decide +kernel
theorem dX12_sign_138 : decode cX12_sign 138 = .ok (.iload_n 2, 1) := by decide +kernel
theorem dX12_sign_139 : decode cX12_sign 139 = .ok (.bipush 60, 2) := by decide +kernel
theorem dX12_sign_141 : decode cX12_sign 141 = .ok (.if_icmp .ne 7, 3) := by decide +kernel
theorem dX12_sign_144 : decode cX12_sign 144 = .ok (.bipush 13, 2) := by decide +kernel
theorem dX12_sign_146 : decode cX12_sign 146 = .ok (.istore 5, 2) := by decide +kernel
theorem dX12_sign_148 : decode cX12_sign 148 = .ok (.aload_n 0, 1) := by decide +kernel
theorem dX12_sign_149 : decode cX12_sign 149 = .ok (.iload 5, 2) := by decide +kernel
theorem dX12_sign_151 : decode cX12_sign 151 = .ok (.iload_n 1, 1) := by decide +kernel
theorem dX12_sign_152 : decode cX12_sign 152 = .ok (.iconst 0, 1) := by decide +kernel
theorem dX12_sign_153 : decode cX12_sign 153 = .ok (.lconst 0, 1) := by decide +kernel
theorem dX12_sign_154 : decode cX12_sign 154 = .ok (.invokevirtual 238, 3) := by decide +kernel
theorem dX12_sign_157 : decode cX12_sign 157 = .ok (.iload 4, 2) := by decide +kernel
theorem dX12_sign_159 : decode cX12_sign 159 = .ok (.ifCond .le 7, 3) := by decide +kernel
theorem dX12_sign_162 : decode cX12_sign 162 = .ok (.iconst 2, 1) := by decide +kernel
theorem dX12_sign_163 : decode cX12_sign 163 = .ok (.goto 4, 3) := by decide +kernel
theorem dX12_sign_166 : decode cX12_sign 166 = .ok (.iconst 1, 1) := by decide +kernel
theorem dX12_sign_167 : decode cX12_sign 167 = .ok (.ireturn, 1) := by decide +kernel
theorem dX12_is_0 : decode cX12_is 0 = .ok (.aload_n 0, 1) := by decide +kernel
theorem dX12_is_1 : decode cX12_is 1 = .ok (.getfield 253, 3) := by decide +kernel
theorem dX12_is_4 : decode cX12_is 4 = .ok (.ifCond .ne 20, 3) := by decide +kernel
theorem dX12_is_7 : decode cX12_is 7 = .ok (.aload_n 0, 1) := by decide +kernel
theorem dX12_is_8 : decode cX12_is 8 = .ok (.getfield 20, 3) := by decide +kernel
theorem dX12_is_11 : decode cX12_is 11 = .ok (.aload_n 0, 1) := by decide +kernel
theorem dX12_is_12 : decode cX12_is 12 = .ok (.getfield 256, 3) := by decide +kernel
theorem dX12_is_15 : decode cX12_is 15 = .ok (.iaload, 1) := by decide +kernel
theorem dX12_is_16 : decode cX12_is 16 = .ok (.iload_n 1, 1) := by decide +kernel
theorem dX12_is_17 : decode cX12_is 17 = .ok (.if_icmp .ne 7, 3) := by decide +kernel
theorem dX12_is_20 : decode cX12_is 20 = .ok (.iconst 1, 1) := by decide +kernel
theorem dX12_is_21 : decode cX12_is 21 = .ok (.goto 4, 3) := by decide +kernel
theorem dX12_is_24 : decode cX12_is 24 = .ok (.iconst 0, 1) := by decide +kernel
theorem dX12_is_25 : decode cX12_is 25 = .ok (.ireturn, 1) := by decide +kernel
theorem dX12_fail_0 : decode cX12_fail 0 = .ok (.aload_n 0, 1) := by decide +kernel
theorem dX12_fail_1 : decode cX12_fail 1 = .ok (.getfield 253, 3) := by decide +kernel
theorem dX12_fail_4 : decode cX12_fail 4 = .ok (.ifCond .le 4, 3) := by decide +kernel
theorem dX12_fail_7 : decode cX12_fail 7 = .ok (.return_, 1) := by decide +kernel
theorem dX12_fail_8 : decode cX12_fail 8 = .ok (.aload_n 0, 1) := by decide +kernel
theorem dX12_fail_9 : decode cX12_fail 9 = .ok (.iload_n 1, 1) := by decide +kernel
theorem dX12_fail_10 : decode cX12_fail 10 = .ok (.putfield 253, 3) := by decide +kernel
theorem dX12_fail_13 : decode cX12_fail 13 = .ok (.aload_n 0, 1) := by decide +kernel
theorem dX12_fail_14 : decode cX12_fail 14 = .ok (.aload_n 0, 1) := by decide +kernel
theorem dX12_fail_15 : decode cX12_fail 15 = .ok (.getfield 24, 3) := by decide +kernel
theorem dX12_fail_18 : decode cX12_fail 18 = .ok (.aload_n 0, 1) := by decide +kernel
theorem dX12_fail_19 : decode cX12_fail 19 = .ok (.getfield 256, 3) := by decide +kernel
theorem dX12_fail_22 : decode cX12_fail 22 = .ok (.iaload, 1) := by decide +kernel
theorem dX12_fail_23 : decode cX12_fail 23 = .ok (.putfield 259, 3) := by decide +kernel
theorem dX12_fail_26 : decode cX12_fail 26 = .ok (.return_, 1) := by decide +kernel
theorem dX12_wrong_0 : decode cX12_wrong 0 = .ok (.aload_n 0, 1) := by decide +kernel
theorem dX12_wrong_1 : decode cX12_wrong 1 = .ok (.getfield 24, 3) := by decide +kernel
theorem dX12_wrong_4 : decode cX12_wrong 4 = .ok (.iload_n 2, 1) := by decide +kernel
theorem dX12_wrong_5 : decode cX12_wrong 5 = .ok (.iaload, 1) := by decide +kernel
theorem dX12_wrong_6 : decode cX12_wrong 6 = .ok (.istore_n 3, 1) := by decide +kernel
theorem dX12_wrong_7 : decode cX12_wrong 7 = .ok (.aload_n 0, 1) := by decide +kernel
theorem dX12_wrong_8 : decode cX12_wrong 8 = .ok (.getfield 253, 3) := by decide +kernel
theorem dX12_wrong_11 : decode cX12_wrong 11 = .ok (.ifCond .gt 34, 3) := by decide +kernel
theorem dX12_wrong_14 : decode cX12_wrong 14 = .ok (.aload_n 0, 1) := by decide +kernel
theorem dX12_wrong_15 : decode cX12_wrong 15 = .ok (.getfield 262, 3) := by decide +kernel
theorem dX12_wrong_18 : decode cX12_wrong 18 = .ok (.ifCond .eq 28, 3) := by decide +kernel
theorem dX12_wrong_21 : decode cX12_wrong 21 = .ok (.iload_n 3, 1) := by decide +kernel
theorem dX12_wrong_22 : decode cX12_wrong 22 = .ok (.aload_n 0, 1) := by decide +kernel
theorem dX12_wrong_23 : decode cX12_wrong 23 = .ok (.getfield 265, 3) := by decide +kernel
theorem dX12_wrong_26 : decode cX12_wrong 26 = .ok (.if_icmp .gt 19, 3) := by decide +kernel
theorem dX12_wrong_29 : decode cX12_wrong 29 = .ok (.iload_n 3, 1) := by decide +kernel
theorem dX12_wrong_30 : decode cX12_wrong 30 = .ok (.aload_n 0, 1) := by decide +kernel
theorem dX12_wrong_31 : decode cX12_wrong 31 = .ok (.getfield 265, 3) := by decide +kernel
theorem dX12_wrong_34 : decode cX12_wrong 34 = .ok (.if_icmp .ne 12, 3) := by decide +kernel
theorem dX12_wrong_37 : decode cX12_wrong 37 = .ok (.iload_n 1, 1) := by decide +kernel
theorem dX12_wrong_38 : decode cX12_wrong 38 = .ok (.aload_n 0, 1) := by decide +kernel
theorem dX12_wrong_39 : decode cX12_wrong 39 = .ok (.getfield 262, 3) := by decide +kernel
theorem dX12_wrong_42 : decode cX12_wrong 42 = .ok (.if_icmp .lt 4, 3) := by decide +kernel
theorem dX12_wrong_45 : decode cX12_wrong 45 = .ok (.return_, 1) := by decide +kernel
theorem dX12_wrong_46 : decode cX12_wrong 46 = .ok (.aload_n 0, 1) := by decide +kernel
theorem dX12_wrong_47 : decode cX12_wrong 47 = .ok (.iload_n 1, 1) := by decide +kernel
theorem dX12_wrong_48 : decode cX12_wrong 48 = .ok (.putfield 262, 3) := by decide +kernel
theorem dX12_wrong_51 : decode cX12_wrong 51 = .ok (.aload_n 0, 1) := by decide +kernel
theorem dX12_wrong_52 : decode cX12_wrong 52 = .ok (.iload_n 3, 1) := by decide +kernel
theorem dX12_wrong_53 : decode cX12_wrong 53 = .ok (.putfield 265, 3) := by decide +kernel
theorem dX12_wrong_56 : decode cX12_wrong 56 = .ok (.return_, 1) := by decide +kernel
theorem dX12_next_0 : decode cX12_next 0 = .ok (.aload_n 0, 1) := by decide +kernel
theorem dX12_next_1 : decode cX12_next 1 = .ok (.getfield 256, 3) := by decide +kernel
theorem dX12_next_4 : decode cX12_next 4 = .ok (.sipush 400, 3) := by decide +kernel
theorem dX12_next_7 : decode cX12_next 7 = .ok (.if_icmp .ne 11, 3) := by decide +kernel
theorem dX12_next_10 : decode cX12_next 10 = .ok (.aload_n 0, 1) := by decide +kernel
theorem dX12_next_11 : decode cX12_next 11 = .ok (.iconst 2, 1) := by decide +kernel
theorem dX12_next_12 : decode cX12_next 12 = .ok (.invokevirtual 268, 3) := by decide +kernel
theorem dX12_next_15 : decode cX12_next 15 = .ok (.goto 13, 3) := by decide +kernel
theorem dX12_next_18 : decode cX12_next 18 = .ok (.aload_n 0, 1) := by decide +kernel
theorem dX12_next_19 : decode cX12_next 19 = .ok (.dup, 1) := by decide +kernel
theorem dX12_next_20 : decode cX12_next 20 = .ok (.getfield 256, 3) := by decide +kernel
theorem dX12_next_23 : decode cX12_next 23 = .ok (.iconst 1, 1) := by decide +kernel
theorem dX12_next_24 : decode cX12_next 24 = .ok (.iadd, 1) := by decide +kernel
theorem dX12_next_25 : decode cX12_next 25 = .ok (.putfield 256, 3) := by decide +kernel
theorem dX12_next_28 : decode cX12_next 28 = .ok (.return_, 1) := by decide +kernel
theorem dX12_must_0 : decode cX12_must 0 = .ok (.aload_n 0, 1) := by decide +kernel
theorem dX12_must_1 : decode cX12_must 1 = .ok (.iload_n 1, 1) := by decide +kernel
theorem dX12_must_2 : decode cX12_must 2 = .ok (.invokevirtual 271, 3) := by decide +kernel
theorem dX12_must_5 : decode cX12_must 5 = .ok (.ifCond .eq 10, 3) := by decide +kernel
theorem dX12_must_8 : decode cX12_must 8 = .ok (.aload_n 0, 1) := by decide +kernel
theorem dX12_must_9 : decode cX12_must 9 = .ok (.invokevirtual 274, 3) := by decide +kernel
theorem dX12_must_12 : decode cX12_must 12 = .ok (.goto 8, 3) := by decide +kernel
theorem dX12_must_15 : decode cX12_must 15 = .ok (.aload_n 0, 1) := by decide +kernel
theorem dX12_must_16 : decode cX12_must 16 = .ok (.iconst 1, 1) := by decide +kernel
theorem dX12_must_17 : decode cX12_must 17 = .ok (.invokevirtual 268, 3) := by decide +kernel
theorem dX12_must_20 : decode cX12_must 20 = .ok (.return_, 1) := by decide +kernel
theorem dX12_read_0 : decode cX12_read 0 = .ok (.aload_n 0, 1) := by decide +kernel
theorem dX12_read_1 : decode cX12_read 1 = .ok (.aload_n 0, 1) := by decide +kernel
theorem dX12_read_2 : decode cX12_read 2 = .ok (.getfield 216, 3) := by decide +kernel
theorem dX12_read_5 : decode cX12_read 5 = .ok (.putfield 223, 3) := by decide +kernel
theorem dX12_read_8 : decode cX12_read 8 = .ok (.iconst 0, 1) := by decide +kernel
theorem dX12_read_9 : decode cX12_read 9 = .ok (.istore_n 1, 1) := by decide +kernel
theorem dX12_read_10 : decode cX12_read 10 = .ok (.iload_n 1, 1) := by decide +kernel
theorem dX12_read_11 : decode cX12_read 11 = .ok (.aload_n 0, 1) := by decide +kernel
theorem dX12_read_12 : decode cX12_read 12 = .ok (.getfield 223, 3) := by decide +kernel
theorem dX12_read_15 : decode cX12_read 15 = .ok (.if_icmp .ge 21, 3) := by decide +kernel
theorem dX12_read_18 : decode cX12_read 18 = .ok (.aload_n 0, 1) := by decide +kernel
theorem dX12_read_19 : decode cX12_read 19 = .ok (.getfield 17, 3) := by decide +kernel
theorem dX12_read_22 : decode cX12_read 22 = .ok (.iload_n 1, 1) := by decide +kernel
theorem dX12_read_23 : decode cX12_read 23 = .ok (.aload_n 0, 1) := by decide +kernel
theorem dX12_read_24 : decode cX12_read 24 = .ok (.getfield 13, 3) := by decide +kernel
theorem dX12_read_27 : decode cX12_read 27 = .ok (.iload_n 1, 1) := by decide +kernel
theorem dX12_read_28 : decode cX12_read 28 = .ok (.baload, 1) := by decide +kernel
theorem dX12_read_29 : decode cX12_read 29 = .ok (.bastore, 1) := by decide +kernel
theorem dX12_read_30 : decode cX12_read 30 = .ok (.iinc 1 1, 3) := by decide +kernel
theorem dX12_read_33 : decode cX12_read 33 = .ok (.goto (-23), 3) := by decide +kernel
theorem dX12_read_36 : decode cX12_read 36 = .ok (.aload_n 0, 1) := by decide +kernel
theorem dX12_read_37 : decode cX12_read 37 = .ok (.iconst 0, 1) := by decide +kernel
theorem dX12_read_38 : decode cX12_read 38 = .ok (.putfield 216, 3) := by decide +kernel
theorem dX12_read_41 : decode cX12_read 41 = .ok (.aload_n 0, 1) := by decide +kernel
theorem dX12_read_42 : decode cX12_read 42 = .ok (.invokevirtual 277, 3) := by decide +kernel
theorem dX12_read_45 : decode cX12_read 45 = .ok (.aload_n 0, 1) := by decide +kernel
theorem dX12_read_46 : decode cX12_read 46 = .ok (.iconst 0, 1) := by decide +kernel
theorem dX12_read_47 : decode cX12_read 47 = .ok (.putfield 256, 3) := by decide +kernel
theorem dX12_read_50 : decode cX12_read 50 = .ok (.aload_n 0, 1) := by decide +kernel
theorem dX12_read_51 : decode cX12_read 51 = .ok (.iconst 0, 1) := by decide +kernel
theorem dX12_read_52 : decode cX12_read 52 = .ok (.putfield 280, 3) := by decide +kernel
theorem dX12_read_55 : decode cX12_read 55 = .ok (.aload_n 0, 1) := by decide +kernel
theorem dX12_read_56 : decode cX12_read 56 = .ok (.iconst 0, 1) := by decide +kernel
theorem dX12_read_57 : decode cX12_read 57 = .ok (.putfield 253, 3) := by decide +kernel
theorem dX12_read_60 : decode cX12_read 60 = .ok (.aload_n 0, 1) := by decide +kernel
theorem dX12_read_61 : decode cX12_read 61 = .ok (.iconst 0, 1) := by decide +kernel
theorem dX12_read_62 : decode cX12_read 62 = .ok (.putfield 262, 3) := by decide +kernel
theorem dX12_read_65 : decode cX12_read 65 = .ok (.aload_n 0, 1) := by decide +kernel
theorem dX12_read_66 : decode cX12_read 66 = .ok (.iconst 1, 1) := by decide +kernel
theorem dX12_read_67 : decode cX12_read 67 = .ok (.aload_n 0, 1) := by decide +kernel
theorem dX12_read_68 : decode cX12_read 68 = .ok (.getfield 283, 3) := by decide +kernel
theorem dX12_read_71 : decode cX12_read 71 = .ok (.isub, 1) := by decide +kernel
theorem dX12_read_72 : decode cX12_read 72 = .ok (.putfield 286, 3) := by decide +kernel
theorem dX12_read_75 : decode cX12_read 75 = .ok (.aload_n 0, 1) := by decide +kernel
theorem dX12_read_76 : decode cX12_read 76 = .ok (.getfield 40, 3) := by decide +kernel
theorem dX12_read_79 : decode cX12_read 79 = .ok (.aload_n 0, 1) := by decide +kernel
theorem dX12_read_80 : decode cX12_read 80 = .ok (.getfield 286, 3) := by decide +kernel
theorem dX12_read_83 : decode cX12_read 83 = .ok (.iconst 0, 1) := by decide +kernel
theorem dX12_read_84 : decode cX12_read 84 = .ok (.iastore, 1) := by decide +kernel
theorem dX12_read_85 : decode cX12_read 85 = .ok (.aload_n 0, 1) := by decide +kernel
theorem dX12_read_86 : decode cX12_read 86 = .ok (.getfield 61, 3) := by decide +kernel
theorem dX12_read_89 : decode cX12_read 89 = .ok (.aload_n 0, 1) := by decide +kernel
theorem dX12_read_90 : decode cX12_read 90 = .ok (.getfield 286, 3) := by decide +kernel
theorem dX12_read_93 : decode cX12_read 93 = .ok (.iconst 0, 1) := by decide +kernel
theorem dX12_read_94 : decode cX12_read 94 = .ok (.iastore, 1) := by decide +kernel
theorem dX12_read_95 : decode cX12_read 95 = .ok (.aload_n 0, 1) := by decide +kernel
theorem dX12_read_96 : decode cX12_read 96 = .ok (.sipush 500, 3) := by decide +kernel
theorem dX12_read_99 : decode cX12_read 99 = .ok (.aload_n 0, 1) := by decide +kernel
theorem dX12_read_100 : decode cX12_read 100 = .ok (.getfield 286, 3) := by decide +kernel
theorem dX12_read_103 : decode cX12_read 103 = .ok (.imul, 1) := by decide +kernel
theorem dX12_read_104 : decode cX12_read 104 = .ok (.putfield 289, 3) := by decide +kernel
theorem dX12_read_107 : decode cX12_read 107 = .ok (.aload_n 0, 1) := by decide +kernel
theorem dX12_read_108 : decode cX12_read 108 = .ok (.getfield 253, 3) := by decide +kernel
theorem dX12_read_111 : decode cX12_read 111 = .ok (.ifCond .ne 18, 3) := by decide +kernel
theorem dX12_read_114 : decode cX12_read 114 = .ok (.aload_n 0, 1) := by decide +kernel
theorem dX12_read_115 : decode cX12_read 115 = .ok (.iconst 0, 1) := by decide +kernel
theorem dX12_read_116 : decode cX12_read 116 = .ok (.invokevirtual 271, 3) := by decide +kernel
theorem dX12_read_119 : decode cX12_read 119 = .ok (.ifCond .ne 10, 3) := by decide +kernel
theorem dX12_read_122 : decode cX12_read 122 = .ok (.aload_n 0, 1) := by decide +kernel
theorem dX12_read_123 : decode cX12_read 123 = .ok (.invokevirtual 292, 3) := by decide +kernel
theorem dX12_read_126 : decode cX12_read 126 = .ok (.goto (-19), 3) := by decide +kernel
theorem dX12_read_129 : decode cX12_read 129 = .ok (.aload_n 0, 1) := by decide +kernel
theorem dX12_read_130 : decode cX12_read 130 = .ok (.aload_n 0, 1) := by decide +kernel
theorem dX12_read_131 : decode cX12_read 131 = .ok (.getfield 253, 3) := by decide +kernel
theorem dX12_read_134 : decode cX12_read 134 = .ok (.ifCond .le 10, 3) := by decide +kernel
theorem dX12_read_137 : decode cX12_read 137 = .ok (.aload_n 0, 1) := by decide +kernel
theorem dX12_read_138 : decode cX12_read 138 = .ok (.getfield 259, 3) := by decide +kernel
theorem dX12_read_141 : decode cX12_read 141 = .ok (.goto 18, 3) := by decide +kernel
theorem dX12_read_144 : decode cX12_read 144 = .ok (.aload_n 0, 1) := by decide +kernel
theorem dX12_read_145 : decode cX12_read 145 = .ok (.getfield 262, 3) := by decide +kernel
theorem dX12_read_148 : decode cX12_read 148 = .ok (.ifCond .le 10, 3) := by decide +kernel
theorem dX12_read_151 : decode cX12_read 151 = .ok (.aload_n 0, 1) := by decide +kernel
theorem dX12_read_152 : decode cX12_read 152 = .ok (.getfield 265, 3) := by decide +kernel
theorem dX12_read_155 : decode cX12_read 155 = .ok (.goto 4, 3) := by decide +kernel
theorem dX12_read_158 : decode cX12_read 158 = .ok (.iconst (-1), 1) := by decide +kernel
theorem dX12_read_159 : decode cX12_read 159 = .ok (.putfield 37, 3) := by decide +kernel
theorem dX12_read_162 : decode cX12_read 162 = .ok (.aload_n 0, 1) := by decide +kernel
theorem dX12_read_163 : decode cX12_read 163 = .ok (.getfield 253, 3) := by decide +kernel
theorem dX12_read_166 : decode cX12_read 166 = .ok (.ifCond .le 8, 3) := by decide +kernel
theorem dX12_read_169 : decode cX12_read 169 = .ok (.aload_n 0, 1) := by decide +kernel
theorem dX12_read_170 : decode cX12_read 170 = .ok (.getfield 253, 3) := by decide +kernel
theorem dX12_read_173 : decode cX12_read 173 = .ok (.ireturn, 1) := by decide +kernel
theorem dX12_read_174 : decode cX12_read 174 = .ok (.aload_n 0, 1) := by decide +kernel
theorem dX12_read_175 : decode cX12_read 175 = .ok (.getfield 262, 3) := by decide +kernel
theorem dX12_read_178 : decode cX12_read 178 = .ok (.ifCond .le 8, 3) := by decide +kernel
theorem dX12_read_181 : decode cX12_read 181 = .ok (.aload_n 0, 1) := by decide +kernel
theorem dX12_read_182 : decode cX12_read 182 = .ok (.getfield 262, 3) := by decide +kernel
theorem dX12_read_185 : decode cX12_read 185 = .ok (.ireturn, 1) := by decide +kernel
theorem dX12_read_186 : decode cX12_read 186 = .ok (.aload_n 0, 1) := by decide +kernel
theorem dX12_read_187 : decode cX12_read 187 = .ok (.aload_n 0, 1) := by decide +kernel
theorem dX12_read_188 : decode cX12_read 188 = .ok (.getfield 286, 3) := by decide +kernel
theorem dX12_read_191 : decode cX12_read 191 = .ok (.putfield 283, 3) := by decide +kernel
theorem dX12_read_194 : decode cX12_read 194 = .ok (.iconst 0, 1) := by decide +kernel
theorem dX12_read_195 : decode cX12_read 195 = .ok (.ireturn, 1) := by decide +kernel
theorem dX12_place_0 : decode cX12_place 0 = .ok (.aload_n 0, 1) := by decide +kernel
theorem dX12_place_1 : decode cX12_place 1 = .ok (.getfield 37, 3) := by decide +kernel
theorem dX12_place_4 : decode cX12_place 4 = .ok (.ireturn, 1) := by decide +kernel
theorem dX12_tellRule_0 : decode cX12_tellRule 0 = .ok (.aload_n 0, 1) := by decide +kernel
theorem dX12_tellRule_1 : decode cX12_tellRule 1 = .ok (.bipush 20, 2) := by decide +kernel
theorem dX12_tellRule_3 : decode cX12_tellRule 3 = .ok (.invokevirtual 271, 3) := by decide +kernel
theorem dX12_tellRule_6 : decode cX12_tellRule 6 = .ok (.ifCond .ne 30, 3) := by decide +kernel
theorem dX12_tellRule_9 : decode cX12_tellRule 9 = .ok (.aload_n 0, 1) := by decide +kernel
theorem dX12_tellRule_10 : decode cX12_tellRule 10 = .ok (.bipush 22, 2) := by decide +kernel
theorem dX12_tellRule_12 : decode cX12_tellRule 12 = .ok (.invokevirtual 271, 3) := by decide +kernel
theorem dX12_tellRule_15 : decode cX12_tellRule 15 = .ok (.ifCond .ne 21, 3) := by decide +kernel
theorem dX12_tellRule_18 : decode cX12_tellRule 18 = .ok (.aload_n 0, 1) := by decide +kernel
theorem dX12_tellRule_19 : decode cX12_tellRule 19 = .ok (.bipush 23, 2) := by decide +kernel
theorem dX12_tellRule_21 : decode cX12_tellRule 21 = .ok (.invokevirtual 271, 3) := by decide +kernel
theorem dX12_tellRule_24 : decode cX12_tellRule 24 = .ok (.ifCond .ne 12, 3) := by decide +kernel
theorem dX12_tellRule_27 : decode cX12_tellRule 27 = .ok (.aload_n 0, 1) := by decide +kernel
theorem dX12_tellRule_28 : decode cX12_tellRule 28 = .ok (.bipush 24, 2) := by decide +kernel
theorem dX12_tellRule_30 : decode cX12_tellRule 30 = .ok (.invokevirtual 271, 3) := by decide +kernel
theorem dX12_tellRule_33 : decode cX12_tellRule 33 = .ok (.ifCond .eq 7, 3) := by decide +kernel
theorem dX12_tellRule_36 : decode cX12_tellRule 36 = .ok (.iconst 1, 1) := by decide +kernel
theorem dX12_tellRule_37 : decode cX12_tellRule 37 = .ok (.goto 4, 3) := by decide +kernel
theorem dX12_tellRule_40 : decode cX12_tellRule 40 = .ok (.iconst 0, 1) := by decide +kernel
theorem dX12_tellRule_41 : decode cX12_tellRule 41 = .ok (.istore_n 1, 1) := by decide +kernel
theorem dX12_tellRule_42 : decode cX12_tellRule 42 = .ok (.iload_n 1, 1) := by decide +kernel
theorem dX12_tellRule_43 : decode cX12_tellRule 43 = .ok (.ifCond .ne 11, 3) := by decide +kernel
theorem dX12_tellRule_46 : decode cX12_tellRule 46 = .ok (.aload_n 0, 1) := by decide +kernel
theorem dX12_tellRule_47 : decode cX12_tellRule 47 = .ok (.iconst 1, 1) := by decide +kernel
theorem dX12_tellRule_48 : decode cX12_tellRule 48 = .ok (.invokevirtual 268, 3) := by decide +kernel
theorem dX12_tellRule_51 : decode cX12_tellRule 51 = .ok (.goto 22, 3) := by decide +kernel
theorem dX12_tellRule_54 : decode cX12_tellRule 54 = .ok (.aload_n 0, 1) := by decide +kernel
theorem dX12_tellRule_55 : decode cX12_tellRule 55 = .ok (.getfield 40, 3) := by decide +kernel
theorem dX12_tellRule_58 : decode cX12_tellRule 58 = .ok (.aload_n 0, 1) := by decide +kernel
theorem dX12_tellRule_59 : decode cX12_tellRule 59 = .ok (.getfield 286, 3) := by decide +kernel
theorem dX12_tellRule_62 : decode cX12_tellRule 62 = .ok (.iaload, 1) := by decide +kernel
theorem dX12_tellRule_63 : decode cX12_tellRule 63 = .ok (.bipush 20, 2) := by decide +kernel
theorem dX12_tellRule_65 : decode cX12_tellRule 65 = .ok (.if_icmp .ne 8, 3) := by decide +kernel
theorem dX12_tellRule_68 : decode cX12_tellRule 68 = .ok (.aload_n 0, 1) := by decide +kernel
theorem dX12_tellRule_69 : decode cX12_tellRule 69 = .ok (.iconst 2, 1) := by decide +kernel
theorem dX12_tellRule_70 : decode cX12_tellRule 70 = .ok (.invokevirtual 268, 3) := by decide +kernel
theorem dX12_tellRule_73 : decode cX12_tellRule 73 = .ok (.aload_n 0, 1) := by decide +kernel
theorem dX12_tellRule_74 : decode cX12_tellRule 74 = .ok (.getfield 253, 3) := by decide +kernel
theorem dX12_tellRule_77 : decode cX12_tellRule 77 = .ok (.ifCond .le 4, 3) := by decide +kernel
theorem dX12_tellRule_80 : decode cX12_tellRule 80 = .ok (.return_, 1) := by decide +kernel
theorem dX12_tellRule_81 : decode cX12_tellRule 81 = .ok (.bipush 20, 2) := by decide +kernel
theorem dX12_tellRule_83 : decode cX12_tellRule 83 = .ok (.aload_n 0, 1) := by decide +kernel
theorem dX12_tellRule_84 : decode cX12_tellRule 84 = .ok (.getfield 286, 3) := by decide +kernel
theorem dX12_tellRule_87 : decode cX12_tellRule 87 = .ok (.imul, 1) := by decide +kernel
theorem dX12_tellRule_88 : decode cX12_tellRule 88 = .ok (.aload_n 0, 1) := by decide +kernel
theorem dX12_tellRule_89 : decode cX12_tellRule 89 = .ok (.getfield 40, 3) := by decide +kernel
theorem dX12_tellRule_92 : decode cX12_tellRule 92 = .ok (.aload_n 0, 1) := by decide +kernel
theorem dX12_tellRule_93 : decode cX12_tellRule 93 = .ok (.getfield 286, 3) := by decide +kernel
theorem dX12_tellRule_96 : decode cX12_tellRule 96 = .ok (.iaload, 1) := by decide +kernel
theorem dX12_tellRule_97 : decode cX12_tellRule 97 = .ok (.iadd, 1) := by decide +kernel
theorem dX12_tellRule_98 : decode cX12_tellRule 98 = .ok (.istore_n 2, 1) := by decide +kernel
theorem dX12_tellRule_99 : decode cX12_tellRule 99 = .ok (.aload_n 0, 1) := by decide +kernel
theorem dX12_tellRule_100 : decode cX12_tellRule 100 = .ok (.getfield 43, 3) := by decide +kernel
theorem dX12_tellRule_103 : decode cX12_tellRule 103 = .ok (.iload_n 2, 1) := by decide +kernel
theorem dX12_tellRule_104 : decode cX12_tellRule 104 = .ok (.aload_n 0, 1) := by decide +kernel
theorem dX12_tellRule_105 : decode cX12_tellRule 105 = .ok (.getfield 20, 3) := by decide +kernel
theorem dX12_tellRule_108 : decode cX12_tellRule 108 = .ok (.aload_n 0, 1) := by decide +kernel
theorem dX12_tellRule_109 : decode cX12_tellRule 109 = .ok (.getfield 256, 3) := by decide +kernel
theorem dX12_tellRule_112 : decode cX12_tellRule 112 = .ok (.iaload, 1) := by decide +kernel
theorem dX12_tellRule_113 : decode cX12_tellRule 113 = .ok (.bipush 20, 2) := by decide +kernel
theorem dX12_tellRule_115 : decode cX12_tellRule 115 = .ok (.isub, 1) := by decide +kernel
theorem dX12_tellRule_116 : decode cX12_tellRule 116 = .ok (.iastore, 1) := by decide +kernel
theorem dX12_tellRule_117 : decode cX12_tellRule 117 = .ok (.aload_n 0, 1) := by decide +kernel
theorem dX12_tellRule_118 : decode cX12_tellRule 118 = .ok (.invokevirtual 274, 3) := by decide +kernel
theorem dX12_tellRule_121 : decode cX12_tellRule 121 = .ok (.aload_n 0, 1) := by decide +kernel
theorem dX12_tellRule_122 : decode cX12_tellRule 122 = .ok (.getfield 49, 3) := by decide +kernel
theorem dX12_tellRule_125 : decode cX12_tellRule 125 = .ok (.iload_n 2, 1) := by decide +kernel
theorem dX12_tellRule_126 : decode cX12_tellRule 126 = .ok (.aload_n 0, 1) := by decide +kernel
theorem dX12_tellRule_127 : decode cX12_tellRule 127 = .ok (.getfield 289, 3) := by decide +kernel
theorem dX12_tellRule_130 : decode cX12_tellRule 130 = .ok (.iastore, 1) := by decide +kernel
theorem dX12_tellRule_131 : decode cX12_tellRule 131 = .ok (.aload_n 0, 1) := by decide +kernel
theorem dX12_tellRule_132 : decode cX12_tellRule 132 = .ok (.getfield 46, 3) := by decide +kernel
theorem dX12_tellRule_135 : decode cX12_tellRule 135 = .ok (.iload_n 2, 1) := by decide +kernel
theorem dX12_tellRule_136 : decode cX12_tellRule 136 = .ok (.iconst 0, 1) := by decide +kernel
theorem dX12_tellRule_137 : decode cX12_tellRule 137 = .ok (.iastore, 1) := by decide +kernel
theorem dX12_tellRule_138 : decode cX12_tellRule 138 = .ok (.aload_n 0, 1) := by decide +kernel
theorem dX12_tellRule_139 : decode cX12_tellRule 139 = .ok (.getfield 43, 3) := by decide +kernel
theorem dX12_tellRule_142 : decode cX12_tellRule 142 = .ok (.iload_n 2, 1) := by decide +kernel
theorem dX12_tellRule_143 : decode cX12_tellRule 143 = .ok (.iaload, 1) := by decide +kernel
theorem dX12_tellRule_144 : decode cX12_tellRule 144 = .ok (.ifCond .ne 7, 3) := by decide +kernel
theorem dX12_tellRule_147 : decode cX12_tellRule 147 = .ok (.aload_n 0, 1) := by decide +kernel
theorem dX12_tellRule_148 : decode cX12_tellRule 148 = .ok (.invokevirtual 295, 3) := by decide +kernel
theorem dX12_tellRule_151 : decode cX12_tellRule 151 = .ok (.aload_n 0, 1) := by decide +kernel
theorem dX12_tellRule_152 : decode cX12_tellRule 152 = .ok (.getfield 52, 3) := by decide +kernel
theorem dX12_tellRule_155 : decode cX12_tellRule 155 = .ok (.iload_n 2, 1) := by decide +kernel
theorem dX12_tellRule_156 : decode cX12_tellRule 156 = .ok (.aload_n 0, 1) := by decide +kernel
theorem dX12_tellRule_157 : decode cX12_tellRule 157 = .ok (.getfield 289, 3) := by decide +kernel
theorem dX12_tellRule_160 : decode cX12_tellRule 160 = .ok (.iastore, 1) := by decide +kernel
theorem dX12_tellRule_161 : decode cX12_tellRule 161 = .ok (.aload_n 0, 1) := by decide +kernel
theorem dX12_tellRule_162 : decode cX12_tellRule 162 = .ok (.getfield 43, 3) := by decide +kernel
theorem dX12_tellRule_165 : decode cX12_tellRule 165 = .ok (.iload_n 2, 1) := by decide +kernel
theorem dX12_tellRule_166 : decode cX12_tellRule 166 = .ok (.iaload, 1) := by decide +kernel
theorem dX12_tellRule_167 : decode cX12_tellRule 167 = .ok (.iconst 2, 1) := by decide +kernel
theorem dX12_tellRule_168 : decode cX12_tellRule 168 = .ok (.if_icmp .eq 13, 3) := by decide +kernel
theorem dX12_tellRule_171 : decode cX12_tellRule 171 = .ok (.aload_n 0, 1) := by decide +kernel
theorem dX12_tellRule_172 : decode cX12_tellRule 172 = .ok (.getfield 43, 3) := by decide +kernel
theorem dX12_tellRule_175 : decode cX12_tellRule 175 = .ok (.iload_n 2, 1) := by decide +kernel
theorem dX12_tellRule_176 : decode cX12_tellRule 176 = .ok (.iaload, 1) := by decide +kernel
theorem dX12_tellRule_177 : decode cX12_tellRule 177 = .ok (.iconst 4, 1) := by decide +kernel
theorem dX12_tellRule_178 : decode cX12_tellRule 178 = .ok (.if_icmp .ne 76, 3) := by decide +kernel
theorem dX12_tellRule_181 : decode cX12_tellRule 181 = .ok (.aload_n 0, 1) := by decide +kernel
theorem dX12_tellRule_182 : decode cX12_tellRule 182 = .ok (.getfield 256, 3) := by decide +kernel
theorem dX12_tellRule_185 : decode cX12_tellRule 185 = .ok (.istore_n 3, 1) := by decide +kernel
theorem dX12_tellRule_186 : decode cX12_tellRule 186 = .ok (.aload_n 0, 1) := by decide +kernel
theorem dX12_tellRule_187 : decode cX12_tellRule 187 = .ok (.iconst 2, 1) := by decide +kernel
theorem dX12_tellRule_188 : decode cX12_tellRule 188 = .ok (.invokevirtual 298, 3) := by decide +kernel
theorem dX12_tellRule_191 : decode cX12_tellRule 191 = .ok (.aload_n 0, 1) := by decide +kernel
theorem dX12_tellRule_192 : decode cX12_tellRule 192 = .ok (.getfield 253, 3) := by decide +kernel
theorem dX12_tellRule_195 : decode cX12_tellRule 195 = .ok (.ifCond .le 4, 3) := by decide +kernel
theorem dX12_tellRule_198 : decode cX12_tellRule 198 = .ok (.return_, 1) := by decide +kernel
theorem dX12_tellRule_199 : decode cX12_tellRule 199 = .ok (.aload_n 0, 1) := by decide +kernel
theorem dX12_tellRule_200 : decode cX12_tellRule 200 = .ok (.getfield 27, 3) := by decide +kernel
theorem dX12_tellRule_203 : decode cX12_tellRule 203 = .ok (.iload_n 3, 1) := by decide +kernel
theorem dX12_tellRule_204 : decode cX12_tellRule 204 = .ok (.iaload, 1) := by decide +kernel
theorem dX12_tellRule_205 : decode cX12_tellRule 205 = .ok (.istore 4, 2) := by decide +kernel
theorem dX12_tellRule_207 : decode cX12_tellRule 207 = .ok (.aload_n 0, 1) := by decide +kernel
theorem dX12_tellRule_208 : decode cX12_tellRule 208 = .ok (.getfield 46, 3) := by decide +kernel
theorem dX12_tellRule_211 : decode cX12_tellRule 211 = .ok (.iload_n 2, 1) := by decide +kernel
theorem dX12_tellRule_212 : decode cX12_tellRule 212 = .ok (.iload 4, 2) := by decide +kernel
theorem dX12_tellRule_214 : decode cX12_tellRule 214 = .ok (.iastore, 1) := by decide +kernel
theorem dX12_tellRule_215 : decode cX12_tellRule 215 = .ok (.aload_n 0, 1) := by decide +kernel
theorem dX12_tellRule_216 : decode cX12_tellRule 216 = .ok (.getfield 43, 3) := by decide +kernel
theorem dX12_tellRule_219 : decode cX12_tellRule 219 = .ok (.iload_n 2, 1) := by decide +kernel
theorem dX12_tellRule_220 : decode cX12_tellRule 220 = .ok (.iaload, 1) := by decide +kernel
theorem dX12_tellRule_221 : decode cX12_tellRule 221 = .ok (.iconst 2, 1) := by decide +kernel
theorem dX12_tellRule_222 : decode cX12_tellRule 222 = .ok (.if_icmp .ne 13, 3) := by decide +kernel
theorem dX12_tellRule_225 : decode cX12_tellRule 225 = .ok (.iload 4, 2) := by decide +kernel
theorem dX12_tellRule_227 : decode cX12_tellRule 227 = .ok (.bipush 7, 2) := by decide +kernel
theorem dX12_tellRule_229 : decode cX12_tellRule 229 = .ok (.if_icmp .le 25, 3) := by decide +kernel
theorem dX12_tellRule_232 : decode cX12_tellRule 232 = .ok (.goto 16, 3) := by decide +kernel
theorem dX12_tellRule_235 : decode cX12_tellRule 235 = .ok (.iload 4, 2) := by decide +kernel
theorem dX12_tellRule_237 : decode cX12_tellRule 237 = .ok (.iconst 1, 1) := by decide +kernel
theorem dX12_tellRule_238 : decode cX12_tellRule 238 = .ok (.if_icmp .lt 10, 3) := by decide +kernel
theorem dX12_tellRule_241 : decode cX12_tellRule 241 = .ok (.iload 4, 2) := by decide +kernel
theorem dX12_tellRule_243 : decode cX12_tellRule 243 = .ok (.bipush 60, 2) := by decide +kernel
theorem dX12_tellRule_245 : decode cX12_tellRule 245 = .ok (.if_icmp .le 9, 3) := by decide +kernel
theorem dX12_tellRule_248 : decode cX12_tellRule 248 = .ok (.aload_n 0, 1) := by decide +kernel
theorem dX12_tellRule_249 : decode cX12_tellRule 249 = .ok (.iconst 5, 1) := by decide +kernel
theorem dX12_tellRule_250 : decode cX12_tellRule 250 = .ok (.iload_n 3, 1) := by decide +kernel
theorem dX12_tellRule_251 : decode cX12_tellRule 251 = .ok (.invokevirtual 301, 3) := by decide +kernel
theorem dX12_tellRule_254 : decode cX12_tellRule 254 = .ok (.aload_n 0, 1) := by decide +kernel
theorem dX12_tellRule_255 : decode cX12_tellRule 255 = .ok (.getfield 55, 3) := by decide +kernel
theorem dX12_tellRule_258 : decode cX12_tellRule 258 = .ok (.iload_n 2, 1) := by decide +kernel
theorem dX12_tellRule_259 : decode cX12_tellRule 259 = .ok (.aload_n 0, 1) := by decide +kernel
theorem dX12_tellRule_260 : decode cX12_tellRule 260 = .ok (.getfield 61, 3) := by decide +kernel
theorem dX12_tellRule_263 : decode cX12_tellRule 263 = .ok (.aload_n 0, 1) := by decide +kernel
theorem dX12_tellRule_264 : decode cX12_tellRule 264 = .ok (.getfield 286, 3) := by decide +kernel
theorem dX12_tellRule_267 : decode cX12_tellRule 267 = .ok (.iaload, 1) := by decide +kernel
theorem dX12_tellRule_268 : decode cX12_tellRule 268 = .ok (.iastore, 1) := by decide +kernel
theorem dX12_tellRule_269 : decode cX12_tellRule 269 = .ok (.aload_n 0, 1) := by decide +kernel
theorem dX12_tellRule_270 : decode cX12_tellRule 270 = .ok (.bipush 21, 2) := by decide +kernel
theorem dX12_tellRule_272 : decode cX12_tellRule 272 = .ok (.invokevirtual 271, 3) := by decide +kernel
theorem dX12_tellRule_275 : decode cX12_tellRule 275 = .ok (.istore_n 3, 1) := by decide +kernel
theorem dX12_tellRule_276 : decode cX12_tellRule 276 = .ok (.iload_n 3, 1) := by decide +kernel
theorem dX12_tellRule_277 : decode cX12_tellRule 277 = .ok (.ifCond .ne 12, 3) := by decide +kernel
theorem dX12_tellRule_280 : decode cX12_tellRule 280 = .ok (.aload_n 0, 1) := by decide +kernel
theorem dX12_tellRule_281 : decode cX12_tellRule 281 = .ok (.getfield 43, 3) := by decide +kernel
theorem dX12_tellRule_284 : decode cX12_tellRule 284 = .ok (.iload_n 2, 1) := by decide +kernel
theorem dX12_tellRule_285 : decode cX12_tellRule 285 = .ok (.iaload, 1) := by decide +kernel
theorem dX12_tellRule_286 : decode cX12_tellRule 286 = .ok (.ifCond .eq 9, 3) := by decide +kernel
theorem dX12_tellRule_289 : decode cX12_tellRule 289 = .ok (.aload_n 0, 1) := by decide +kernel
theorem dX12_tellRule_290 : decode cX12_tellRule 290 = .ok (.bipush 21, 2) := by decide +kernel
theorem dX12_tellRule_292 : decode cX12_tellRule 292 = .ok (.invokevirtual 298, 3) := by decide +kernel
theorem dX12_tellRule_295 : decode cX12_tellRule 295 = .ok (.iload_n 3, 1) := by decide +kernel
theorem dX12_tellRule_296 : decode cX12_tellRule 296 = .ok (.ifCond .eq 27, 3) := by decide +kernel
theorem dX12_tellRule_299 : decode cX12_tellRule 299 = .ok (.aload_n 0, 1) := by decide +kernel
theorem dX12_tellRule_300 : decode cX12_tellRule 300 = .ok (.invokevirtual 305, 3) := by decide +kernel
theorem dX12_tellRule_303 : decode cX12_tellRule 303 = .ok (.aload_n 0, 1) := by decide +kernel
theorem dX12_tellRule_304 : decode cX12_tellRule 304 = .ok (.bipush 25, 2) := by decide +kernel
theorem dX12_tellRule_306 : decode cX12_tellRule 306 = .ok (.invokevirtual 271, 3) := by decide +kernel
theorem dX12_tellRule_309 : decode cX12_tellRule 309 = .ok (.ifCond .eq 14, 3) := by decide +kernel
theorem dX12_tellRule_312 : decode cX12_tellRule 312 = .ok (.aload_n 0, 1) := by decide +kernel
theorem dX12_tellRule_313 : decode cX12_tellRule 313 = .ok (.invokevirtual 274, 3) := by decide +kernel
theorem dX12_tellRule_316 : decode cX12_tellRule 316 = .ok (.aload_n 0, 1) := by decide +kernel
theorem dX12_tellRule_317 : decode cX12_tellRule 317 = .ok (.invokevirtual 305, 3) := by decide +kernel
theorem dX12_tellRule_320 : decode cX12_tellRule 320 = .ok (.goto (-17), 3) := by decide +kernel
theorem dX12_tellRule_323 : decode cX12_tellRule 323 = .ok (.aload_n 0, 1) := by decide +kernel
theorem dX12_tellRule_324 : decode cX12_tellRule 324 = .ok (.iconst 4, 1) := by decide +kernel
theorem dX12_tellRule_325 : decode cX12_tellRule 325 = .ok (.invokevirtual 298, 3) := by decide +kernel
theorem dX12_tellRule_328 : decode cX12_tellRule 328 = .ok (.aload_n 0, 1) := by decide +kernel
theorem dX12_tellRule_329 : decode cX12_tellRule 329 = .ok (.getfield 253, 3) := by decide +kernel
theorem dX12_tellRule_332 : decode cX12_tellRule 332 = .ok (.ifCond .le 4, 3) := by decide +kernel
theorem dX12_tellRule_335 : decode cX12_tellRule 335 = .ok (.return_, 1) := by decide +kernel
theorem dX12_tellRule_336 : decode cX12_tellRule 336 = .ok (.aload_n 0, 1) := by decide +kernel
theorem dX12_tellRule_337 : decode cX12_tellRule 337 = .ok (.getfield 58, 3) := by decide +kernel
theorem dX12_tellRule_340 : decode cX12_tellRule 340 = .ok (.iload_n 2, 1) := by decide +kernel
theorem dX12_tellRule_341 : decode cX12_tellRule 341 = .ok (.aload_n 0, 1) := by decide +kernel
theorem dX12_tellRule_342 : decode cX12_tellRule 342 = .ok (.getfield 61, 3) := by decide +kernel
theorem dX12_tellRule_345 : decode cX12_tellRule 345 = .ok (.aload_n 0, 1) := by decide +kernel
theorem dX12_tellRule_346 : decode cX12_tellRule 346 = .ok (.getfield 286, 3) := by decide +kernel
theorem dX12_tellRule_349 : decode cX12_tellRule 349 = .ok (.iaload, 1) := by decide +kernel
theorem dX12_tellRule_350 : decode cX12_tellRule 350 = .ok (.iastore, 1) := by decide +kernel
theorem dX12_tellRule_351 : decode cX12_tellRule 351 = .ok (.aload_n 0, 1) := by decide +kernel
theorem dX12_tellRule_352 : decode cX12_tellRule 352 = .ok (.getfield 40, 3) := by decide +kernel
theorem dX12_tellRule_355 : decode cX12_tellRule 355 = .ok (.aload_n 0, 1) := by decide +kernel
theorem dX12_tellRule_356 : decode cX12_tellRule 356 = .ok (.getfield 286, 3) := by decide +kernel
theorem dX12_tellRule_359 : decode cX12_tellRule 359 = .ok (.dup2, 1) := by decide +kernel
theorem dX12_tellRule_360 : decode cX12_tellRule 360 = .ok (.iaload, 1) := by decide +kernel
theorem dX12_tellRule_361 : decode cX12_tellRule 361 = .ok (.iconst 1, 1) := by decide +kernel
theorem dX12_tellRule_362 : decode cX12_tellRule 362 = .ok (.iadd, 1) := by decide +kernel
theorem dX12_tellRule_363 : decode cX12_tellRule 363 = .ok (.iastore, 1) := by decide +kernel
theorem dX12_tellRule_364 : decode cX12_tellRule 364 = .ok (.return_, 1) := by decide +kernel
theorem dX12_relation_0 : decode cX12_relation 0 = .ok (.aload_n 0, 1) := by decide +kernel
theorem dX12_relation_1 : decode cX12_relation 1 = .ok (.getfield 289, 3) := by decide +kernel
theorem dX12_relation_4 : decode cX12_relation 4 = .ok (.istore_n 1, 1) := by decide +kernel
theorem dX12_relation_5 : decode cX12_relation 5 = .ok (.aload_n 0, 1) := by decide +kernel
theorem dX12_relation_6 : decode cX12_relation 6 = .ok (.invokevirtual 295, 3) := by decide +kernel
theorem dX12_relation_9 : decode cX12_relation 9 = .ok (.aload_n 0, 1) := by decide +kernel
theorem dX12_relation_10 : decode cX12_relation 10 = .ok (.getfield 253, 3) := by decide +kernel
theorem dX12_relation_13 : decode cX12_relation 13 = .ok (.ifCond .le 7, 3) := by decide +kernel
theorem dX12_relation_16 : decode cX12_relation 16 = .ok (.iconst 0, 1) := by decide +kernel
theorem dX12_relation_17 : decode cX12_relation 17 = .ok (.goto 15, 3) := by decide +kernel
theorem dX12_relation_20 : decode cX12_relation 20 = .ok (.aload_n 0, 1) := by decide +kernel
theorem dX12_relation_21 : decode cX12_relation 21 = .ok (.getfield 20, 3) := by decide +kernel
theorem dX12_relation_24 : decode cX12_relation 24 = .ok (.aload_n 0, 1) := by decide +kernel
theorem dX12_relation_25 : decode cX12_relation 25 = .ok (.getfield 256, 3) := by decide +kernel
theorem dX12_relation_28 : decode cX12_relation 28 = .ok (.iaload, 1) := by decide +kernel
theorem dX12_relation_29 : decode cX12_relation 29 = .ok (.bipush 11, 2) := by decide +kernel
theorem dX12_relation_31 : decode cX12_relation 31 = .ok (.isub, 1) := by decide +kernel
theorem dX12_relation_32 : decode cX12_relation 32 = .ok (.istore_n 2, 1) := by decide +kernel
theorem dX12_relation_33 : decode cX12_relation 33 = .ok (.aload_n 0, 1) := by decide +kernel
theorem dX12_relation_34 : decode cX12_relation 34 = .ok (.getfield 253, 3) := by decide +kernel
theorem dX12_relation_37 : decode cX12_relation 37 = .ok (.ifCond .ne 17, 3) := by decide +kernel
theorem dX12_relation_40 : decode cX12_relation 40 = .ok (.iload_n 2, 1) := by decide +kernel
theorem dX12_relation_41 : decode cX12_relation 41 = .ok (.ifCond .lt 8, 3) := by decide +kernel
theorem dX12_relation_44 : decode cX12_relation 44 = .ok (.iload_n 2, 1) := by decide +kernel
theorem dX12_relation_45 : decode cX12_relation 45 = .ok (.iconst 3, 1) := by decide +kernel
theorem dX12_relation_46 : decode cX12_relation 46 = .ok (.if_icmp .le 8, 3) := by decide +kernel
theorem dX12_relation_49 : decode cX12_relation 49 = .ok (.aload_n 0, 1) := by decide +kernel
theorem dX12_relation_50 : decode cX12_relation 50 = .ok (.iconst 1, 1) := by decide +kernel
theorem dX12_relation_51 : decode cX12_relation 51 = .ok (.invokevirtual 268, 3) := by decide +kernel
theorem dX12_relation_54 : decode cX12_relation 54 = .ok (.aload_n 0, 1) := by decide +kernel
theorem dX12_relation_55 : decode cX12_relation 55 = .ok (.invokevirtual 274, 3) := by decide +kernel
theorem dX12_relation_58 : decode cX12_relation 58 = .ok (.aload_n 0, 1) := by decide +kernel
theorem dX12_relation_59 : decode cX12_relation 59 = .ok (.getfield 289, 3) := by decide +kernel
theorem dX12_relation_62 : decode cX12_relation 62 = .ok (.istore_n 3, 1) := by decide +kernel
theorem dX12_relation_63 : decode cX12_relation 63 = .ok (.aload_n 0, 1) := by decide +kernel
theorem dX12_relation_64 : decode cX12_relation 64 = .ok (.invokevirtual 295, 3) := by decide +kernel
theorem dX12_relation_67 : decode cX12_relation 67 = .ok (.aload_n 0, 1) := by decide +kernel
theorem dX12_relation_68 : decode cX12_relation 68 = .ok (.getfield 253, 3) := by decide +kernel
theorem dX12_relation_71 : decode cX12_relation 71 = .ok (.ifCond .le 4, 3) := by decide +kernel
theorem dX12_relation_74 : decode cX12_relation 74 = .ok (.return_, 1) := by decide +kernel
theorem dX12_relation_75 : decode cX12_relation 75 = .ok (.sipush 200, 3) := by decide +kernel
theorem dX12_relation_78 : decode cX12_relation 78 = .ok (.aload_n 0, 1) := by decide +kernel
theorem dX12_relation_79 : decode cX12_relation 79 = .ok (.getfield 286, 3) := by decide +kernel
theorem dX12_relation_82 : decode cX12_relation 82 = .ok (.imul, 1) := by decide +kernel
theorem dX12_relation_83 : decode cX12_relation 83 = .ok (.aload_n 0, 1) := by decide +kernel
theorem dX12_relation_84 : decode cX12_relation 84 = .ok (.getfield 61, 3) := by decide +kernel
theorem dX12_relation_87 : decode cX12_relation 87 = .ok (.aload_n 0, 1) := by decide +kernel
theorem dX12_relation_88 : decode cX12_relation 88 = .ok (.getfield 286, 3) := by decide +kernel
theorem dX12_relation_91 : decode cX12_relation 91 = .ok (.iaload, 1) := by decide +kernel
theorem dX12_relation_92 : decode cX12_relation 92 = .ok (.iadd, 1) := by decide +kernel
theorem dX12_relation_93 : decode cX12_relation 93 = .ok (.istore 4, 2) := by decide +kernel
theorem dX12_relation_95 : decode cX12_relation 95 = .ok (.aload_n 0, 1) := by decide +kernel
theorem dX12_relation_96 : decode cX12_relation 96 = .ok (.getfield 64, 3) := by decide +kernel
theorem dX12_relation_99 : decode cX12_relation 99 = .ok (.iload 4, 2) := by decide +kernel
theorem dX12_relation_101 : decode cX12_relation 101 = .ok (.iload_n 2, 1) := by decide +kernel
theorem dX12_relation_102 : decode cX12_relation 102 = .ok (.iastore, 1) := by decide +kernel
theorem dX12_relation_103 : decode cX12_relation 103 = .ok (.aload_n 0, 1) := by decide +kernel
theorem dX12_relation_104 : decode cX12_relation 104 = .ok (.getfield 67, 3) := by decide +kernel
theorem dX12_relation_107 : decode cX12_relation 107 = .ok (.iload 4, 2) := by decide +kernel
theorem dX12_relation_109 : decode cX12_relation 109 = .ok (.iload_n 1, 1) := by decide +kernel
theorem dX12_relation_110 : decode cX12_relation 110 = .ok (.iastore, 1) := by decide +kernel
theorem dX12_relation_111 : decode cX12_relation 111 = .ok (.aload_n 0, 1) := by decide +kernel
theorem dX12_relation_112 : decode cX12_relation 112 = .ok (.getfield 70, 3) := by decide +kernel
theorem dX12_relation_115 : decode cX12_relation 115 = .ok (.iload 4, 2) := by decide +kernel
theorem dX12_relation_117 : decode cX12_relation 117 = .ok (.iload_n 3, 1) := by decide +kernel
theorem dX12_relation_118 : decode cX12_relation 118 = .ok (.iastore, 1) := by decide +kernel
theorem dX12_relation_119 : decode cX12_relation 119 = .ok (.aload_n 0, 1) := by decide +kernel
theorem dX12_relation_120 : decode cX12_relation 120 = .ok (.getfield 73, 3) := by decide +kernel
theorem dX12_relation_123 : decode cX12_relation 123 = .ok (.iload 4, 2) := by decide +kernel
theorem dX12_relation_125 : decode cX12_relation 125 = .ok (.aload_n 0, 1) := by decide +kernel
theorem dX12_relation_126 : decode cX12_relation 126 = .ok (.getfield 289, 3) := by decide +kernel
theorem dX12_relation_129 : decode cX12_relation 129 = .ok (.iastore, 1) := by decide +kernel
theorem dX12_relation_130 : decode cX12_relation 130 = .ok (.aload_n 0, 1) := by decide +kernel
theorem dX12_relation_131 : decode cX12_relation 131 = .ok (.getfield 61, 3) := by decide +kernel
theorem dX12_relation_134 : decode cX12_relation 134 = .ok (.aload_n 0, 1) := by decide +kernel
theorem dX12_relation_135 : decode cX12_relation 135 = .ok (.getfield 286, 3) := by decide +kernel
theorem dX12_relation_138 : decode cX12_relation 138 = .ok (.dup2, 1) := by decide +kernel
theorem dX12_relation_139 : decode cX12_relation 139 = .ok (.iaload, 1) := by decide +kernel
theorem dX12_relation_140 : decode cX12_relation 140 = .ok (.iconst 1, 1) := by decide +kernel
theorem dX12_relation_141 : decode cX12_relation 141 = .ok (.iadd, 1) := by decide +kernel
theorem dX12_relation_142 : decode cX12_relation 142 = .ok (.iastore, 1) := by decide +kernel
theorem dX12_relation_143 : decode cX12_relation 143 = .ok (.return_, 1) := by decide +kernel
theorem dX12_emit_0 : decode cX12_emit 0 = .ok (.aload_n 0, 1) := by decide +kernel
theorem dX12_emit_1 : decode cX12_emit 1 = .ok (.getfield 76, 3) := by decide +kernel
theorem dX12_emit_4 : decode cX12_emit 4 = .ok (.aload_n 0, 1) := by decide +kernel
theorem dX12_emit_5 : decode cX12_emit 5 = .ok (.getfield 289, 3) := by decide +kernel
theorem dX12_emit_8 : decode cX12_emit 8 = .ok (.iload_n 1, 1) := by decide +kernel
theorem dX12_emit_9 : decode cX12_emit 9 = .ok (.iastore, 1) := by decide +kernel
theorem dX12_emit_10 : decode cX12_emit 10 = .ok (.aload_n 0, 1) := by decide +kernel
theorem dX12_emit_11 : decode cX12_emit 11 = .ok (.getfield 79, 3) := by decide +kernel
theorem dX12_emit_14 : decode cX12_emit 14 = .ok (.aload_n 0, 1) := by decide +kernel
theorem dX12_emit_15 : decode cX12_emit 15 = .ok (.getfield 289, 3) := by decide +kernel
theorem dX12_emit_18 : decode cX12_emit 18 = .ok (.iload_n 2, 1) := by decide +kernel
theorem dX12_emit_19 : decode cX12_emit 19 = .ok (.iastore, 1) := by decide +kernel
theorem dX12_emit_20 : decode cX12_emit 20 = .ok (.aload_n 0, 1) := by decide +kernel
theorem dX12_emit_21 : decode cX12_emit 21 = .ok (.dup, 1) := by decide +kernel
theorem dX12_emit_22 : decode cX12_emit 22 = .ok (.getfield 289, 3) := by decide +kernel
theorem dX12_emit_25 : decode cX12_emit 25 = .ok (.iconst 1, 1) := by decide +kernel
theorem dX12_emit_26 : decode cX12_emit 26 = .ok (.iadd, 1) := by decide +kernel
theorem dX12_emit_27 : decode cX12_emit 27 = .ok (.putfield 289, 3) := by decide +kernel
theorem dX12_emit_30 : decode cX12_emit 30 = .ok (.return_, 1) := by decide +kernel
theorem dX12_comesOut_0 : decode cX12_comesOut 0 = .ok (.aload_n 0, 1) := by decide +kernel
theorem dX12_comesOut_1 : decode cX12_comesOut 1 = .ok (.getfield 308, 3) := by decide +kernel
theorem dX12_comesOut_4 : decode cX12_comesOut 4 = .ok (.ifCond .le 88, 3) := by decide +kernel
theorem dX12_comesOut_7 : decode cX12_comesOut 7 = .ok (.aload_n 0, 1) := by decide +kernel
theorem dX12_comesOut_8 : decode cX12_comesOut 8 = .ok (.getfield 82, 3) := by decide +kernel
theorem dX12_comesOut_11 : decode cX12_comesOut 11 = .ok (.aload_n 0, 1) := by decide +kernel
theorem dX12_comesOut_12 : decode cX12_comesOut 12 = .ok (.getfield 308, 3) := by decide +kernel
theorem dX12_comesOut_15 : decode cX12_comesOut 15 = .ok (.iconst 1, 1) := by decide +kernel
theorem dX12_comesOut_16 : decode cX12_comesOut 16 = .ok (.isub, 1) := by decide +kernel
theorem dX12_comesOut_17 : decode cX12_comesOut 17 = .ok (.iaload, 1) := by decide +kernel
theorem dX12_comesOut_18 : decode cX12_comesOut 18 = .ok (.bipush 6, 2) := by decide +kernel
theorem dX12_comesOut_20 : decode cX12_comesOut 20 = .ok (.if_icmp .eq 72, 3) := by decide +kernel
theorem dX12_comesOut_23 : decode cX12_comesOut 23 = .ok (.iload_n 1, 1) := by decide +kernel
theorem dX12_comesOut_24 : decode cX12_comesOut 24 = .ok (.ifCond .eq 19, 3) := by decide +kernel
theorem dX12_comesOut_27 : decode cX12_comesOut 27 = .ok (.aload_n 0, 1) := by decide +kernel
theorem dX12_comesOut_28 : decode cX12_comesOut 28 = .ok (.getfield 82, 3) := by decide +kernel
theorem dX12_comesOut_31 : decode cX12_comesOut 31 = .ok (.aload_n 0, 1) := by decide +kernel
theorem dX12_comesOut_32 : decode cX12_comesOut 32 = .ok (.getfield 308, 3) := by decide +kernel
theorem dX12_comesOut_35 : decode cX12_comesOut 35 = .ok (.iconst 1, 1) := by decide +kernel
theorem dX12_comesOut_36 : decode cX12_comesOut 36 = .ok (.isub, 1) := by decide +kernel
theorem dX12_comesOut_37 : decode cX12_comesOut 37 = .ok (.iaload, 1) := by decide +kernel
theorem dX12_comesOut_38 : decode cX12_comesOut 38 = .ok (.bipush 10, 2) := by decide +kernel
theorem dX12_comesOut_40 : decode cX12_comesOut 40 = .ok (.if_icmp .ne 52, 3) := by decide +kernel
theorem dX12_comesOut_43 : decode cX12_comesOut 43 = .ok (.aload_n 0, 1) := by decide +kernel
theorem dX12_comesOut_44 : decode cX12_comesOut 44 = .ok (.dup, 1) := by decide +kernel
theorem dX12_comesOut_45 : decode cX12_comesOut 45 = .ok (.getfield 308, 3) := by decide +kernel
theorem dX12_comesOut_48 : decode cX12_comesOut 48 = .ok (.iconst 1, 1) := by decide +kernel
theorem dX12_comesOut_49 : decode cX12_comesOut 49 = .ok (.isub, 1) := by decide +kernel
theorem dX12_comesOut_50 : decode cX12_comesOut 50 = .ok (.putfield 308, 3) := by decide +kernel
theorem dX12_comesOut_53 : decode cX12_comesOut 53 = .ok (.aload_n 0, 1) := by decide +kernel
theorem dX12_comesOut_54 : decode cX12_comesOut 54 = .ok (.getfield 82, 3) := by decide +kernel
theorem dX12_comesOut_57 : decode cX12_comesOut 57 = .ok (.aload_n 0, 1) := by decide +kernel
theorem dX12_comesOut_58 : decode cX12_comesOut 58 = .ok (.getfield 308, 3) := by decide +kernel
theorem dX12_comesOut_61 : decode cX12_comesOut 61 = .ok (.iaload, 1) := by decide +kernel
theorem dX12_comesOut_62 : decode cX12_comesOut 62 = .ok (.istore_n 2, 1) := by decide +kernel
theorem dX12_comesOut_63 : decode cX12_comesOut 63 = .ok (.aload_n 0, 1) := by decide +kernel
theorem dX12_comesOut_64 : decode cX12_comesOut 64 = .ok (.iload_n 2, 1) := by decide +kernel
theorem dX12_comesOut_65 : decode cX12_comesOut 65 = .ok (.bipush 8, 2) := by decide +kernel
theorem dX12_comesOut_67 : decode cX12_comesOut 67 = .ok (.if_icmp .ne 7, 3) := by decide +kernel
theorem dX12_comesOut_70 : decode cX12_comesOut 70 = .ok (.iconst 2, 1) := by decide +kernel
theorem dX12_comesOut_71 : decode cX12_comesOut 71 = .ok (.goto 14, 3) := by decide +kernel
theorem dX12_comesOut_74 : decode cX12_comesOut 74 = .ok (.iload_n 2, 1) := by decide +kernel
theorem dX12_comesOut_75 : decode cX12_comesOut 75 = .ok (.bipush 9, 2) := by decide +kernel
theorem dX12_comesOut_77 : decode cX12_comesOut 77 = .ok (.if_icmp .ne 7, 3) := by decide +kernel
theorem dX12_comesOut_80 : decode cX12_comesOut 80 = .ok (.iconst 3, 1) := by decide +kernel
theorem dX12_comesOut_81 : decode cX12_comesOut 81 = .ok (.goto 4, 3) := by decide +kernel
theorem dX12_comesOut_84 : decode cX12_comesOut 84 = .ok (.iconst 4, 1) := by decide +kernel
theorem dX12_comesOut_85 : decode cX12_comesOut 85 = .ok (.iconst 0, 1) := by decide +kernel
theorem dX12_comesOut_86 : decode cX12_comesOut 86 = .ok (.invokevirtual 311, 3) := by decide +kernel
theorem dX12_comesOut_89 : decode cX12_comesOut 89 = .ok (.goto (-89), 3) := by decide +kernel
theorem dX12_comesOut_92 : decode cX12_comesOut 92 = .ok (.return_, 1) := by decide +kernel
theorem dX12_expression_0 : decode cX12_expression 0 = .ok (.aload_n 0, 1) := by decide +kernel
theorem dX12_expression_1 : decode cX12_expression 1 = .ok (.iconst 0, 1) := by decide +kernel
theorem dX12_expression_2 : decode cX12_expression 2 = .ok (.putfield 308, 3) := by decide +kernel
theorem dX12_expression_5 : decode cX12_expression 5 = .ok (.aload_n 0, 1) := by decide +kernel
theorem dX12_expression_6 : decode cX12_expression 6 = .ok (.getfield 280, 3) := by decide +kernel
theorem dX12_expression_9 : decode cX12_expression 9 = .ok (.istore_n 1, 1) := by decide +kernel
theorem dX12_expression_10 : decode cX12_expression 10 = .ok (.iconst 1, 1) := by decide +kernel
theorem dX12_expression_11 : decode cX12_expression 11 = .ok (.istore_n 2, 1) := by decide +kernel
theorem dX12_expression_12 : decode cX12_expression 12 = .ok (.iload_n 2, 1) := by decide +kernel
theorem dX12_expression_13 : decode cX12_expression 13 = .ok (.ifCond .eq 347, 3) := by decide +kernel
theorem dX12_expression_16 : decode cX12_expression 16 = .ok (.aload_n 0, 1) := by decide +kernel
theorem dX12_expression_17 : decode cX12_expression 17 = .ok (.getfield 253, 3) := by decide +kernel
theorem dX12_expression_20 : decode cX12_expression 20 = .ok (.ifCond .ne 340, 3) := by decide +kernel
theorem dX12_expression_23 : decode cX12_expression 23 = .ok (.aload_n 0, 1) := by decide +kernel
theorem dX12_expression_24 : decode cX12_expression 24 = .ok (.bipush 6, 2) := by decide +kernel
theorem dX12_expression_26 : decode cX12_expression 26 = .ok (.invokevirtual 271, 3) := by decide +kernel
theorem dX12_expression_29 : decode cX12_expression 29 = .ok (.ifCond .eq 63, 3) := by decide +kernel
theorem dX12_expression_32 : decode cX12_expression 32 = .ok (.aload_n 0, 1) := by decide +kernel
theorem dX12_expression_33 : decode cX12_expression 33 = .ok (.getfield 280, 3) := by decide +kernel
theorem dX12_expression_36 : decode cX12_expression 36 = .ok (.bipush 6, 2) := by decide +kernel
theorem dX12_expression_38 : decode cX12_expression 38 = .ok (.if_icmp .ne 8, 3) := by decide +kernel
theorem dX12_expression_41 : decode cX12_expression 41 = .ok (.aload_n 0, 1) := by decide +kernel
theorem dX12_expression_42 : decode cX12_expression 42 = .ok (.iconst 2, 1) := by decide +kernel
theorem dX12_expression_43 : decode cX12_expression 43 = .ok (.invokevirtual 268, 3) := by decide +kernel
theorem dX12_expression_46 : decode cX12_expression 46 = .ok (.aload_n 0, 1) := by decide +kernel
theorem dX12_expression_47 : decode cX12_expression 47 = .ok (.getfield 253, 3) := by decide +kernel
theorem dX12_expression_50 : decode cX12_expression 50 = .ok (.ifCond .le 4, 3) := by decide +kernel
theorem dX12_expression_53 : decode cX12_expression 53 = .ok (.return_, 1) := by decide +kernel
theorem dX12_expression_54 : decode cX12_expression 54 = .ok (.aload_n 0, 1) := by decide +kernel
theorem dX12_expression_55 : decode cX12_expression 55 = .ok (.dup, 1) := by decide +kernel
theorem dX12_expression_56 : decode cX12_expression 56 = .ok (.getfield 280, 3) := by decide +kernel
theorem dX12_expression_59 : decode cX12_expression 59 = .ok (.iconst 1, 1) := by decide +kernel
theorem dX12_expression_60 : decode cX12_expression 60 = .ok (.iadd, 1) := by decide +kernel
theorem dX12_expression_61 : decode cX12_expression 61 = .ok (.putfield 280, 3) := by decide +kernel
theorem dX12_expression_64 : decode cX12_expression 64 = .ok (.aload_n 0, 1) := by decide +kernel
theorem dX12_expression_65 : decode cX12_expression 65 = .ok (.invokevirtual 274, 3) := by decide +kernel
theorem dX12_expression_68 : decode cX12_expression 68 = .ok (.aload_n 0, 1) := by decide +kernel
theorem dX12_expression_69 : decode cX12_expression 69 = .ok (.getfield 82, 3) := by decide +kernel
theorem dX12_expression_72 : decode cX12_expression 72 = .ok (.aload_n 0, 1) := by decide +kernel
theorem dX12_expression_73 : decode cX12_expression 73 = .ok (.getfield 308, 3) := by decide +kernel
theorem dX12_expression_76 : decode cX12_expression 76 = .ok (.bipush 6, 2) := by decide +kernel
theorem dX12_expression_78 : decode cX12_expression 78 = .ok (.iastore, 1) := by decide +kernel
theorem dX12_expression_79 : decode cX12_expression 79 = .ok (.aload_n 0, 1) := by decide +kernel
theorem dX12_expression_80 : decode cX12_expression 80 = .ok (.dup, 1) := by decide +kernel
theorem dX12_expression_81 : decode cX12_expression 81 = .ok (.getfield 308, 3) := by decide +kernel
theorem dX12_expression_84 : decode cX12_expression 84 = .ok (.iconst 1, 1) := by decide +kernel
theorem dX12_expression_85 : decode cX12_expression 85 = .ok (.iadd, 1) := by decide +kernel
theorem dX12_expression_86 : decode cX12_expression 86 = .ok (.putfield 308, 3) := by decide +kernel
theorem dX12_expression_89 : decode cX12_expression 89 = .ok (.goto (-77), 3) := by decide +kernel
theorem dX12_expression_92 : decode cX12_expression 92 = .ok (.aload_n 0, 1) := by decide +kernel
theorem dX12_expression_93 : decode cX12_expression 93 = .ok (.getfield 253, 3) := by decide +kernel
theorem dX12_expression_96 : decode cX12_expression 96 = .ok (.ifCond .ne 35, 3) := by decide +kernel
theorem dX12_expression_99 : decode cX12_expression 99 = .ok (.aload_n 0, 1) := by decide +kernel
theorem dX12_expression_100 : decode cX12_expression 100 = .ok (.getfield 20, 3) := by decide +kernel
theorem dX12_expression_103 : decode cX12_expression 103 = .ok (.aload_n 0, 1) := by decide +kernel
theorem dX12_expression_104 : decode cX12_expression 104 = .ok (.getfield 256, 3) := by decide +kernel
theorem dX12_expression_107 : decode cX12_expression 107 = .ok (.iaload, 1) := by decide +kernel
theorem dX12_expression_108 : decode cX12_expression 108 = .ok (.bipush 26, 2) := by decide +kernel
theorem dX12_expression_110 : decode cX12_expression 110 = .ok (.if_icmp .lt 21, 3) := by decide +kernel
theorem dX12_expression_113 : decode cX12_expression 113 = .ok (.aload_n 0, 1) := by decide +kernel
theorem dX12_expression_114 : decode cX12_expression 114 = .ok (.getfield 20, 3) := by decide +kernel
theorem dX12_expression_117 : decode cX12_expression 117 = .ok (.aload_n 0, 1) := by decide +kernel
theorem dX12_expression_118 : decode cX12_expression 118 = .ok (.getfield 256, 3) := by decide +kernel
theorem dX12_expression_121 : decode cX12_expression 121 = .ok (.iaload, 1) := by decide +kernel
theorem dX12_expression_122 : decode cX12_expression 122 = .ok (.bipush 31, 2) := by decide +kernel
theorem dX12_expression_124 : decode cX12_expression 124 = .ok (.if_icmp .gt 7, 3) := by decide +kernel
theorem dX12_expression_127 : decode cX12_expression 127 = .ok (.iconst 1, 1) := by decide +kernel
theorem dX12_expression_128 : decode cX12_expression 128 = .ok (.goto 4, 3) := by decide +kernel
theorem dX12_expression_131 : decode cX12_expression 131 = .ok (.iconst 0, 1) := by decide +kernel
theorem dX12_expression_132 : decode cX12_expression 132 = .ok (.istore_n 3, 1) := by decide +kernel
theorem dX12_expression_133 : decode cX12_expression 133 = .ok (.aload_n 0, 1) := by decide +kernel
theorem dX12_expression_134 : decode cX12_expression 134 = .ok (.iconst 2, 1) := by decide +kernel
theorem dX12_expression_135 : decode cX12_expression 135 = .ok (.invokevirtual 271, 3) := by decide +kernel
theorem dX12_expression_138 : decode cX12_expression 138 = .ok (.ifCond .ne 12, 3) := by decide +kernel
theorem dX12_expression_141 : decode cX12_expression 141 = .ok (.iload_n 3, 1) := by decide +kernel
theorem dX12_expression_142 : decode cX12_expression 142 = .ok (.ifCond .ne 8, 3) := by decide +kernel
theorem dX12_expression_145 : decode cX12_expression 145 = .ok (.aload_n 0, 1) := by decide +kernel
theorem dX12_expression_146 : decode cX12_expression 146 = .ok (.iconst 1, 1) := by decide +kernel
theorem dX12_expression_147 : decode cX12_expression 147 = .ok (.invokevirtual 268, 3) := by decide +kernel
theorem dX12_expression_150 : decode cX12_expression 150 = .ok (.aload_n 0, 1) := by decide +kernel
theorem dX12_expression_151 : decode cX12_expression 151 = .ok (.getfield 253, 3) := by decide +kernel
theorem dX12_expression_154 : decode cX12_expression 154 = .ok (.ifCond .le 4, 3) := by decide +kernel
theorem dX12_expression_157 : decode cX12_expression 157 = .ok (.return_, 1) := by decide +kernel
theorem dX12_expression_158 : decode cX12_expression 158 = .ok (.iload_n 3, 1) := by decide +kernel
theorem dX12_expression_159 : decode cX12_expression 159 = .ok (.ifCond .eq 23, 3) := by decide +kernel
theorem dX12_expression_162 : decode cX12_expression 162 = .ok (.aload_n 0, 1) := by decide +kernel
theorem dX12_expression_163 : decode cX12_expression 163 = .ok (.iconst 1, 1) := by decide +kernel
theorem dX12_expression_164 : decode cX12_expression 164 = .ok (.aload_n 0, 1) := by decide +kernel
theorem dX12_expression_165 : decode cX12_expression 165 = .ok (.getfield 20, 3) := by decide +kernel
theorem dX12_expression_168 : decode cX12_expression 168 = .ok (.aload_n 0, 1) := by decide +kernel
theorem dX12_expression_169 : decode cX12_expression 169 = .ok (.getfield 256, 3) := by decide +kernel
theorem dX12_expression_172 : decode cX12_expression 172 = .ok (.iaload, 1) := by decide +kernel
theorem dX12_expression_173 : decode cX12_expression 173 = .ok (.bipush 26, 2) := by decide +kernel
theorem dX12_expression_175 : decode cX12_expression 175 = .ok (.isub, 1) := by decide +kernel
theorem dX12_expression_176 : decode cX12_expression 176 = .ok (.invokevirtual 311, 3) := by decide +kernel
theorem dX12_expression_179 : decode cX12_expression 179 = .ok (.goto 17, 3) := by decide +kernel
theorem dX12_expression_182 : decode cX12_expression 182 = .ok (.aload_n 0, 1) := by decide +kernel
theorem dX12_expression_183 : decode cX12_expression 183 = .ok (.iconst 0, 1) := by decide +kernel
theorem dX12_expression_184 : decode cX12_expression 184 = .ok (.aload_n 0, 1) := by decide +kernel
theorem dX12_expression_185 : decode cX12_expression 185 = .ok (.getfield 27, 3) := by decide +kernel
theorem dX12_expression_188 : decode cX12_expression 188 = .ok (.aload_n 0, 1) := by decide +kernel
theorem dX12_expression_189 : decode cX12_expression 189 = .ok (.getfield 256, 3) := by decide +kernel
theorem dX12_expression_192 : decode cX12_expression 192 = .ok (.iaload, 1) := by decide +kernel
theorem dX12_expression_193 : decode cX12_expression 193 = .ok (.invokevirtual 311, 3) := by decide +kernel
theorem dX12_expression_196 : decode cX12_expression 196 = .ok (.aload_n 0, 1) := by decide +kernel
theorem dX12_expression_197 : decode cX12_expression 197 = .ok (.invokevirtual 274, 3) := by decide +kernel
theorem dX12_expression_200 : decode cX12_expression 200 = .ok (.aload_n 0, 1) := by decide +kernel
theorem dX12_expression_201 : decode cX12_expression 201 = .ok (.bipush 7, 2) := by decide +kernel
theorem dX12_expression_203 : decode cX12_expression 203 = .ok (.invokevirtual 271, 3) := by decide +kernel
theorem dX12_expression_206 : decode cX12_expression 206 = .ok (.ifCond .eq 43, 3) := by decide +kernel
theorem dX12_expression_209 : decode cX12_expression 209 = .ok (.aload_n 0, 1) := by decide +kernel
theorem dX12_expression_210 : decode cX12_expression 210 = .ok (.getfield 280, 3) := by decide +kernel
theorem dX12_expression_213 : decode cX12_expression 213 = .ok (.iload_n 1, 1) := by decide +kernel
theorem dX12_expression_214 : decode cX12_expression 214 = .ok (.if_icmp .le 35, 3) := by decide +kernel
theorem dX12_expression_217 : decode cX12_expression 217 = .ok (.aload_n 0, 1) := by decide +kernel
theorem dX12_expression_218 : decode cX12_expression 218 = .ok (.iconst 0, 1) := by decide +kernel
theorem dX12_expression_219 : decode cX12_expression 219 = .ok (.invokevirtual 314, 3) := by decide +kernel
theorem dX12_expression_222 : decode cX12_expression 222 = .ok (.aload_n 0, 1) := by decide +kernel
theorem dX12_expression_223 : decode cX12_expression 223 = .ok (.dup, 1) := by decide +kernel
theorem dX12_expression_224 : decode cX12_expression 224 = .ok (.getfield 308, 3) := by decide +kernel
theorem dX12_expression_227 : decode cX12_expression 227 = .ok (.iconst 1, 1) := by decide +kernel
theorem dX12_expression_228 : decode cX12_expression 228 = .ok (.isub, 1) := by decide +kernel
theorem dX12_expression_229 : decode cX12_expression 229 = .ok (.putfield 308, 3) := by decide +kernel
theorem dX12_expression_232 : decode cX12_expression 232 = .ok (.aload_n 0, 1) := by decide +kernel
theorem dX12_expression_233 : decode cX12_expression 233 = .ok (.dup, 1) := by decide +kernel
theorem dX12_expression_234 : decode cX12_expression 234 = .ok (.getfield 280, 3) := by decide +kernel
theorem dX12_expression_237 : decode cX12_expression 237 = .ok (.iconst 1, 1) := by decide +kernel
theorem dX12_expression_238 : decode cX12_expression 238 = .ok (.isub, 1) := by decide +kernel
theorem dX12_expression_239 : decode cX12_expression 239 = .ok (.putfield 280, 3) := by decide +kernel
theorem dX12_expression_242 : decode cX12_expression 242 = .ok (.aload_n 0, 1) := by decide +kernel
theorem dX12_expression_243 : decode cX12_expression 243 = .ok (.invokevirtual 274, 3) := by decide +kernel
theorem dX12_expression_246 : decode cX12_expression 246 = .ok (.goto (-46), 3) := by decide +kernel
theorem dX12_expression_249 : decode cX12_expression 249 = .ok (.aload_n 0, 1) := by decide +kernel
theorem dX12_expression_250 : decode cX12_expression 250 = .ok (.bipush 8, 2) := by decide +kernel
theorem dX12_expression_252 : decode cX12_expression 252 = .ok (.invokevirtual 271, 3) := by decide +kernel
theorem dX12_expression_255 : decode cX12_expression 255 = .ok (.ifCond .ne 21, 3) := by decide +kernel
theorem dX12_expression_258 : decode cX12_expression 258 = .ok (.aload_n 0, 1) := by decide +kernel
theorem dX12_expression_259 : decode cX12_expression 259 = .ok (.bipush 9, 2) := by decide +kernel
theorem dX12_expression_261 : decode cX12_expression 261 = .ok (.invokevirtual 271, 3) := by decide +kernel
theorem dX12_expression_264 : decode cX12_expression 264 = .ok (.ifCond .ne 12, 3) := by decide +kernel
theorem dX12_expression_267 : decode cX12_expression 267 = .ok (.aload_n 0, 1) := by decide +kernel
theorem dX12_expression_268 : decode cX12_expression 268 = .ok (.bipush 10, 2) := by decide +kernel
theorem dX12_expression_270 : decode cX12_expression 270 = .ok (.invokevirtual 271, 3) := by decide +kernel
theorem dX12_expression_273 : decode cX12_expression 273 = .ok (.ifCond .eq 7, 3) := by decide +kernel
theorem dX12_expression_276 : decode cX12_expression 276 = .ok (.iconst 1, 1) := by decide +kernel
theorem dX12_expression_277 : decode cX12_expression 277 = .ok (.goto 4, 3) := by decide +kernel
theorem dX12_expression_280 : decode cX12_expression 280 = .ok (.iconst 0, 1) := by decide +kernel
theorem dX12_expression_281 : decode cX12_expression 281 = .ok (.istore_n 2, 1) := by decide +kernel
theorem dX12_expression_282 : decode cX12_expression 282 = .ok (.iload_n 2, 1) := by decide +kernel
theorem dX12_expression_283 : decode cX12_expression 283 = .ok (.ifCond .ne 22, 3) := by decide +kernel
theorem dX12_expression_286 : decode cX12_expression 286 = .ok (.aload_n 0, 1) := by decide +kernel
theorem dX12_expression_287 : decode cX12_expression 287 = .ok (.getfield 280, 3) := by decide +kernel
theorem dX12_expression_290 : decode cX12_expression 290 = .ok (.iload_n 1, 1) := by decide +kernel
theorem dX12_expression_291 : decode cX12_expression 291 = .ok (.if_icmp .le 8, 3) := by decide +kernel
theorem dX12_expression_294 : decode cX12_expression 294 = .ok (.aload_n 0, 1) := by decide +kernel
theorem dX12_expression_295 : decode cX12_expression 295 = .ok (.iconst 1, 1) := by decide +kernel
theorem dX12_expression_296 : decode cX12_expression 296 = .ok (.invokevirtual 268, 3) := by decide +kernel
theorem dX12_expression_299 : decode cX12_expression 299 = .ok (.aload_n 0, 1) := by decide +kernel
theorem dX12_expression_300 : decode cX12_expression 300 = .ok (.iconst 0, 1) := by decide +kernel
theorem dX12_expression_301 : decode cX12_expression 301 = .ok (.invokevirtual 314, 3) := by decide +kernel
theorem dX12_expression_304 : decode cX12_expression 304 = .ok (.return_, 1) := by decide +kernel
theorem dX12_expression_305 : decode cX12_expression 305 = .ok (.aload_n 0, 1) := by decide +kernel
theorem dX12_expression_306 : decode cX12_expression 306 = .ok (.getfield 20, 3) := by decide +kernel
theorem dX12_expression_309 : decode cX12_expression 309 = .ok (.aload_n 0, 1) := by decide +kernel
theorem dX12_expression_310 : decode cX12_expression 310 = .ok (.getfield 256, 3) := by decide +kernel
theorem dX12_expression_313 : decode cX12_expression 313 = .ok (.iaload, 1) := by decide +kernel
theorem dX12_expression_314 : decode cX12_expression 314 = .ok (.istore 4, 2) := by decide +kernel
theorem dX12_expression_316 : decode cX12_expression 316 = .ok (.aload_n 0, 1) := by decide +kernel
theorem dX12_expression_317 : decode cX12_expression 317 = .ok (.iload 4, 2) := by decide +kernel
theorem dX12_expression_319 : decode cX12_expression 319 = .ok (.bipush 10, 2) := by decide +kernel
theorem dX12_expression_321 : decode cX12_expression 321 = .ok (.if_icmp .ne 7, 3) := by decide +kernel
theorem dX12_expression_324 : decode cX12_expression 324 = .ok (.iconst 1, 1) := by decide +kernel
theorem dX12_expression_325 : decode cX12_expression 325 = .ok (.goto 4, 3) := by decide +kernel
theorem dX12_expression_328 : decode cX12_expression 328 = .ok (.iconst 0, 1) := by decide +kernel
theorem dX12_expression_329 : decode cX12_expression 329 = .ok (.invokevirtual 314, 3) := by decide +kernel
theorem dX12_expression_332 : decode cX12_expression 332 = .ok (.aload_n 0, 1) := by decide +kernel
theorem dX12_expression_333 : decode cX12_expression 333 = .ok (.getfield 82, 3) := by decide +kernel
theorem dX12_expression_336 : decode cX12_expression 336 = .ok (.aload_n 0, 1) := by decide +kernel
theorem dX12_expression_337 : decode cX12_expression 337 = .ok (.getfield 308, 3) := by decide +kernel
theorem dX12_expression_340 : decode cX12_expression 340 = .ok (.iload 4, 2) := by decide +kernel
theorem dX12_expression_342 : decode cX12_expression 342 = .ok (.iastore, 1) := by decide +kernel
theorem dX12_expression_343 : decode cX12_expression 343 = .ok (.aload_n 0, 1) := by decide +kernel
theorem dX12_expression_344 : decode cX12_expression 344 = .ok (.dup, 1) := by decide +kernel
theorem dX12_expression_345 : decode cX12_expression 345 = .ok (.getfield 308, 3) := by decide +kernel
theorem dX12_expression_348 : decode cX12_expression 348 = .ok (.iconst 1, 1) := by decide +kernel
theorem dX12_expression_349 : decode cX12_expression 349 = .ok (.iadd, 1) := by decide +kernel
theorem dX12_expression_350 : decode cX12_expression 350 = .ok (.putfield 308, 3) := by decide +kernel
theorem dX12_expression_353 : decode cX12_expression 353 = .ok (.aload_n 0, 1) := by decide +kernel
theorem dX12_expression_354 : decode cX12_expression 354 = .ok (.invokevirtual 274, 3) := by decide +kernel
theorem dX12_expression_357 : decode cX12_expression 357 = .ok (.goto (-345), 3) := by decide +kernel
theorem dX12_expression_360 : decode cX12_expression 360 = .ok (.return_, 1) := by decide +kernel
theorem dX12_isVolunteer_0 : decode cX12_isVolunteer 0 = .ok (.iload_n 1, 1) := by decide +kernel
theorem dX12_isVolunteer_1 : decode cX12_isVolunteer 1 = .ok (.ifCond .lt 15, 3) := by decide +kernel
theorem dX12_isVolunteer_4 : decode cX12_isVolunteer 4 = .ok (.iload_n 1, 1) := by decide +kernel
theorem dX12_isVolunteer_5 : decode cX12_isVolunteer 5 = .ok (.aload_n 0, 1) := by decide +kernel
theorem dX12_isVolunteer_6 : decode cX12_isVolunteer 6 = .ok (.getfield 318, 3) := by decide +kernel
theorem dX12_isVolunteer_9 : decode cX12_isVolunteer 9 = .ok (.if_icmp .ge 7, 3) := by decide +kernel
theorem dX12_isVolunteer_12 : decode cX12_isVolunteer 12 = .ok (.iconst 1, 1) := by decide +kernel
theorem dX12_isVolunteer_13 : decode cX12_isVolunteer 13 = .ok (.goto 4, 3) := by decide +kernel
theorem dX12_isVolunteer_16 : decode cX12_isVolunteer 16 = .ok (.iconst 0, 1) := by decide +kernel
theorem dX12_isVolunteer_17 : decode cX12_isVolunteer 17 = .ok (.ireturn, 1) := by decide +kernel
theorem dX12_isNight_0 : decode cX12_isNight 0 = .ok (.iload_n 0, 1) := by decide +kernel
theorem dX12_isNight_1 : decode cX12_isNight 1 = .ok (.ifCond .lt 14, 3) := by decide +kernel
theorem dX12_isNight_4 : decode cX12_isNight 4 = .ok (.iload_n 0, 1) := by decide +kernel
theorem dX12_isNight_5 : decode cX12_isNight 5 = .ok (.sipush 200, 3) := by decide +kernel
theorem dX12_isNight_8 : decode cX12_isNight 8 = .ok (.if_icmp .ge 7, 3) := by decide +kernel
theorem dX12_isNight_11 : decode cX12_isNight 11 = .ok (.iconst 1, 1) := by decide +kernel
theorem dX12_isNight_12 : decode cX12_isNight 12 = .ok (.goto 4, 3) := by decide +kernel
theorem dX12_isNight_15 : decode cX12_isNight 15 = .ok (.iconst 0, 1) := by decide +kernel
theorem dX12_isNight_16 : decode cX12_isNight 16 = .ok (.ireturn, 1) := by decide +kernel
theorem dX12_volunteer_0 : decode cX12_volunteer 0 = .ok (.aload_n 0, 1) := by decide +kernel
theorem dX12_volunteer_1 : decode cX12_volunteer 1 = .ok (.getfield 318, 3) := by decide +kernel
theorem dX12_volunteer_4 : decode cX12_volunteer 4 = .ok (.bipush 8, 2) := by decide +kernel
theorem dX12_volunteer_6 : decode cX12_volunteer 6 = .ok (.if_icmp .eq 12, 3) := by decide +kernel
theorem dX12_volunteer_9 : decode cX12_volunteer 9 = .ok (.iload_n 1, 1) := by decide +kernel
theorem dX12_volunteer_10 : decode cX12_volunteer 10 = .ok (.ifCond .lt 8, 3) := by decide +kernel
theorem dX12_volunteer_13 : decode cX12_volunteer 13 = .ok (.iload_n 1, 1) := by decide +kernel
theorem dX12_volunteer_14 : decode cX12_volunteer 14 = .ok (.iconst 3, 1) := by decide +kernel
theorem dX12_volunteer_15 : decode cX12_volunteer 15 = .ok (.if_icmp .le 5, 3) := by decide +kernel
theorem dX12_volunteer_18 : decode cX12_volunteer 18 = .ok (.iconst (-1), 1) := by decide +kernel
theorem dX12_volunteer_19 : decode cX12_volunteer 19 = .ok (.ireturn, 1) := by decide +kernel
theorem dX12_volunteer_20 : decode cX12_volunteer 20 = .ok (.aload_n 0, 1) := by decide +kernel
theorem dX12_volunteer_21 : decode cX12_volunteer 21 = .ok (.getfield 85, 3) := by decide +kernel
theorem dX12_volunteer_24 : decode cX12_volunteer 24 = .ok (.aload_n 0, 1) := by decide +kernel
theorem dX12_volunteer_25 : decode cX12_volunteer 25 = .ok (.getfield 318, 3) := by decide +kernel
theorem dX12_volunteer_28 : decode cX12_volunteer 28 = .ok (.iload_n 1, 1) := by decide +kernel
theorem dX12_volunteer_29 : decode cX12_volunteer 29 = .ok (.iastore, 1) := by decide +kernel
theorem dX12_volunteer_30 : decode cX12_volunteer 30 = .ok (.aload_n 0, 1) := by decide +kernel
theorem dX12_volunteer_31 : decode cX12_volunteer 31 = .ok (.dup, 1) := by decide +kernel
theorem dX12_volunteer_32 : decode cX12_volunteer 32 = .ok (.getfield 318, 3) := by decide +kernel
theorem dX12_volunteer_35 : decode cX12_volunteer 35 = .ok (.iconst 1, 1) := by decide +kernel
theorem dX12_volunteer_36 : decode cX12_volunteer 36 = .ok (.iadd, 1) := by decide +kernel
theorem dX12_volunteer_37 : decode cX12_volunteer 37 = .ok (.putfield 318, 3) := by decide +kernel
theorem dX12_volunteer_40 : decode cX12_volunteer 40 = .ok (.aload_n 0, 1) := by decide +kernel
theorem dX12_volunteer_41 : decode cX12_volunteer 41 = .ok (.getfield 318, 3) := by decide +kernel
theorem dX12_volunteer_44 : decode cX12_volunteer 44 = .ok (.iconst 1, 1) := by decide +kernel
theorem dX12_volunteer_45 : decode cX12_volunteer 45 = .ok (.isub, 1) := by decide +kernel
theorem dX12_volunteer_46 : decode cX12_volunteer 46 = .ok (.ireturn, 1) := by decide +kernel
theorem dX12_step_0 : decode cX12_step 0 = .ok (.aload_n 0, 1) := by decide +kernel
theorem dX12_step_1 : decode cX12_step 1 = .ok (.getfield 321, 3) := by decide +kernel
theorem dX12_step_4 : decode cX12_step 4 = .ok (.bipush 8, 2) := by decide +kernel
theorem dX12_step_6 : decode cX12_step 6 = .ok (.if_icmp .eq 32, 3) := by decide +kernel
theorem dX12_step_9 : decode cX12_step 9 = .ok (.iload_n 1, 1) := by decide +kernel
theorem dX12_step_10 : decode cX12_step 10 = .ok (.iconst (-1), 1) := by decide +kernel
theorem dX12_step_11 : decode cX12_step 11 = .ok (.if_icmp .eq 15, 3) := by decide +kernel
theorem dX12_step_14 : decode cX12_step 14 = .ok (.iload_n 1, 1) := by decide +kernel
theorem dX12_step_15 : decode cX12_step 15 = .ok (.ifCond .lt 23, 3) := by decide +kernel
theorem dX12_step_18 : decode cX12_step 18 = .ok (.iload_n 1, 1) := by decide +kernel
theorem dX12_step_19 : decode cX12_step 19 = .ok (.aload_n 0, 1) := by decide +kernel
theorem dX12_step_20 : decode cX12_step 20 = .ok (.getfield 321, 3) := by decide +kernel
theorem dX12_step_23 : decode cX12_step 23 = .ok (.if_icmp .ge 15, 3) := by decide +kernel
theorem dX12_step_26 : decode cX12_step 26 = .ok (.iload_n 2, 1) := by decide +kernel
theorem dX12_step_27 : decode cX12_step 27 = .ok (.iconst 1, 1) := by decide +kernel
theorem dX12_step_28 : decode cX12_step 28 = .ok (.if_icmp .lt 10, 3) := by decide +kernel
theorem dX12_step_31 : decode cX12_step 31 = .ok (.iload_n 2, 1) := by decide +kernel
theorem dX12_step_32 : decode cX12_step 32 = .ok (.sipush 200, 3) := by decide +kernel
theorem dX12_step_35 : decode cX12_step 35 = .ok (.if_icmp .le 5, 3) := by decide +kernel
theorem dX12_step_38 : decode cX12_step 38 = .ok (.iconst (-1), 1) := by decide +kernel
theorem dX12_step_39 : decode cX12_step 39 = .ok (.ireturn, 1) := by decide +kernel
theorem dX12_step_40 : decode cX12_step 40 = .ok (.aload_n 0, 1) := by decide +kernel
theorem dX12_step_41 : decode cX12_step 41 = .ok (.getfield 88, 3) := by decide +kernel
theorem dX12_step_44 : decode cX12_step 44 = .ok (.aload_n 0, 1) := by decide +kernel
theorem dX12_step_45 : decode cX12_step 45 = .ok (.getfield 321, 3) := by decide +kernel
theorem dX12_step_48 : decode cX12_step 48 = .ok (.iload_n 1, 1) := by decide +kernel
theorem dX12_step_49 : decode cX12_step 49 = .ok (.iastore, 1) := by decide +kernel
theorem dX12_step_50 : decode cX12_step 50 = .ok (.aload_n 0, 1) := by decide +kernel
theorem dX12_step_51 : decode cX12_step 51 = .ok (.getfield 91, 3) := by decide +kernel
theorem dX12_step_54 : decode cX12_step 54 = .ok (.aload_n 0, 1) := by decide +kernel
theorem dX12_step_55 : decode cX12_step 55 = .ok (.getfield 321, 3) := by decide +kernel
theorem dX12_step_58 : decode cX12_step 58 = .ok (.iload_n 2, 1) := by decide +kernel
theorem dX12_step_59 : decode cX12_step 59 = .ok (.iastore, 1) := by decide +kernel
theorem dX12_step_60 : decode cX12_step 60 = .ok (.aload_n 0, 1) := by decide +kernel
theorem dX12_step_61 : decode cX12_step 61 = .ok (.dup, 1) := by decide +kernel
theorem dX12_step_62 : decode cX12_step 62 = .ok (.getfield 321, 3) := by decide +kernel
theorem dX12_step_65 : decode cX12_step 65 = .ok (.iconst 1, 1) := by decide +kernel
theorem dX12_step_66 : decode cX12_step 66 = .ok (.iadd, 1) := by decide +kernel
theorem dX12_step_67 : decode cX12_step 67 = .ok (.putfield 321, 3) := by decide +kernel
theorem dX12_step_70 : decode cX12_step 70 = .ok (.aload_n 0, 1) := by decide +kernel
theorem dX12_step_71 : decode cX12_step 71 = .ok (.getfield 321, 3) := by decide +kernel
theorem dX12_step_74 : decode cX12_step 74 = .ok (.iconst 1, 1) := by decide +kernel
theorem dX12_step_75 : decode cX12_step 75 = .ok (.isub, 1) := by decide +kernel
theorem dX12_step_76 : decode cX12_step 76 = .ok (.ireturn, 1) := by decide +kernel
theorem dX12_hasStep_0 : decode cX12_hasStep 0 = .ok (.iload_n 2, 1) := by decide +kernel
theorem dX12_hasStep_1 : decode cX12_hasStep 1 = .ok (.istore 4, 2) := by decide +kernel
theorem dX12_hasStep_3 : decode cX12_hasStep 3 = .ok (.iload 4, 2) := by decide +kernel
theorem dX12_hasStep_5 : decode cX12_hasStep 5 = .ok (.iconst (-1), 1) := by decide +kernel
theorem dX12_hasStep_6 : decode cX12_hasStep 6 = .ok (.if_icmp .eq 88, 3) := by decide +kernel
theorem dX12_hasStep_9 : decode cX12_hasStep 9 = .ok (.iconst 0, 1) := by decide +kernel
theorem dX12_hasStep_10 : decode cX12_hasStep 10 = .ok (.istore 5, 2) := by decide +kernel
theorem dX12_hasStep_12 : decode cX12_hasStep 12 = .ok (.iconst 0, 1) := by decide +kernel
theorem dX12_hasStep_13 : decode cX12_hasStep 13 = .ok (.istore 6, 2) := by decide +kernel
theorem dX12_hasStep_15 : decode cX12_hasStep 15 = .ok (.iload 6, 2) := by decide +kernel
theorem dX12_hasStep_17 : decode cX12_hasStep 17 = .ok (.aload_n 0, 1) := by decide +kernel
theorem dX12_hasStep_18 : decode cX12_hasStep 18 = .ok (.getfield 91, 3) := by decide +kernel
theorem dX12_hasStep_21 : decode cX12_hasStep 21 = .ok (.iload 4, 2) := by decide +kernel
theorem dX12_hasStep_23 : decode cX12_hasStep 23 = .ok (.iaload, 1) := by decide +kernel
theorem dX12_hasStep_24 : decode cX12_hasStep 24 = .ok (.if_icmp .ge 51, 3) := by decide +kernel
theorem dX12_hasStep_27 : decode cX12_hasStep 27 = .ok (.iload 6, 2) := by decide +kernel
theorem dX12_hasStep_29 : decode cX12_hasStep 29 = .ok (.iload_n 3, 1) := by decide +kernel
theorem dX12_hasStep_30 : decode cX12_hasStep 30 = .ok (.if_icmp .gt 45, 3) := by decide +kernel
theorem dX12_hasStep_33 : decode cX12_hasStep 33 = .ok (.iload 5, 2) := by decide +kernel
theorem dX12_hasStep_35 : decode cX12_hasStep 35 = .ok (.ifCond .ne 27, 3) := by decide +kernel
theorem dX12_hasStep_38 : decode cX12_hasStep 38 = .ok (.aload_n 0, 1) := by decide +kernel
theorem dX12_hasStep_39 : decode cX12_hasStep 39 = .ok (.getfield 94, 3) := by decide +kernel
theorem dX12_hasStep_42 : decode cX12_hasStep 42 = .ok (.sipush 200, 3) := by decide +kernel
theorem dX12_hasStep_45 : decode cX12_hasStep 45 = .ok (.bipush 8, 2) := by decide +kernel
theorem dX12_hasStep_47 : decode cX12_hasStep 47 = .ok (.iload_n 1, 1) := by decide +kernel
theorem dX12_hasStep_48 : decode cX12_hasStep 48 = .ok (.imul, 1) := by decide +kernel
theorem dX12_hasStep_49 : decode cX12_hasStep 49 = .ok (.iload 4, 2) := by decide +kernel
theorem dX12_hasStep_51 : decode cX12_hasStep 51 = .ok (.iadd, 1) := by decide +kernel
theorem dX12_hasStep_52 : decode cX12_hasStep 52 = .ok (.imul, 1) := by decide +kernel
theorem dX12_hasStep_53 : decode cX12_hasStep 53 = .ok (.iload_n 3, 1) := by decide +kernel
theorem dX12_hasStep_54 : decode cX12_hasStep 54 = .ok (.iadd, 1) := by decide +kernel
theorem dX12_hasStep_55 : decode cX12_hasStep 55 = .ok (.iload 6, 2) := by decide +kernel
theorem dX12_hasStep_57 : decode cX12_hasStep 57 = .ok (.isub, 1) := by decide +kernel
theorem dX12_hasStep_58 : decode cX12_hasStep 58 = .ok (.baload, 1) := by decide +kernel
theorem dX12_hasStep_59 : decode cX12_hasStep 59 = .ok (.ifCond .eq 7, 3) := by decide +kernel
theorem dX12_hasStep_62 : decode cX12_hasStep 62 = .ok (.iconst 1, 1) := by decide +kernel
theorem dX12_hasStep_63 : decode cX12_hasStep 63 = .ok (.goto 4, 3) := by decide +kernel
theorem dX12_hasStep_66 : decode cX12_hasStep 66 = .ok (.iconst 0, 1) := by decide +kernel
theorem dX12_hasStep_67 : decode cX12_hasStep 67 = .ok (.istore 5, 2) := by decide +kernel
theorem dX12_hasStep_69 : decode cX12_hasStep 69 = .ok (.iinc 6 1, 3) := by decide +kernel
theorem dX12_hasStep_72 : decode cX12_hasStep 72 = .ok (.goto (-57), 3) := by decide +kernel
theorem dX12_hasStep_75 : decode cX12_hasStep 75 = .ok (.iload 5, 2) := by decide +kernel
theorem dX12_hasStep_77 : decode cX12_hasStep 77 = .ok (.ifCond .ne 5, 3) := by decide +kernel
theorem dX12_hasStep_80 : decode cX12_hasStep 80 = .ok (.iconst 0, 1) := by decide +kernel
theorem dX12_hasStep_81 : decode cX12_hasStep 81 = .ok (.ireturn, 1) := by decide +kernel
theorem dX12_hasStep_82 : decode cX12_hasStep 82 = .ok (.aload_n 0, 1) := by decide +kernel
theorem dX12_hasStep_83 : decode cX12_hasStep 83 = .ok (.getfield 88, 3) := by decide +kernel
theorem dX12_hasStep_86 : decode cX12_hasStep 86 = .ok (.iload 4, 2) := by decide +kernel
theorem dX12_hasStep_88 : decode cX12_hasStep 88 = .ok (.iaload, 1) := by decide +kernel
theorem dX12_hasStep_89 : decode cX12_hasStep 89 = .ok (.istore 4, 2) := by decide +kernel
theorem dX12_hasStep_91 : decode cX12_hasStep 91 = .ok (.goto (-88), 3) := by decide +kernel
theorem dX12_hasStep_94 : decode cX12_hasStep 94 = .ok (.iconst 1, 1) := by decide +kernel
theorem dX12_hasStep_95 : decode cX12_hasStep 95 = .ok (.ireturn, 1) := by decide +kernel
theorem dX12_learn_0 : decode cX12_learn 0 = .ok (.aload_n 0, 1) := by decide +kernel
theorem dX12_learn_1 : decode cX12_learn 1 = .ok (.iload_n 1, 1) := by decide +kernel
theorem dX12_learn_2 : decode cX12_learn 2 = .ok (.invokevirtual 324, 3) := by decide +kernel
theorem dX12_learn_5 : decode cX12_learn 5 = .ok (.ifCond .eq 43, 3) := by decide +kernel
theorem dX12_learn_8 : decode cX12_learn 8 = .ok (.iload_n 2, 1) := by decide +kernel
theorem dX12_learn_9 : decode cX12_learn 9 = .ok (.ifCond .lt 39, 3) := by decide +kernel
theorem dX12_learn_12 : decode cX12_learn 12 = .ok (.iload_n 2, 1) := by decide +kernel
theorem dX12_learn_13 : decode cX12_learn 13 = .ok (.aload_n 0, 1) := by decide +kernel
theorem dX12_learn_14 : decode cX12_learn 14 = .ok (.getfield 321, 3) := by decide +kernel
theorem dX12_learn_17 : decode cX12_learn 17 = .ok (.if_icmp .ge 31, 3) := by decide +kernel
theorem dX12_learn_20 : decode cX12_learn 20 = .ok (.aload_n 0, 1) := by decide +kernel
theorem dX12_learn_21 : decode cX12_learn 21 = .ok (.getfield 88, 3) := by decide +kernel
theorem dX12_learn_24 : decode cX12_learn 24 = .ok (.iload_n 2, 1) := by decide +kernel
theorem dX12_learn_25 : decode cX12_learn 25 = .ok (.iaload, 1) := by decide +kernel
theorem dX12_learn_26 : decode cX12_learn 26 = .ok (.iconst (-1), 1) := by decide +kernel
theorem dX12_learn_27 : decode cX12_learn 27 = .ok (.if_icmp .eq 23, 3) := by decide +kernel
theorem dX12_learn_30 : decode cX12_learn 30 = .ok (.aload_n 0, 1) := by decide +kernel
theorem dX12_learn_31 : decode cX12_learn 31 = .ok (.iload_n 1, 1) := by decide +kernel
theorem dX12_learn_32 : decode cX12_learn 32 = .ok (.aload_n 0, 1) := by decide +kernel
theorem dX12_learn_33 : decode cX12_learn 33 = .ok (.getfield 88, 3) := by decide +kernel
theorem dX12_learn_36 : decode cX12_learn 36 = .ok (.iload_n 2, 1) := by decide +kernel
theorem dX12_learn_37 : decode cX12_learn 37 = .ok (.iaload, 1) := by decide +kernel
theorem dX12_learn_38 : decode cX12_learn 38 = .ok (.aload_n 0, 1) := by decide +kernel
theorem dX12_learn_39 : decode cX12_learn 39 = .ok (.getfield 327, 3) := by decide +kernel
theorem dX12_learn_42 : decode cX12_learn 42 = .ok (.invokevirtual 330, 3) := by decide +kernel
theorem dX12_learn_45 : decode cX12_learn 45 = .ok (.ifCond .ne 5, 3) := by decide +kernel
theorem dX12_learn_48 : decode cX12_learn 48 = .ok (.iconst 0, 1) := by decide +kernel
theorem dX12_learn_49 : decode cX12_learn 49 = .ok (.ireturn, 1) := by decide +kernel
theorem dX12_learn_50 : decode cX12_learn 50 = .ok (.aload_n 0, 1) := by decide +kernel
theorem dX12_learn_51 : decode cX12_learn 51 = .ok (.getfield 94, 3) := by decide +kernel
theorem dX12_learn_54 : decode cX12_learn 54 = .ok (.sipush 200, 3) := by decide +kernel
theorem dX12_learn_57 : decode cX12_learn 57 = .ok (.bipush 8, 2) := by decide +kernel
theorem dX12_learn_59 : decode cX12_learn 59 = .ok (.iload_n 1, 1) := by decide +kernel
theorem dX12_learn_60 : decode cX12_learn 60 = .ok (.imul, 1) := by decide +kernel
theorem dX12_learn_61 : decode cX12_learn 61 = .ok (.iload_n 2, 1) := by decide +kernel
theorem dX12_learn_62 : decode cX12_learn 62 = .ok (.iadd, 1) := by decide +kernel
theorem dX12_learn_63 : decode cX12_learn 63 = .ok (.imul, 1) := by decide +kernel
theorem dX12_learn_64 : decode cX12_learn 64 = .ok (.aload_n 0, 1) := by decide +kernel
theorem dX12_learn_65 : decode cX12_learn 65 = .ok (.getfield 327, 3) := by decide +kernel
theorem dX12_learn_68 : decode cX12_learn 68 = .ok (.iadd, 1) := by decide +kernel
theorem dX12_learn_69 : decode cX12_learn 69 = .ok (.iconst 1, 1) := by decide +kernel
theorem dX12_learn_70 : decode cX12_learn 70 = .ok (.bastore, 1) := by decide +kernel
theorem dX12_learn_71 : decode cX12_learn 71 = .ok (.iconst 1, 1) := by decide +kernel
theorem dX12_learn_72 : decode cX12_learn 72 = .ok (.ireturn, 1) := by decide +kernel
theorem dX12_has_0 : decode cX12_has 0 = .ok (.aload_n 0, 1) := by decide +kernel
theorem dX12_has_1 : decode cX12_has 1 = .ok (.iload_n 1, 1) := by decide +kernel
theorem dX12_has_2 : decode cX12_has 2 = .ok (.invokevirtual 324, 3) := by decide +kernel
theorem dX12_has_5 : decode cX12_has 5 = .ok (.ifCond .eq 22, 3) := by decide +kernel
theorem dX12_has_8 : decode cX12_has 8 = .ok (.iload_n 2, 1) := by decide +kernel
theorem dX12_has_9 : decode cX12_has 9 = .ok (.ifCond .lt 18, 3) := by decide +kernel
theorem dX12_has_12 : decode cX12_has 12 = .ok (.iload_n 2, 1) := by decide +kernel
theorem dX12_has_13 : decode cX12_has 13 = .ok (.aload_n 0, 1) := by decide +kernel
theorem dX12_has_14 : decode cX12_has 14 = .ok (.getfield 321, 3) := by decide +kernel
theorem dX12_has_17 : decode cX12_has 17 = .ok (.if_icmp .ge 10, 3) := by decide +kernel
theorem dX12_has_20 : decode cX12_has 20 = .ok (.iload_n 3, 1) := by decide +kernel
theorem dX12_has_21 : decode cX12_has 21 = .ok (.invokestatic 334, 3) := by decide +kernel
theorem dX12_has_24 : decode cX12_has 24 = .ok (.ifCond .ne 5, 3) := by decide +kernel
theorem dX12_has_27 : decode cX12_has 27 = .ok (.iconst (-1), 1) := by decide +kernel
theorem dX12_has_28 : decode cX12_has 28 = .ok (.ireturn, 1) := by decide +kernel
theorem dX12_has_29 : decode cX12_has 29 = .ok (.aload_n 0, 1) := by decide +kernel
theorem dX12_has_30 : decode cX12_has 30 = .ok (.iload_n 1, 1) := by decide +kernel
theorem dX12_has_31 : decode cX12_has 31 = .ok (.iload_n 2, 1) := by decide +kernel
theorem dX12_has_32 : decode cX12_has 32 = .ok (.iload_n 3, 1) := by decide +kernel
theorem dX12_has_33 : decode cX12_has 33 = .ok (.invokevirtual 330, 3) := by decide +kernel
theorem dX12_has_36 : decode cX12_has 36 = .ok (.ifCond .eq 7, 3) := by decide +kernel
theorem dX12_has_39 : decode cX12_has 39 = .ok (.iconst 1, 1) := by decide +kernel
theorem dX12_has_40 : decode cX12_has 40 = .ok (.goto 4, 3) := by decide +kernel
theorem dX12_has_43 : decode cX12_has 43 = .ok (.iconst 0, 1) := by decide +kernel
theorem dX12_has_44 : decode cX12_has 44 = .ok (.ireturn, 1) := by decide +kernel
theorem dX12_isBarred_0 : decode cX12_isBarred 0 = .ok (.aload_n 0, 1) := by decide +kernel
theorem dX12_isBarred_1 : decode cX12_isBarred 1 = .ok (.getfield 98, 3) := by decide +kernel
theorem dX12_isBarred_4 : decode cX12_isBarred 4 = .ok (.bipush 8, 2) := by decide +kernel
theorem dX12_isBarred_6 : decode cX12_isBarred 6 = .ok (.iload_n 1, 1) := by decide +kernel
theorem dX12_isBarred_7 : decode cX12_isBarred 7 = .ok (.imul, 1) := by decide +kernel
theorem dX12_isBarred_8 : decode cX12_isBarred 8 = .ok (.iload_n 2, 1) := by decide +kernel
theorem dX12_isBarred_9 : decode cX12_isBarred 9 = .ok (.iadd, 1) := by decide +kernel
theorem dX12_isBarred_10 : decode cX12_isBarred 10 = .ok (.iaload, 1) := by decide +kernel
theorem dX12_isBarred_11 : decode cX12_isBarred 11 = .ok (.istore 4, 2) := by decide +kernel
theorem dX12_isBarred_13 : decode cX12_isBarred 13 = .ok (.iload 4, 2) := by decide +kernel
theorem dX12_isBarred_15 : decode cX12_isBarred 15 = .ok (.ifCond .le 15, 3) := by decide +kernel
theorem dX12_isBarred_18 : decode cX12_isBarred 18 = .ok (.iload 4, 2) := by decide +kernel
theorem dX12_isBarred_20 : decode cX12_isBarred 20 = .ok (.iconst 1, 1) := by decide +kernel
theorem dX12_isBarred_21 : decode cX12_isBarred 21 = .ok (.isub, 1) := by decide +kernel
theorem dX12_isBarred_22 : decode cX12_isBarred 22 = .ok (.iload_n 3, 1) := by decide +kernel
theorem dX12_isBarred_23 : decode cX12_isBarred 23 = .ok (.if_icmp .gt 7, 3) := by decide +kernel
theorem dX12_isBarred_26 : decode cX12_isBarred 26 = .ok (.iconst 1, 1) := by decide +kernel
theorem dX12_isBarred_27 : decode cX12_isBarred 27 = .ok (.goto 4, 3) := by decide +kernel
theorem dX12_isBarred_30 : decode cX12_isBarred 30 = .ok (.iconst 0, 1) := by decide +kernel
theorem dX12_isBarred_31 : decode cX12_isBarred 31 = .ok (.ireturn, 1) := by decide +kernel
theorem dX12_bar_0 : decode cX12_bar 0 = .ok (.iload_n 1, 1) := by decide +kernel
theorem dX12_bar_1 : decode cX12_bar 1 = .ok (.ifCond .lt 31, 3) := by decide +kernel
theorem dX12_bar_4 : decode cX12_bar 4 = .ok (.iload_n 1, 1) := by decide +kernel
theorem dX12_bar_5 : decode cX12_bar 5 = .ok (.bipush 19, 2) := by decide +kernel
theorem dX12_bar_7 : decode cX12_bar 7 = .ok (.if_icmp .gt 25, 3) := by decide +kernel
theorem dX12_bar_10 : decode cX12_bar 10 = .ok (.aload_n 0, 1) := by decide +kernel
theorem dX12_bar_11 : decode cX12_bar 11 = .ok (.iload_n 2, 1) := by decide +kernel
theorem dX12_bar_12 : decode cX12_bar 12 = .ok (.invokevirtual 324, 3) := by decide +kernel
theorem dX12_bar_15 : decode cX12_bar 15 = .ok (.ifCond .eq 17, 3) := by decide +kernel
theorem dX12_bar_18 : decode cX12_bar 18 = .ok (.aload_n 0, 1) := by decide +kernel
theorem dX12_bar_19 : decode cX12_bar 19 = .ok (.getfield 98, 3) := by decide +kernel
theorem dX12_bar_22 : decode cX12_bar 22 = .ok (.bipush 8, 2) := by decide +kernel
theorem dX12_bar_24 : decode cX12_bar 24 = .ok (.iload_n 1, 1) := by decide +kernel
theorem dX12_bar_25 : decode cX12_bar 25 = .ok (.imul, 1) := by decide +kernel
theorem dX12_bar_26 : decode cX12_bar 26 = .ok (.iload_n 2, 1) := by decide +kernel
theorem dX12_bar_27 : decode cX12_bar 27 = .ok (.iadd, 1) := by decide +kernel
theorem dX12_bar_28 : decode cX12_bar 28 = .ok (.iaload, 1) := by decide +kernel
theorem dX12_bar_29 : decode cX12_bar 29 = .ok (.ifCond .le 5, 3) := by decide +kernel
theorem dX12_bar_32 : decode cX12_bar 32 = .ok (.iconst 0, 1) := by decide +kernel
theorem dX12_bar_33 : decode cX12_bar 33 = .ok (.ireturn, 1) := by decide +kernel
theorem dX12_bar_34 : decode cX12_bar 34 = .ok (.aload_n 0, 1) := by decide +kernel
theorem dX12_bar_35 : decode cX12_bar 35 = .ok (.getfield 98, 3) := by decide +kernel
theorem dX12_bar_38 : decode cX12_bar 38 = .ok (.bipush 8, 2) := by decide +kernel
theorem dX12_bar_40 : decode cX12_bar 40 = .ok (.iload_n 1, 1) := by decide +kernel
theorem dX12_bar_41 : decode cX12_bar 41 = .ok (.imul, 1) := by decide +kernel
theorem dX12_bar_42 : decode cX12_bar 42 = .ok (.iload_n 2, 1) := by decide +kernel
theorem dX12_bar_43 : decode cX12_bar 43 = .ok (.iadd, 1) := by decide +kernel
theorem dX12_bar_44 : decode cX12_bar 44 = .ok (.aload_n 0, 1) := by decide +kernel
theorem dX12_bar_45 : decode cX12_bar 45 = .ok (.getfield 327, 3) := by decide +kernel
theorem dX12_bar_48 : decode cX12_bar 48 = .ok (.iconst 1, 1) := by decide +kernel
theorem dX12_bar_49 : decode cX12_bar 49 = .ok (.iadd, 1) := by decide +kernel
theorem dX12_bar_50 : decode cX12_bar 50 = .ok (.iastore, 1) := by decide +kernel
theorem dX12_bar_51 : decode cX12_bar 51 = .ok (.iconst 1, 1) := by decide +kernel
theorem dX12_bar_52 : decode cX12_bar 52 = .ok (.ireturn, 1) := by decide +kernel
theorem dX12_isDue_0 : decode cX12_isDue 0 = .ok (.aload_n 0, 1) := by decide +kernel
theorem dX12_isDue_1 : decode cX12_isDue 1 = .ok (.getfield 104, 3) := by decide +kernel
theorem dX12_isDue_4 : decode cX12_isDue 4 = .ok (.iload_n 1, 1) := by decide +kernel
theorem dX12_isDue_5 : decode cX12_isDue 5 = .ok (.iaload, 1) := by decide +kernel
theorem dX12_isDue_6 : decode cX12_isDue 6 = .ok (.istore_n 2, 1) := by decide +kernel
theorem dX12_isDue_7 : decode cX12_isDue 7 = .ok (.iload_n 2, 1) := by decide +kernel
theorem dX12_isDue_8 : decode cX12_isDue 8 = .ok (.aload_n 0, 1) := by decide +kernel
theorem dX12_isDue_9 : decode cX12_isDue 9 = .ok (.getfield 327, 3) := by decide +kernel
theorem dX12_isDue_12 : decode cX12_isDue 12 = .ok (.if_icmp .ge 26, 3) := by decide +kernel
theorem dX12_isDue_15 : decode cX12_isDue 15 = .ok (.aload_n 0, 1) := by decide +kernel
theorem dX12_isDue_16 : decode cX12_isDue 16 = .ok (.getfield 101, 3) := by decide +kernel
theorem dX12_isDue_19 : decode cX12_isDue 19 = .ok (.sipush 200, 3) := by decide +kernel
theorem dX12_isDue_22 : decode cX12_isDue 22 = .ok (.iload_n 1, 1) := by decide +kernel
theorem dX12_isDue_23 : decode cX12_isDue 23 = .ok (.imul, 1) := by decide +kernel
theorem dX12_isDue_24 : decode cX12_isDue 24 = .ok (.iload_n 2, 1) := by decide +kernel
theorem dX12_isDue_25 : decode cX12_isDue 25 = .ok (.iadd, 1) := by decide +kernel
theorem dX12_isDue_26 : decode cX12_isDue 26 = .ok (.baload, 1) := by decide +kernel
theorem dX12_isDue_27 : decode cX12_isDue 27 = .ok (.ifCond .eq 5, 3) := by decide +kernel
theorem dX12_isDue_30 : decode cX12_isDue 30 = .ok (.iconst 1, 1) := by decide +kernel
theorem dX12_isDue_31 : decode cX12_isDue 31 = .ok (.ireturn, 1) := by decide +kernel
theorem dX12_isDue_32 : decode cX12_isDue 32 = .ok (.iinc 2 1, 3) := by decide +kernel
theorem dX12_isDue_35 : decode cX12_isDue 35 = .ok (.goto (-28), 3) := by decide +kernel
theorem dX12_isDue_38 : decode cX12_isDue 38 = .ok (.iconst 0, 1) := by decide +kernel
theorem dX12_isDue_39 : decode cX12_isDue 39 = .ok (.ireturn, 1) := by decide +kernel
theorem dX12_care_0 : decode cX12_care 0 = .ok (.aload_n 0, 1) := by decide +kernel
theorem dX12_care_1 : decode cX12_care 1 = .ok (.iload_n 1, 1) := by decide +kernel
theorem dX12_care_2 : decode cX12_care 2 = .ok (.invokevirtual 324, 3) := by decide +kernel
theorem dX12_care_5 : decode cX12_care 5 = .ok (.ifCond .eq 11, 3) := by decide +kernel
theorem dX12_care_8 : decode cX12_care 8 = .ok (.aload_n 0, 1) := by decide +kernel
theorem dX12_care_9 : decode cX12_care 9 = .ok (.iload_n 1, 1) := by decide +kernel
theorem dX12_care_10 : decode cX12_care 10 = .ok (.invokevirtual 337, 3) := by decide +kernel
theorem dX12_care_13 : decode cX12_care 13 = .ok (.ifCond .ne 5, 3) := by decide +kernel
theorem dX12_care_16 : decode cX12_care 16 = .ok (.iconst 0, 1) := by decide +kernel
theorem dX12_care_17 : decode cX12_care 17 = .ok (.ireturn, 1) := by decide +kernel
theorem dX12_care_18 : decode cX12_care 18 = .ok (.aload_n 0, 1) := by decide +kernel
theorem dX12_care_19 : decode cX12_care 19 = .ok (.getfield 104, 3) := by decide +kernel
theorem dX12_care_22 : decode cX12_care 22 = .ok (.iload_n 1, 1) := by decide +kernel
theorem dX12_care_23 : decode cX12_care 23 = .ok (.aload_n 0, 1) := by decide +kernel
theorem dX12_care_24 : decode cX12_care 24 = .ok (.getfield 327, 3) := by decide +kernel
theorem dX12_care_27 : decode cX12_care 27 = .ok (.iastore, 1) := by decide +kernel
theorem dX12_care_28 : decode cX12_care 28 = .ok (.iconst 1, 1) := by decide +kernel
theorem dX12_care_29 : decode cX12_care 29 = .ok (.ireturn, 1) := by decide +kernel
theorem dX12_due_0 : decode cX12_due 0 = .ok (.aload_n 0, 1) := by decide +kernel
theorem dX12_due_1 : decode cX12_due 1 = .ok (.iload_n 1, 1) := by decide +kernel
theorem dX12_due_2 : decode cX12_due 2 = .ok (.invokevirtual 324, 3) := by decide +kernel
theorem dX12_due_5 : decode cX12_due 5 = .ok (.ifCond .eq 19, 3) := by decide +kernel
theorem dX12_due_8 : decode cX12_due 8 = .ok (.aload_n 0, 1) := by decide +kernel
theorem dX12_due_9 : decode cX12_due 9 = .ok (.iload_n 1, 1) := by decide +kernel
theorem dX12_due_10 : decode cX12_due 10 = .ok (.invokevirtual 337, 3) := by decide +kernel
theorem dX12_due_13 : decode cX12_due 13 = .ok (.ifCond .eq 7, 3) := by decide +kernel
theorem dX12_due_16 : decode cX12_due 16 = .ok (.iconst 1, 1) := by decide +kernel
theorem dX12_due_17 : decode cX12_due 17 = .ok (.goto 8, 3) := by decide +kernel
theorem dX12_due_20 : decode cX12_due 20 = .ok (.iconst 0, 1) := by decide +kernel
theorem dX12_due_21 : decode cX12_due 21 = .ok (.goto 4, 3) := by decide +kernel
theorem dX12_due_24 : decode cX12_due 24 = .ok (.iconst (-1), 1) := by decide +kernel
theorem dX12_due_25 : decode cX12_due 25 = .ok (.ireturn, 1) := by decide +kernel
theorem dX12_clock_0 : decode cX12_clock 0 = .ok (.iload_n 1, 1) := by decide +kernel
theorem dX12_clock_1 : decode cX12_clock 1 = .ok (.aload_n 0, 1) := by decide +kernel
theorem dX12_clock_2 : decode cX12_clock 2 = .ok (.getfield 327, 3) := by decide +kernel
theorem dX12_clock_5 : decode cX12_clock 5 = .ok (.if_icmp .lt 10, 3) := by decide +kernel
theorem dX12_clock_8 : decode cX12_clock 8 = .ok (.iload_n 1, 1) := by decide +kernel
theorem dX12_clock_9 : decode cX12_clock 9 = .ok (.sipush 199, 3) := by decide +kernel
theorem dX12_clock_12 : decode cX12_clock 12 = .ok (.if_icmp .le 5, 3) := by decide +kernel
theorem dX12_clock_15 : decode cX12_clock 15 = .ok (.iconst 0, 1) := by decide +kernel
theorem dX12_clock_16 : decode cX12_clock 16 = .ok (.ireturn, 1) := by decide +kernel
theorem dX12_clock_17 : decode cX12_clock 17 = .ok (.aload_n 0, 1) := by decide +kernel
theorem dX12_clock_18 : decode cX12_clock 18 = .ok (.iload_n 1, 1) := by decide +kernel
theorem dX12_clock_19 : decode cX12_clock 19 = .ok (.putfield 327, 3) := by decide +kernel
theorem dX12_clock_22 : decode cX12_clock 22 = .ok (.iconst 1, 1) := by decide +kernel
theorem dX12_clock_23 : decode cX12_clock 23 = .ok (.ireturn, 1) := by decide +kernel
theorem dX12_holiday_0 : decode cX12_holiday 0 = .ok (.iload_n 1, 1) := by decide +kernel
theorem dX12_holiday_1 : decode cX12_holiday 1 = .ok (.invokestatic 334, 3) := by decide +kernel
theorem dX12_holiday_4 : decode cX12_holiday 4 = .ok (.ifCond .eq 21, 3) := by decide +kernel
theorem dX12_holiday_7 : decode cX12_holiday 7 = .ok (.aload_n 0, 1) := by decide +kernel
theorem dX12_holiday_8 : decode cX12_holiday 8 = .ok (.getfield 107, 3) := by decide +kernel
theorem dX12_holiday_11 : decode cX12_holiday 11 = .ok (.iload_n 1, 1) := by decide +kernel
theorem dX12_holiday_12 : decode cX12_holiday 12 = .ok (.baload, 1) := by decide +kernel
theorem dX12_holiday_13 : decode cX12_holiday 13 = .ok (.ifCond .ne 12, 3) := by decide +kernel
theorem dX12_holiday_16 : decode cX12_holiday 16 = .ok (.aload_n 0, 1) := by decide +kernel
theorem dX12_holiday_17 : decode cX12_holiday 17 = .ok (.getfield 110, 3) := by decide +kernel
theorem dX12_holiday_20 : decode cX12_holiday 20 = .ok (.iload_n 1, 1) := by decide +kernel
theorem dX12_holiday_21 : decode cX12_holiday 21 = .ok (.baload, 1) := by decide +kernel
theorem dX12_holiday_22 : decode cX12_holiday 22 = .ok (.ifCond .eq 5, 3) := by decide +kernel
theorem dX12_holiday_25 : decode cX12_holiday 25 = .ok (.iconst 0, 1) := by decide +kernel
theorem dX12_holiday_26 : decode cX12_holiday 26 = .ok (.ireturn, 1) := by decide +kernel
theorem dX12_holiday_27 : decode cX12_holiday 27 = .ok (.aload_n 0, 1) := by decide +kernel
theorem dX12_holiday_28 : decode cX12_holiday 28 = .ok (.getfield 107, 3) := by decide +kernel
theorem dX12_holiday_31 : decode cX12_holiday 31 = .ok (.iload_n 1, 1) := by decide +kernel
theorem dX12_holiday_32 : decode cX12_holiday 32 = .ok (.iconst 1, 1) := by decide +kernel
theorem dX12_holiday_33 : decode cX12_holiday 33 = .ok (.bastore, 1) := by decide +kernel
theorem dX12_holiday_34 : decode cX12_holiday 34 = .ok (.iconst 1, 1) := by decide +kernel
theorem dX12_holiday_35 : decode cX12_holiday 35 = .ok (.ireturn, 1) := by decide +kernel
theorem dX12_offer_0 : decode cX12_offer 0 = .ok (.aload_n 0, 1) := by decide +kernel
theorem dX12_offer_1 : decode cX12_offer 1 = .ok (.iload_n 1, 1) := by decide +kernel
theorem dX12_offer_2 : decode cX12_offer 2 = .ok (.invokevirtual 324, 3) := by decide +kernel
theorem dX12_offer_5 : decode cX12_offer 5 = .ok (.ifCond .eq 61, 3) := by decide +kernel
theorem dX12_offer_8 : decode cX12_offer 8 = .ok (.iload_n 2, 1) := by decide +kernel
theorem dX12_offer_9 : decode cX12_offer 9 = .ok (.iconst 1, 1) := by decide +kernel
theorem dX12_offer_10 : decode cX12_offer 10 = .ok (.if_icmp .lt 56, 3) := by decide +kernel
theorem dX12_offer_13 : decode cX12_offer 13 = .ok (.iload_n 2, 1) := by decide +kernel
theorem dX12_offer_14 : decode cX12_offer 14 = .ok (.bipush 63, 2) := by decide +kernel
theorem dX12_offer_16 : decode cX12_offer 16 = .ok (.if_icmp .gt 50, 3) := by decide +kernel
theorem dX12_offer_19 : decode cX12_offer 19 = .ok (.iload_n 3, 1) := by decide +kernel
theorem dX12_offer_20 : decode cX12_offer 20 = .ok (.iconst 1, 1) := by decide +kernel
theorem dX12_offer_21 : decode cX12_offer 21 = .ok (.if_icmp .lt 45, 3) := by decide +kernel
theorem dX12_offer_24 : decode cX12_offer 24 = .ok (.iload_n 3, 1) := by decide +kernel
theorem dX12_offer_25 : decode cX12_offer 25 = .ok (.iconst 3, 1) := by decide +kernel
theorem dX12_offer_26 : decode cX12_offer 26 = .ok (.if_icmp .gt 40, 3) := by decide +kernel
theorem dX12_offer_29 : decode cX12_offer 29 = .ok (.aload_n 0, 1) := by decide +kernel
theorem dX12_offer_30 : decode cX12_offer 30 = .ok (.getfield 113, 3) := by decide +kernel
theorem dX12_offer_33 : decode cX12_offer 33 = .ok (.aload_n 0, 1) := by decide +kernel
theorem dX12_offer_34 : decode cX12_offer 34 = .ok (.getfield 327, 3) := by decide +kernel
theorem dX12_offer_37 : decode cX12_offer 37 = .ok (.baload, 1) := by decide +kernel
theorem dX12_offer_38 : decode cX12_offer 38 = .ok (.ifCond .ne 28, 3) := by decide +kernel
theorem dX12_offer_41 : decode cX12_offer 41 = .ok (.aload_n 0, 1) := by decide +kernel
theorem dX12_offer_42 : decode cX12_offer 42 = .ok (.getfield 110, 3) := by decide +kernel
theorem dX12_offer_45 : decode cX12_offer 45 = .ok (.aload_n 0, 1) := by decide +kernel
theorem dX12_offer_46 : decode cX12_offer 46 = .ok (.getfield 327, 3) := by decide +kernel
theorem dX12_offer_49 : decode cX12_offer 49 = .ok (.baload, 1) := by decide +kernel
theorem dX12_offer_50 : decode cX12_offer 50 = .ok (.ifCond .ne 16, 3) := by decide +kernel
theorem dX12_offer_53 : decode cX12_offer 53 = .ok (.aload_n 0, 1) := by decide +kernel
theorem dX12_offer_54 : decode cX12_offer 54 = .ok (.getfield 116, 3) := by decide +kernel
theorem dX12_offer_57 : decode cX12_offer 57 = .ok (.aload_n 0, 1) := by decide +kernel
theorem dX12_offer_58 : decode cX12_offer 58 = .ok (.getfield 327, 3) := by decide +kernel
theorem dX12_offer_61 : decode cX12_offer 61 = .ok (.iaload, 1) := by decide +kernel
theorem dX12_offer_62 : decode cX12_offer 62 = .ok (.iconst 5, 1) := by decide +kernel
theorem dX12_offer_63 : decode cX12_offer 63 = .ok (.if_icmp .ne 5, 3) := by decide +kernel
theorem dX12_offer_66 : decode cX12_offer 66 = .ok (.iconst (-1), 1) := by decide +kernel
theorem dX12_offer_67 : decode cX12_offer 67 = .ok (.ireturn, 1) := by decide +kernel
theorem dX12_offer_68 : decode cX12_offer 68 = .ok (.iconst 5, 1) := by decide +kernel
theorem dX12_offer_69 : decode cX12_offer 69 = .ok (.aload_n 0, 1) := by decide +kernel
theorem dX12_offer_70 : decode cX12_offer 70 = .ok (.getfield 327, 3) := by decide +kernel
theorem dX12_offer_73 : decode cX12_offer 73 = .ok (.imul, 1) := by decide +kernel
theorem dX12_offer_74 : decode cX12_offer 74 = .ok (.istore 4, 2) := by decide +kernel
theorem dX12_offer_76 : decode cX12_offer 76 = .ok (.iload 4, 2) := by decide +kernel
