theorem dX12_offer_78 : decode cX12_offer 78 = .ok (.iconst 5, 1) := by decide +kernel
theorem dX12_offer_79 : decode cX12_offer 79 = .ok (.aload_n 0, 1) := by decide +kernel
theorem dX12_offer_80 : decode cX12_offer 80 = .ok (.getfield 327, 3) := by decide +kernel
theorem dX12_offer_83 : decode cX12_offer 83 = .ok (.imul, 1) := by decide +kernel
theorem dX12_offer_84 : decode cX12_offer 84 = .ok (.aload_n 0, 1) := by decide +kernel
theorem dX12_offer_85 : decode cX12_offer 85 = .ok (.getfield 116, 3) := by decide +kernel
theorem dX12_offer_88 : decode cX12_offer 88 = .ok (.aload_n 0, 1) := by decide +kernel
theorem dX12_offer_89 : decode cX12_offer 89 = .ok (.getfield 327, 3) := by decide +kernel
theorem dX12_offer_92 : decode cX12_offer 92 = .ok (.iaload, 1) := by decide +kernel
theorem dX12_offer_93 : decode cX12_offer 93 = .ok (.iadd, 1) := by decide +kernel
theorem dX12_offer_94 : decode cX12_offer 94 = .ok (.if_icmp .ge 22, 3) := by decide +kernel
theorem dX12_offer_97 : decode cX12_offer 97 = .ok (.aload_n 0, 1) := by decide +kernel
theorem dX12_offer_98 : decode cX12_offer 98 = .ok (.getfield 119, 3) := by decide +kernel
theorem dX12_offer_101 : decode cX12_offer 101 = .ok (.iload 4, 2) := by decide +kernel
theorem dX12_offer_103 : decode cX12_offer 103 = .ok (.iaload, 1) := by decide +kernel
theorem dX12_offer_104 : decode cX12_offer 104 = .ok (.iload_n 1, 1) := by decide +kernel
theorem dX12_offer_105 : decode cX12_offer 105 = .ok (.if_icmp .ne 5, 3) := by decide +kernel
theorem dX12_offer_108 : decode cX12_offer 108 = .ok (.iconst (-1), 1) := by decide +kernel
theorem dX12_offer_109 : decode cX12_offer 109 = .ok (.ireturn, 1) := by decide +kernel
theorem dX12_offer_110 : decode cX12_offer 110 = .ok (.iinc 4 1, 3) := by decide +kernel
theorem dX12_offer_113 : decode cX12_offer 113 = .ok (.goto (-37), 3) := by decide +kernel
theorem dX12_offer_116 : decode cX12_offer 116 = .ok (.iconst 5, 1) := by decide +kernel
theorem dX12_offer_117 : decode cX12_offer 117 = .ok (.aload_n 0, 1) := by decide +kernel
theorem dX12_offer_118 : decode cX12_offer 118 = .ok (.getfield 327, 3) := by decide +kernel
theorem dX12_offer_121 : decode cX12_offer 121 = .ok (.imul, 1) := by decide +kernel
theorem dX12_offer_122 : decode cX12_offer 122 = .ok (.aload_n 0, 1) := by decide +kernel
theorem dX12_offer_123 : decode cX12_offer 123 = .ok (.getfield 116, 3) := by decide +kernel
theorem dX12_offer_126 : decode cX12_offer 126 = .ok (.aload_n 0, 1) := by decide +kernel
theorem dX12_offer_127 : decode cX12_offer 127 = .ok (.getfield 327, 3) := by decide +kernel
theorem dX12_offer_130 : decode cX12_offer 130 = .ok (.iaload, 1) := by decide +kernel
theorem dX12_offer_131 : decode cX12_offer 131 = .ok (.iadd, 1) := by decide +kernel
theorem dX12_offer_132 : decode cX12_offer 132 = .ok (.istore 4, 2) := by decide +kernel
theorem dX12_offer_134 : decode cX12_offer 134 = .ok (.aload_n 0, 1) := by decide +kernel
theorem dX12_offer_135 : decode cX12_offer 135 = .ok (.getfield 119, 3) := by decide +kernel
theorem dX12_offer_138 : decode cX12_offer 138 = .ok (.iload 4, 2) := by decide +kernel
theorem dX12_offer_140 : decode cX12_offer 140 = .ok (.iload_n 1, 1) := by decide +kernel
theorem dX12_offer_141 : decode cX12_offer 141 = .ok (.iastore, 1) := by decide +kernel
theorem dX12_offer_142 : decode cX12_offer 142 = .ok (.aload_n 0, 1) := by decide +kernel
theorem dX12_offer_143 : decode cX12_offer 143 = .ok (.getfield 122, 3) := by decide +kernel
theorem dX12_offer_146 : decode cX12_offer 146 = .ok (.iload 4, 2) := by decide +kernel
theorem dX12_offer_148 : decode cX12_offer 148 = .ok (.iload_n 2, 1) := by decide +kernel
theorem dX12_offer_149 : decode cX12_offer 149 = .ok (.iastore, 1) := by decide +kernel
theorem dX12_offer_150 : decode cX12_offer 150 = .ok (.aload_n 0, 1) := by decide +kernel
theorem dX12_offer_151 : decode cX12_offer 151 = .ok (.getfield 125, 3) := by decide +kernel
theorem dX12_offer_154 : decode cX12_offer 154 = .ok (.iload 4, 2) := by decide +kernel
theorem dX12_offer_156 : decode cX12_offer 156 = .ok (.iload_n 3, 1) := by decide +kernel
theorem dX12_offer_157 : decode cX12_offer 157 = .ok (.iastore, 1) := by decide +kernel
theorem dX12_offer_158 : decode cX12_offer 158 = .ok (.aload_n 0, 1) := by decide +kernel
theorem dX12_offer_159 : decode cX12_offer 159 = .ok (.getfield 116, 3) := by decide +kernel
theorem dX12_offer_162 : decode cX12_offer 162 = .ok (.aload_n 0, 1) := by decide +kernel
theorem dX12_offer_163 : decode cX12_offer 163 = .ok (.getfield 327, 3) := by decide +kernel
theorem dX12_offer_166 : decode cX12_offer 166 = .ok (.dup2, 1) := by decide +kernel
theorem dX12_offer_167 : decode cX12_offer 167 = .ok (.iaload, 1) := by decide +kernel
theorem dX12_offer_168 : decode cX12_offer 168 = .ok (.iconst 1, 1) := by decide +kernel
theorem dX12_offer_169 : decode cX12_offer 169 = .ok (.iadd, 1) := by decide +kernel
theorem dX12_offer_170 : decode cX12_offer 170 = .ok (.iastore, 1) := by decide +kernel
theorem dX12_offer_171 : decode cX12_offer 171 = .ok (.aload_n 0, 1) := by decide +kernel
theorem dX12_offer_172 : decode cX12_offer 172 = .ok (.getfield 116, 3) := by decide +kernel
theorem dX12_offer_175 : decode cX12_offer 175 = .ok (.aload_n 0, 1) := by decide +kernel
theorem dX12_offer_176 : decode cX12_offer 176 = .ok (.getfield 327, 3) := by decide +kernel
theorem dX12_offer_179 : decode cX12_offer 179 = .ok (.iaload, 1) := by decide +kernel
theorem dX12_offer_180 : decode cX12_offer 180 = .ok (.iconst 1, 1) := by decide +kernel
theorem dX12_offer_181 : decode cX12_offer 181 = .ok (.isub, 1) := by decide +kernel
theorem dX12_offer_182 : decode cX12_offer 182 = .ok (.ireturn, 1) := by decide +kernel
theorem dX12_lists_0 : decode cX12_lists 0 = .ok (.aload_n 0, 1) := by decide +kernel
theorem dX12_lists_1 : decode cX12_lists 1 = .ok (.getfield 137, 3) := by decide +kernel
theorem dX12_lists_4 : decode cX12_lists 4 = .ok (.bipush 20, 2) := by decide +kernel
theorem dX12_lists_6 : decode cX12_lists 6 = .ok (.iload_n 1, 1) := by decide +kernel
theorem dX12_lists_7 : decode cX12_lists 7 = .ok (.imul, 1) := by decide +kernel
theorem dX12_lists_8 : decode cX12_lists 8 = .ok (.iconst 0, 1) := by decide +kernel
theorem dX12_lists_9 : decode cX12_lists 9 = .ok (.iastore, 1) := by decide +kernel
theorem dX12_lists_10 : decode cX12_lists 10 = .ok (.aload_n 0, 1) := by decide +kernel
theorem dX12_lists_11 : decode cX12_lists 11 = .ok (.getfield 134, 3) := by decide +kernel
theorem dX12_lists_14 : decode cX12_lists 14 = .ok (.iload_n 1, 1) := by decide +kernel
theorem dX12_lists_15 : decode cX12_lists 15 = .ok (.iconst 1, 1) := by decide +kernel
theorem dX12_lists_16 : decode cX12_lists 16 = .ok (.iastore, 1) := by decide +kernel
theorem dX12_lists_17 : decode cX12_lists 17 = .ok (.aload_n 0, 1) := by decide +kernel
theorem dX12_lists_18 : decode cX12_lists 18 = .ok (.aload_n 0, 1) := by decide +kernel
theorem dX12_lists_19 : decode cX12_lists 19 = .ok (.getfield 119, 3) := by decide +kernel
theorem dX12_lists_22 : decode cX12_lists 22 = .ok (.iload_n 2, 1) := by decide +kernel
theorem dX12_lists_23 : decode cX12_lists 23 = .ok (.iaload, 1) := by decide +kernel
theorem dX12_lists_24 : decode cX12_lists 24 = .ok (.invokevirtual 337, 3) := by decide +kernel
theorem dX12_lists_27 : decode cX12_lists 27 = .ok (.ifCond .eq 4, 3) := by decide +kernel
theorem dX12_lists_30 : decode cX12_lists 30 = .ok (.return_, 1) := by decide +kernel
theorem dX12_lists_31 : decode cX12_lists 31 = .ok (.iconst 0, 1) := by decide +kernel
theorem dX12_lists_32 : decode cX12_lists 32 = .ok (.istore_n 3, 1) := by decide +kernel
theorem dX12_lists_33 : decode cX12_lists 33 = .ok (.iload_n 3, 1) := by decide +kernel
theorem dX12_lists_34 : decode cX12_lists 34 = .ok (.bipush 6, 2) := by decide +kernel
theorem dX12_lists_36 : decode cX12_lists 36 = .ok (.if_icmp .ge 99, 3) := by decide +kernel
theorem dX12_lists_39 : decode cX12_lists 39 = .ok (.iconst 0, 1) := by decide +kernel
theorem dX12_lists_40 : decode cX12_lists 40 = .ok (.istore 4, 2) := by decide +kernel
theorem dX12_lists_42 : decode cX12_lists 42 = .ok (.iconst 1, 1) := by decide +kernel
theorem dX12_lists_43 : decode cX12_lists 43 = .ok (.istore 5, 2) := by decide +kernel
theorem dX12_lists_45 : decode cX12_lists 45 = .ok (.iload 5, 2) := by decide +kernel
theorem dX12_lists_47 : decode cX12_lists 47 = .ok (.aload_n 0, 1) := by decide +kernel
theorem dX12_lists_48 : decode cX12_lists 48 = .ok (.getfield 125, 3) := by decide +kernel
theorem dX12_lists_51 : decode cX12_lists 51 = .ok (.iload_n 2, 1) := by decide +kernel
theorem dX12_lists_52 : decode cX12_lists 52 = .ok (.iaload, 1) := by decide +kernel
theorem dX12_lists_53 : decode cX12_lists 53 = .ok (.if_icmp .gt 76, 3) := by decide +kernel
theorem dX12_lists_56 : decode cX12_lists 56 = .ok (.iload_n 3, 1) := by decide +kernel
theorem dX12_lists_57 : decode cX12_lists 57 = .ok (.iload 5, 2) := by decide +kernel
theorem dX12_lists_59 : decode cX12_lists 59 = .ok (.iadd, 1) := by decide +kernel
theorem dX12_lists_60 : decode cX12_lists 60 = .ok (.bipush 6, 2) := by decide +kernel
theorem dX12_lists_62 : decode cX12_lists 62 = .ok (.if_icmp .gt 67, 3) := by decide +kernel
theorem dX12_lists_65 : decode cX12_lists 65 = .ok (.iload 4, 2) := by decide +kernel
theorem dX12_lists_67 : decode cX12_lists 67 = .ok (.iconst 1, 1) := by decide +kernel
theorem dX12_lists_68 : decode cX12_lists 68 = .ok (.iload_n 3, 1) := by decide +kernel
theorem dX12_lists_69 : decode cX12_lists 69 = .ok (.iload 5, 2) := by decide +kernel
theorem dX12_lists_71 : decode cX12_lists 71 = .ok (.iadd, 1) := by decide +kernel
theorem dX12_lists_72 : decode cX12_lists 72 = .ok (.iconst 1, 1) := by decide +kernel
theorem dX12_lists_73 : decode cX12_lists 73 = .ok (.isub, 1) := by decide +kernel
theorem dX12_lists_74 : decode cX12_lists 74 = .ok (.ishl, 1) := by decide +kernel
theorem dX12_lists_75 : decode cX12_lists 75 = .ok (.ior, 1) := by decide +kernel
theorem dX12_lists_76 : decode cX12_lists 76 = .ok (.istore 4, 2) := by decide +kernel
theorem dX12_lists_78 : decode cX12_lists 78 = .ok (.aload_n 0, 1) := by decide +kernel
theorem dX12_lists_79 : decode cX12_lists 79 = .ok (.getfield 122, 3) := by decide +kernel
theorem dX12_lists_82 : decode cX12_lists 82 = .ok (.iload_n 2, 1) := by decide +kernel
theorem dX12_lists_83 : decode cX12_lists 83 = .ok (.iaload, 1) := by decide +kernel
theorem dX12_lists_84 : decode cX12_lists 84 = .ok (.iload 4, 2) := by decide +kernel
theorem dX12_lists_86 : decode cX12_lists 86 = .ok (.iand, 1) := by decide +kernel
theorem dX12_lists_87 : decode cX12_lists 87 = .ok (.iload 4, 2) := by decide +kernel
theorem dX12_lists_89 : decode cX12_lists 89 = .ok (.if_icmp .eq 6, 3) := by decide +kernel
theorem dX12_lists_92 : decode cX12_lists 92 = .ok (.goto 37, 3) := by decide +kernel
theorem dX12_lists_95 : decode cX12_lists 95 = .ok (.aload_n 0, 1) := by decide +kernel
theorem dX12_lists_96 : decode cX12_lists 96 = .ok (.getfield 137, 3) := by decide +kernel
theorem dX12_lists_99 : decode cX12_lists 99 = .ok (.bipush 20, 2) := by decide +kernel
theorem dX12_lists_101 : decode cX12_lists 101 = .ok (.iload_n 1, 1) := by decide +kernel
theorem dX12_lists_102 : decode cX12_lists 102 = .ok (.imul, 1) := by decide +kernel
theorem dX12_lists_103 : decode cX12_lists 103 = .ok (.aload_n 0, 1) := by decide +kernel
theorem dX12_lists_104 : decode cX12_lists 104 = .ok (.getfield 134, 3) := by decide +kernel
theorem dX12_lists_107 : decode cX12_lists 107 = .ok (.iload_n 1, 1) := by decide +kernel
theorem dX12_lists_108 : decode cX12_lists 108 = .ok (.iaload, 1) := by decide +kernel
theorem dX12_lists_109 : decode cX12_lists 109 = .ok (.iadd, 1) := by decide +kernel
theorem dX12_lists_110 : decode cX12_lists 110 = .ok (.iload 4, 2) := by decide +kernel
theorem dX12_lists_112 : decode cX12_lists 112 = .ok (.iastore, 1) := by decide +kernel
theorem dX12_lists_113 : decode cX12_lists 113 = .ok (.aload_n 0, 1) := by decide +kernel
theorem dX12_lists_114 : decode cX12_lists 114 = .ok (.getfield 134, 3) := by decide +kernel
theorem dX12_lists_117 : decode cX12_lists 117 = .ok (.iload_n 1, 1) := by decide +kernel
theorem dX12_lists_118 : decode cX12_lists 118 = .ok (.dup2, 1) := by decide +kernel
theorem dX12_lists_119 : decode cX12_lists 119 = .ok (.iaload, 1) := by decide +kernel
theorem dX12_lists_120 : decode cX12_lists 120 = .ok (.iconst 1, 1) := by decide +kernel
theorem dX12_lists_121 : decode cX12_lists 121 = .ok (.iadd, 1) := by decide +kernel
theorem dX12_lists_122 : decode cX12_lists 122 = .ok (.iastore, 1) := by decide +kernel
theorem dX12_lists_123 : decode cX12_lists 123 = .ok (.iinc 5 1, 3) := by decide +kernel
theorem dX12_lists_126 : decode cX12_lists 126 = .ok (.goto (-81), 3) := by decide +kernel
theorem dX12_lists_129 : decode cX12_lists 129 = .ok (.iinc 3 1, 3) := by decide +kernel
theorem dX12_lists_132 : decode cX12_lists 132 = .ok (.goto (-99), 3) := by decide +kernel
theorem dX12_lists_135 : decode cX12_lists 135 = .ok (.return_, 1) := by decide +kernel
theorem dX12_bits_0 : decode cX12_bits 0 = .ok (.iconst 0, 1) := by decide +kernel
theorem dX12_bits_1 : decode cX12_bits 1 = .ok (.istore_n 1, 1) := by decide +kernel
theorem dX12_bits_2 : decode cX12_bits 2 = .ok (.iconst 0, 1) := by decide +kernel
theorem dX12_bits_3 : decode cX12_bits 3 = .ok (.istore_n 2, 1) := by decide +kernel
theorem dX12_bits_4 : decode cX12_bits 4 = .ok (.iload_n 2, 1) := by decide +kernel
theorem dX12_bits_5 : decode cX12_bits 5 = .ok (.bipush 6, 2) := by decide +kernel
theorem dX12_bits_7 : decode cX12_bits 7 = .ok (.if_icmp .ge 17, 3) := by decide +kernel
theorem dX12_bits_10 : decode cX12_bits 10 = .ok (.iload_n 1, 1) := by decide +kernel
theorem dX12_bits_11 : decode cX12_bits 11 = .ok (.iload_n 0, 1) := by decide +kernel
theorem dX12_bits_12 : decode cX12_bits 12 = .ok (.iload_n 2, 1) := by decide +kernel
theorem dX12_bits_13 : decode cX12_bits 13 = .ok (.ishr, 1) := by decide +kernel
theorem dX12_bits_14 : decode cX12_bits 14 = .ok (.iconst 1, 1) := by decide +kernel
theorem dX12_bits_15 : decode cX12_bits 15 = .ok (.iand, 1) := by decide +kernel
theorem dX12_bits_16 : decode cX12_bits 16 = .ok (.iadd, 1) := by decide +kernel
theorem dX12_bits_17 : decode cX12_bits 17 = .ok (.istore_n 1, 1) := by decide +kernel
theorem dX12_bits_18 : decode cX12_bits 18 = .ok (.iinc 2 1, 3) := by decide +kernel
theorem dX12_bits_21 : decode cX12_bits 21 = .ok (.goto (-17), 3) := by decide +kernel
theorem dX12_bits_24 : decode cX12_bits 24 = .ok (.iload_n 1, 1) := by decide +kernel
theorem dX12_bits_25 : decode cX12_bits 25 = .ok (.ireturn, 1) := by decide +kernel
theorem dX12_keeps_0 : decode cX12_keeps 0 = .ok (.iconst 0, 1) := by decide +kernel
theorem dX12_keeps_1 : decode cX12_keeps 1 = .ok (.istore_n 3, 1) := by decide +kernel
theorem dX12_keeps_2 : decode cX12_keeps 2 = .ok (.iconst 0, 1) := by decide +kernel
theorem dX12_keeps_3 : decode cX12_keeps 3 = .ok (.istore 4, 2) := by decide +kernel
theorem dX12_keeps_5 : decode cX12_keeps 5 = .ok (.iconst 0, 1) := by decide +kernel
theorem dX12_keeps_6 : decode cX12_keeps 6 = .ok (.istore 5, 2) := by decide +kernel
theorem dX12_keeps_8 : decode cX12_keeps 8 = .ok (.iconst 0, 1) := by decide +kernel
theorem dX12_keeps_9 : decode cX12_keeps 9 = .ok (.istore 6, 2) := by decide +kernel
theorem dX12_keeps_11 : decode cX12_keeps 11 = .ok (.iload 6, 2) := by decide +kernel
theorem dX12_keeps_13 : decode cX12_keeps 13 = .ok (.iload_n 1, 1) := by decide +kernel
theorem dX12_keeps_14 : decode cX12_keeps 14 = .ok (.if_icmp .ge 60, 3) := by decide +kernel
theorem dX12_keeps_17 : decode cX12_keeps 17 = .ok (.aload_n 0, 1) := by decide +kernel
theorem dX12_keeps_18 : decode cX12_keeps 18 = .ok (.getfield 137, 3) := by decide +kernel
theorem dX12_keeps_21 : decode cX12_keeps 21 = .ok (.bipush 20, 2) := by decide +kernel
theorem dX12_keeps_23 : decode cX12_keeps 23 = .ok (.iload 6, 2) := by decide +kernel
theorem dX12_keeps_25 : decode cX12_keeps 25 = .ok (.imul, 1) := by decide +kernel
theorem dX12_keeps_26 : decode cX12_keeps 26 = .ok (.aload_n 0, 1) := by decide +kernel
theorem dX12_keeps_27 : decode cX12_keeps 27 = .ok (.getfield 140, 3) := by decide +kernel
theorem dX12_keeps_30 : decode cX12_keeps 30 = .ok (.iload 6, 2) := by decide +kernel
theorem dX12_keeps_32 : decode cX12_keeps 32 = .ok (.iaload, 1) := by decide +kernel
theorem dX12_keeps_33 : decode cX12_keeps 33 = .ok (.iadd, 1) := by decide +kernel
theorem dX12_keeps_34 : decode cX12_keeps 34 = .ok (.iaload, 1) := by decide +kernel
theorem dX12_keeps_35 : decode cX12_keeps 35 = .ok (.istore 7, 2) := by decide +kernel
theorem dX12_keeps_37 : decode cX12_keeps 37 = .ok (.iload 4, 2) := by decide +kernel
theorem dX12_keeps_39 : decode cX12_keeps 39 = .ok (.iload_n 3, 1) := by decide +kernel
theorem dX12_keeps_40 : decode cX12_keeps 40 = .ok (.iload 7, 2) := by decide +kernel
theorem dX12_keeps_42 : decode cX12_keeps 42 = .ok (.iand, 1) := by decide +kernel
theorem dX12_keeps_43 : decode cX12_keeps 43 = .ok (.ior, 1) := by decide +kernel
theorem dX12_keeps_44 : decode cX12_keeps 44 = .ok (.istore 4, 2) := by decide +kernel
theorem dX12_keeps_46 : decode cX12_keeps 46 = .ok (.iload_n 3, 1) := by decide +kernel
theorem dX12_keeps_47 : decode cX12_keeps 47 = .ok (.iload 7, 2) := by decide +kernel
theorem dX12_keeps_49 : decode cX12_keeps 49 = .ok (.ior, 1) := by decide +kernel
theorem dX12_keeps_50 : decode cX12_keeps 50 = .ok (.istore_n 3, 1) := by decide +kernel
theorem dX12_keeps_51 : decode cX12_keeps 51 = .ok (.iload_n 2, 1) := by decide +kernel
theorem dX12_keeps_52 : decode cX12_keeps 52 = .ok (.iload 6, 2) := by decide +kernel
theorem dX12_keeps_54 : decode cX12_keeps 54 = .ok (.ishr, 1) := by decide +kernel
theorem dX12_keeps_55 : decode cX12_keeps 55 = .ok (.iconst 1, 1) := by decide +kernel
theorem dX12_keeps_56 : decode cX12_keeps 56 = .ok (.iand, 1) := by decide +kernel
theorem dX12_keeps_57 : decode cX12_keeps 57 = .ok (.iconst 1, 1) := by decide +kernel
theorem dX12_keeps_58 : decode cX12_keeps 58 = .ok (.if_icmp .ne 10, 3) := by decide +kernel
theorem dX12_keeps_61 : decode cX12_keeps 61 = .ok (.iload 5, 2) := by decide +kernel
theorem dX12_keeps_63 : decode cX12_keeps 63 = .ok (.iload 7, 2) := by decide +kernel
theorem dX12_keeps_65 : decode cX12_keeps 65 = .ok (.ior, 1) := by decide +kernel
theorem dX12_keeps_66 : decode cX12_keeps 66 = .ok (.istore 5, 2) := by decide +kernel
theorem dX12_keeps_68 : decode cX12_keeps 68 = .ok (.iinc 6 1, 3) := by decide +kernel
theorem dX12_keeps_71 : decode cX12_keeps 71 = .ok (.goto (-60), 3) := by decide +kernel
theorem dX12_keeps_74 : decode cX12_keeps 74 = .ok (.iload 4, 2) := by decide +kernel
theorem dX12_keeps_76 : decode cX12_keeps 76 = .ok (.iload 5, 2) := by decide +kernel
theorem dX12_keeps_78 : decode cX12_keeps 78 = .ok (.iand, 1) := by decide +kernel
theorem dX12_keeps_79 : decode cX12_keeps 79 = .ok (.ireturn, 1) := by decide +kernel
theorem dX12_shifts_0 : decode cX12_shifts 0 = .ok (.aload_n 0, 1) := by decide +kernel
theorem dX12_shifts_1 : decode cX12_shifts 1 = .ok (.getfield 113, 3) := by decide +kernel
theorem dX12_shifts_4 : decode cX12_shifts 4 = .ok (.aload_n 0, 1) := by decide +kernel
theorem dX12_shifts_5 : decode cX12_shifts 5 = .ok (.getfield 327, 3) := by decide +kernel
theorem dX12_shifts_8 : decode cX12_shifts 8 = .ok (.baload, 1) := by decide +kernel
theorem dX12_shifts_9 : decode cX12_shifts 9 = .ok (.ifCond .ne 15, 3) := by decide +kernel
theorem dX12_shifts_12 : decode cX12_shifts 12 = .ok (.aload_n 0, 1) := by decide +kernel
theorem dX12_shifts_13 : decode cX12_shifts 13 = .ok (.getfield 110, 3) := by decide +kernel
theorem dX12_shifts_16 : decode cX12_shifts 16 = .ok (.aload_n 0, 1) := by decide +kernel
theorem dX12_shifts_17 : decode cX12_shifts 17 = .ok (.getfield 327, 3) := by decide +kernel
theorem dX12_shifts_20 : decode cX12_shifts 20 = .ok (.baload, 1) := by decide +kernel
theorem dX12_shifts_21 : decode cX12_shifts 21 = .ok (.ifCond .eq 5, 3) := by decide +kernel
theorem dX12_shifts_24 : decode cX12_shifts 24 = .ok (.iconst (-1), 1) := by decide +kernel
theorem dX12_shifts_25 : decode cX12_shifts 25 = .ok (.ireturn, 1) := by decide +kernel
theorem dX12_shifts_26 : decode cX12_shifts 26 = .ok (.aload_n 0, 1) := by decide +kernel
theorem dX12_shifts_27 : decode cX12_shifts 27 = .ok (.getfield 116, 3) := by decide +kernel
theorem dX12_shifts_30 : decode cX12_shifts 30 = .ok (.aload_n 0, 1) := by decide +kernel
theorem dX12_shifts_31 : decode cX12_shifts 31 = .ok (.getfield 327, 3) := by decide +kernel
theorem dX12_shifts_34 : decode cX12_shifts 34 = .ok (.iaload, 1) := by decide +kernel
theorem dX12_shifts_35 : decode cX12_shifts 35 = .ok (.istore_n 1, 1) := by decide +kernel
theorem dX12_shifts_36 : decode cX12_shifts 36 = .ok (.iconst 0, 1) := by decide +kernel
theorem dX12_shifts_37 : decode cX12_shifts 37 = .ok (.istore_n 2, 1) := by decide +kernel
theorem dX12_shifts_38 : decode cX12_shifts 38 = .ok (.iconst 0, 1) := by decide +kernel
theorem dX12_shifts_39 : decode cX12_shifts 39 = .ok (.istore_n 3, 1) := by decide +kernel
theorem dX12_shifts_40 : decode cX12_shifts 40 = .ok (.iload_n 3, 1) := by decide +kernel
theorem dX12_shifts_41 : decode cX12_shifts 41 = .ok (.iload_n 1, 1) := by decide +kernel
theorem dX12_shifts_42 : decode cX12_shifts 42 = .ok (.if_icmp .ge 67, 3) := by decide +kernel
theorem dX12_shifts_45 : decode cX12_shifts 45 = .ok (.aload_n 0, 1) := by decide +kernel
theorem dX12_shifts_46 : decode cX12_shifts 46 = .ok (.iload_n 3, 1) := by decide +kernel
theorem dX12_shifts_47 : decode cX12_shifts 47 = .ok (.iconst 5, 1) := by decide +kernel
theorem dX12_shifts_48 : decode cX12_shifts 48 = .ok (.aload_n 0, 1) := by decide +kernel
theorem dX12_shifts_49 : decode cX12_shifts 49 = .ok (.getfield 327, 3) := by decide +kernel
theorem dX12_shifts_52 : decode cX12_shifts 52 = .ok (.imul, 1) := by decide +kernel
theorem dX12_shifts_53 : decode cX12_shifts 53 = .ok (.iload_n 3, 1) := by decide +kernel
theorem dX12_shifts_54 : decode cX12_shifts 54 = .ok (.iadd, 1) := by decide +kernel
theorem dX12_shifts_55 : decode cX12_shifts 55 = .ok (.invokevirtual 340, 3) := by decide +kernel
theorem dX12_shifts_58 : decode cX12_shifts 58 = .ok (.aload_n 0, 1) := by decide +kernel
theorem dX12_shifts_59 : decode cX12_shifts 59 = .ok (.getfield 140, 3) := by decide +kernel
theorem dX12_shifts_62 : decode cX12_shifts 62 = .ok (.iload_n 3, 1) := by decide +kernel
theorem dX12_shifts_63 : decode cX12_shifts 63 = .ok (.iconst 0, 1) := by decide +kernel
theorem dX12_shifts_64 : decode cX12_shifts 64 = .ok (.iastore, 1) := by decide +kernel
theorem dX12_shifts_65 : decode cX12_shifts 65 = .ok (.aload_n 0, 1) := by decide +kernel
theorem dX12_shifts_66 : decode cX12_shifts 66 = .ok (.getfield 321, 3) := by decide +kernel
theorem dX12_shifts_69 : decode cX12_shifts 69 = .ok (.ifCond .le 34, 3) := by decide +kernel
theorem dX12_shifts_72 : decode cX12_shifts 72 = .ok (.aload_n 0, 1) := by decide +kernel
theorem dX12_shifts_73 : decode cX12_shifts 73 = .ok (.aload_n 0, 1) := by decide +kernel
theorem dX12_shifts_74 : decode cX12_shifts 74 = .ok (.getfield 119, 3) := by decide +kernel
theorem dX12_shifts_77 : decode cX12_shifts 77 = .ok (.iconst 5, 1) := by decide +kernel
theorem dX12_shifts_78 : decode cX12_shifts 78 = .ok (.aload_n 0, 1) := by decide +kernel
theorem dX12_shifts_79 : decode cX12_shifts 79 = .ok (.getfield 327, 3) := by decide +kernel
theorem dX12_shifts_82 : decode cX12_shifts 82 = .ok (.imul, 1) := by decide +kernel
theorem dX12_shifts_83 : decode cX12_shifts 83 = .ok (.iload_n 3, 1) := by decide +kernel
theorem dX12_shifts_84 : decode cX12_shifts 84 = .ok (.iadd, 1) := by decide +kernel
theorem dX12_shifts_85 : decode cX12_shifts 85 = .ok (.iaload, 1) := by decide +kernel
theorem dX12_shifts_86 : decode cX12_shifts 86 = .ok (.iconst 0, 1) := by decide +kernel
theorem dX12_shifts_87 : decode cX12_shifts 87 = .ok (.aload_n 0, 1) := by decide +kernel
theorem dX12_shifts_88 : decode cX12_shifts 88 = .ok (.getfield 327, 3) := by decide +kernel
theorem dX12_shifts_91 : decode cX12_shifts 91 = .ok (.invokevirtual 330, 3) := by decide +kernel
theorem dX12_shifts_94 : decode cX12_shifts 94 = .ok (.ifCond .eq 9, 3) := by decide +kernel
theorem dX12_shifts_97 : decode cX12_shifts 97 = .ok (.iload_n 2, 1) := by decide +kernel
theorem dX12_shifts_98 : decode cX12_shifts 98 = .ok (.iconst 1, 1) := by decide +kernel
theorem dX12_shifts_99 : decode cX12_shifts 99 = .ok (.iload_n 3, 1) := by decide +kernel
theorem dX12_shifts_100 : decode cX12_shifts 100 = .ok (.ishl, 1) := by decide +kernel
theorem dX12_shifts_101 : decode cX12_shifts 101 = .ok (.ior, 1) := by decide +kernel
theorem dX12_shifts_102 : decode cX12_shifts 102 = .ok (.istore_n 2, 1) := by decide +kernel
theorem dX12_shifts_103 : decode cX12_shifts 103 = .ok (.iinc 3 1, 3) := by decide +kernel
theorem dX12_shifts_106 : decode cX12_shifts 106 = .ok (.goto (-66), 3) := by decide +kernel
theorem dX12_shifts_109 : decode cX12_shifts 109 = .ok (.iconst (-1), 1) := by decide +kernel
theorem dX12_shifts_110 : decode cX12_shifts 110 = .ok (.istore_n 3, 1) := by decide +kernel
theorem dX12_shifts_111 : decode cX12_shifts 111 = .ok (.iconst 0, 1) := by decide +kernel
theorem dX12_shifts_112 : decode cX12_shifts 112 = .ok (.istore 4, 2) := by decide +kernel
theorem dX12_shifts_114 : decode cX12_shifts 114 = .ok (.iconst 1, 1) := by decide +kernel
theorem dX12_shifts_115 : decode cX12_shifts 115 = .ok (.istore 5, 2) := by decide +kernel
theorem dX12_shifts_117 : decode cX12_shifts 117 = .ok (.iload 5, 2) := by decide +kernel
theorem dX12_shifts_119 : decode cX12_shifts 119 = .ok (.ifCond .eq 187, 3) := by decide +kernel
theorem dX12_shifts_122 : decode cX12_shifts 122 = .ok (.aload_n 0, 1) := by decide +kernel
theorem dX12_shifts_123 : decode cX12_shifts 123 = .ok (.iload_n 1, 1) := by decide +kernel
theorem dX12_shifts_124 : decode cX12_shifts 124 = .ok (.iload_n 2, 1) := by decide +kernel
theorem dX12_shifts_125 : decode cX12_shifts 125 = .ok (.invokevirtual 343, 3) := by decide +kernel
theorem dX12_shifts_128 : decode cX12_shifts 128 = .ok (.invokestatic 347, 3) := by decide +kernel
theorem dX12_shifts_131 : decode cX12_shifts 131 = .ok (.istore 6, 2) := by decide +kernel
theorem dX12_shifts_133 : decode cX12_shifts 133 = .ok (.iconst 0, 1) := by decide +kernel
theorem dX12_shifts_134 : decode cX12_shifts 134 = .ok (.istore 7, 2) := by decide +kernel
theorem dX12_shifts_136 : decode cX12_shifts 136 = .ok (.iconst 0, 1) := by decide +kernel
theorem dX12_shifts_137 : decode cX12_shifts 137 = .ok (.istore 8, 2) := by decide +kernel
theorem dX12_shifts_139 : decode cX12_shifts 139 = .ok (.iload 8, 2) := by decide +kernel
theorem dX12_shifts_141 : decode cX12_shifts 141 = .ok (.iload_n 1, 1) := by decide +kernel
theorem dX12_shifts_142 : decode cX12_shifts 142 = .ok (.if_icmp .ge 35, 3) := by decide +kernel
theorem dX12_shifts_145 : decode cX12_shifts 145 = .ok (.iload 7, 2) := by decide +kernel
theorem dX12_shifts_147 : decode cX12_shifts 147 = .ok (.aload_n 0, 1) := by decide +kernel
theorem dX12_shifts_148 : decode cX12_shifts 148 = .ok (.getfield 137, 3) := by decide +kernel
theorem dX12_shifts_151 : decode cX12_shifts 151 = .ok (.bipush 20, 2) := by decide +kernel
theorem dX12_shifts_153 : decode cX12_shifts 153 = .ok (.iload 8, 2) := by decide +kernel
theorem dX12_shifts_155 : decode cX12_shifts 155 = .ok (.imul, 1) := by decide +kernel
theorem dX12_shifts_156 : decode cX12_shifts 156 = .ok (.aload_n 0, 1) := by decide +kernel
theorem dX12_shifts_157 : decode cX12_shifts 157 = .ok (.getfield 140, 3) := by decide +kernel
theorem dX12_shifts_160 : decode cX12_shifts 160 = .ok (.iload 8, 2) := by decide +kernel
theorem dX12_shifts_162 : decode cX12_shifts 162 = .ok (.iaload, 1) := by decide +kernel
theorem dX12_shifts_163 : decode cX12_shifts 163 = .ok (.iadd, 1) := by decide +kernel
theorem dX12_shifts_164 : decode cX12_shifts 164 = .ok (.iaload, 1) := by decide +kernel
theorem dX12_shifts_165 : decode cX12_shifts 165 = .ok (.invokestatic 347, 3) := by decide +kernel
theorem dX12_shifts_168 : decode cX12_shifts 168 = .ok (.iadd, 1) := by decide +kernel
theorem dX12_shifts_169 : decode cX12_shifts 169 = .ok (.istore 7, 2) := by decide +kernel
theorem dX12_shifts_171 : decode cX12_shifts 171 = .ok (.iinc 8 1, 3) := by decide +kernel
theorem dX12_shifts_174 : decode cX12_shifts 174 = .ok (.goto (-35), 3) := by decide +kernel
theorem dX12_shifts_177 : decode cX12_shifts 177 = .ok (.iload 6, 2) := by decide +kernel
theorem dX12_shifts_179 : decode cX12_shifts 179 = .ok (.iload_n 3, 1) := by decide +kernel
theorem dX12_shifts_180 : decode cX12_shifts 180 = .ok (.if_icmp .gt 16, 3) := by decide +kernel
theorem dX12_shifts_183 : decode cX12_shifts 183 = .ok (.iload 6, 2) := by decide +kernel
theorem dX12_shifts_185 : decode cX12_shifts 185 = .ok (.iload_n 3, 1) := by decide +kernel
theorem dX12_shifts_186 : decode cX12_shifts 186 = .ok (.if_icmp .ne 46, 3) := by decide +kernel
theorem dX12_shifts_189 : decode cX12_shifts 189 = .ok (.iload 7, 2) := by decide +kernel
theorem dX12_shifts_191 : decode cX12_shifts 191 = .ok (.iload 4, 2) := by decide +kernel
theorem dX12_shifts_193 : decode cX12_shifts 193 = .ok (.if_icmp .ge 39, 3) := by decide +kernel
theorem dX12_shifts_196 : decode cX12_shifts 196 = .ok (.iload 6, 2) := by decide +kernel
theorem dX12_shifts_198 : decode cX12_shifts 198 = .ok (.istore_n 3, 1) := by decide +kernel
theorem dX12_shifts_199 : decode cX12_shifts 199 = .ok (.iload 7, 2) := by decide +kernel
theorem dX12_shifts_201 : decode cX12_shifts 201 = .ok (.istore 4, 2) := by decide +kernel
theorem dX12_shifts_203 : decode cX12_shifts 203 = .ok (.iconst 0, 1) := by decide +kernel
theorem dX12_shifts_204 : decode cX12_shifts 204 = .ok (.istore 8, 2) := by decide +kernel
theorem dX12_shifts_206 : decode cX12_shifts 206 = .ok (.iload 8, 2) := by decide +kernel
theorem dX12_shifts_208 : decode cX12_shifts 208 = .ok (.iload_n 1, 1) := by decide +kernel
theorem dX12_shifts_209 : decode cX12_shifts 209 = .ok (.if_icmp .ge 23, 3) := by decide +kernel
theorem dX12_shifts_212 : decode cX12_shifts 212 = .ok (.aload_n 0, 1) := by decide +kernel
theorem dX12_shifts_213 : decode cX12_shifts 213 = .ok (.getfield 143, 3) := by decide +kernel
theorem dX12_shifts_216 : decode cX12_shifts 216 = .ok (.iload 8, 2) := by decide +kernel
theorem dX12_shifts_218 : decode cX12_shifts 218 = .ok (.aload_n 0, 1) := by decide +kernel
theorem dX12_shifts_219 : decode cX12_shifts 219 = .ok (.getfield 140, 3) := by decide +kernel
theorem dX12_shifts_222 : decode cX12_shifts 222 = .ok (.iload 8, 2) := by decide +kernel
theorem dX12_shifts_224 : decode cX12_shifts 224 = .ok (.iaload, 1) := by decide +kernel
theorem dX12_shifts_225 : decode cX12_shifts 225 = .ok (.iastore, 1) := by decide +kernel
theorem dX12_shifts_226 : decode cX12_shifts 226 = .ok (.iinc 8 1, 3) := by decide +kernel
theorem dX12_shifts_229 : decode cX12_shifts 229 = .ok (.goto (-23), 3) := by decide +kernel
theorem dX12_shifts_232 : decode cX12_shifts 232 = .ok (.iload_n 1, 1) := by decide +kernel
theorem dX12_shifts_233 : decode cX12_shifts 233 = .ok (.iconst 1, 1) := by decide +kernel
theorem dX12_shifts_234 : decode cX12_shifts 234 = .ok (.isub, 1) := by decide +kernel
theorem dX12_shifts_235 : decode cX12_shifts 235 = .ok (.istore 8, 2) := by decide +kernel
theorem dX12_shifts_237 : decode cX12_shifts 237 = .ok (.iload 8, 2) := by decide +kernel
theorem dX12_shifts_239 : decode cX12_shifts 239 = .ok (.ifCond .lt 36, 3) := by decide +kernel
theorem dX12_shifts_242 : decode cX12_shifts 242 = .ok (.aload_n 0, 1) := by decide +kernel
theorem dX12_shifts_243 : decode cX12_shifts 243 = .ok (.getfield 140, 3) := by decide +kernel
theorem dX12_shifts_246 : decode cX12_shifts 246 = .ok (.iload 8, 2) := by decide +kernel
theorem dX12_shifts_248 : decode cX12_shifts 248 = .ok (.iaload, 1) := by decide +kernel
theorem dX12_shifts_249 : decode cX12_shifts 249 = .ok (.aload_n 0, 1) := by decide +kernel
theorem dX12_shifts_250 : decode cX12_shifts 250 = .ok (.getfield 134, 3) := by decide +kernel
theorem dX12_shifts_253 : decode cX12_shifts 253 = .ok (.iload 8, 2) := by decide +kernel
theorem dX12_shifts_255 : decode cX12_shifts 255 = .ok (.iaload, 1) := by decide +kernel
theorem dX12_shifts_256 : decode cX12_shifts 256 = .ok (.iconst 1, 1) := by decide +kernel
theorem dX12_shifts_257 : decode cX12_shifts 257 = .ok (.isub, 1) := by decide +kernel
theorem dX12_shifts_258 : decode cX12_shifts 258 = .ok (.if_icmp .ne 17, 3) := by decide +kernel
theorem dX12_shifts_261 : decode cX12_shifts 261 = .ok (.aload_n 0, 1) := by decide +kernel
theorem dX12_shifts_262 : decode cX12_shifts 262 = .ok (.getfield 140, 3) := by decide +kernel
theorem dX12_shifts_265 : decode cX12_shifts 265 = .ok (.iload 8, 2) := by decide +kernel
theorem dX12_shifts_267 : decode cX12_shifts 267 = .ok (.iconst 0, 1) := by decide +kernel
theorem dX12_shifts_268 : decode cX12_shifts 268 = .ok (.iastore, 1) := by decide +kernel
theorem dX12_shifts_269 : decode cX12_shifts 269 = .ok (.iinc 8 (-1), 3) := by decide +kernel
theorem dX12_shifts_272 : decode cX12_shifts 272 = .ok (.goto (-35), 3) := by decide +kernel
theorem dX12_shifts_275 : decode cX12_shifts 275 = .ok (.iload 8, 2) := by decide +kernel
theorem dX12_shifts_277 : decode cX12_shifts 277 = .ok (.ifCond .lt 7, 3) := by decide +kernel
theorem dX12_shifts_280 : decode cX12_shifts 280 = .ok (.iconst 1, 1) := by decide +kernel
theorem dX12_shifts_281 : decode cX12_shifts 281 = .ok (.goto 4, 3) := by decide +kernel
theorem dX12_shifts_284 : decode cX12_shifts 284 = .ok (.iconst 0, 1) := by decide +kernel
theorem dX12_shifts_285 : decode cX12_shifts 285 = .ok (.istore 5, 2) := by decide +kernel
theorem dX12_shifts_287 : decode cX12_shifts 287 = .ok (.iload 5, 2) := by decide +kernel
theorem dX12_shifts_289 : decode cX12_shifts 289 = .ok (.ifCond .eq 14, 3) := by decide +kernel
theorem dX12_shifts_292 : decode cX12_shifts 292 = .ok (.aload_n 0, 1) := by decide +kernel
theorem dX12_shifts_293 : decode cX12_shifts 293 = .ok (.getfield 140, 3) := by decide +kernel
theorem dX12_shifts_296 : decode cX12_shifts 296 = .ok (.iload 8, 2) := by decide +kernel
theorem dX12_shifts_298 : decode cX12_shifts 298 = .ok (.dup2, 1) := by decide +kernel
theorem dX12_shifts_299 : decode cX12_shifts 299 = .ok (.iaload, 1) := by decide +kernel
theorem dX12_shifts_300 : decode cX12_shifts 300 = .ok (.iconst 1, 1) := by decide +kernel
theorem dX12_shifts_301 : decode cX12_shifts 301 = .ok (.iadd, 1) := by decide +kernel
theorem dX12_shifts_302 : decode cX12_shifts 302 = .ok (.iastore, 1) := by decide +kernel
theorem dX12_shifts_303 : decode cX12_shifts 303 = .ok (.goto (-186), 3) := by decide +kernel
theorem dX12_shifts_306 : decode cX12_shifts 306 = .ok (.iconst 0, 1) := by decide +kernel
theorem dX12_shifts_307 : decode cX12_shifts 307 = .ok (.istore 6, 2) := by decide +kernel
theorem dX12_shifts_309 : decode cX12_shifts 309 = .ok (.iload 6, 2) := by decide +kernel
theorem dX12_shifts_311 : decode cX12_shifts 311 = .ok (.iload_n 1, 1) := by decide +kernel
theorem dX12_shifts_312 : decode cX12_shifts 312 = .ok (.if_icmp .ge 68, 3) := by decide +kernel
theorem dX12_shifts_315 : decode cX12_shifts 315 = .ok (.aload_n 0, 1) := by decide +kernel
theorem dX12_shifts_316 : decode cX12_shifts 316 = .ok (.getfield 140, 3) := by decide +kernel
theorem dX12_shifts_319 : decode cX12_shifts 319 = .ok (.iload 6, 2) := by decide +kernel
theorem dX12_shifts_321 : decode cX12_shifts 321 = .ok (.aload_n 0, 1) := by decide +kernel
theorem dX12_shifts_322 : decode cX12_shifts 322 = .ok (.getfield 143, 3) := by decide +kernel
theorem dX12_shifts_325 : decode cX12_shifts 325 = .ok (.iload 6, 2) := by decide +kernel
theorem dX12_shifts_327 : decode cX12_shifts 327 = .ok (.iaload, 1) := by decide +kernel
theorem dX12_shifts_328 : decode cX12_shifts 328 = .ok (.iastore, 1) := by decide +kernel
theorem dX12_shifts_329 : decode cX12_shifts 329 = .ok (.aload_n 0, 1) := by decide +kernel
theorem dX12_shifts_330 : decode cX12_shifts 330 = .ok (.getfield 128, 3) := by decide +kernel
theorem dX12_shifts_333 : decode cX12_shifts 333 = .ok (.bipush 8, 2) := by decide +kernel
theorem dX12_shifts_335 : decode cX12_shifts 335 = .ok (.aload_n 0, 1) := by decide +kernel
theorem dX12_shifts_336 : decode cX12_shifts 336 = .ok (.getfield 327, 3) := by decide +kernel
theorem dX12_shifts_339 : decode cX12_shifts 339 = .ok (.imul, 1) := by decide +kernel
theorem dX12_shifts_340 : decode cX12_shifts 340 = .ok (.aload_n 0, 1) := by decide +kernel
theorem dX12_shifts_341 : decode cX12_shifts 341 = .ok (.getfield 119, 3) := by decide +kernel
theorem dX12_shifts_344 : decode cX12_shifts 344 = .ok (.iconst 5, 1) := by decide +kernel
theorem dX12_shifts_345 : decode cX12_shifts 345 = .ok (.aload_n 0, 1) := by decide +kernel
theorem dX12_shifts_346 : decode cX12_shifts 346 = .ok (.getfield 327, 3) := by decide +kernel
theorem dX12_shifts_349 : decode cX12_shifts 349 = .ok (.imul, 1) := by decide +kernel
theorem dX12_shifts_350 : decode cX12_shifts 350 = .ok (.iload 6, 2) := by decide +kernel
theorem dX12_shifts_352 : decode cX12_shifts 352 = .ok (.iadd, 1) := by decide +kernel
theorem dX12_shifts_353 : decode cX12_shifts 353 = .ok (.iaload, 1) := by decide +kernel
theorem dX12_shifts_354 : decode cX12_shifts 354 = .ok (.iadd, 1) := by decide +kernel
theorem dX12_shifts_355 : decode cX12_shifts 355 = .ok (.aload_n 0, 1) := by decide +kernel
theorem dX12_shifts_356 : decode cX12_shifts 356 = .ok (.getfield 137, 3) := by decide +kernel
theorem dX12_shifts_359 : decode cX12_shifts 359 = .ok (.bipush 20, 2) := by decide +kernel
theorem dX12_shifts_361 : decode cX12_shifts 361 = .ok (.iload 6, 2) := by decide +kernel
theorem dX12_shifts_363 : decode cX12_shifts 363 = .ok (.imul, 1) := by decide +kernel
theorem dX12_shifts_364 : decode cX12_shifts 364 = .ok (.aload_n 0, 1) := by decide +kernel
theorem dX12_shifts_365 : decode cX12_shifts 365 = .ok (.getfield 143, 3) := by decide +kernel
theorem dX12_shifts_368 : decode cX12_shifts 368 = .ok (.iload 6, 2) := by decide +kernel
theorem dX12_shifts_370 : decode cX12_shifts 370 = .ok (.iaload, 1) := by decide +kernel
theorem dX12_shifts_371 : decode cX12_shifts 371 = .ok (.iadd, 1) := by decide +kernel
theorem dX12_shifts_372 : decode cX12_shifts 372 = .ok (.iaload, 1) := by decide +kernel
theorem dX12_shifts_373 : decode cX12_shifts 373 = .ok (.iastore, 1) := by decide +kernel
theorem dX12_shifts_374 : decode cX12_shifts 374 = .ok (.iinc 6 1, 3) := by decide +kernel
theorem dX12_shifts_377 : decode cX12_shifts 377 = .ok (.goto (-68), 3) := by decide +kernel
theorem dX12_shifts_380 : decode cX12_shifts 380 = .ok (.aload_n 0, 1) := by decide +kernel
theorem dX12_shifts_381 : decode cX12_shifts 381 = .ok (.getfield 131, 3) := by decide +kernel
theorem dX12_shifts_384 : decode cX12_shifts 384 = .ok (.aload_n 0, 1) := by decide +kernel
theorem dX12_shifts_385 : decode cX12_shifts 385 = .ok (.getfield 327, 3) := by decide +kernel
theorem dX12_shifts_388 : decode cX12_shifts 388 = .ok (.aload_n 0, 1) := by decide +kernel
theorem dX12_shifts_389 : decode cX12_shifts 389 = .ok (.iload_n 1, 1) := by decide +kernel
theorem dX12_shifts_390 : decode cX12_shifts 390 = .ok (.iload_n 2, 1) := by decide +kernel
theorem dX12_shifts_391 : decode cX12_shifts 391 = .ok (.invokevirtual 343, 3) := by decide +kernel
theorem dX12_shifts_394 : decode cX12_shifts 394 = .ok (.iastore, 1) := by decide +kernel
theorem dX12_shifts_395 : decode cX12_shifts 395 = .ok (.aload_n 0, 1) := by decide +kernel
theorem dX12_shifts_396 : decode cX12_shifts 396 = .ok (.getfield 113, 3) := by decide +kernel
theorem dX12_shifts_399 : decode cX12_shifts 399 = .ok (.aload_n 0, 1) := by decide +kernel
theorem dX12_shifts_400 : decode cX12_shifts 400 = .ok (.getfield 327, 3) := by decide +kernel
theorem dX12_shifts_403 : decode cX12_shifts 403 = .ok (.iconst 1, 1) := by decide +kernel
theorem dX12_shifts_404 : decode cX12_shifts 404 = .ok (.bastore, 1) := by decide +kernel
theorem dX12_shifts_405 : decode cX12_shifts 405 = .ok (.iload_n 3, 1) := by decide +kernel
theorem dX12_shifts_406 : decode cX12_shifts 406 = .ok (.ireturn, 1) := by decide +kernel
theorem dX12_there_0 : decode cX12_there 0 = .ok (.aload_n 0, 1) := by decide +kernel
theorem dX12_there_1 : decode cX12_there 1 = .ok (.iload_n 1, 1) := by decide +kernel
theorem dX12_there_2 : decode cX12_there 2 = .ok (.invokevirtual 324, 3) := by decide +kernel
theorem dX12_there_5 : decode cX12_there 5 = .ok (.ifCond .eq 24, 3) := by decide +kernel
theorem dX12_there_8 : decode cX12_there 8 = .ok (.iload_n 2, 1) := by decide +kernel
theorem dX12_there_9 : decode cX12_there 9 = .ok (.invokestatic 334, 3) := by decide +kernel
theorem dX12_there_12 : decode cX12_there 12 = .ok (.ifCond .eq 17, 3) := by decide +kernel
theorem dX12_there_15 : decode cX12_there 15 = .ok (.aload_n 0, 1) := by decide +kernel
theorem dX12_there_16 : decode cX12_there 16 = .ok (.getfield 128, 3) := by decide +kernel
theorem dX12_there_19 : decode cX12_there 19 = .ok (.bipush 8, 2) := by decide +kernel
theorem dX12_there_21 : decode cX12_there 21 = .ok (.iload_n 2, 1) := by decide +kernel
theorem dX12_there_22 : decode cX12_there 22 = .ok (.imul, 1) := by decide +kernel
theorem dX12_there_23 : decode cX12_there 23 = .ok (.iload_n 1, 1) := by decide +kernel
theorem dX12_there_24 : decode cX12_there 24 = .ok (.iadd, 1) := by decide +kernel
theorem dX12_there_25 : decode cX12_there 25 = .ok (.iaload, 1) := by decide +kernel
theorem dX12_there_26 : decode cX12_there 26 = .ok (.goto 4, 3) := by decide +kernel
theorem dX12_there_29 : decode cX12_there 29 = .ok (.iconst (-1), 1) := by decide +kernel
theorem dX12_there_30 : decode cX12_there 30 = .ok (.ireturn, 1) := by decide +kernel
theorem dX12_lacks_0 : decode cX12_lacks 0 = .ok (.iload_n 1, 1) := by decide +kernel
theorem dX12_lacks_1 : decode cX12_lacks 1 = .ok (.invokestatic 334, 3) := by decide +kernel
theorem dX12_lacks_4 : decode cX12_lacks 4 = .ok (.ifCond .eq 26, 3) := by decide +kernel
theorem dX12_lacks_7 : decode cX12_lacks 7 = .ok (.aload_n 0, 1) := by decide +kernel
theorem dX12_lacks_8 : decode cX12_lacks 8 = .ok (.getfield 113, 3) := by decide +kernel
theorem dX12_lacks_11 : decode cX12_lacks 11 = .ok (.iload_n 1, 1) := by decide +kernel
theorem dX12_lacks_12 : decode cX12_lacks 12 = .ok (.baload, 1) := by decide +kernel
theorem dX12_lacks_13 : decode cX12_lacks 13 = .ok (.ifCond .eq 17, 3) := by decide +kernel
theorem dX12_lacks_16 : decode cX12_lacks 16 = .ok (.bipush 63, 2) := by decide +kernel
theorem dX12_lacks_18 : decode cX12_lacks 18 = .ok (.aload_n 0, 1) := by decide +kernel
theorem dX12_lacks_19 : decode cX12_lacks 19 = .ok (.getfield 131, 3) := by decide +kernel
theorem dX12_lacks_22 : decode cX12_lacks 22 = .ok (.iload_n 1, 1) := by decide +kernel
theorem dX12_lacks_23 : decode cX12_lacks 23 = .ok (.iaload, 1) := by decide +kernel
theorem dX12_lacks_24 : decode cX12_lacks 24 = .ok (.iconst (-1), 1) := by decide +kernel
theorem dX12_lacks_25 : decode cX12_lacks 25 = .ok (.ixor, 1) := by decide +kernel
theorem dX12_lacks_26 : decode cX12_lacks 26 = .ok (.iand, 1) := by decide +kernel
theorem dX12_lacks_27 : decode cX12_lacks 27 = .ok (.goto 4, 3) := by decide +kernel
theorem dX12_lacks_30 : decode cX12_lacks 30 = .ok (.iconst (-1), 1) := by decide +kernel
theorem dX12_lacks_31 : decode cX12_lacks 31 = .ok (.ireturn, 1) := by decide +kernel
theorem dX12_call_0 : decode cX12_call 0 = .ok (.aload_n 0, 1) := by decide +kernel
theorem dX12_call_1 : decode cX12_call 1 = .ok (.getfield 350, 3) := by decide +kernel
theorem dX12_call_4 : decode cX12_call 4 = .ok (.sipush 400, 3) := by decide +kernel
theorem dX12_call_7 : decode cX12_call 7 = .ok (.if_icmp .eq 71, 3) := by decide +kernel
theorem dX12_call_10 : decode cX12_call 10 = .ok (.aload_n 0, 1) := by decide +kernel
theorem dX12_call_11 : decode cX12_call 11 = .ok (.getfield 110, 3) := by decide +kernel
theorem dX12_call_14 : decode cX12_call 14 = .ok (.aload_n 0, 1) := by decide +kernel
theorem dX12_call_15 : decode cX12_call 15 = .ok (.getfield 327, 3) := by decide +kernel
theorem dX12_call_18 : decode cX12_call 18 = .ok (.baload, 1) := by decide +kernel
theorem dX12_call_19 : decode cX12_call 19 = .ok (.ifCond .ne 59, 3) := by decide +kernel
theorem dX12_call_22 : decode cX12_call 22 = .ok (.iload_n 1, 1) := by decide +kernel
theorem dX12_call_23 : decode cX12_call 23 = .ok (.ifCond .lt 55, 3) := by decide +kernel
theorem dX12_call_26 : decode cX12_call 26 = .ok (.iload_n 1, 1) := by decide +kernel
theorem dX12_call_27 : decode cX12_call 27 = .ok (.sipush 359, 3) := by decide +kernel
theorem dX12_call_30 : decode cX12_call 30 = .ok (.if_icmp .gt 48, 3) := by decide +kernel
theorem dX12_call_33 : decode cX12_call 33 = .ok (.iload_n 2, 1) := by decide +kernel
theorem dX12_call_34 : decode cX12_call 34 = .ok (.ifCond .lt 44, 3) := by decide +kernel
theorem dX12_call_37 : decode cX12_call 37 = .ok (.iload_n 2, 1) := by decide +kernel
theorem dX12_call_38 : decode cX12_call 38 = .ok (.bipush 19, 2) := by decide +kernel
theorem dX12_call_40 : decode cX12_call 40 = .ok (.if_icmp .gt 38, 3) := by decide +kernel
theorem dX12_call_43 : decode cX12_call 43 = .ok (.iload_n 3, 1) := by decide +kernel
theorem dX12_call_44 : decode cX12_call 44 = .ok (.ifCond .lt 34, 3) := by decide +kernel
theorem dX12_call_47 : decode cX12_call 47 = .ok (.iload_n 3, 1) := by decide +kernel
theorem dX12_call_48 : decode cX12_call 48 = .ok (.bipush 9, 2) := by decide +kernel
theorem dX12_call_50 : decode cX12_call 50 = .ok (.if_icmp .gt 28, 3) := by decide +kernel
theorem dX12_call_53 : decode cX12_call 53 = .ok (.iload 4, 2) := by decide +kernel
theorem dX12_call_55 : decode cX12_call 55 = .ok (.ifCond .lt 23, 3) := by decide +kernel
theorem dX12_call_58 : decode cX12_call 58 = .ok (.iload 4, 2) := by decide +kernel
theorem dX12_call_60 : decode cX12_call 60 = .ok (.bipush 7, 2) := by decide +kernel
theorem dX12_call_62 : decode cX12_call 62 = .ok (.if_icmp .gt 16, 3) := by decide +kernel
theorem dX12_call_65 : decode cX12_call 65 = .ok (.iload 5, 2) := by decide +kernel
theorem dX12_call_67 : decode cX12_call 67 = .ok (.iconst 1, 1) := by decide +kernel
theorem dX12_call_68 : decode cX12_call 68 = .ok (.if_icmp .lt 10, 3) := by decide +kernel
theorem dX12_call_71 : decode cX12_call 71 = .ok (.iload 5, 2) := by decide +kernel
theorem dX12_call_73 : decode cX12_call 73 = .ok (.bipush 90, 2) := by decide +kernel
theorem dX12_call_75 : decode cX12_call 75 = .ok (.if_icmp .le 5, 3) := by decide +kernel
theorem dX12_call_78 : decode cX12_call 78 = .ok (.iconst (-1), 1) := by decide +kernel
theorem dX12_call_79 : decode cX12_call 79 = .ok (.ireturn, 1) := by decide +kernel
theorem dX12_call_80 : decode cX12_call 80 = .ok (.iconst 0, 1) := by decide +kernel
theorem dX12_call_81 : decode cX12_call 81 = .ok (.istore 6, 2) := by decide +kernel
theorem dX12_call_83 : decode cX12_call 83 = .ok (.iconst 0, 1) := by decide +kernel
theorem dX12_call_84 : decode cX12_call 84 = .ok (.istore 7, 2) := by decide +kernel
theorem dX12_call_86 : decode cX12_call 86 = .ok (.iload 7, 2) := by decide +kernel
theorem dX12_call_88 : decode cX12_call 88 = .ok (.aload_n 0, 1) := by decide +kernel
theorem dX12_call_89 : decode cX12_call 89 = .ok (.getfield 350, 3) := by decide +kernel
theorem dX12_call_92 : decode cX12_call 92 = .ok (.if_icmp .ge 26, 3) := by decide +kernel
theorem dX12_call_95 : decode cX12_call 95 = .ok (.aload_n 0, 1) := by decide +kernel
theorem dX12_call_96 : decode cX12_call 96 = .ok (.getfield 146, 3) := by decide +kernel
theorem dX12_call_99 : decode cX12_call 99 = .ok (.iload 7, 2) := by decide +kernel
theorem dX12_call_101 : decode cX12_call 101 = .ok (.iaload, 1) := by decide +kernel
theorem dX12_call_102 : decode cX12_call 102 = .ok (.aload_n 0, 1) := by decide +kernel
theorem dX12_call_103 : decode cX12_call 103 = .ok (.getfield 327, 3) := by decide +kernel
theorem dX12_call_106 : decode cX12_call 106 = .ok (.if_icmp .ne 6, 3) := by decide +kernel
theorem dX12_call_109 : decode cX12_call 109 = .ok (.iinc 6 1, 3) := by decide +kernel
theorem dX12_call_112 : decode cX12_call 112 = .ok (.iinc 7 1, 3) := by decide +kernel
theorem dX12_call_115 : decode cX12_call 115 = .ok (.goto (-29), 3) := by decide +kernel
theorem dX12_call_118 : decode cX12_call 118 = .ok (.iload 6, 2) := by decide +kernel
theorem dX12_call_120 : decode cX12_call 120 = .ok (.bipush 40, 2) := by decide +kernel
theorem dX12_call_122 : decode cX12_call 122 = .ok (.if_icmp .ne 5, 3) := by decide +kernel
theorem dX12_call_125 : decode cX12_call 125 = .ok (.iconst (-1), 1) := by decide +kernel
theorem dX12_call_126 : decode cX12_call 126 = .ok (.ireturn, 1) := by decide +kernel
theorem dX12_call_127 : decode cX12_call 127 = .ok (.aload_n 0, 1) := by decide +kernel
theorem dX12_call_128 : decode cX12_call 128 = .ok (.getfield 146, 3) := by decide +kernel
theorem dX12_call_131 : decode cX12_call 131 = .ok (.aload_n 0, 1) := by decide +kernel
theorem dX12_call_132 : decode cX12_call 132 = .ok (.getfield 350, 3) := by decide +kernel
theorem dX12_call_135 : decode cX12_call 135 = .ok (.aload_n 0, 1) := by decide +kernel
theorem dX12_call_136 : decode cX12_call 136 = .ok (.getfield 327, 3) := by decide +kernel
theorem dX12_call_139 : decode cX12_call 139 = .ok (.iastore, 1) := by decide +kernel
theorem dX12_call_140 : decode cX12_call 140 = .ok (.aload_n 0, 1) := by decide +kernel
theorem dX12_call_141 : decode cX12_call 141 = .ok (.getfield 149, 3) := by decide +kernel
theorem dX12_call_144 : decode cX12_call 144 = .ok (.aload_n 0, 1) := by decide +kernel
theorem dX12_call_145 : decode cX12_call 145 = .ok (.getfield 350, 3) := by decide +kernel
theorem dX12_call_148 : decode cX12_call 148 = .ok (.iload_n 1, 1) := by decide +kernel
theorem dX12_call_149 : decode cX12_call 149 = .ok (.iastore, 1) := by decide +kernel
theorem dX12_call_150 : decode cX12_call 150 = .ok (.aload_n 0, 1) := by decide +kernel
theorem dX12_call_151 : decode cX12_call 151 = .ok (.getfield 152, 3) := by decide +kernel
theorem dX12_call_154 : decode cX12_call 154 = .ok (.aload_n 0, 1) := by decide +kernel
theorem dX12_call_155 : decode cX12_call 155 = .ok (.getfield 350, 3) := by decide +kernel
theorem dX12_call_158 : decode cX12_call 158 = .ok (.iload_n 2, 1) := by decide +kernel
theorem dX12_call_159 : decode cX12_call 159 = .ok (.iastore, 1) := by decide +kernel
theorem dX12_call_160 : decode cX12_call 160 = .ok (.aload_n 0, 1) := by decide +kernel
theorem dX12_call_161 : decode cX12_call 161 = .ok (.getfield 155, 3) := by decide +kernel
theorem dX12_call_164 : decode cX12_call 164 = .ok (.aload_n 0, 1) := by decide +kernel
theorem dX12_call_165 : decode cX12_call 165 = .ok (.getfield 350, 3) := by decide +kernel
theorem dX12_call_168 : decode cX12_call 168 = .ok (.iload_n 3, 1) := by decide +kernel
theorem dX12_call_169 : decode cX12_call 169 = .ok (.iastore, 1) := by decide +kernel
theorem dX12_call_170 : decode cX12_call 170 = .ok (.aload_n 0, 1) := by decide +kernel
theorem dX12_call_171 : decode cX12_call 171 = .ok (.getfield 158, 3) := by decide +kernel
theorem dX12_call_174 : decode cX12_call 174 = .ok (.aload_n 0, 1) := by decide +kernel
theorem dX12_call_175 : decode cX12_call 175 = .ok (.getfield 350, 3) := by decide +kernel
theorem dX12_call_178 : decode cX12_call 178 = .ok (.iload 4, 2) := by decide +kernel
theorem dX12_call_180 : decode cX12_call 180 = .ok (.iastore, 1) := by decide +kernel
theorem dX12_call_181 : decode cX12_call 181 = .ok (.aload_n 0, 1) := by decide +kernel
theorem dX12_call_182 : decode cX12_call 182 = .ok (.getfield 161, 3) := by decide +kernel
theorem dX12_call_185 : decode cX12_call 185 = .ok (.aload_n 0, 1) := by decide +kernel
theorem dX12_call_186 : decode cX12_call 186 = .ok (.getfield 350, 3) := by decide +kernel
theorem dX12_call_189 : decode cX12_call 189 = .ok (.iload 5, 2) := by decide +kernel
theorem dX12_call_191 : decode cX12_call 191 = .ok (.iastore, 1) := by decide +kernel
theorem dX12_call_192 : decode cX12_call 192 = .ok (.aload_n 0, 1) := by decide +kernel
theorem dX12_call_193 : decode cX12_call 193 = .ok (.getfield 164, 3) := by decide +kernel
theorem dX12_call_196 : decode cX12_call 196 = .ok (.aload_n 0, 1) := by decide +kernel
theorem dX12_call_197 : decode cX12_call 197 = .ok (.getfield 350, 3) := by decide +kernel
theorem dX12_call_200 : decode cX12_call 200 = .ok (.iconst 0, 1) := by decide +kernel
theorem dX12_call_201 : decode cX12_call 201 = .ok (.iastore, 1) := by decide +kernel
theorem dX12_call_202 : decode cX12_call 202 = .ok (.aload_n 0, 1) := by decide +kernel
theorem dX12_call_203 : decode cX12_call 203 = .ok (.getfield 167, 3) := by decide +kernel
theorem dX12_call_206 : decode cX12_call 206 = .ok (.aload_n 0, 1) := by decide +kernel
theorem dX12_call_207 : decode cX12_call 207 = .ok (.getfield 350, 3) := by decide +kernel
theorem dX12_call_210 : decode cX12_call 210 = .ok (.iconst (-1), 1) := by decide +kernel
theorem dX12_call_211 : decode cX12_call 211 = .ok (.iastore, 1) := by decide +kernel
theorem dX12_call_212 : decode cX12_call 212 = .ok (.aload_n 0, 1) := by decide +kernel
theorem dX12_call_213 : decode cX12_call 213 = .ok (.getfield 170, 3) := by decide +kernel
theorem dX12_call_216 : decode cX12_call 216 = .ok (.aload_n 0, 1) := by decide +kernel
theorem dX12_call_217 : decode cX12_call 217 = .ok (.getfield 350, 3) := by decide +kernel
theorem dX12_call_220 : decode cX12_call 220 = .ok (.iconst (-1), 1) := by decide +kernel
theorem dX12_call_221 : decode cX12_call 221 = .ok (.iastore, 1) := by decide +kernel
theorem dX12_call_222 : decode cX12_call 222 = .ok (.aload_n 0, 1) := by decide +kernel
theorem dX12_call_223 : decode cX12_call 223 = .ok (.dup, 1) := by decide +kernel
theorem dX12_call_224 : decode cX12_call 224 = .ok (.getfield 350, 3) := by decide +kernel
theorem dX12_call_227 : decode cX12_call 227 = .ok (.iconst 1, 1) := by decide +kernel
theorem dX12_call_228 : decode cX12_call 228 = .ok (.iadd, 1) := by decide +kernel
theorem dX12_call_229 : decode cX12_call 229 = .ok (.putfield 350, 3) := by decide +kernel
theorem dX12_call_232 : decode cX12_call 232 = .ok (.aload_n 0, 1) := by decide +kernel
theorem dX12_call_233 : decode cX12_call 233 = .ok (.getfield 350, 3) := by decide +kernel
theorem dX12_call_236 : decode cX12_call 236 = .ok (.iconst 1, 1) := by decide +kernel
theorem dX12_call_237 : decode cX12_call 237 = .ok (.isub, 1) := by decide +kernel
theorem dX12_call_238 : decode cX12_call 238 = .ok (.ireturn, 1) := by decide +kernel
theorem dX12_value_0 : decode cX12_value 0 = .ok (.iconst 0, 1) := by decide +kernel
theorem dX12_value_1 : decode cX12_value 1 = .ok (.istore_n 3, 1) := by decide +kernel
theorem dX12_value_2 : decode cX12_value 2 = .ok (.iload_n 1, 1) := by decide +kernel
theorem dX12_value_3 : decode cX12_value 3 = .ok (.istore 4, 2) := by decide +kernel
theorem dX12_value_5 : decode cX12_value 5 = .ok (.iload 4, 2) := by decide +kernel
theorem dX12_value_7 : decode cX12_value 7 = .ok (.iload_n 2, 1) := by decide +kernel
theorem dX12_value_8 : decode cX12_value 8 = .ok (.if_icmp .ge 136, 3) := by decide +kernel
theorem dX12_value_11 : decode cX12_value 11 = .ok (.aload_n 0, 1) := by decide +kernel
theorem dX12_value_12 : decode cX12_value 12 = .ok (.getfield 76, 3) := by decide +kernel
theorem dX12_value_15 : decode cX12_value 15 = .ok (.iload 4, 2) := by decide +kernel
theorem dX12_value_17 : decode cX12_value 17 = .ok (.iaload, 1) := by decide +kernel
theorem dX12_value_18 : decode cX12_value 18 = .ok (.iconst 2, 1) := by decide +kernel
theorem dX12_value_19 : decode cX12_value 19 = .ok (.if_icmp .ge 47, 3) := by decide +kernel
theorem dX12_value_22 : decode cX12_value 22 = .ok (.aload_n 0, 1) := by decide +kernel
theorem dX12_value_23 : decode cX12_value 23 = .ok (.getfield 179, 3) := by decide +kernel
theorem dX12_value_26 : decode cX12_value 26 = .ok (.iload_n 3, 1) := by decide +kernel
theorem dX12_value_27 : decode cX12_value 27 = .ok (.aload_n 0, 1) := by decide +kernel
theorem dX12_value_28 : decode cX12_value 28 = .ok (.getfield 76, 3) := by decide +kernel
theorem dX12_value_31 : decode cX12_value 31 = .ok (.iload 4, 2) := by decide +kernel
theorem dX12_value_33 : decode cX12_value 33 = .ok (.iaload, 1) := by decide +kernel
theorem dX12_value_34 : decode cX12_value 34 = .ok (.ifCond .ne 13, 3) := by decide +kernel
theorem dX12_value_37 : decode cX12_value 37 = .ok (.aload_n 0, 1) := by decide +kernel
theorem dX12_value_38 : decode cX12_value 38 = .ok (.getfield 79, 3) := by decide +kernel
theorem dX12_value_41 : decode cX12_value 41 = .ok (.iload 4, 2) := by decide +kernel
theorem dX12_value_43 : decode cX12_value 43 = .ok (.iaload, 1) := by decide +kernel
theorem dX12_value_44 : decode cX12_value 44 = .ok (.goto 15, 3) := by decide +kernel
theorem dX12_value_47 : decode cX12_value 47 = .ok (.aload_n 0, 1) := by decide +kernel
theorem dX12_value_48 : decode cX12_value 48 = .ok (.getfield 176, 3) := by decide +kernel
theorem dX12_value_51 : decode cX12_value 51 = .ok (.aload_n 0, 1) := by decide +kernel
theorem dX12_value_52 : decode cX12_value 52 = .ok (.getfield 79, 3) := by decide +kernel
theorem dX12_value_55 : decode cX12_value 55 = .ok (.iload 4, 2) := by decide +kernel
theorem dX12_value_57 : decode cX12_value 57 = .ok (.iaload, 1) := by decide +kernel
theorem dX12_value_58 : decode cX12_value 58 = .ok (.iaload, 1) := by decide +kernel
theorem dX12_value_59 : decode cX12_value 59 = .ok (.iastore, 1) := by decide +kernel
theorem dX12_value_60 : decode cX12_value 60 = .ok (.iinc 3 1, 3) := by decide +kernel
theorem dX12_value_63 : decode cX12_value 63 = .ok (.goto 75, 3) := by decide +kernel
theorem dX12_value_66 : decode cX12_value 66 = .ok (.iinc 3 (-1), 3) := by decide +kernel
theorem dX12_value_69 : decode cX12_value 69 = .ok (.aload_n 0, 1) := by decide +kernel
theorem dX12_value_70 : decode cX12_value 70 = .ok (.getfield 179, 3) := by decide +kernel
theorem dX12_value_73 : decode cX12_value 73 = .ok (.iload_n 3, 1) := by decide +kernel
theorem dX12_value_74 : decode cX12_value 74 = .ok (.iconst 1, 1) := by decide +kernel
theorem dX12_value_75 : decode cX12_value 75 = .ok (.isub, 1) := by decide +kernel
theorem dX12_value_76 : decode cX12_value 76 = .ok (.iaload, 1) := by decide +kernel
theorem dX12_value_77 : decode cX12_value 77 = .ok (.istore 5, 2) := by decide +kernel
theorem dX12_value_79 : decode cX12_value 79 = .ok (.aload_n 0, 1) := by decide +kernel
theorem dX12_value_80 : decode cX12_value 80 = .ok (.getfield 179, 3) := by decide +kernel
theorem dX12_value_83 : decode cX12_value 83 = .ok (.iload_n 3, 1) := by decide +kernel
theorem dX12_value_84 : decode cX12_value 84 = .ok (.iaload, 1) := by decide +kernel
theorem dX12_value_85 : decode cX12_value 85 = .ok (.istore 6, 2) := by decide +kernel
theorem dX12_value_87 : decode cX12_value 87 = .ok (.aload_n 0, 1) := by decide +kernel
theorem dX12_value_88 : decode cX12_value 88 = .ok (.getfield 179, 3) := by decide +kernel
theorem dX12_value_91 : decode cX12_value 91 = .ok (.iload_n 3, 1) := by decide +kernel
theorem dX12_value_92 : decode cX12_value 92 = .ok (.iconst 1, 1) := by decide +kernel
theorem dX12_value_93 : decode cX12_value 93 = .ok (.isub, 1) := by decide +kernel
theorem dX12_value_94 : decode cX12_value 94 = .ok (.aload_n 0, 1) := by decide +kernel
theorem dX12_value_95 : decode cX12_value 95 = .ok (.getfield 76, 3) := by decide +kernel
theorem dX12_value_98 : decode cX12_value 98 = .ok (.iload 4, 2) := by decide +kernel
theorem dX12_value_100 : decode cX12_value 100 = .ok (.iaload, 1) := by decide +kernel
theorem dX12_value_101 : decode cX12_value 101 = .ok (.iconst 2, 1) := by decide +kernel
theorem dX12_value_102 : decode cX12_value 102 = .ok (.if_icmp .ne 11, 3) := by decide +kernel
theorem dX12_value_105 : decode cX12_value 105 = .ok (.iload 5, 2) := by decide +kernel
theorem dX12_value_107 : decode cX12_value 107 = .ok (.iload 6, 2) := by decide +kernel
theorem dX12_value_109 : decode cX12_value 109 = .ok (.iadd, 1) := by decide +kernel
theorem dX12_value_110 : decode cX12_value 110 = .ok (.goto 27, 3) := by decide +kernel
theorem dX12_value_113 : decode cX12_value 113 = .ok (.aload_n 0, 1) := by decide +kernel
theorem dX12_value_114 : decode cX12_value 114 = .ok (.getfield 76, 3) := by decide +kernel
theorem dX12_value_117 : decode cX12_value 117 = .ok (.iload 4, 2) := by decide +kernel
theorem dX12_value_119 : decode cX12_value 119 = .ok (.iaload, 1) := by decide +kernel
theorem dX12_value_120 : decode cX12_value 120 = .ok (.iconst 3, 1) := by decide +kernel
theorem dX12_value_121 : decode cX12_value 121 = .ok (.if_icmp .ne 11, 3) := by decide +kernel
theorem dX12_value_124 : decode cX12_value 124 = .ok (.iload 5, 2) := by decide +kernel
theorem dX12_value_126 : decode cX12_value 126 = .ok (.iload 6, 2) := by decide +kernel
theorem dX12_value_128 : decode cX12_value 128 = .ok (.isub, 1) := by decide +kernel
theorem dX12_value_129 : decode cX12_value 129 = .ok (.goto 8, 3) := by decide +kernel
theorem dX12_value_132 : decode cX12_value 132 = .ok (.iload 5, 2) := by decide +kernel
theorem dX12_value_134 : decode cX12_value 134 = .ok (.iload 6, 2) := by decide +kernel
theorem dX12_value_136 : decode cX12_value 136 = .ok (.imul, 1) := by decide +kernel
theorem dX12_value_137 : decode cX12_value 137 = .ok (.iastore, 1) := by decide +kernel
theorem dX12_value_138 : decode cX12_value 138 = .ok (.iinc 4 1, 3) := by decide +kernel
theorem dX12_value_141 : decode cX12_value 141 = .ok (.goto (-136), 3) := by decide +kernel
theorem dX12_value_144 : decode cX12_value 144 = .ok (.aload_n 0, 1) := by decide +kernel
theorem dX12_value_145 : decode cX12_value 145 = .ok (.getfield 179, 3) := by decide +kernel
theorem dX12_value_148 : decode cX12_value 148 = .ok (.iconst 0, 1) := by decide +kernel
theorem dX12_value_149 : decode cX12_value 149 = .ok (.iaload, 1) := by decide +kernel
theorem dX12_value_150 : decode cX12_value 150 = .ok (.ireturn, 1) := by decide +kernel
theorem dX12_holds_0 : decode cX12_holds 0 = .ok (.aload_n 0, 1) := by decide +kernel
theorem dX12_holds_1 : decode cX12_holds 1 = .ok (.getfield 55, 3) := by decide +kernel
theorem dX12_holds_4 : decode cX12_holds 4 = .ok (.iload_n 1, 1) := by decide +kernel
theorem dX12_holds_5 : decode cX12_holds 5 = .ok (.iaload, 1) := by decide +kernel
theorem dX12_holds_6 : decode cX12_holds 6 = .ok (.istore_n 2, 1) := by decide +kernel
theorem dX12_holds_7 : decode cX12_holds 7 = .ok (.iload_n 2, 1) := by decide +kernel
theorem dX12_holds_8 : decode cX12_holds 8 = .ok (.aload_n 0, 1) := by decide +kernel
theorem dX12_holds_9 : decode cX12_holds 9 = .ok (.getfield 58, 3) := by decide +kernel
theorem dX12_holds_12 : decode cX12_holds 12 = .ok (.iload_n 1, 1) := by decide +kernel
theorem dX12_holds_13 : decode cX12_holds 13 = .ok (.iaload, 1) := by decide +kernel
theorem dX12_holds_14 : decode cX12_holds 14 = .ok (.if_icmp .ge 151, 3) := by decide +kernel
theorem dX12_holds_17 : decode cX12_holds 17 = .ok (.sipush 200, 3) := by decide +kernel
theorem dX12_holds_20 : decode cX12_holds 20 = .ok (.aload_n 0, 1) := by decide +kernel
theorem dX12_holds_21 : decode cX12_holds 21 = .ok (.getfield 283, 3) := by decide +kernel
theorem dX12_holds_24 : decode cX12_holds 24 = .ok (.imul, 1) := by decide +kernel
theorem dX12_holds_25 : decode cX12_holds 25 = .ok (.iload_n 2, 1) := by decide +kernel
theorem dX12_holds_26 : decode cX12_holds 26 = .ok (.iadd, 1) := by decide +kernel
theorem dX12_holds_27 : decode cX12_holds 27 = .ok (.istore_n 3, 1) := by decide +kernel
theorem dX12_holds_28 : decode cX12_holds 28 = .ok (.aload_n 0, 1) := by decide +kernel
theorem dX12_holds_29 : decode cX12_holds 29 = .ok (.aload_n 0, 1) := by decide +kernel
theorem dX12_holds_30 : decode cX12_holds 30 = .ok (.getfield 67, 3) := by decide +kernel
theorem dX12_holds_33 : decode cX12_holds 33 = .ok (.iload_n 3, 1) := by decide +kernel
theorem dX12_holds_34 : decode cX12_holds 34 = .ok (.iaload, 1) := by decide +kernel
theorem dX12_holds_35 : decode cX12_holds 35 = .ok (.aload_n 0, 1) := by decide +kernel
theorem dX12_holds_36 : decode cX12_holds 36 = .ok (.getfield 70, 3) := by decide +kernel
theorem dX12_holds_39 : decode cX12_holds 39 = .ok (.iload_n 3, 1) := by decide +kernel
theorem dX12_holds_40 : decode cX12_holds 40 = .ok (.iaload, 1) := by decide +kernel
theorem dX12_holds_41 : decode cX12_holds 41 = .ok (.invokevirtual 353, 3) := by decide +kernel
theorem dX12_holds_44 : decode cX12_holds 44 = .ok (.istore 4, 2) := by decide +kernel
theorem dX12_holds_46 : decode cX12_holds 46 = .ok (.aload_n 0, 1) := by decide +kernel
theorem dX12_holds_47 : decode cX12_holds 47 = .ok (.aload_n 0, 1) := by decide +kernel
theorem dX12_holds_48 : decode cX12_holds 48 = .ok (.getfield 70, 3) := by decide +kernel
theorem dX12_holds_51 : decode cX12_holds 51 = .ok (.iload_n 3, 1) := by decide +kernel
theorem dX12_holds_52 : decode cX12_holds 52 = .ok (.iaload, 1) := by decide +kernel
theorem dX12_holds_53 : decode cX12_holds 53 = .ok (.aload_n 0, 1) := by decide +kernel
theorem dX12_holds_54 : decode cX12_holds 54 = .ok (.getfield 73, 3) := by decide +kernel
theorem dX12_holds_57 : decode cX12_holds 57 = .ok (.iload_n 3, 1) := by decide +kernel
theorem dX12_holds_58 : decode cX12_holds 58 = .ok (.iaload, 1) := by decide +kernel
theorem dX12_holds_59 : decode cX12_holds 59 = .ok (.invokevirtual 353, 3) := by decide +kernel
theorem dX12_holds_62 : decode cX12_holds 62 = .ok (.istore 5, 2) := by decide +kernel
theorem dX12_holds_64 : decode cX12_holds 64 = .ok (.aload_n 0, 1) := by decide +kernel
theorem dX12_holds_65 : decode cX12_holds 65 = .ok (.getfield 64, 3) := by decide +kernel
theorem dX12_holds_68 : decode cX12_holds 68 = .ok (.iload_n 3, 1) := by decide +kernel
theorem dX12_holds_69 : decode cX12_holds 69 = .ok (.iaload, 1) := by decide +kernel
theorem dX12_holds_70 : decode cX12_holds 70 = .ok (.ifCond .ne 18, 3) := by decide +kernel
theorem dX12_holds_73 : decode cX12_holds 73 = .ok (.iload 4, 2) := by decide +kernel
theorem dX12_holds_75 : decode cX12_holds 75 = .ok (.iload 5, 2) := by decide +kernel
theorem dX12_holds_77 : decode cX12_holds 77 = .ok (.if_icmp .ne 7, 3) := by decide +kernel
theorem dX12_holds_80 : decode cX12_holds 80 = .ok (.iconst 1, 1) := by decide +kernel
theorem dX12_holds_81 : decode cX12_holds 81 = .ok (.goto 69, 3) := by decide +kernel
theorem dX12_holds_84 : decode cX12_holds 84 = .ok (.iconst 0, 1) := by decide +kernel
theorem dX12_holds_85 : decode cX12_holds 85 = .ok (.goto 65, 3) := by decide +kernel
theorem dX12_holds_88 : decode cX12_holds 88 = .ok (.aload_n 0, 1) := by decide +kernel
theorem dX12_holds_89 : decode cX12_holds 89 = .ok (.getfield 64, 3) := by decide +kernel
theorem dX12_holds_92 : decode cX12_holds 92 = .ok (.iload_n 3, 1) := by decide +kernel
theorem dX12_holds_93 : decode cX12_holds 93 = .ok (.iaload, 1) := by decide +kernel
theorem dX12_holds_94 : decode cX12_holds 94 = .ok (.iconst 1, 1) := by decide +kernel
theorem dX12_holds_95 : decode cX12_holds 95 = .ok (.if_icmp .ne 18, 3) := by decide +kernel
theorem dX12_holds_98 : decode cX12_holds 98 = .ok (.iload 4, 2) := by decide +kernel
theorem dX12_holds_100 : decode cX12_holds 100 = .ok (.iload 5, 2) := by decide +kernel
theorem dX12_holds_102 : decode cX12_holds 102 = .ok (.if_icmp .eq 7, 3) := by decide +kernel
theorem dX12_holds_105 : decode cX12_holds 105 = .ok (.iconst 1, 1) := by decide +kernel
theorem dX12_holds_106 : decode cX12_holds 106 = .ok (.goto 44, 3) := by decide +kernel
theorem dX12_holds_109 : decode cX12_holds 109 = .ok (.iconst 0, 1) := by decide +kernel
theorem dX12_holds_110 : decode cX12_holds 110 = .ok (.goto 40, 3) := by decide +kernel
theorem dX12_holds_113 : decode cX12_holds 113 = .ok (.aload_n 0, 1) := by decide +kernel
theorem dX12_holds_114 : decode cX12_holds 114 = .ok (.getfield 64, 3) := by decide +kernel
theorem dX12_holds_117 : decode cX12_holds 117 = .ok (.iload_n 3, 1) := by decide +kernel
theorem dX12_holds_118 : decode cX12_holds 118 = .ok (.iaload, 1) := by decide +kernel
theorem dX12_holds_119 : decode cX12_holds 119 = .ok (.iconst 2, 1) := by decide +kernel
theorem dX12_holds_120 : decode cX12_holds 120 = .ok (.if_icmp .ne 18, 3) := by decide +kernel
theorem dX12_holds_123 : decode cX12_holds 123 = .ok (.iload 4, 2) := by decide +kernel
theorem dX12_holds_125 : decode cX12_holds 125 = .ok (.iload 5, 2) := by decide +kernel
theorem dX12_holds_127 : decode cX12_holds 127 = .ok (.if_icmp .ge 7, 3) := by decide +kernel
theorem dX12_holds_130 : decode cX12_holds 130 = .ok (.iconst 1, 1) := by decide +kernel
theorem dX12_holds_131 : decode cX12_holds 131 = .ok (.goto 19, 3) := by decide +kernel
theorem dX12_holds_134 : decode cX12_holds 134 = .ok (.iconst 0, 1) := by decide +kernel
theorem dX12_holds_135 : decode cX12_holds 135 = .ok (.goto 15, 3) := by decide +kernel
theorem dX12_holds_138 : decode cX12_holds 138 = .ok (.iload 4, 2) := by decide +kernel
theorem dX12_holds_140 : decode cX12_holds 140 = .ok (.iload 5, 2) := by decide +kernel
theorem dX12_holds_142 : decode cX12_holds 142 = .ok (.if_icmp .gt 7, 3) := by decide +kernel
theorem dX12_holds_145 : decode cX12_holds 145 = .ok (.iconst 1, 1) := by decide +kernel
theorem dX12_holds_146 : decode cX12_holds 146 = .ok (.goto 4, 3) := by decide +kernel
theorem dX12_holds_149 : decode cX12_holds 149 = .ok (.iconst 0, 1) := by decide +kernel
theorem dX12_holds_150 : decode cX12_holds 150 = .ok (.istore 6, 2) := by decide +kernel
theorem dX12_holds_152 : decode cX12_holds 152 = .ok (.iload 6, 2) := by decide +kernel
theorem dX12_holds_154 : decode cX12_holds 154 = .ok (.ifCond .ne 5, 3) := by decide +kernel
theorem dX12_holds_157 : decode cX12_holds 157 = .ok (.iconst 0, 1) := by decide +kernel
theorem dX12_holds_158 : decode cX12_holds 158 = .ok (.ireturn, 1) := by decide +kernel
theorem dX12_holds_159 : decode cX12_holds 159 = .ok (.iinc 2 1, 3) := by decide +kernel
theorem dX12_holds_162 : decode cX12_holds 162 = .ok (.goto (-155), 3) := by decide +kernel
theorem dX12_holds_165 : decode cX12_holds 165 = .ok (.iconst 1, 1) := by decide +kernel
theorem dX12_holds_166 : decode cX12_holds 166 = .ok (.ireturn, 1) := by decide +kernel
theorem dX12_asks_0 : decode cX12_asks 0 = .ok (.aload_n 0, 1) := by decide +kernel
theorem dX12_asks_1 : decode cX12_asks 1 = .ok (.getfield 176, 3) := by decide +kernel
theorem dX12_asks_4 : decode cX12_asks 4 = .ok (.iconst 0, 1) := by decide +kernel
theorem dX12_asks_5 : decode cX12_asks 5 = .ok (.aload_n 0, 1) := by decide +kernel
theorem dX12_asks_6 : decode cX12_asks 6 = .ok (.getfield 155, 3) := by decide +kernel
theorem dX12_asks_9 : decode cX12_asks 9 = .ok (.iload_n 1, 1) := by decide +kernel
theorem dX12_asks_10 : decode cX12_asks 10 = .ok (.iaload, 1) := by decide +kernel
theorem dX12_asks_11 : decode cX12_asks 11 = .ok (.iastore, 1) := by decide +kernel
theorem dX12_asks_12 : decode cX12_asks 12 = .ok (.aload_n 0, 1) := by decide +kernel
theorem dX12_asks_13 : decode cX12_asks 13 = .ok (.getfield 176, 3) := by decide +kernel
theorem dX12_asks_16 : decode cX12_asks 16 = .ok (.iconst 1, 1) := by decide +kernel
theorem dX12_asks_17 : decode cX12_asks 17 = .ok (.aload_n 0, 1) := by decide +kernel
theorem dX12_asks_18 : decode cX12_asks 18 = .ok (.getfield 158, 3) := by decide +kernel
theorem dX12_asks_21 : decode cX12_asks 21 = .ok (.iload_n 1, 1) := by decide +kernel
theorem dX12_asks_22 : decode cX12_asks 22 = .ok (.iaload, 1) := by decide +kernel
theorem dX12_asks_23 : decode cX12_asks 23 = .ok (.iastore, 1) := by decide +kernel
theorem dX12_asks_24 : decode cX12_asks 24 = .ok (.aload_n 0, 1) := by decide +kernel
theorem dX12_asks_25 : decode cX12_asks 25 = .ok (.getfield 176, 3) := by decide +kernel
theorem dX12_asks_28 : decode cX12_asks 28 = .ok (.iconst 2, 1) := by decide +kernel
theorem dX12_asks_29 : decode cX12_asks 29 = .ok (.aload_n 0, 1) := by decide +kernel
theorem dX12_asks_30 : decode cX12_asks 30 = .ok (.getfield 164, 3) := by decide +kernel
theorem dX12_asks_33 : decode cX12_asks 33 = .ok (.iload_n 1, 1) := by decide +kernel
theorem dX12_asks_34 : decode cX12_asks 34 = .ok (.iaload, 1) := by decide +kernel
theorem dX12_asks_35 : decode cX12_asks 35 = .ok (.iconst 1, 1) := by decide +kernel
theorem dX12_asks_36 : decode cX12_asks 36 = .ok (.if_icmp .ne 12, 3) := by decide +kernel
theorem dX12_asks_39 : decode cX12_asks 39 = .ok (.aload_n 0, 1) := by decide +kernel
theorem dX12_asks_40 : decode cX12_asks 40 = .ok (.getfield 170, 3) := by decide +kernel
theorem dX12_asks_43 : decode cX12_asks 43 = .ok (.iload_n 1, 1) := by decide +kernel
theorem dX12_asks_44 : decode cX12_asks 44 = .ok (.iaload, 1) := by decide +kernel
theorem dX12_asks_45 : decode cX12_asks 45 = .ok (.goto 4, 3) := by decide +kernel
theorem dX12_asks_48 : decode cX12_asks 48 = .ok (.iload_n 2, 1) := by decide +kernel
theorem dX12_asks_49 : decode cX12_asks 49 = .ok (.aload_n 0, 1) := by decide +kernel
theorem dX12_asks_50 : decode cX12_asks 50 = .ok (.getfield 149, 3) := by decide +kernel
theorem dX12_asks_53 : decode cX12_asks 53 = .ok (.iload_n 1, 1) := by decide +kernel
theorem dX12_asks_54 : decode cX12_asks 54 = .ok (.iaload, 1) := by decide +kernel
theorem dX12_asks_55 : decode cX12_asks 55 = .ok (.isub, 1) := by decide +kernel
theorem dX12_asks_56 : decode cX12_asks 56 = .ok (.iastore, 1) := by decide +kernel
theorem dX12_asks_57 : decode cX12_asks 57 = .ok (.aload_n 0, 1) := by decide +kernel
theorem dX12_asks_58 : decode cX12_asks 58 = .ok (.getfield 176, 3) := by decide +kernel
theorem dX12_asks_61 : decode cX12_asks 61 = .ok (.iconst 3, 1) := by decide +kernel
theorem dX12_asks_62 : decode cX12_asks 62 = .ok (.iload_n 2, 1) := by decide +kernel
theorem dX12_asks_63 : decode cX12_asks 63 = .ok (.bipush 60, 2) := by decide +kernel
theorem dX12_asks_65 : decode cX12_asks 65 = .ok (.idiv, 1) := by decide +kernel
theorem dX12_asks_66 : decode cX12_asks 66 = .ok (.iastore, 1) := by decide +kernel
theorem dX12_asks_67 : decode cX12_asks 67 = .ok (.aload_n 0, 1) := by decide +kernel
theorem dX12_asks_68 : decode cX12_asks 68 = .ok (.getfield 176, 3) := by decide +kernel
theorem dX12_asks_71 : decode cX12_asks 71 = .ok (.iconst 4, 1) := by decide +kernel
theorem dX12_asks_72 : decode cX12_asks 72 = .ok (.aload_n 0, 1) := by decide +kernel
theorem dX12_asks_73 : decode cX12_asks 73 = .ok (.getfield 182, 3) := by decide +kernel
theorem dX12_asks_76 : decode cX12_asks 76 = .ok (.iload_n 1, 1) := by decide +kernel
theorem dX12_asks_77 : decode cX12_asks 77 = .ok (.iaload, 1) := by decide +kernel
theorem dX12_asks_78 : decode cX12_asks 78 = .ok (.iastore, 1) := by decide +kernel
theorem dX12_asks_79 : decode cX12_asks 79 = .ok (.aload_n 0, 1) := by decide +kernel
theorem dX12_asks_80 : decode cX12_asks 80 = .ok (.getfield 176, 3) := by decide +kernel
theorem dX12_asks_83 : decode cX12_asks 83 = .ok (.iconst 5, 1) := by decide +kernel
theorem dX12_asks_84 : decode cX12_asks 84 = .ok (.iload_n 3, 1) := by decide +kernel
theorem dX12_asks_85 : decode cX12_asks 85 = .ok (.iastore, 1) := by decide +kernel
theorem dX12_asks_86 : decode cX12_asks 86 = .ok (.return_, 1) := by decide +kernel
theorem dX12_ends_0 : decode cX12_ends 0 = .ok (.aload_n 0, 1) := by decide +kernel
theorem dX12_ends_1 : decode cX12_ends 1 = .ok (.getfield 167, 3) := by decide +kernel
theorem dX12_ends_4 : decode cX12_ends 4 = .ok (.iload_n 1, 1) := by decide +kernel
theorem dX12_ends_5 : decode cX12_ends 5 = .ok (.iaload, 1) := by decide +kernel
theorem dX12_ends_6 : decode cX12_ends 6 = .ok (.istore_n 3, 1) := by decide +kernel
theorem dX12_ends_7 : decode cX12_ends 7 = .ok (.aload_n 0, 1) := by decide +kernel
theorem dX12_ends_8 : decode cX12_ends 8 = .ok (.getfield 197, 3) := by decide +kernel
theorem dX12_ends_11 : decode cX12_ends 11 = .ok (.iload_n 3, 1) := by decide +kernel
theorem dX12_ends_12 : decode cX12_ends 12 = .ok (.dup2, 1) := by decide +kernel
theorem dX12_ends_13 : decode cX12_ends 13 = .ok (.iaload, 1) := by decide +kernel
theorem dX12_ends_14 : decode cX12_ends 14 = .ok (.aload_n 0, 1) := by decide +kernel
theorem dX12_ends_15 : decode cX12_ends 15 = .ok (.getfield 161, 3) := by decide +kernel
theorem dX12_ends_18 : decode cX12_ends 18 = .ok (.iload_n 1, 1) := by decide +kernel
theorem dX12_ends_19 : decode cX12_ends 19 = .ok (.iaload, 1) := by decide +kernel
theorem dX12_ends_20 : decode cX12_ends 20 = .ok (.iadd, 1) := by decide +kernel
theorem dX12_ends_21 : decode cX12_ends 21 = .ok (.iastore, 1) := by decide +kernel
theorem dX12_ends_22 : decode cX12_ends 22 = .ok (.aload_n 0, 1) := by decide +kernel
theorem dX12_ends_23 : decode cX12_ends 23 = .ok (.getfield 191, 3) := by decide +kernel
theorem dX12_ends_26 : decode cX12_ends 26 = .ok (.iload_n 3, 1) := by decide +kernel
theorem dX12_ends_27 : decode cX12_ends 27 = .ok (.iconst (-1), 1) := by decide +kernel
theorem dX12_ends_28 : decode cX12_ends 28 = .ok (.iastore, 1) := by decide +kernel
theorem dX12_ends_29 : decode cX12_ends 29 = .ok (.aload_n 0, 1) := by decide +kernel
theorem dX12_ends_30 : decode cX12_ends 30 = .ok (.iload_n 1, 1) := by decide +kernel
theorem dX12_ends_31 : decode cX12_ends 31 = .ok (.iload_n 2, 1) := by decide +kernel
theorem dX12_ends_32 : decode cX12_ends 32 = .ok (.aload_n 0, 1) := by decide +kernel
theorem dX12_ends_33 : decode cX12_ends 33 = .ok (.getfield 197, 3) := by decide +kernel
theorem dX12_ends_36 : decode cX12_ends 36 = .ok (.iload_n 3, 1) := by decide +kernel
theorem dX12_ends_37 : decode cX12_ends 37 = .ok (.iaload, 1) := by decide +kernel
theorem dX12_ends_38 : decode cX12_ends 38 = .ok (.invokevirtual 356, 3) := by decide +kernel
theorem dX12_ends_41 : decode cX12_ends 41 = .ok (.bipush 20, 2) := by decide +kernel
theorem dX12_ends_43 : decode cX12_ends 43 = .ok (.aload_n 0, 1) := by decide +kernel
theorem dX12_ends_44 : decode cX12_ends 44 = .ok (.getfield 283, 3) := by decide +kernel
theorem dX12_ends_47 : decode cX12_ends 47 = .ok (.imul, 1) := by decide +kernel
theorem dX12_ends_48 : decode cX12_ends 48 = .ok (.istore 4, 2) := by decide +kernel
theorem dX12_ends_50 : decode cX12_ends 50 = .ok (.iload 4, 2) := by decide +kernel
theorem dX12_ends_52 : decode cX12_ends 52 = .ok (.bipush 20, 2) := by decide +kernel
theorem dX12_ends_54 : decode cX12_ends 54 = .ok (.aload_n 0, 1) := by decide +kernel
theorem dX12_ends_55 : decode cX12_ends 55 = .ok (.getfield 283, 3) := by decide +kernel
theorem dX12_ends_58 : decode cX12_ends 58 = .ok (.imul, 1) := by decide +kernel
theorem dX12_ends_59 : decode cX12_ends 59 = .ok (.aload_n 0, 1) := by decide +kernel
theorem dX12_ends_60 : decode cX12_ends 60 = .ok (.getfield 40, 3) := by decide +kernel
theorem dX12_ends_63 : decode cX12_ends 63 = .ok (.aload_n 0, 1) := by decide +kernel
theorem dX12_ends_64 : decode cX12_ends 64 = .ok (.getfield 283, 3) := by decide +kernel
theorem dX12_ends_67 : decode cX12_ends 67 = .ok (.iaload, 1) := by decide +kernel
theorem dX12_ends_68 : decode cX12_ends 68 = .ok (.iadd, 1) := by decide +kernel
theorem dX12_ends_69 : decode cX12_ends 69 = .ok (.if_icmp .ge 48, 3) := by decide +kernel
theorem dX12_ends_72 : decode cX12_ends 72 = .ok (.aload_n 0, 1) := by decide +kernel
theorem dX12_ends_73 : decode cX12_ends 73 = .ok (.getfield 43, 3) := by decide +kernel
theorem dX12_ends_76 : decode cX12_ends 76 = .ok (.iload 4, 2) := by decide +kernel
theorem dX12_ends_78 : decode cX12_ends 78 = .ok (.iaload, 1) := by decide +kernel
theorem dX12_ends_79 : decode cX12_ends 79 = .ok (.iconst 4, 1) := by decide +kernel
theorem dX12_ends_80 : decode cX12_ends 80 = .ok (.if_icmp .ne 31, 3) := by decide +kernel
theorem dX12_ends_83 : decode cX12_ends 83 = .ok (.aload_n 0, 1) := by decide +kernel
theorem dX12_ends_84 : decode cX12_ends 84 = .ok (.iload 4, 2) := by decide +kernel
theorem dX12_ends_86 : decode cX12_ends 86 = .ok (.invokevirtual 360, 3) := by decide +kernel
theorem dX12_ends_89 : decode cX12_ends 89 = .ok (.ifCond .ne 6, 3) := by decide +kernel
theorem dX12_ends_92 : decode cX12_ends 92 = .ok (.goto 19, 3) := by decide +kernel
theorem dX12_ends_95 : decode cX12_ends 95 = .ok (.aload_n 0, 1) := by decide +kernel
theorem dX12_ends_96 : decode cX12_ends 96 = .ok (.getfield 194, 3) := by decide +kernel
theorem dX12_ends_99 : decode cX12_ends 99 = .ok (.iload_n 3, 1) := by decide +kernel
theorem dX12_ends_100 : decode cX12_ends 100 = .ok (.iload_n 2, 1) := by decide +kernel
theorem dX12_ends_101 : decode cX12_ends 101 = .ok (.aload_n 0, 1) := by decide +kernel
theorem dX12_ends_102 : decode cX12_ends 102 = .ok (.getfield 46, 3) := by decide +kernel
theorem dX12_ends_105 : decode cX12_ends 105 = .ok (.iload 4, 2) := by decide +kernel
theorem dX12_ends_107 : decode cX12_ends 107 = .ok (.iaload, 1) := by decide +kernel
theorem dX12_ends_108 : decode cX12_ends 108 = .ok (.iadd, 1) := by decide +kernel
theorem dX12_ends_109 : decode cX12_ends 109 = .ok (.iastore, 1) := by decide +kernel
theorem dX12_ends_110 : decode cX12_ends 110 = .ok (.return_, 1) := by decide +kernel
theorem dX12_ends_111 : decode cX12_ends 111 = .ok (.iinc 4 1, 3) := by decide +kernel
theorem dX12_ends_114 : decode cX12_ends 114 = .ok (.goto (-64), 3) := by decide +kernel
theorem dX12_ends_117 : decode cX12_ends 117 = .ok (.return_, 1) := by decide +kernel
theorem dX12_isDropped_0 : decode cX12_isDropped 0 = .ok (.aload_n 0, 1) := by decide +kernel
theorem dX12_isDropped_1 : decode cX12_isDropped 1 = .ok (.iload_n 1, 1) := by decide +kernel
theorem dX12_isDropped_2 : decode cX12_isDropped 2 = .ok (.iload_n 2, 1) := by decide +kernel
theorem dX12_isDropped_3 : decode cX12_isDropped 3 = .ok (.iconst 0, 1) := by decide +kernel
theorem dX12_isDropped_4 : decode cX12_isDropped 4 = .ok (.invokevirtual 356, 3) := by decide +kernel
theorem dX12_isDropped_7 : decode cX12_isDropped 7 = .ok (.bipush 20, 2) := by decide +kernel
theorem dX12_isDropped_9 : decode cX12_isDropped 9 = .ok (.aload_n 0, 1) := by decide +kernel
theorem dX12_isDropped_10 : decode cX12_isDropped 10 = .ok (.getfield 283, 3) := by decide +kernel
theorem dX12_isDropped_13 : decode cX12_isDropped 13 = .ok (.imul, 1) := by decide +kernel
theorem dX12_isDropped_14 : decode cX12_isDropped 14 = .ok (.istore_n 3, 1) := by decide +kernel
theorem dX12_isDropped_15 : decode cX12_isDropped 15 = .ok (.iload_n 3, 1) := by decide +kernel
theorem dX12_isDropped_16 : decode cX12_isDropped 16 = .ok (.bipush 20, 2) := by decide +kernel
theorem dX12_isDropped_18 : decode cX12_isDropped 18 = .ok (.aload_n 0, 1) := by decide +kernel
theorem dX12_isDropped_19 : decode cX12_isDropped 19 = .ok (.getfield 283, 3) := by decide +kernel
theorem dX12_isDropped_22 : decode cX12_isDropped 22 = .ok (.imul, 1) := by decide +kernel
theorem dX12_isDropped_23 : decode cX12_isDropped 23 = .ok (.aload_n 0, 1) := by decide +kernel
theorem dX12_isDropped_24 : decode cX12_isDropped 24 = .ok (.getfield 40, 3) := by decide +kernel
theorem dX12_isDropped_27 : decode cX12_isDropped 27 = .ok (.aload_n 0, 1) := by decide +kernel
theorem dX12_isDropped_28 : decode cX12_isDropped 28 = .ok (.getfield 283, 3) := by decide +kernel
theorem dX12_isDropped_31 : decode cX12_isDropped 31 = .ok (.iaload, 1) := by decide +kernel
theorem dX12_isDropped_32 : decode cX12_isDropped 32 = .ok (.iadd, 1) := by decide +kernel
theorem dX12_isDropped_33 : decode cX12_isDropped 33 = .ok (.if_icmp .ge 29, 3) := by decide +kernel
theorem dX12_isDropped_36 : decode cX12_isDropped 36 = .ok (.aload_n 0, 1) := by decide +kernel
theorem dX12_isDropped_37 : decode cX12_isDropped 37 = .ok (.getfield 43, 3) := by decide +kernel
theorem dX12_isDropped_40 : decode cX12_isDropped 40 = .ok (.iload_n 3, 1) := by decide +kernel
theorem dX12_isDropped_41 : decode cX12_isDropped 41 = .ok (.iaload, 1) := by decide +kernel
theorem dX12_isDropped_42 : decode cX12_isDropped 42 = .ok (.iconst 3, 1) := by decide +kernel
theorem dX12_isDropped_43 : decode cX12_isDropped 43 = .ok (.if_icmp .ne 13, 3) := by decide +kernel
theorem dX12_isDropped_46 : decode cX12_isDropped 46 = .ok (.aload_n 0, 1) := by decide +kernel
theorem dX12_isDropped_47 : decode cX12_isDropped 47 = .ok (.iload_n 3, 1) := by decide +kernel
theorem dX12_isDropped_48 : decode cX12_isDropped 48 = .ok (.invokevirtual 360, 3) := by decide +kernel
theorem dX12_isDropped_51 : decode cX12_isDropped 51 = .ok (.ifCond .eq 5, 3) := by decide +kernel
theorem dX12_isDropped_54 : decode cX12_isDropped 54 = .ok (.iconst 1, 1) := by decide +kernel
theorem dX12_isDropped_55 : decode cX12_isDropped 55 = .ok (.ireturn, 1) := by decide +kernel
theorem dX12_isDropped_56 : decode cX12_isDropped 56 = .ok (.iinc 3 1, 3) := by decide +kernel
theorem dX12_isDropped_59 : decode cX12_isDropped 59 = .ok (.goto (-44), 3) := by decide +kernel
theorem dX12_isDropped_62 : decode cX12_isDropped 62 = .ok (.iconst 0, 1) := by decide +kernel
theorem dX12_isDropped_63 : decode cX12_isDropped 63 = .ok (.ireturn, 1) := by decide +kernel
theorem dX12_firstOf_0 : decode cX12_firstOf 0 = .ok (.aload_n 0, 1) := by decide +kernel
theorem dX12_firstOf_1 : decode cX12_firstOf 1 = .ok (.iload_n 1, 1) := by decide +kernel
theorem dX12_firstOf_2 : decode cX12_firstOf 2 = .ok (.iload_n 2, 1) := by decide +kernel
theorem dX12_firstOf_3 : decode cX12_firstOf 3 = .ok (.iconst 0, 1) := by decide +kernel
theorem dX12_firstOf_4 : decode cX12_firstOf 4 = .ok (.invokevirtual 356, 3) := by decide +kernel
theorem dX12_firstOf_7 : decode cX12_firstOf 7 = .ok (.bipush 20, 2) := by decide +kernel
theorem dX12_firstOf_9 : decode cX12_firstOf 9 = .ok (.aload_n 0, 1) := by decide +kernel
theorem dX12_firstOf_10 : decode cX12_firstOf 10 = .ok (.getfield 283, 3) := by decide +kernel
theorem dX12_firstOf_13 : decode cX12_firstOf 13 = .ok (.imul, 1) := by decide +kernel
theorem dX12_firstOf_14 : decode cX12_firstOf 14 = .ok (.istore_n 3, 1) := by decide +kernel
theorem dX12_firstOf_15 : decode cX12_firstOf 15 = .ok (.iload_n 3, 1) := by decide +kernel
theorem dX12_firstOf_16 : decode cX12_firstOf 16 = .ok (.bipush 20, 2) := by decide +kernel
theorem dX12_firstOf_18 : decode cX12_firstOf 18 = .ok (.aload_n 0, 1) := by decide +kernel
theorem dX12_firstOf_19 : decode cX12_firstOf 19 = .ok (.getfield 283, 3) := by decide +kernel
theorem dX12_firstOf_22 : decode cX12_firstOf 22 = .ok (.imul, 1) := by decide +kernel
theorem dX12_firstOf_23 : decode cX12_firstOf 23 = .ok (.aload_n 0, 1) := by decide +kernel
theorem dX12_firstOf_24 : decode cX12_firstOf 24 = .ok (.getfield 40, 3) := by decide +kernel
theorem dX12_firstOf_27 : decode cX12_firstOf 27 = .ok (.aload_n 0, 1) := by decide +kernel
theorem dX12_firstOf_28 : decode cX12_firstOf 28 = .ok (.getfield 283, 3) := by decide +kernel
theorem dX12_firstOf_31 : decode cX12_firstOf 31 = .ok (.iaload, 1) := by decide +kernel
theorem dX12_firstOf_32 : decode cX12_firstOf 32 = .ok (.iadd, 1) := by decide +kernel
theorem dX12_firstOf_33 : decode cX12_firstOf 33 = .ok (.if_icmp .ge 43, 3) := by decide +kernel
theorem dX12_firstOf_36 : decode cX12_firstOf 36 = .ok (.aload_n 0, 1) := by decide +kernel
theorem dX12_firstOf_37 : decode cX12_firstOf 37 = .ok (.getfield 43, 3) := by decide +kernel
theorem dX12_firstOf_40 : decode cX12_firstOf 40 = .ok (.iload_n 3, 1) := by decide +kernel
theorem dX12_firstOf_41 : decode cX12_firstOf 41 = .ok (.iaload, 1) := by decide +kernel
theorem dX12_firstOf_42 : decode cX12_firstOf 42 = .ok (.ifCond .ne 28, 3) := by decide +kernel
theorem dX12_firstOf_45 : decode cX12_firstOf 45 = .ok (.aload_n 0, 1) := by decide +kernel
theorem dX12_firstOf_46 : decode cX12_firstOf 46 = .ok (.iload_n 3, 1) := by decide +kernel
theorem dX12_firstOf_47 : decode cX12_firstOf 47 = .ok (.invokevirtual 360, 3) := by decide +kernel
theorem dX12_firstOf_50 : decode cX12_firstOf 50 = .ok (.ifCond .eq 20, 3) := by decide +kernel
theorem dX12_firstOf_53 : decode cX12_firstOf 53 = .ok (.aload_n 0, 1) := by decide +kernel
theorem dX12_firstOf_54 : decode cX12_firstOf 54 = .ok (.aload_n 0, 1) := by decide +kernel
theorem dX12_firstOf_55 : decode cX12_firstOf 55 = .ok (.getfield 49, 3) := by decide +kernel
theorem dX12_firstOf_58 : decode cX12_firstOf 58 = .ok (.iload_n 3, 1) := by decide +kernel
theorem dX12_firstOf_59 : decode cX12_firstOf 59 = .ok (.iaload, 1) := by decide +kernel
theorem dX12_firstOf_60 : decode cX12_firstOf 60 = .ok (.aload_n 0, 1) := by decide +kernel
theorem dX12_firstOf_61 : decode cX12_firstOf 61 = .ok (.getfield 52, 3) := by decide +kernel
theorem dX12_firstOf_64 : decode cX12_firstOf 64 = .ok (.iload_n 3, 1) := by decide +kernel
theorem dX12_firstOf_65 : decode cX12_firstOf 65 = .ok (.iaload, 1) := by decide +kernel
theorem dX12_firstOf_66 : decode cX12_firstOf 66 = .ok (.invokevirtual 353, 3) := by decide +kernel
theorem dX12_firstOf_69 : decode cX12_firstOf 69 = .ok (.ireturn, 1) := by decide +kernel
theorem dX12_firstOf_70 : decode cX12_firstOf 70 = .ok (.iinc 3 1, 3) := by decide +kernel
theorem dX12_firstOf_73 : decode cX12_firstOf 73 = .ok (.goto (-58), 3) := by decide +kernel
theorem dX12_firstOf_76 : decode cX12_firstOf 76 = .ok (.aload_n 0, 1) := by decide +kernel
theorem dX12_firstOf_77 : decode cX12_firstOf 77 = .ok (.getfield 155, 3) := by decide +kernel
theorem dX12_firstOf_80 : decode cX12_firstOf 80 = .ok (.iload_n 1, 1) := by decide +kernel
theorem dX12_firstOf_81 : decode cX12_firstOf 81 = .ok (.iaload, 1) := by decide +kernel
theorem dX12_firstOf_82 : decode cX12_firstOf 82 = .ok (.ireturn, 1) := by decide +kernel
theorem dX12_mayTake_0 : decode cX12_mayTake 0 = .ok (.aload_n 0, 1) := by decide +kernel
theorem dX12_mayTake_1 : decode cX12_mayTake 1 = .ok (.getfield 128, 3) := by decide +kernel
theorem dX12_mayTake_4 : decode cX12_mayTake 4 = .ok (.bipush 8, 2) := by decide +kernel
theorem dX12_mayTake_6 : decode cX12_mayTake 6 = .ok (.aload_n 0, 1) := by decide +kernel
theorem dX12_mayTake_7 : decode cX12_mayTake 7 = .ok (.getfield 327, 3) := by decide +kernel
theorem dX12_mayTake_10 : decode cX12_mayTake 10 = .ok (.imul, 1) := by decide +kernel
theorem dX12_mayTake_11 : decode cX12_mayTake 11 = .ok (.iload_n 1, 1) := by decide +kernel
theorem dX12_mayTake_12 : decode cX12_mayTake 12 = .ok (.iadd, 1) := by decide +kernel
theorem dX12_mayTake_13 : decode cX12_mayTake 13 = .ok (.iaload, 1) := by decide +kernel
theorem dX12_mayTake_14 : decode cX12_mayTake 14 = .ok (.iload_n 3, 1) := by decide +kernel
theorem dX12_mayTake_15 : decode cX12_mayTake 15 = .ok (.bipush 60, 2) := by decide +kernel
theorem dX12_mayTake_17 : decode cX12_mayTake 17 = .ok (.idiv, 1) := by decide +kernel
theorem dX12_mayTake_18 : decode cX12_mayTake 18 = .ok (.ishr, 1) := by decide +kernel
theorem dX12_mayTake_19 : decode cX12_mayTake 19 = .ok (.iconst 1, 1) := by decide +kernel
theorem dX12_mayTake_20 : decode cX12_mayTake 20 = .ok (.iand, 1) := by decide +kernel
theorem dX12_mayTake_21 : decode cX12_mayTake 21 = .ok (.ifCond .eq 41, 3) := by decide +kernel
theorem dX12_mayTake_24 : decode cX12_mayTake 24 = .ok (.aload_n 0, 1) := by decide +kernel
theorem dX12_mayTake_25 : decode cX12_mayTake 25 = .ok (.getfield 191, 3) := by decide +kernel
theorem dX12_mayTake_28 : decode cX12_mayTake 28 = .ok (.iload_n 1, 1) := by decide +kernel
theorem dX12_mayTake_29 : decode cX12_mayTake 29 = .ok (.iaload, 1) := by decide +kernel
theorem dX12_mayTake_30 : decode cX12_mayTake 30 = .ok (.iconst (-1), 1) := by decide +kernel
theorem dX12_mayTake_31 : decode cX12_mayTake 31 = .ok (.if_icmp .ne 31, 3) := by decide +kernel
theorem dX12_mayTake_34 : decode cX12_mayTake 34 = .ok (.iload_n 3, 1) := by decide +kernel
theorem dX12_mayTake_35 : decode cX12_mayTake 35 = .ok (.aload_n 0, 1) := by decide +kernel
theorem dX12_mayTake_36 : decode cX12_mayTake 36 = .ok (.getfield 194, 3) := by decide +kernel
theorem dX12_mayTake_39 : decode cX12_mayTake 39 = .ok (.iload_n 1, 1) := by decide +kernel
theorem dX12_mayTake_40 : decode cX12_mayTake 40 = .ok (.iaload, 1) := by decide +kernel
theorem dX12_mayTake_41 : decode cX12_mayTake 41 = .ok (.if_icmp .lt 21, 3) := by decide +kernel
theorem dX12_mayTake_44 : decode cX12_mayTake 44 = .ok (.aload_n 0, 1) := by decide +kernel
theorem dX12_mayTake_45 : decode cX12_mayTake 45 = .ok (.aload_n 0, 1) := by decide +kernel
theorem dX12_mayTake_46 : decode cX12_mayTake 46 = .ok (.getfield 152, 3) := by decide +kernel
theorem dX12_mayTake_49 : decode cX12_mayTake 49 = .ok (.iload_n 2, 1) := by decide +kernel
theorem dX12_mayTake_50 : decode cX12_mayTake 50 = .ok (.iaload, 1) := by decide +kernel
theorem dX12_mayTake_51 : decode cX12_mayTake 51 = .ok (.iload_n 1, 1) := by decide +kernel
theorem dX12_mayTake_52 : decode cX12_mayTake 52 = .ok (.aload_n 0, 1) := by decide +kernel
theorem dX12_mayTake_53 : decode cX12_mayTake 53 = .ok (.getfield 327, 3) := by decide +kernel
theorem dX12_mayTake_56 : decode cX12_mayTake 56 = .ok (.invokevirtual 363, 3) := by decide +kernel
theorem dX12_mayTake_59 : decode cX12_mayTake 59 = .ok (.ifCond .eq 5, 3) := by decide +kernel
theorem dX12_mayTake_62 : decode cX12_mayTake 62 = .ok (.iconst 0, 1) := by decide +kernel
theorem dX12_mayTake_63 : decode cX12_mayTake 63 = .ok (.ireturn, 1) := by decide +kernel
theorem dX12_mayTake_64 : decode cX12_mayTake 64 = .ok (.aload_n 0, 1) := by decide +kernel
theorem dX12_mayTake_65 : decode cX12_mayTake 65 = .ok (.iload_n 2, 1) := by decide +kernel
theorem dX12_mayTake_66 : decode cX12_mayTake 66 = .ok (.iload_n 3, 1) := by decide +kernel
theorem dX12_mayTake_67 : decode cX12_mayTake 67 = .ok (.aload_n 0, 1) := by decide +kernel
theorem dX12_mayTake_68 : decode cX12_mayTake 68 = .ok (.getfield 197, 3) := by decide +kernel
theorem dX12_mayTake_71 : decode cX12_mayTake 71 = .ok (.iload_n 1, 1) := by decide +kernel
theorem dX12_mayTake_72 : decode cX12_mayTake 72 = .ok (.iaload, 1) := by decide +kernel
theorem dX12_mayTake_73 : decode cX12_mayTake 73 = .ok (.invokevirtual 356, 3) := by decide +kernel
theorem dX12_mayTake_76 : decode cX12_mayTake 76 = .ok (.bipush 20, 2) := by decide +kernel
theorem dX12_mayTake_78 : decode cX12_mayTake 78 = .ok (.aload_n 0, 1) := by decide +kernel
theorem dX12_mayTake_79 : decode cX12_mayTake 79 = .ok (.getfield 283, 3) := by decide +kernel
theorem dX12_mayTake_82 : decode cX12_mayTake 82 = .ok (.imul, 1) := by decide +kernel
theorem dX12_mayTake_83 : decode cX12_mayTake 83 = .ok (.istore 4, 2) := by decide +kernel
theorem dX12_mayTake_85 : decode cX12_mayTake 85 = .ok (.iload 4, 2) := by decide +kernel
theorem dX12_mayTake_87 : decode cX12_mayTake 87 = .ok (.bipush 20, 2) := by decide +kernel
theorem dX12_mayTake_89 : decode cX12_mayTake 89 = .ok (.aload_n 0, 1) := by decide +kernel
theorem dX12_mayTake_90 : decode cX12_mayTake 90 = .ok (.getfield 283, 3) := by decide +kernel
theorem dX12_mayTake_93 : decode cX12_mayTake 93 = .ok (.imul, 1) := by decide +kernel
theorem dX12_mayTake_94 : decode cX12_mayTake 94 = .ok (.aload_n 0, 1) := by decide +kernel
theorem dX12_mayTake_95 : decode cX12_mayTake 95 = .ok (.getfield 40, 3) := by decide +kernel
theorem dX12_mayTake_98 : decode cX12_mayTake 98 = .ok (.aload_n 0, 1) := by decide +kernel
theorem dX12_mayTake_99 : decode cX12_mayTake 99 = .ok (.getfield 283, 3) := by decide +kernel
theorem dX12_mayTake_102 : decode cX12_mayTake 102 = .ok (.iaload, 1) := by decide +kernel
theorem dX12_mayTake_103 : decode cX12_mayTake 103 = .ok (.iadd, 1) := by decide +kernel
theorem dX12_mayTake_104 : decode cX12_mayTake 104 = .ok (.if_icmp .ge 64, 3) := by decide +kernel
theorem dX12_mayTake_107 : decode cX12_mayTake 107 = .ok (.aload_n 0, 1) := by decide +kernel
theorem dX12_mayTake_108 : decode cX12_mayTake 108 = .ok (.getfield 43, 3) := by decide +kernel
theorem dX12_mayTake_111 : decode cX12_mayTake 111 = .ok (.iload 4, 2) := by decide +kernel
theorem dX12_mayTake_113 : decode cX12_mayTake 113 = .ok (.iaload, 1) := by decide +kernel
theorem dX12_mayTake_114 : decode cX12_mayTake 114 = .ok (.iconst 2, 1) := by decide +kernel
theorem dX12_mayTake_115 : decode cX12_mayTake 115 = .ok (.if_icmp .ne 47, 3) := by decide +kernel
theorem dX12_mayTake_118 : decode cX12_mayTake 118 = .ok (.aload_n 0, 1) := by decide +kernel
theorem dX12_mayTake_119 : decode cX12_mayTake 119 = .ok (.iload 4, 2) := by decide +kernel
theorem dX12_mayTake_121 : decode cX12_mayTake 121 = .ok (.invokevirtual 360, 3) := by decide +kernel
theorem dX12_mayTake_124 : decode cX12_mayTake 124 = .ok (.ifCond .eq 38, 3) := by decide +kernel
theorem dX12_mayTake_127 : decode cX12_mayTake 127 = .ok (.aload_n 0, 1) := by decide +kernel
theorem dX12_mayTake_128 : decode cX12_mayTake 128 = .ok (.getfield 46, 3) := by decide +kernel
theorem dX12_mayTake_131 : decode cX12_mayTake 131 = .ok (.iload 4, 2) := by decide +kernel
theorem dX12_mayTake_133 : decode cX12_mayTake 133 = .ok (.iaload, 1) := by decide +kernel
theorem dX12_mayTake_134 : decode cX12_mayTake 134 = .ok (.aload_n 0, 1) := by decide +kernel
theorem dX12_mayTake_135 : decode cX12_mayTake 135 = .ok (.getfield 321, 3) := by decide +kernel
theorem dX12_mayTake_138 : decode cX12_mayTake 138 = .ok (.if_icmp .ge 22, 3) := by decide +kernel
theorem dX12_mayTake_141 : decode cX12_mayTake 141 = .ok (.aload_n 0, 1) := by decide +kernel
theorem dX12_mayTake_142 : decode cX12_mayTake 142 = .ok (.iload_n 1, 1) := by decide +kernel
theorem dX12_mayTake_143 : decode cX12_mayTake 143 = .ok (.aload_n 0, 1) := by decide +kernel
theorem dX12_mayTake_144 : decode cX12_mayTake 144 = .ok (.getfield 46, 3) := by decide +kernel
theorem dX12_mayTake_147 : decode cX12_mayTake 147 = .ok (.iload 4, 2) := by decide +kernel
theorem dX12_mayTake_149 : decode cX12_mayTake 149 = .ok (.iaload, 1) := by decide +kernel
theorem dX12_mayTake_150 : decode cX12_mayTake 150 = .ok (.aload_n 0, 1) := by decide +kernel
theorem dX12_mayTake_151 : decode cX12_mayTake 151 = .ok (.getfield 327, 3) := by decide +kernel
theorem dX12_mayTake_154 : decode cX12_mayTake 154 = .ok (.invokevirtual 330, 3) := by decide +kernel
theorem dX12_mayTake_157 : decode cX12_mayTake 157 = .ok (.ifCond .ne 5, 3) := by decide +kernel
theorem dX12_mayTake_160 : decode cX12_mayTake 160 = .ok (.iconst 0, 1) := by decide +kernel
theorem dX12_mayTake_161 : decode cX12_mayTake 161 = .ok (.ireturn, 1) := by decide +kernel
theorem dX12_mayTake_162 : decode cX12_mayTake 162 = .ok (.iinc 4 1, 3) := by decide +kernel
theorem dX12_mayTake_165 : decode cX12_mayTake 165 = .ok (.goto (-80), 3) := by decide +kernel
theorem dX12_mayTake_168 : decode cX12_mayTake 168 = .ok (.iconst 1, 1) := by decide +kernel
theorem dX12_mayTake_169 : decode cX12_mayTake 169 = .ok (.ireturn, 1) := by decide +kernel
theorem dX12_takes_0 : decode cX12_takes 0 = .ok (.iconst (-1), 1) := by decide +kernel
theorem dX12_takes_1 : decode cX12_takes 1 = .ok (.istore_n 3, 1) := by decide +kernel
theorem dX12_takes_2 : decode cX12_takes 2 = .ok (.iconst 0, 1) := by decide +kernel
theorem dX12_takes_3 : decode cX12_takes 3 = .ok (.istore 4, 2) := by decide +kernel
theorem dX12_takes_5 : decode cX12_takes 5 = .ok (.iload 4, 2) := by decide +kernel
theorem dX12_takes_7 : decode cX12_takes 7 = .ok (.aload_n 0, 1) := by decide +kernel
theorem dX12_takes_8 : decode cX12_takes 8 = .ok (.getfield 318, 3) := by decide +kernel
theorem dX12_takes_11 : decode cX12_takes 11 = .ok (.if_icmp .ge 44, 3) := by decide +kernel
theorem dX12_takes_14 : decode cX12_takes 14 = .ok (.iload_n 3, 1) := by decide +kernel
theorem dX12_takes_15 : decode cX12_takes 15 = .ok (.iconst (-1), 1) := by decide +kernel
theorem dX12_takes_16 : decode cX12_takes 16 = .ok (.if_icmp .eq 19, 3) := by decide +kernel
theorem dX12_takes_19 : decode cX12_takes 19 = .ok (.aload_n 0, 1) := by decide +kernel
theorem dX12_takes_20 : decode cX12_takes 20 = .ok (.getfield 197, 3) := by decide +kernel
theorem dX12_takes_23 : decode cX12_takes 23 = .ok (.iload 4, 2) := by decide +kernel
theorem dX12_takes_25 : decode cX12_takes 25 = .ok (.iaload, 1) := by decide +kernel
theorem dX12_takes_26 : decode cX12_takes 26 = .ok (.aload_n 0, 1) := by decide +kernel
theorem dX12_takes_27 : decode cX12_takes 27 = .ok (.getfield 197, 3) := by decide +kernel
theorem dX12_takes_30 : decode cX12_takes 30 = .ok (.iload_n 3, 1) := by decide +kernel
theorem dX12_takes_31 : decode cX12_takes 31 = .ok (.iaload, 1) := by decide +kernel
theorem dX12_takes_32 : decode cX12_takes 32 = .ok (.if_icmp .ge 17, 3) := by decide +kernel
theorem dX12_takes_35 : decode cX12_takes 35 = .ok (.aload_n 0, 1) := by decide +kernel
theorem dX12_takes_36 : decode cX12_takes 36 = .ok (.iload 4, 2) := by decide +kernel
theorem dX12_takes_38 : decode cX12_takes 38 = .ok (.iload_n 1, 1) := by decide +kernel
theorem dX12_takes_39 : decode cX12_takes 39 = .ok (.iload_n 2, 1) := by decide +kernel
theorem dX12_takes_40 : decode cX12_takes 40 = .ok (.invokevirtual 366, 3) := by decide +kernel
theorem dX12_takes_43 : decode cX12_takes 43 = .ok (.ifCond .eq 6, 3) := by decide +kernel
theorem dX12_takes_46 : decode cX12_takes 46 = .ok (.iload 4, 2) := by decide +kernel
theorem dX12_takes_48 : decode cX12_takes 48 = .ok (.istore_n 3, 1) := by decide +kernel
theorem dX12_takes_49 : decode cX12_takes 49 = .ok (.iinc 4 1, 3) := by decide +kernel
theorem dX12_takes_52 : decode cX12_takes 52 = .ok (.goto (-47), 3) := by decide +kernel
theorem dX12_takes_55 : decode cX12_takes 55 = .ok (.iload_n 3, 1) := by decide +kernel
theorem dX12_takes_56 : decode cX12_takes 56 = .ok (.iconst (-1), 1) := by decide +kernel
theorem dX12_takes_57 : decode cX12_takes 57 = .ok (.if_icmp .ne 4, 3) := by decide +kernel
theorem dX12_takes_60 : decode cX12_takes 60 = .ok (.return_, 1) := by decide +kernel
theorem dX12_takes_61 : decode cX12_takes 61 = .ok (.aload_n 0, 1) := by decide +kernel
theorem dX12_takes_62 : decode cX12_takes 62 = .ok (.getfield 164, 3) := by decide +kernel
theorem dX12_takes_65 : decode cX12_takes 65 = .ok (.iload_n 1, 1) := by decide +kernel
theorem dX12_takes_66 : decode cX12_takes 66 = .ok (.iconst 1, 1) := by decide +kernel
theorem dX12_takes_67 : decode cX12_takes 67 = .ok (.iastore, 1) := by decide +kernel
theorem dX12_takes_68 : decode cX12_takes 68 = .ok (.aload_n 0, 1) := by decide +kernel
theorem dX12_takes_69 : decode cX12_takes 69 = .ok (.getfield 167, 3) := by decide +kernel
theorem dX12_takes_72 : decode cX12_takes 72 = .ok (.iload_n 1, 1) := by decide +kernel
theorem dX12_takes_73 : decode cX12_takes 73 = .ok (.iload_n 3, 1) := by decide +kernel
theorem dX12_takes_74 : decode cX12_takes 74 = .ok (.iastore, 1) := by decide +kernel
theorem dX12_takes_75 : decode cX12_takes 75 = .ok (.aload_n 0, 1) := by decide +kernel
theorem dX12_takes_76 : decode cX12_takes 76 = .ok (.getfield 170, 3) := by decide +kernel
theorem dX12_takes_79 : decode cX12_takes 79 = .ok (.iload_n 1, 1) := by decide +kernel
theorem dX12_takes_80 : decode cX12_takes 80 = .ok (.iload_n 2, 1) := by decide +kernel
theorem dX12_takes_81 : decode cX12_takes 81 = .ok (.iastore, 1) := by decide +kernel
theorem dX12_takes_82 : decode cX12_takes 82 = .ok (.aload_n 0, 1) := by decide +kernel
theorem dX12_takes_83 : decode cX12_takes 83 = .ok (.getfield 188, 3) := by decide +kernel
theorem dX12_takes_86 : decode cX12_takes 86 = .ok (.iload_n 1, 1) := by decide +kernel
theorem dX12_takes_87 : decode cX12_takes 87 = .ok (.iconst 0, 1) := by decide +kernel
theorem dX12_takes_88 : decode cX12_takes 88 = .ok (.bastore, 1) := by decide +kernel
theorem dX12_takes_89 : decode cX12_takes 89 = .ok (.aload_n 0, 1) := by decide +kernel
theorem dX12_takes_90 : decode cX12_takes 90 = .ok (.getfield 191, 3) := by decide +kernel
theorem dX12_takes_93 : decode cX12_takes 93 = .ok (.iload_n 3, 1) := by decide +kernel
theorem dX12_takes_94 : decode cX12_takes 94 = .ok (.iload_n 1, 1) := by decide +kernel
theorem dX12_takes_95 : decode cX12_takes 95 = .ok (.iastore, 1) := by decide +kernel
theorem dX12_takes_96 : decode cX12_takes 96 = .ok (.aload_n 0, 1) := by decide +kernel
theorem dX12_takes_97 : decode cX12_takes 97 = .ok (.getfield 155, 3) := by decide +kernel
theorem dX12_takes_100 : decode cX12_takes 100 = .ok (.iload_n 1, 1) := by decide +kernel
theorem dX12_takes_101 : decode cX12_takes 101 = .ok (.iaload, 1) := by decide +kernel
theorem dX12_takes_102 : decode cX12_takes 102 = .ok (.bipush 7, 2) := by decide +kernel
theorem dX12_takes_104 : decode cX12_takes 104 = .ok (.if_icmp .le 19, 3) := by decide +kernel
theorem dX12_takes_107 : decode cX12_takes 107 = .ok (.aload_n 0, 1) := by decide +kernel
theorem dX12_takes_108 : decode cX12_takes 108 = .ok (.getfield 101, 3) := by decide +kernel
theorem dX12_takes_111 : decode cX12_takes 111 = .ok (.sipush 200, 3) := by decide +kernel
theorem dX12_takes_114 : decode cX12_takes 114 = .ok (.iload_n 3, 1) := by decide +kernel
theorem dX12_takes_115 : decode cX12_takes 115 = .ok (.imul, 1) := by decide +kernel
theorem dX12_takes_116 : decode cX12_takes 116 = .ok (.aload_n 0, 1) := by decide +kernel
theorem dX12_takes_117 : decode cX12_takes 117 = .ok (.getfield 327, 3) := by decide +kernel
theorem dX12_takes_120 : decode cX12_takes 120 = .ok (.iadd, 1) := by decide +kernel
theorem dX12_takes_121 : decode cX12_takes 121 = .ok (.iconst 1, 1) := by decide +kernel
theorem dX12_takes_122 : decode cX12_takes 122 = .ok (.bastore, 1) := by decide +kernel
theorem dX12_takes_123 : decode cX12_takes 123 = .ok (.return_, 1) := by decide +kernel
theorem dX12_go_0 : decode cX12_go 0 = .ok (.aload_n 0, 1) := by decide +kernel
theorem dX12_go_1 : decode cX12_go 1 = .ok (.getfield 110, 3) := by decide +kernel
theorem dX12_go_4 : decode cX12_go 4 = .ok (.aload_n 0, 1) := by decide +kernel
theorem dX12_go_5 : decode cX12_go 5 = .ok (.getfield 327, 3) := by decide +kernel
theorem dX12_go_8 : decode cX12_go 8 = .ok (.baload, 1) := by decide +kernel
theorem dX12_go_9 : decode cX12_go 9 = .ok (.ifCond .eq 5, 3) := by decide +kernel
theorem dX12_go_12 : decode cX12_go 12 = .ok (.iconst (-1), 1) := by decide +kernel
theorem dX12_go_13 : decode cX12_go 13 = .ok (.ireturn, 1) := by decide +kernel
theorem dX12_go_14 : decode cX12_go 14 = .ok (.iconst 0, 1) := by decide +kernel
theorem dX12_go_15 : decode cX12_go 15 = .ok (.istore_n 1, 1) := by decide +kernel
theorem dX12_go_16 : decode cX12_go 16 = .ok (.iload_n 1, 1) := by decide +kernel
theorem dX12_go_17 : decode cX12_go 17 = .ok (.bipush 8, 2) := by decide +kernel
theorem dX12_go_19 : decode cX12_go 19 = .ok (.if_icmp .ge 30, 3) := by decide +kernel
theorem dX12_go_22 : decode cX12_go 22 = .ok (.aload_n 0, 1) := by decide +kernel
theorem dX12_go_23 : decode cX12_go 23 = .ok (.getfield 191, 3) := by decide +kernel
theorem dX12_go_26 : decode cX12_go 26 = .ok (.iload_n 1, 1) := by decide +kernel
theorem dX12_go_27 : decode cX12_go 27 = .ok (.iconst (-1), 1) := by decide +kernel
theorem dX12_go_28 : decode cX12_go 28 = .ok (.iastore, 1) := by decide +kernel
theorem dX12_go_29 : decode cX12_go 29 = .ok (.aload_n 0, 1) := by decide +kernel
theorem dX12_go_30 : decode cX12_go 30 = .ok (.getfield 194, 3) := by decide +kernel
theorem dX12_go_33 : decode cX12_go 33 = .ok (.iload_n 1, 1) := by decide +kernel
theorem dX12_go_34 : decode cX12_go 34 = .ok (.iconst 0, 1) := by decide +kernel
theorem dX12_go_35 : decode cX12_go 35 = .ok (.iastore, 1) := by decide +kernel
theorem dX12_go_36 : decode cX12_go 36 = .ok (.aload_n 0, 1) := by decide +kernel
theorem dX12_go_37 : decode cX12_go 37 = .ok (.getfield 197, 3) := by decide +kernel
theorem dX12_go_40 : decode cX12_go 40 = .ok (.iload_n 1, 1) := by decide +kernel
theorem dX12_go_41 : decode cX12_go 41 = .ok (.iconst 0, 1) := by decide +kernel
theorem dX12_go_42 : decode cX12_go 42 = .ok (.iastore, 1) := by decide +kernel
theorem dX12_go_43 : decode cX12_go 43 = .ok (.iinc 1 1, 3) := by decide +kernel
theorem dX12_go_46 : decode cX12_go 46 = .ok (.goto (-30), 3) := by decide +kernel
theorem dX12_go_49 : decode cX12_go 49 = .ok (.iconst 0, 1) := by decide +kernel
theorem dX12_go_50 : decode cX12_go 50 = .ok (.istore_n 1, 1) := by decide +kernel
theorem dX12_go_51 : decode cX12_go 51 = .ok (.iload_n 1, 1) := by decide +kernel
theorem dX12_go_52 : decode cX12_go 52 = .ok (.aload_n 0, 1) := by decide +kernel
theorem dX12_go_53 : decode cX12_go 53 = .ok (.getfield 350, 3) := by decide +kernel
theorem dX12_go_56 : decode cX12_go 56 = .ok (.if_icmp .ge 22, 3) := by decide +kernel
theorem dX12_go_59 : decode cX12_go 59 = .ok (.aload_n 0, 1) := by decide +kernel
theorem dX12_go_60 : decode cX12_go 60 = .ok (.getfield 146, 3) := by decide +kernel
theorem dX12_go_63 : decode cX12_go 63 = .ok (.iload_n 1, 1) := by decide +kernel
theorem dX12_go_64 : decode cX12_go 64 = .ok (.iaload, 1) := by decide +kernel
theorem dX12_go_65 : decode cX12_go 65 = .ok (.aload_n 0, 1) := by decide +kernel
theorem dX12_go_66 : decode cX12_go 66 = .ok (.getfield 327, 3) := by decide +kernel
theorem dX12_go_69 : decode cX12_go 69 = .ok (.if_icmp .ge 9, 3) := by decide +kernel
theorem dX12_go_72 : decode cX12_go 72 = .ok (.iinc 1 1, 3) := by decide +kernel
theorem dX12_go_75 : decode cX12_go 75 = .ok (.goto (-24), 3) := by decide +kernel
theorem dX12_go_78 : decode cX12_go 78 = .ok (.iload_n 1, 1) := by decide +kernel
theorem dX12_go_79 : decode cX12_go 79 = .ok (.istore_n 2, 1) := by decide +kernel
theorem dX12_go_80 : decode cX12_go 80 = .ok (.iload_n 2, 1) := by decide +kernel
theorem dX12_go_81 : decode cX12_go 81 = .ok (.aload_n 0, 1) := by decide +kernel
theorem dX12_go_82 : decode cX12_go 82 = .ok (.getfield 350, 3) := by decide +kernel
theorem dX12_go_85 : decode cX12_go 85 = .ok (.if_icmp .ge 71, 3) := by decide +kernel
theorem dX12_go_88 : decode cX12_go 88 = .ok (.aload_n 0, 1) := by decide +kernel
theorem dX12_go_89 : decode cX12_go 89 = .ok (.getfield 188, 3) := by decide +kernel
theorem dX12_go_92 : decode cX12_go 92 = .ok (.iload_n 2, 1) := by decide +kernel
theorem dX12_go_93 : decode cX12_go 93 = .ok (.iconst 0, 1) := by decide +kernel
theorem dX12_go_94 : decode cX12_go 94 = .ok (.bastore, 1) := by decide +kernel
theorem dX12_go_95 : decode cX12_go 95 = .ok (.aload_n 0, 1) := by decide +kernel
theorem dX12_go_96 : decode cX12_go 96 = .ok (.getfield 182, 3) := by decide +kernel
theorem dX12_go_99 : decode cX12_go 99 = .ok (.iload_n 2, 1) := by decide +kernel
theorem dX12_go_100 : decode cX12_go 100 = .ok (.iconst 0, 1) := by decide +kernel
theorem dX12_go_101 : decode cX12_go 101 = .ok (.iastore, 1) := by decide +kernel
theorem dX12_go_102 : decode cX12_go 102 = .ok (.iconst 0, 1) := by decide +kernel
theorem dX12_go_103 : decode cX12_go 103 = .ok (.istore_n 3, 1) := by decide +kernel
theorem dX12_go_104 : decode cX12_go 104 = .ok (.iload_n 3, 1) := by decide +kernel
theorem dX12_go_105 : decode cX12_go 105 = .ok (.iload_n 1, 1) := by decide +kernel
theorem dX12_go_106 : decode cX12_go 106 = .ok (.if_icmp .ge 44, 3) := by decide +kernel
theorem dX12_go_109 : decode cX12_go 109 = .ok (.aload_n 0, 1) := by decide +kernel
theorem dX12_go_110 : decode cX12_go 110 = .ok (.getfield 152, 3) := by decide +kernel
theorem dX12_go_113 : decode cX12_go 113 = .ok (.iload_n 3, 1) := by decide +kernel
theorem dX12_go_114 : decode cX12_go 114 = .ok (.iaload, 1) := by decide +kernel
theorem dX12_go_115 : decode cX12_go 115 = .ok (.aload_n 0, 1) := by decide +kernel
theorem dX12_go_116 : decode cX12_go 116 = .ok (.getfield 152, 3) := by decide +kernel
theorem dX12_go_119 : decode cX12_go 119 = .ok (.iload_n 2, 1) := by decide +kernel
theorem dX12_go_120 : decode cX12_go 120 = .ok (.iaload, 1) := by decide +kernel
theorem dX12_go_121 : decode cX12_go 121 = .ok (.if_icmp .ne 23, 3) := by decide +kernel
theorem dX12_go_124 : decode cX12_go 124 = .ok (.aload_n 0, 1) := by decide +kernel
theorem dX12_go_125 : decode cX12_go 125 = .ok (.getfield 164, 3) := by decide +kernel
theorem dX12_go_128 : decode cX12_go 128 = .ok (.iload_n 3, 1) := by decide +kernel
theorem dX12_go_129 : decode cX12_go 129 = .ok (.iaload, 1) := by decide +kernel
theorem dX12_go_130 : decode cX12_go 130 = .ok (.iconst 1, 1) := by decide +kernel
theorem dX12_go_131 : decode cX12_go 131 = .ok (.if_icmp .ne 13, 3) := by decide +kernel
theorem dX12_go_134 : decode cX12_go 134 = .ok (.aload_n 0, 1) := by decide +kernel
theorem dX12_go_135 : decode cX12_go 135 = .ok (.getfield 182, 3) := by decide +kernel
theorem dX12_go_138 : decode cX12_go 138 = .ok (.iload_n 2, 1) := by decide +kernel
theorem dX12_go_139 : decode cX12_go 139 = .ok (.dup2, 1) := by decide +kernel
theorem dX12_go_140 : decode cX12_go 140 = .ok (.iaload, 1) := by decide +kernel
theorem dX12_go_141 : decode cX12_go 141 = .ok (.iconst 1, 1) := by decide +kernel
theorem dX12_go_142 : decode cX12_go 142 = .ok (.iadd, 1) := by decide +kernel
theorem dX12_go_143 : decode cX12_go 143 = .ok (.iastore, 1) := by decide +kernel
theorem dX12_go_144 : decode cX12_go 144 = .ok (.iinc 3 1, 3) := by decide +kernel
theorem dX12_go_147 : decode cX12_go 147 = .ok (.goto (-43), 3) := by decide +kernel
theorem dX12_go_150 : decode cX12_go 150 = .ok (.iinc 2 1, 3) := by decide +kernel
theorem dX12_go_153 : decode cX12_go 153 = .ok (.goto (-73), 3) := by decide +kernel
theorem dX12_go_156 : decode cX12_go 156 = .ok (.iconst 0, 1) := by decide +kernel
theorem dX12_go_157 : decode cX12_go 157 = .ok (.istore_n 2, 1) := by decide +kernel
theorem dX12_go_158 : decode cX12_go 158 = .ok (.iload_n 2, 1) := by decide +kernel
theorem dX12_go_159 : decode cX12_go 159 = .ok (.sipush 360, 3) := by decide +kernel
theorem dX12_go_162 : decode cX12_go 162 = .ok (.if_icmp .ge 15, 3) := by decide +kernel
theorem dX12_go_165 : decode cX12_go 165 = .ok (.aload_n 0, 1) := by decide +kernel
theorem dX12_go_166 : decode cX12_go 166 = .ok (.iload_n 1, 1) := by decide +kernel
theorem dX12_go_167 : decode cX12_go 167 = .ok (.iload_n 2, 1) := by decide +kernel
theorem dX12_go_168 : decode cX12_go 168 = .ok (.invokevirtual 369, 3) := by decide +kernel
theorem dX12_go_171 : decode cX12_go 171 = .ok (.iinc 2 1, 3) := by decide +kernel
theorem dX12_go_174 : decode cX12_go 174 = .ok (.goto (-16), 3) := by decide +kernel
theorem dX12_go_177 : decode cX12_go 177 = .ok (.iconst 0, 1) := by decide +kernel
theorem dX12_go_178 : decode cX12_go 178 = .ok (.istore_n 2, 1) := by decide +kernel
theorem dX12_go_179 : decode cX12_go 179 = .ok (.iload_n 1, 1) := by decide +kernel
theorem dX12_go_180 : decode cX12_go 180 = .ok (.istore_n 3, 1) := by decide +kernel
theorem dX12_go_181 : decode cX12_go 181 = .ok (.iload_n 3, 1) := by decide +kernel
theorem dX12_go_182 : decode cX12_go 182 = .ok (.aload_n 0, 1) := by decide +kernel
theorem dX12_go_183 : decode cX12_go 183 = .ok (.getfield 350, 3) := by decide +kernel
theorem dX12_go_186 : decode cX12_go 186 = .ok (.if_icmp .ge 70, 3) := by decide +kernel
theorem dX12_go_189 : decode cX12_go 189 = .ok (.aload_n 0, 1) := by decide +kernel
theorem dX12_go_190 : decode cX12_go 190 = .ok (.getfield 188, 3) := by decide +kernel
theorem dX12_go_193 : decode cX12_go 193 = .ok (.iload_n 3, 1) := by decide +kernel
theorem dX12_go_194 : decode cX12_go 194 = .ok (.baload, 1) := by decide +kernel
theorem dX12_go_195 : decode cX12_go 195 = .ok (.ifCond .eq 10, 3) := by decide +kernel
theorem dX12_go_198 : decode cX12_go 198 = .ok (.aload_n 0, 1) := by decide +kernel
theorem dX12_go_199 : decode cX12_go 199 = .ok (.getfield 164, 3) := by decide +kernel
theorem dX12_go_202 : decode cX12_go 202 = .ok (.iload_n 3, 1) := by decide +kernel
theorem dX12_go_203 : decode cX12_go 203 = .ok (.iconst 3, 1) := by decide +kernel
theorem dX12_go_204 : decode cX12_go 204 = .ok (.iastore, 1) := by decide +kernel
theorem dX12_go_205 : decode cX12_go 205 = .ok (.aload_n 0, 1) := by decide +kernel
theorem dX12_go_206 : decode cX12_go 206 = .ok (.getfield 164, 3) := by decide +kernel
theorem dX12_go_209 : decode cX12_go 209 = .ok (.iload_n 3, 1) := by decide +kernel
theorem dX12_go_210 : decode cX12_go 210 = .ok (.iaload, 1) := by decide +kernel
theorem dX12_go_211 : decode cX12_go 211 = .ok (.iconst 1, 1) := by decide +kernel
theorem dX12_go_212 : decode cX12_go 212 = .ok (.if_icmp .eq 6, 3) := by decide +kernel
theorem dX12_go_215 : decode cX12_go 215 = .ok (.goto 35, 3) := by decide +kernel
theorem dX12_go_218 : decode cX12_go 218 = .ok (.iinc 2 1, 3) := by decide +kernel
theorem dX12_go_221 : decode cX12_go 221 = .ok (.aload_n 0, 1) := by decide +kernel
theorem dX12_go_222 : decode cX12_go 222 = .ok (.getfield 173, 3) := by decide +kernel
theorem dX12_go_225 : decode cX12_go 225 = .ok (.sipush 200, 3) := by decide +kernel
theorem dX12_go_228 : decode cX12_go 228 = .ok (.aload_n 0, 1) := by decide +kernel
theorem dX12_go_229 : decode cX12_go 229 = .ok (.getfield 167, 3) := by decide +kernel
theorem dX12_go_232 : decode cX12_go 232 = .ok (.iload_n 3, 1) := by decide +kernel
theorem dX12_go_233 : decode cX12_go 233 = .ok (.iaload, 1) := by decide +kernel
theorem dX12_go_234 : decode cX12_go 234 = .ok (.imul, 1) := by decide +kernel
theorem dX12_go_235 : decode cX12_go 235 = .ok (.aload_n 0, 1) := by decide +kernel
theorem dX12_go_236 : decode cX12_go 236 = .ok (.getfield 327, 3) := by decide +kernel
theorem dX12_go_239 : decode cX12_go 239 = .ok (.iadd, 1) := by decide +kernel
theorem dX12_go_240 : decode cX12_go 240 = .ok (.dup2, 1) := by decide +kernel
theorem dX12_go_241 : decode cX12_go 241 = .ok (.iaload, 1) := by decide +kernel
theorem dX12_go_242 : decode cX12_go 242 = .ok (.aload_n 0, 1) := by decide +kernel
theorem dX12_go_243 : decode cX12_go 243 = .ok (.getfield 161, 3) := by decide +kernel
theorem dX12_go_246 : decode cX12_go 246 = .ok (.iload_n 3, 1) := by decide +kernel
theorem dX12_go_247 : decode cX12_go 247 = .ok (.iaload, 1) := by decide +kernel
theorem dX12_go_248 : decode cX12_go 248 = .ok (.iadd, 1) := by decide +kernel
theorem dX12_go_249 : decode cX12_go 249 = .ok (.iastore, 1) := by decide +kernel
theorem dX12_go_250 : decode cX12_go 250 = .ok (.iinc 3 1, 3) := by decide +kernel
theorem dX12_go_253 : decode cX12_go 253 = .ok (.goto (-72), 3) := by decide +kernel
theorem dX12_go_256 : decode cX12_go 256 = .ok (.aload_n 0, 1) := by decide +kernel
theorem dX12_go_257 : decode cX12_go 257 = .ok (.getfield 110, 3) := by decide +kernel
theorem dX12_go_260 : decode cX12_go 260 = .ok (.aload_n 0, 1) := by decide +kernel
theorem dX12_go_261 : decode cX12_go 261 = .ok (.getfield 327, 3) := by decide +kernel
theorem dX12_go_264 : decode cX12_go 264 = .ok (.iconst 1, 1) := by decide +kernel
theorem dX12_go_265 : decode cX12_go 265 = .ok (.bastore, 1) := by decide +kernel
theorem dX12_go_266 : decode cX12_go 266 = .ok (.aload_n 0, 1) := by decide +kernel
theorem dX12_go_267 : decode cX12_go 267 = .ok (.dup, 1) := by decide +kernel
theorem dX12_go_268 : decode cX12_go 268 = .ok (.getfield 372, 3) := by decide +kernel
theorem dX12_go_271 : decode cX12_go 271 = .ok (.iconst 1, 1) := by decide +kernel
theorem dX12_go_272 : decode cX12_go 272 = .ok (.iadd, 1) := by decide +kernel
theorem dX12_go_273 : decode cX12_go 273 = .ok (.putfield 372, 3) := by decide +kernel
theorem dX12_go_276 : decode cX12_go 276 = .ok (.iload_n 2, 1) := by decide +kernel
theorem dX12_go_277 : decode cX12_go 277 = .ok (.ireturn, 1) := by decide +kernel
theorem dX12_oneMinute_0 : decode cX12_oneMinute 0 = .ok (.iload_n 1, 1) := by decide +kernel
theorem dX12_oneMinute_1 : decode cX12_oneMinute 1 = .ok (.istore_n 3, 1) := by decide +kernel
theorem dX12_oneMinute_2 : decode cX12_oneMinute 2 = .ok (.iload_n 3, 1) := by decide +kernel
theorem dX12_oneMinute_3 : decode cX12_oneMinute 3 = .ok (.aload_n 0, 1) := by decide +kernel
theorem dX12_oneMinute_4 : decode cX12_oneMinute 4 = .ok (.getfield 350, 3) := by decide +kernel
theorem dX12_oneMinute_7 : decode cX12_oneMinute 7 = .ok (.if_icmp .ge 42, 3) := by decide +kernel
theorem dX12_oneMinute_10 : decode cX12_oneMinute 10 = .ok (.aload_n 0, 1) := by decide +kernel
theorem dX12_oneMinute_11 : decode cX12_oneMinute 11 = .ok (.getfield 164, 3) := by decide +kernel
theorem dX12_oneMinute_14 : decode cX12_oneMinute 14 = .ok (.iload_n 3, 1) := by decide +kernel
theorem dX12_oneMinute_15 : decode cX12_oneMinute 15 = .ok (.iaload, 1) := by decide +kernel
theorem dX12_oneMinute_16 : decode cX12_oneMinute 16 = .ok (.iconst 1, 1) := by decide +kernel
theorem dX12_oneMinute_17 : decode cX12_oneMinute 17 = .ok (.if_icmp .ne 26, 3) := by decide +kernel
theorem dX12_oneMinute_20 : decode cX12_oneMinute 20 = .ok (.aload_n 0, 1) := by decide +kernel
theorem dX12_oneMinute_21 : decode cX12_oneMinute 21 = .ok (.getfield 170, 3) := by decide +kernel
theorem dX12_oneMinute_24 : decode cX12_oneMinute 24 = .ok (.iload_n 3, 1) := by decide +kernel
theorem dX12_oneMinute_25 : decode cX12_oneMinute 25 = .ok (.iaload, 1) := by decide +kernel
theorem dX12_oneMinute_26 : decode cX12_oneMinute 26 = .ok (.aload_n 0, 1) := by decide +kernel
theorem dX12_oneMinute_27 : decode cX12_oneMinute 27 = .ok (.getfield 161, 3) := by decide +kernel
theorem dX12_oneMinute_30 : decode cX12_oneMinute 30 = .ok (.iload_n 3, 1) := by decide +kernel
theorem dX12_oneMinute_31 : decode cX12_oneMinute 31 = .ok (.iaload, 1) := by decide +kernel
theorem dX12_oneMinute_32 : decode cX12_oneMinute 32 = .ok (.iadd, 1) := by decide +kernel
theorem dX12_oneMinute_33 : decode cX12_oneMinute 33 = .ok (.iload_n 2, 1) := by decide +kernel
theorem dX12_oneMinute_34 : decode cX12_oneMinute 34 = .ok (.if_icmp .ne 9, 3) := by decide +kernel
theorem dX12_oneMinute_37 : decode cX12_oneMinute 37 = .ok (.aload_n 0, 1) := by decide +kernel
theorem dX12_oneMinute_38 : decode cX12_oneMinute 38 = .ok (.iload_n 3, 1) := by decide +kernel
theorem dX12_oneMinute_39 : decode cX12_oneMinute 39 = .ok (.iload_n 2, 1) := by decide +kernel
theorem dX12_oneMinute_40 : decode cX12_oneMinute 40 = .ok (.invokevirtual 375, 3) := by decide +kernel
theorem dX12_oneMinute_43 : decode cX12_oneMinute 43 = .ok (.iinc 3 1, 3) := by decide +kernel
theorem dX12_oneMinute_46 : decode cX12_oneMinute 46 = .ok (.goto (-44), 3) := by decide +kernel
theorem dX12_oneMinute_49 : decode cX12_oneMinute 49 = .ok (.iload_n 1, 1) := by decide +kernel
theorem dX12_oneMinute_50 : decode cX12_oneMinute 50 = .ok (.istore_n 3, 1) := by decide +kernel
theorem dX12_oneMinute_51 : decode cX12_oneMinute 51 = .ok (.iload_n 3, 1) := by decide +kernel
theorem dX12_oneMinute_52 : decode cX12_oneMinute 52 = .ok (.aload_n 0, 1) := by decide +kernel
theorem dX12_oneMinute_53 : decode cX12_oneMinute 53 = .ok (.getfield 350, 3) := by decide +kernel
theorem dX12_oneMinute_56 : decode cX12_oneMinute 56 = .ok (.if_icmp .ge 26, 3) := by decide +kernel
theorem dX12_oneMinute_59 : decode cX12_oneMinute 59 = .ok (.aload_n 0, 1) := by decide +kernel
theorem dX12_oneMinute_60 : decode cX12_oneMinute 60 = .ok (.getfield 149, 3) := by decide +kernel
theorem dX12_oneMinute_63 : decode cX12_oneMinute 63 = .ok (.iload_n 3, 1) := by decide +kernel
theorem dX12_oneMinute_64 : decode cX12_oneMinute 64 = .ok (.iaload, 1) := by decide +kernel
theorem dX12_oneMinute_65 : decode cX12_oneMinute 65 = .ok (.iload_n 2, 1) := by decide +kernel
theorem dX12_oneMinute_66 : decode cX12_oneMinute 66 = .ok (.if_icmp .ne 10, 3) := by decide +kernel
theorem dX12_oneMinute_69 : decode cX12_oneMinute 69 = .ok (.aload_n 0, 1) := by decide +kernel
theorem dX12_oneMinute_70 : decode cX12_oneMinute 70 = .ok (.getfield 188, 3) := by decide +kernel
theorem dX12_oneMinute_73 : decode cX12_oneMinute 73 = .ok (.iload_n 3, 1) := by decide +kernel
theorem dX12_oneMinute_74 : decode cX12_oneMinute 74 = .ok (.iconst 1, 1) := by decide +kernel
theorem dX12_oneMinute_75 : decode cX12_oneMinute 75 = .ok (.bastore, 1) := by decide +kernel
theorem dX12_oneMinute_76 : decode cX12_oneMinute 76 = .ok (.iinc 3 1, 3) := by decide +kernel
theorem dX12_oneMinute_79 : decode cX12_oneMinute 79 = .ok (.goto (-28), 3) := by decide +kernel
theorem dX12_oneMinute_82 : decode cX12_oneMinute 82 = .ok (.iload_n 1, 1) := by decide +kernel
theorem dX12_oneMinute_83 : decode cX12_oneMinute 83 = .ok (.istore_n 3, 1) := by decide +kernel
theorem dX12_oneMinute_84 : decode cX12_oneMinute 84 = .ok (.iload_n 3, 1) := by decide +kernel
theorem dX12_oneMinute_85 : decode cX12_oneMinute 85 = .ok (.aload_n 0, 1) := by decide +kernel
theorem dX12_oneMinute_86 : decode cX12_oneMinute 86 = .ok (.getfield 350, 3) := by decide +kernel
theorem dX12_oneMinute_89 : decode cX12_oneMinute 89 = .ok (.if_icmp .ge 51, 3) := by decide +kernel
theorem dX12_oneMinute_92 : decode cX12_oneMinute 92 = .ok (.aload_n 0, 1) := by decide +kernel
theorem dX12_oneMinute_93 : decode cX12_oneMinute 93 = .ok (.getfield 188, 3) := by decide +kernel
theorem dX12_oneMinute_96 : decode cX12_oneMinute 96 = .ok (.iload_n 3, 1) := by decide +kernel
theorem dX12_oneMinute_97 : decode cX12_oneMinute 97 = .ok (.baload, 1) := by decide +kernel
theorem dX12_oneMinute_98 : decode cX12_oneMinute 98 = .ok (.ifCond .eq 36, 3) := by decide +kernel
theorem dX12_oneMinute_101 : decode cX12_oneMinute 101 = .ok (.aload_n 0, 1) := by decide +kernel
theorem dX12_oneMinute_102 : decode cX12_oneMinute 102 = .ok (.iload_n 3, 1) := by decide +kernel
theorem dX12_oneMinute_103 : decode cX12_oneMinute 103 = .ok (.iload_n 2, 1) := by decide +kernel
theorem dX12_oneMinute_104 : decode cX12_oneMinute 104 = .ok (.invokevirtual 378, 3) := by decide +kernel
theorem dX12_oneMinute_107 : decode cX12_oneMinute 107 = .ok (.ifCond .ne 6, 3) := by decide +kernel
theorem dX12_oneMinute_110 : decode cX12_oneMinute 110 = .ok (.goto 24, 3) := by decide +kernel
theorem dX12_oneMinute_113 : decode cX12_oneMinute 113 = .ok (.aload_n 0, 1) := by decide +kernel
theorem dX12_oneMinute_114 : decode cX12_oneMinute 114 = .ok (.getfield 188, 3) := by decide +kernel
theorem dX12_oneMinute_117 : decode cX12_oneMinute 117 = .ok (.iload_n 3, 1) := by decide +kernel
theorem dX12_oneMinute_118 : decode cX12_oneMinute 118 = .ok (.iconst 0, 1) := by decide +kernel
theorem dX12_oneMinute_119 : decode cX12_oneMinute 119 = .ok (.bastore, 1) := by decide +kernel
theorem dX12_oneMinute_120 : decode cX12_oneMinute 120 = .ok (.aload_n 0, 1) := by decide +kernel
theorem dX12_oneMinute_121 : decode cX12_oneMinute 121 = .ok (.getfield 164, 3) := by decide +kernel
theorem dX12_oneMinute_124 : decode cX12_oneMinute 124 = .ok (.iload_n 3, 1) := by decide +kernel
theorem dX12_oneMinute_125 : decode cX12_oneMinute 125 = .ok (.iconst 2, 1) := by decide +kernel
theorem dX12_oneMinute_126 : decode cX12_oneMinute 126 = .ok (.iastore, 1) := by decide +kernel
theorem dX12_oneMinute_127 : decode cX12_oneMinute 127 = .ok (.aload_n 0, 1) := by decide +kernel
theorem dX12_oneMinute_128 : decode cX12_oneMinute 128 = .ok (.getfield 170, 3) := by decide +kernel
theorem dX12_oneMinute_131 : decode cX12_oneMinute 131 = .ok (.iload_n 3, 1) := by decide +kernel
theorem dX12_oneMinute_132 : decode cX12_oneMinute 132 = .ok (.iload_n 2, 1) := by decide +kernel
theorem dX12_oneMinute_133 : decode cX12_oneMinute 133 = .ok (.iastore, 1) := by decide +kernel
theorem dX12_oneMinute_134 : decode cX12_oneMinute 134 = .ok (.iinc 3 1, 3) := by decide +kernel
theorem dX12_oneMinute_137 : decode cX12_oneMinute 137 = .ok (.goto (-53), 3) := by decide +kernel
theorem dX12_oneMinute_140 : decode cX12_oneMinute 140 = .ok (.iconst 0, 1) := by decide +kernel
theorem dX12_oneMinute_141 : decode cX12_oneMinute 141 = .ok (.istore_n 3, 1) := by decide +kernel
theorem dX12_oneMinute_142 : decode cX12_oneMinute 142 = .ok (.iload_n 1, 1) := by decide +kernel
theorem dX12_oneMinute_143 : decode cX12_oneMinute 143 = .ok (.istore 4, 2) := by decide +kernel
theorem dX12_oneMinute_145 : decode cX12_oneMinute 145 = .ok (.iload 4, 2) := by decide +kernel
theorem dX12_oneMinute_147 : decode cX12_oneMinute 147 = .ok (.aload_n 0, 1) := by decide +kernel
theorem dX12_oneMinute_148 : decode cX12_oneMinute 148 = .ok (.getfield 350, 3) := by decide +kernel
theorem dX12_oneMinute_151 : decode cX12_oneMinute 151 = .ok (.if_icmp .ge 47, 3) := by decide +kernel
theorem dX12_oneMinute_154 : decode cX12_oneMinute 154 = .ok (.aload_n 0, 1) := by decide +kernel
theorem dX12_oneMinute_155 : decode cX12_oneMinute 155 = .ok (.getfield 188, 3) := by decide +kernel
theorem dX12_oneMinute_158 : decode cX12_oneMinute 158 = .ok (.iload 4, 2) := by decide +kernel
theorem dX12_oneMinute_160 : decode cX12_oneMinute 160 = .ok (.baload, 1) := by decide +kernel
theorem dX12_oneMinute_161 : decode cX12_oneMinute 161 = .ok (.ifCond .ne 6, 3) := by decide +kernel
theorem dX12_oneMinute_164 : decode cX12_oneMinute 164 = .ok (.goto 28, 3) := by decide +kernel
theorem dX12_oneMinute_167 : decode cX12_oneMinute 167 = .ok (.aload_n 0, 1) := by decide +kernel
theorem dX12_oneMinute_168 : decode cX12_oneMinute 168 = .ok (.getfield 185, 3) := by decide +kernel
theorem dX12_oneMinute_171 : decode cX12_oneMinute 171 = .ok (.iload 4, 2) := by decide +kernel
theorem dX12_oneMinute_173 : decode cX12_oneMinute 173 = .ok (.aload_n 0, 1) := by decide +kernel
theorem dX12_oneMinute_174 : decode cX12_oneMinute 174 = .ok (.iload 4, 2) := by decide +kernel
theorem dX12_oneMinute_176 : decode cX12_oneMinute 176 = .ok (.iload_n 2, 1) := by decide +kernel
theorem dX12_oneMinute_177 : decode cX12_oneMinute 177 = .ok (.invokevirtual 382, 3) := by decide +kernel
theorem dX12_oneMinute_180 : decode cX12_oneMinute 180 = .ok (.iastore, 1) := by decide +kernel
theorem dX12_oneMinute_181 : decode cX12_oneMinute 181 = .ok (.aload_n 0, 1) := by decide +kernel
theorem dX12_oneMinute_182 : decode cX12_oneMinute 182 = .ok (.getfield 200, 3) := by decide +kernel
theorem dX12_oneMinute_185 : decode cX12_oneMinute 185 = .ok (.iload 4, 2) := by decide +kernel
theorem dX12_oneMinute_187 : decode cX12_oneMinute 187 = .ok (.iconst 0, 1) := by decide +kernel
theorem dX12_oneMinute_188 : decode cX12_oneMinute 188 = .ok (.bastore, 1) := by decide +kernel
theorem dX12_oneMinute_189 : decode cX12_oneMinute 189 = .ok (.iinc 3 1, 3) := by decide +kernel
theorem dX12_oneMinute_192 : decode cX12_oneMinute 192 = .ok (.iinc 4 1, 3) := by decide +kernel
theorem dX12_oneMinute_195 : decode cX12_oneMinute 195 = .ok (.goto (-50), 3) := by decide +kernel
theorem dX12_oneMinute_198 : decode cX12_oneMinute 198 = .ok (.iload_n 3, 1) := by decide +kernel
theorem dX12_oneMinute_199 : decode cX12_oneMinute 199 = .ok (.ifCond .le 92, 3) := by decide +kernel
theorem dX12_oneMinute_202 : decode cX12_oneMinute 202 = .ok (.iconst (-1), 1) := by decide +kernel
theorem dX12_oneMinute_203 : decode cX12_oneMinute 203 = .ok (.istore 4, 2) := by decide +kernel
theorem dX12_oneMinute_205 : decode cX12_oneMinute 205 = .ok (.iload_n 1, 1) := by decide +kernel
theorem dX12_oneMinute_206 : decode cX12_oneMinute 206 = .ok (.istore 5, 2) := by decide +kernel
theorem dX12_oneMinute_208 : decode cX12_oneMinute 208 = .ok (.iload 5, 2) := by decide +kernel
theorem dX12_oneMinute_210 : decode cX12_oneMinute 210 = .ok (.aload_n 0, 1) := by decide +kernel
theorem dX12_oneMinute_211 : decode cX12_oneMinute 211 = .ok (.getfield 350, 3) := by decide +kernel
theorem dX12_oneMinute_214 : decode cX12_oneMinute 214 = .ok (.if_icmp .ge 56, 3) := by decide +kernel
theorem dX12_oneMinute_217 : decode cX12_oneMinute 217 = .ok (.aload_n 0, 1) := by decide +kernel
theorem dX12_oneMinute_218 : decode cX12_oneMinute 218 = .ok (.getfield 188, 3) := by decide +kernel
theorem dX12_oneMinute_221 : decode cX12_oneMinute 221 = .ok (.iload 5, 2) := by decide +kernel
theorem dX12_oneMinute_223 : decode cX12_oneMinute 223 = .ok (.baload, 1) := by decide +kernel
theorem dX12_oneMinute_224 : decode cX12_oneMinute 224 = .ok (.ifCond .eq 40, 3) := by decide +kernel
theorem dX12_oneMinute_227 : decode cX12_oneMinute 227 = .ok (.aload_n 0, 1) := by decide +kernel
theorem dX12_oneMinute_228 : decode cX12_oneMinute 228 = .ok (.getfield 200, 3) := by decide +kernel
theorem dX12_oneMinute_231 : decode cX12_oneMinute 231 = .ok (.iload 5, 2) := by decide +kernel
theorem dX12_oneMinute_233 : decode cX12_oneMinute 233 = .ok (.baload, 1) := by decide +kernel
theorem dX12_oneMinute_234 : decode cX12_oneMinute 234 = .ok (.ifCond .ne 30, 3) := by decide +kernel
theorem dX12_oneMinute_237 : decode cX12_oneMinute 237 = .ok (.iload 4, 2) := by decide +kernel
theorem dX12_oneMinute_239 : decode cX12_oneMinute 239 = .ok (.iconst (-1), 1) := by decide +kernel
theorem dX12_oneMinute_240 : decode cX12_oneMinute 240 = .ok (.if_icmp .eq 20, 3) := by decide +kernel
theorem dX12_oneMinute_243 : decode cX12_oneMinute 243 = .ok (.aload_n 0, 1) := by decide +kernel
theorem dX12_oneMinute_244 : decode cX12_oneMinute 244 = .ok (.getfield 185, 3) := by decide +kernel
theorem dX12_oneMinute_247 : decode cX12_oneMinute 247 = .ok (.iload 5, 2) := by decide +kernel
theorem dX12_oneMinute_249 : decode cX12_oneMinute 249 = .ok (.iaload, 1) := by decide +kernel
theorem dX12_oneMinute_250 : decode cX12_oneMinute 250 = .ok (.aload_n 0, 1) := by decide +kernel
theorem dX12_oneMinute_251 : decode cX12_oneMinute 251 = .ok (.getfield 185, 3) := by decide +kernel
theorem dX12_oneMinute_254 : decode cX12_oneMinute 254 = .ok (.iload 4, 2) := by decide +kernel
theorem dX12_oneMinute_256 : decode cX12_oneMinute 256 = .ok (.iaload, 1) := by decide +kernel
theorem dX12_oneMinute_257 : decode cX12_oneMinute 257 = .ok (.if_icmp .le 7, 3) := by decide +kernel
theorem dX12_oneMinute_260 : decode cX12_oneMinute 260 = .ok (.iload 5, 2) := by decide +kernel
theorem dX12_oneMinute_262 : decode cX12_oneMinute 262 = .ok (.istore 4, 2) := by decide +kernel
theorem dX12_oneMinute_264 : decode cX12_oneMinute 264 = .ok (.iinc 5 1, 3) := by decide +kernel
theorem dX12_oneMinute_267 : decode cX12_oneMinute 267 = .ok (.goto (-59), 3) := by decide +kernel
theorem dX12_oneMinute_270 : decode cX12_oneMinute 270 = .ok (.aload_n 0, 1) := by decide +kernel
theorem dX12_oneMinute_271 : decode cX12_oneMinute 271 = .ok (.getfield 200, 3) := by decide +kernel
theorem dX12_oneMinute_274 : decode cX12_oneMinute 274 = .ok (.iload 4, 2) := by decide +kernel
theorem dX12_oneMinute_276 : decode cX12_oneMinute 276 = .ok (.iconst 1, 1) := by decide +kernel
theorem dX12_oneMinute_277 : decode cX12_oneMinute 277 = .ok (.bastore, 1) := by decide +kernel
theorem dX12_oneMinute_278 : decode cX12_oneMinute 278 = .ok (.aload_n 0, 1) := by decide +kernel
theorem dX12_oneMinute_279 : decode cX12_oneMinute 279 = .ok (.iload 4, 2) := by decide +kernel
theorem dX12_oneMinute_281 : decode cX12_oneMinute 281 = .ok (.iload_n 2, 1) := by decide +kernel
theorem dX12_oneMinute_282 : decode cX12_oneMinute 282 = .ok (.invokevirtual 385, 3) := by decide +kernel
theorem dX12_oneMinute_285 : decode cX12_oneMinute 285 = .ok (.iinc 3 (-1), 3) := by decide +kernel
theorem dX12_oneMinute_288 : decode cX12_oneMinute 288 = .ok (.goto (-90), 3) := by decide +kernel
theorem dX12_oneMinute_291 : decode cX12_oneMinute 291 = .ok (.return_, 1) := by decide +kernel
theorem dX12_told_0 : decode cX12_told 0 = .ok (.iload_n 1, 1) := by decide +kernel
theorem dX12_told_1 : decode cX12_told 1 = .ok (.ifCond .lt 11, 3) := by decide +kernel
theorem dX12_told_4 : decode cX12_told 4 = .ok (.iload_n 1, 1) := by decide +kernel
theorem dX12_told_5 : decode cX12_told 5 = .ok (.aload_n 0, 1) := by decide +kernel
theorem dX12_told_6 : decode cX12_told 6 = .ok (.getfield 350, 3) := by decide +kernel
theorem dX12_told_9 : decode cX12_told 9 = .ok (.if_icmp .lt 5, 3) := by decide +kernel
theorem dX12_told_12 : decode cX12_told 12 = .ok (.iconst (-1), 1) := by decide +kernel
theorem dX12_told_13 : decode cX12_told 13 = .ok (.ireturn, 1) := by decide +kernel
theorem dX12_told_14 : decode cX12_told 14 = .ok (.iload_n 2, 1) := by decide +kernel
theorem dX12_told_15 : decode cX12_told 15 = .ok (.tableswitch 100 0 5 #[37, 44, 51, 58, 65, 93], 37) := by decide +kernel
theorem dX12_told_52 : decode cX12_told 52 = .ok (.aload_n 0, 1) := by decide +kernel
theorem dX12_told_53 : decode cX12_told 53 = .ok (.getfield 146, 3) := by decide +kernel
theorem dX12_told_56 : decode cX12_told 56 = .ok (.iload_n 1, 1) := by decide +kernel
theorem dX12_told_57 : decode cX12_told 57 = .ok (.iaload, 1) := by decide +kernel
theorem dX12_told_58 : decode cX12_told 58 = .ok (.ireturn, 1) := by decide +kernel
theorem dX12_told_59 : decode cX12_told 59 = .ok (.aload_n 0, 1) := by decide +kernel
theorem dX12_told_60 : decode cX12_told 60 = .ok (.getfield 164, 3) := by decide +kernel
theorem dX12_told_63 : decode cX12_told 63 = .ok (.iload_n 1, 1) := by decide +kernel
theorem dX12_told_64 : decode cX12_told 64 = .ok (.iaload, 1) := by decide +kernel
theorem dX12_told_65 : decode cX12_told 65 = .ok (.ireturn, 1) := by decide +kernel
theorem dX12_told_66 : decode cX12_told 66 = .ok (.aload_n 0, 1) := by decide +kernel
theorem dX12_told_67 : decode cX12_told 67 = .ok (.getfield 167, 3) := by decide +kernel
theorem dX12_told_70 : decode cX12_told 70 = .ok (.iload_n 1, 1) := by decide +kernel
theorem dX12_told_71 : decode cX12_told 71 = .ok (.iaload, 1) := by decide +kernel
theorem dX12_told_72 : decode cX12_told 72 = .ok (.ireturn, 1) := by decide +kernel
theorem dX12_told_73 : decode cX12_told 73 = .ok (.aload_n 0, 1) := by decide +kernel
theorem dX12_told_74 : decode cX12_told 74 = .ok (.getfield 170, 3) := by decide +kernel
theorem dX12_told_77 : decode cX12_told 77 = .ok (.iload_n 1, 1) := by decide +kernel
theorem dX12_told_78 : decode cX12_told 78 = .ok (.iaload, 1) := by decide +kernel
theorem dX12_told_79 : decode cX12_told 79 = .ok (.ireturn, 1) := by decide +kernel
theorem dX12_told_80 : decode cX12_told 80 = .ok (.aload_n 0, 1) := by decide +kernel
theorem dX12_told_81 : decode cX12_told 81 = .ok (.getfield 164, 3) := by decide +kernel
theorem dX12_told_84 : decode cX12_told 84 = .ok (.iload_n 1, 1) := by decide +kernel
theorem dX12_told_85 : decode cX12_told 85 = .ok (.iaload, 1) := by decide +kernel
theorem dX12_told_86 : decode cX12_told 86 = .ok (.iconst 1, 1) := by decide +kernel
theorem dX12_told_87 : decode cX12_told 87 = .ok (.if_icmp .ne 19, 3) := by decide +kernel
theorem dX12_told_90 : decode cX12_told 90 = .ok (.aload_n 0, 1) := by decide +kernel
theorem dX12_told_91 : decode cX12_told 91 = .ok (.getfield 170, 3) := by decide +kernel
theorem dX12_told_94 : decode cX12_told 94 = .ok (.iload_n 1, 1) := by decide +kernel
theorem dX12_told_95 : decode cX12_told 95 = .ok (.iaload, 1) := by decide +kernel
theorem dX12_told_96 : decode cX12_told 96 = .ok (.aload_n 0, 1) := by decide +kernel
theorem dX12_told_97 : decode cX12_told 97 = .ok (.getfield 161, 3) := by decide +kernel
theorem dX12_told_100 : decode cX12_told 100 = .ok (.iload_n 1, 1) := by decide +kernel
theorem dX12_told_101 : decode cX12_told 101 = .ok (.iaload, 1) := by decide +kernel
theorem dX12_told_102 : decode cX12_told 102 = .ok (.iadd, 1) := by decide +kernel
theorem dX12_told_103 : decode cX12_told 103 = .ok (.goto 4, 3) := by decide +kernel
theorem dX12_told_106 : decode cX12_told 106 = .ok (.iconst (-1), 1) := by decide +kernel
theorem dX12_told_107 : decode cX12_told 107 = .ok (.ireturn, 1) := by decide +kernel
theorem dX12_told_108 : decode cX12_told 108 = .ok (.aload_n 0, 1) := by decide +kernel
theorem dX12_told_109 : decode cX12_told 109 = .ok (.getfield 152, 3) := by decide +kernel
theorem dX12_told_112 : decode cX12_told 112 = .ok (.iload_n 1, 1) := by decide +kernel
theorem dX12_told_113 : decode cX12_told 113 = .ok (.iaload, 1) := by decide +kernel
theorem dX12_told_114 : decode cX12_told 114 = .ok (.ireturn, 1) := by decide +kernel
theorem dX12_told_115 : decode cX12_told 115 = .ok (.iconst (-1), 1) := by decide +kernel
theorem dX12_told_116 : decode cX12_told 116 = .ok (.ireturn, 1) := by decide +kernel
theorem dX12_talked_0 : decode cX12_talked 0 = .ok (.aload_n 0, 1) := by decide +kernel
theorem dX12_talked_1 : decode cX12_talked 1 = .ok (.iload_n 1, 1) := by decide +kernel
theorem dX12_talked_2 : decode cX12_talked 2 = .ok (.invokevirtual 324, 3) := by decide +kernel
theorem dX12_talked_5 : decode cX12_talked 5 = .ok (.ifCond .eq 34, 3) := by decide +kernel
theorem dX12_talked_8 : decode cX12_talked 8 = .ok (.iload_n 2, 1) := by decide +kernel
theorem dX12_talked_9 : decode cX12_talked 9 = .ok (.invokestatic 334, 3) := by decide +kernel
theorem dX12_talked_12 : decode cX12_talked 12 = .ok (.ifCond .eq 27, 3) := by decide +kernel
theorem dX12_talked_15 : decode cX12_talked 15 = .ok (.aload_n 0, 1) := by decide +kernel
theorem dX12_talked_16 : decode cX12_talked 16 = .ok (.getfield 110, 3) := by decide +kernel
theorem dX12_talked_19 : decode cX12_talked 19 = .ok (.iload_n 2, 1) := by decide +kernel
theorem dX12_talked_20 : decode cX12_talked 20 = .ok (.baload, 1) := by decide +kernel
theorem dX12_talked_21 : decode cX12_talked 21 = .ok (.ifCond .eq 18, 3) := by decide +kernel
theorem dX12_talked_24 : decode cX12_talked 24 = .ok (.aload_n 0, 1) := by decide +kernel
theorem dX12_talked_25 : decode cX12_talked 25 = .ok (.getfield 173, 3) := by decide +kernel
theorem dX12_talked_28 : decode cX12_talked 28 = .ok (.sipush 200, 3) := by decide +kernel
theorem dX12_talked_31 : decode cX12_talked 31 = .ok (.iload_n 1, 1) := by decide +kernel
theorem dX12_talked_32 : decode cX12_talked 32 = .ok (.imul, 1) := by decide +kernel
theorem dX12_talked_33 : decode cX12_talked 33 = .ok (.iload_n 2, 1) := by decide +kernel
theorem dX12_talked_34 : decode cX12_talked 34 = .ok (.iadd, 1) := by decide +kernel
theorem dX12_talked_35 : decode cX12_talked 35 = .ok (.iaload, 1) := by decide +kernel
theorem dX12_talked_36 : decode cX12_talked 36 = .ok (.goto 4, 3) := by decide +kernel
theorem dX12_talked_39 : decode cX12_talked 39 = .ok (.iconst (-1), 1) := by decide +kernel
theorem dX12_talked_40 : decode cX12_talked 40 = .ok (.ireturn, 1) := by decide +kernel
theorem dX12_note_0 : decode cX12_note 0 = .ok (.aload_n 0, 1) := by decide +kernel
theorem dX12_note_1 : decode cX12_note 1 = .ok (.getfield 388, 3) := by decide +kernel
theorem dX12_note_4 : decode cX12_note 4 = .ok (.bipush 60, 2) := by decide +kernel
theorem dX12_note_6 : decode cX12_note 6 = .ok (.if_icmp .eq 34, 3) := by decide +kernel
theorem dX12_note_9 : decode cX12_note 9 = .ok (.iload_n 2, 1) := by decide +kernel
theorem dX12_note_10 : decode cX12_note 10 = .ok (.ifCond .lt 30, 3) := by decide +kernel
theorem dX12_note_13 : decode cX12_note 13 = .ok (.iload_n 2, 1) := by decide +kernel
theorem dX12_note_14 : decode cX12_note 14 = .ok (.iconst 3, 1) := by decide +kernel
theorem dX12_note_15 : decode cX12_note 15 = .ok (.if_icmp .gt 25, 3) := by decide +kernel
theorem dX12_note_18 : decode cX12_note 18 = .ok (.iload_n 1, 1) := by decide +kernel
theorem dX12_note_19 : decode cX12_note 19 = .ok (.ifCond .lt 21, 3) := by decide +kernel
theorem dX12_note_22 : decode cX12_note 22 = .ok (.iload_n 1, 1) := by decide +kernel
theorem dX12_note_23 : decode cX12_note 23 = .ok (.aload_n 0, 1) := by decide +kernel
theorem dX12_note_24 : decode cX12_note 24 = .ok (.getfield 350, 3) := by decide +kernel
theorem dX12_note_27 : decode cX12_note 27 = .ok (.if_icmp .ge 13, 3) := by decide +kernel
theorem dX12_note_30 : decode cX12_note 30 = .ok (.aload_n 0, 1) := by decide +kernel
theorem dX12_note_31 : decode cX12_note 31 = .ok (.getfield 164, 3) := by decide +kernel
theorem dX12_note_34 : decode cX12_note 34 = .ok (.iload_n 1, 1) := by decide +kernel
theorem dX12_note_35 : decode cX12_note 35 = .ok (.iaload, 1) := by decide +kernel
theorem dX12_note_36 : decode cX12_note 36 = .ok (.iconst 1, 1) := by decide +kernel
theorem dX12_note_37 : decode cX12_note 37 = .ok (.if_icmp .eq 5, 3) := by decide +kernel
theorem dX12_note_40 : decode cX12_note 40 = .ok (.iconst (-1), 1) := by decide +kernel
theorem dX12_note_41 : decode cX12_note 41 = .ok (.ireturn, 1) := by decide +kernel
theorem dX12_note_42 : decode cX12_note 42 = .ok (.aload_n 0, 1) := by decide +kernel
theorem dX12_note_43 : decode cX12_note 43 = .ok (.getfield 203, 3) := by decide +kernel
theorem dX12_note_46 : decode cX12_note 46 = .ok (.aload_n 0, 1) := by decide +kernel
theorem dX12_note_47 : decode cX12_note 47 = .ok (.getfield 388, 3) := by decide +kernel
theorem dX12_note_50 : decode cX12_note 50 = .ok (.iload_n 1, 1) := by decide +kernel
theorem dX12_note_51 : decode cX12_note 51 = .ok (.iastore, 1) := by decide +kernel
theorem dX12_note_52 : decode cX12_note 52 = .ok (.aload_n 0, 1) := by decide +kernel
theorem dX12_note_53 : decode cX12_note 53 = .ok (.getfield 206, 3) := by decide +kernel
theorem dX12_note_56 : decode cX12_note 56 = .ok (.aload_n 0, 1) := by decide +kernel
theorem dX12_note_57 : decode cX12_note 57 = .ok (.getfield 388, 3) := by decide +kernel
theorem dX12_note_60 : decode cX12_note 60 = .ok (.iload_n 2, 1) := by decide +kernel
theorem dX12_note_61 : decode cX12_note 61 = .ok (.iastore, 1) := by decide +kernel
theorem dX12_note_62 : decode cX12_note 62 = .ok (.aload_n 0, 1) := by decide +kernel
theorem dX12_note_63 : decode cX12_note 63 = .ok (.getfield 209, 3) := by decide +kernel
theorem dX12_note_66 : decode cX12_note 66 = .ok (.aload_n 0, 1) := by decide +kernel
theorem dX12_note_67 : decode cX12_note 67 = .ok (.getfield 388, 3) := by decide +kernel
theorem dX12_note_70 : decode cX12_note 70 = .ok (.aload_n 0, 1) := by decide +kernel
theorem dX12_note_71 : decode cX12_note 71 = .ok (.getfield 327, 3) := by decide +kernel
theorem dX12_note_74 : decode cX12_note 74 = .ok (.iastore, 1) := by decide +kernel
theorem dX12_note_75 : decode cX12_note 75 = .ok (.aload_n 0, 1) := by decide +kernel
theorem dX12_note_76 : decode cX12_note 76 = .ok (.dup, 1) := by decide +kernel
theorem dX12_note_77 : decode cX12_note 77 = .ok (.getfield 388, 3) := by decide +kernel
theorem dX12_note_80 : decode cX12_note 80 = .ok (.iconst 1, 1) := by decide +kernel
theorem dX12_note_81 : decode cX12_note 81 = .ok (.iadd, 1) := by decide +kernel
theorem dX12_note_82 : decode cX12_note 82 = .ok (.putfield 388, 3) := by decide +kernel
theorem dX12_note_85 : decode cX12_note 85 = .ok (.aload_n 0, 1) := by decide +kernel
theorem dX12_note_86 : decode cX12_note 86 = .ok (.getfield 388, 3) := by decide +kernel
theorem dX12_note_89 : decode cX12_note 89 = .ok (.iconst 1, 1) := by decide +kernel
theorem dX12_note_90 : decode cX12_note 90 = .ok (.isub, 1) := by decide +kernel
theorem dX12_note_91 : decode cX12_note 91 = .ok (.ireturn, 1) := by decide +kernel
theorem dX12_see_0 : decode cX12_see 0 = .ok (.aload_n 0, 1) := by decide +kernel
theorem dX12_see_1 : decode cX12_see 1 = .ok (.iload_n 1, 1) := by decide +kernel
theorem dX12_see_2 : decode cX12_see 2 = .ok (.invokevirtual 324, 3) := by decide +kernel
theorem dX12_see_5 : decode cX12_see 5 = .ok (.ifCond .eq 22, 3) := by decide +kernel
theorem dX12_see_8 : decode cX12_see 8 = .ok (.iload_n 2, 1) := by decide +kernel
theorem dX12_see_9 : decode cX12_see 9 = .ok (.ifCond .lt 18, 3) := by decide +kernel
theorem dX12_see_12 : decode cX12_see 12 = .ok (.iload_n 2, 1) := by decide +kernel
theorem dX12_see_13 : decode cX12_see 13 = .ok (.aload_n 0, 1) := by decide +kernel
theorem dX12_see_14 : decode cX12_see 14 = .ok (.getfield 388, 3) := by decide +kernel
theorem dX12_see_17 : decode cX12_see 17 = .ok (.if_icmp .ge 10, 3) := by decide +kernel
theorem dX12_see_20 : decode cX12_see 20 = .ok (.iload_n 3, 1) := by decide +kernel
theorem dX12_see_21 : decode cX12_see 21 = .ok (.invokestatic 334, 3) := by decide +kernel
theorem dX12_see_24 : decode cX12_see 24 = .ok (.ifCond .ne 5, 3) := by decide +kernel
theorem dX12_see_27 : decode cX12_see 27 = .ok (.iconst (-1), 1) := by decide +kernel
theorem dX12_see_28 : decode cX12_see 28 = .ok (.ireturn, 1) := by decide +kernel
theorem dX12_see_29 : decode cX12_see 29 = .ok (.iload_n 3, 1) := by decide +kernel
theorem dX12_see_30 : decode cX12_see 30 = .ok (.aload_n 0, 1) := by decide +kernel
theorem dX12_see_31 : decode cX12_see 31 = .ok (.getfield 209, 3) := by decide +kernel
theorem dX12_see_34 : decode cX12_see 34 = .ok (.iload_n 2, 1) := by decide +kernel
theorem dX12_see_35 : decode cX12_see 35 = .ok (.iaload, 1) := by decide +kernel
theorem dX12_see_36 : decode cX12_see 36 = .ok (.if_icmp .ge 5, 3) := by decide +kernel
theorem dX12_see_39 : decode cX12_see 39 = .ok (.iconst 0, 1) := by decide +kernel
theorem dX12_see_40 : decode cX12_see 40 = .ok (.ireturn, 1) := by decide +kernel
theorem dX12_see_41 : decode cX12_see 41 = .ok (.aload_n 0, 1) := by decide +kernel
theorem dX12_see_42 : decode cX12_see 42 = .ok (.getfield 203, 3) := by decide +kernel
theorem dX12_see_45 : decode cX12_see 45 = .ok (.iload_n 2, 1) := by decide +kernel
theorem dX12_see_46 : decode cX12_see 46 = .ok (.iaload, 1) := by decide +kernel
theorem dX12_see_47 : decode cX12_see 47 = .ok (.istore 4, 2) := by decide +kernel
theorem dX12_see_49 : decode cX12_see 49 = .ok (.aload_n 0, 1) := by decide +kernel
theorem dX12_see_50 : decode cX12_see 50 = .ok (.getfield 167, 3) := by decide +kernel
theorem dX12_see_53 : decode cX12_see 53 = .ok (.iload 4, 2) := by decide +kernel
theorem dX12_see_55 : decode cX12_see 55 = .ok (.iaload, 1) := by decide +kernel
theorem dX12_see_56 : decode cX12_see 56 = .ok (.iload_n 1, 1) := by decide +kernel
theorem dX12_see_57 : decode cX12_see 57 = .ok (.if_icmp .ne 5, 3) := by decide +kernel
theorem dX12_see_60 : decode cX12_see 60 = .ok (.iconst 1, 1) := by decide +kernel
theorem dX12_see_61 : decode cX12_see 61 = .ok (.ireturn, 1) := by decide +kernel
theorem dX12_see_62 : decode cX12_see 62 = .ok (.aload_n 0, 1) := by decide +kernel
theorem dX12_see_63 : decode cX12_see 63 = .ok (.getfield 85, 3) := by decide +kernel
theorem dX12_see_66 : decode cX12_see 66 = .ok (.iload_n 1, 1) := by decide +kernel
theorem dX12_see_67 : decode cX12_see 67 = .ok (.iaload, 1) := by decide +kernel
theorem dX12_see_68 : decode cX12_see 68 = .ok (.aload_n 0, 1) := by decide +kernel
theorem dX12_see_69 : decode cX12_see 69 = .ok (.getfield 206, 3) := by decide +kernel
theorem dX12_see_72 : decode cX12_see 72 = .ok (.iload_n 2, 1) := by decide +kernel
theorem dX12_see_73 : decode cX12_see 73 = .ok (.iaload, 1) := by decide +kernel
theorem dX12_see_74 : decode cX12_see 74 = .ok (.if_icmp .lt 23, 3) := by decide +kernel
theorem dX12_see_77 : decode cX12_see 77 = .ok (.aload_n 0, 1) := by decide +kernel
theorem dX12_see_78 : decode cX12_see 78 = .ok (.aload_n 0, 1) := by decide +kernel
theorem dX12_see_79 : decode cX12_see 79 = .ok (.getfield 152, 3) := by decide +kernel
theorem dX12_see_82 : decode cX12_see 82 = .ok (.iload 4, 2) := by decide +kernel
theorem dX12_see_84 : decode cX12_see 84 = .ok (.iaload, 1) := by decide +kernel
theorem dX12_see_85 : decode cX12_see 85 = .ok (.iload_n 1, 1) := by decide +kernel
theorem dX12_see_86 : decode cX12_see 86 = .ok (.iload_n 3, 1) := by decide +kernel
theorem dX12_see_87 : decode cX12_see 87 = .ok (.invokevirtual 363, 3) := by decide +kernel
theorem dX12_see_90 : decode cX12_see 90 = .ok (.ifCond .ne 7, 3) := by decide +kernel
theorem dX12_see_93 : decode cX12_see 93 = .ok (.iconst 1, 1) := by decide +kernel
theorem dX12_see_94 : decode cX12_see 94 = .ok (.goto 4, 3) := by decide +kernel
theorem dX12_see_97 : decode cX12_see 97 = .ok (.iconst 0, 1) := by decide +kernel
theorem dX12_see_98 : decode cX12_see 98 = .ok (.ireturn, 1) := by decide +kernel
theorem dX12_foretold_0 : decode cX12_foretold 0 = .ok (.iload_n 1, 1) := by decide +kernel
theorem dX12_foretold_1 : decode cX12_foretold 1 = .ok (.ifCond .lt 15, 3) := by decide +kernel
theorem dX12_foretold_4 : decode cX12_foretold 4 = .ok (.iload_n 1, 1) := by decide +kernel
theorem dX12_foretold_5 : decode cX12_foretold 5 = .ok (.iconst 5, 1) := by decide +kernel
theorem dX12_foretold_6 : decode cX12_foretold 6 = .ok (.if_icmp .gt 10, 3) := by decide +kernel
theorem dX12_foretold_9 : decode cX12_foretold 9 = .ok (.iload_n 2, 1) := by decide +kernel
theorem dX12_foretold_10 : decode cX12_foretold 10 = .ok (.invokestatic 334, 3) := by decide +kernel
theorem dX12_foretold_13 : decode cX12_foretold 13 = .ok (.ifCond .ne 5, 3) := by decide +kernel
theorem dX12_foretold_16 : decode cX12_foretold 16 = .ok (.iconst (-1), 1) := by decide +kernel
theorem dX12_foretold_17 : decode cX12_foretold 17 = .ok (.ireturn, 1) := by decide +kernel
theorem dX12_foretold_18 : decode cX12_foretold 18 = .ok (.iconst 0, 1) := by decide +kernel
theorem dX12_foretold_19 : decode cX12_foretold 19 = .ok (.istore_n 3, 1) := by decide +kernel
theorem dX12_foretold_20 : decode cX12_foretold 20 = .ok (.iconst 0, 1) := by decide +kernel
theorem dX12_foretold_21 : decode cX12_foretold 21 = .ok (.istore 4, 2) := by decide +kernel
theorem dX12_foretold_23 : decode cX12_foretold 23 = .ok (.iconst 0, 1) := by decide +kernel
theorem dX12_foretold_24 : decode cX12_foretold 24 = .ok (.istore 5, 2) := by decide +kernel
theorem dX12_foretold_26 : decode cX12_foretold 26 = .ok (.iload 5, 2) := by decide +kernel
theorem dX12_foretold_28 : decode cX12_foretold 28 = .ok (.aload_n 0, 1) := by decide +kernel
theorem dX12_foretold_29 : decode cX12_foretold 29 = .ok (.getfield 327, 3) := by decide +kernel
theorem dX12_foretold_32 : decode cX12_foretold 32 = .ok (.if_icmp .ge 110, 3) := by decide +kernel
theorem dX12_foretold_35 : decode cX12_foretold 35 = .ok (.aload_n 0, 1) := by decide +kernel
theorem dX12_foretold_36 : decode cX12_foretold 36 = .ok (.getfield 110, 3) := by decide +kernel
theorem dX12_foretold_39 : decode cX12_foretold 39 = .ok (.iload 5, 2) := by decide +kernel
theorem dX12_foretold_41 : decode cX12_foretold 41 = .ok (.baload, 1) := by decide +kernel
theorem dX12_foretold_42 : decode cX12_foretold 42 = .ok (.ifCond .eq 94, 3) := by decide +kernel
theorem dX12_foretold_45 : decode cX12_foretold 45 = .ok (.aload_n 0, 1) := by decide +kernel
theorem dX12_foretold_46 : decode cX12_foretold 46 = .ok (.getfield 107, 3) := by decide +kernel
theorem dX12_foretold_49 : decode cX12_foretold 49 = .ok (.iload 5, 2) := by decide +kernel
theorem dX12_foretold_51 : decode cX12_foretold 51 = .ok (.baload, 1) := by decide +kernel
theorem dX12_foretold_52 : decode cX12_foretold 52 = .ok (.aload_n 0, 1) := by decide +kernel
theorem dX12_foretold_53 : decode cX12_foretold 53 = .ok (.getfield 107, 3) := by decide +kernel
theorem dX12_foretold_56 : decode cX12_foretold 56 = .ok (.iload_n 2, 1) := by decide +kernel
theorem dX12_foretold_57 : decode cX12_foretold 57 = .ok (.baload, 1) := by decide +kernel
theorem dX12_foretold_58 : decode cX12_foretold 58 = .ok (.if_icmp .ne 78, 3) := by decide +kernel
theorem dX12_foretold_61 : decode cX12_foretold 61 = .ok (.aload_n 0, 1) := by decide +kernel
theorem dX12_foretold_62 : decode cX12_foretold 62 = .ok (.getfield 107, 3) := by decide +kernel
theorem dX12_foretold_65 : decode cX12_foretold 65 = .ok (.iload 5, 2) := by decide +kernel
theorem dX12_foretold_67 : decode cX12_foretold 67 = .ok (.baload, 1) := by decide +kernel
theorem dX12_foretold_68 : decode cX12_foretold 68 = .ok (.ifCond .ne 18, 3) := by decide +kernel
theorem dX12_foretold_71 : decode cX12_foretold 71 = .ok (.iload 5, 2) := by decide +kernel
theorem dX12_foretold_73 : decode cX12_foretold 73 = .ok (.bipush 7, 2) := by decide +kernel
theorem dX12_foretold_75 : decode cX12_foretold 75 = .ok (.irem, 1) := by decide +kernel
theorem dX12_foretold_76 : decode cX12_foretold 76 = .ok (.iload_n 2, 1) := by decide +kernel
theorem dX12_foretold_77 : decode cX12_foretold 77 = .ok (.bipush 7, 2) := by decide +kernel
theorem dX12_foretold_79 : decode cX12_foretold 79 = .ok (.irem, 1) := by decide +kernel
theorem dX12_foretold_80 : decode cX12_foretold 80 = .ok (.if_icmp .eq 6, 3) := by decide +kernel
theorem dX12_foretold_83 : decode cX12_foretold 83 = .ok (.goto 53, 3) := by decide +kernel
theorem dX12_foretold_86 : decode cX12_foretold 86 = .ok (.iinc 3 1, 3) := by decide +kernel
theorem dX12_foretold_89 : decode cX12_foretold 89 = .ok (.iconst 0, 1) := by decide +kernel
theorem dX12_foretold_90 : decode cX12_foretold 90 = .ok (.istore 6, 2) := by decide +kernel
theorem dX12_foretold_92 : decode cX12_foretold 92 = .ok (.iload 6, 2) := by decide +kernel
theorem dX12_foretold_94 : decode cX12_foretold 94 = .ok (.aload_n 0, 1) := by decide +kernel
theorem dX12_foretold_95 : decode cX12_foretold 95 = .ok (.getfield 350, 3) := by decide +kernel
theorem dX12_foretold_98 : decode cX12_foretold 98 = .ok (.if_icmp .ge 38, 3) := by decide +kernel
theorem dX12_foretold_101 : decode cX12_foretold 101 = .ok (.aload_n 0, 1) := by decide +kernel
theorem dX12_foretold_102 : decode cX12_foretold 102 = .ok (.getfield 146, 3) := by decide +kernel
theorem dX12_foretold_105 : decode cX12_foretold 105 = .ok (.iload 6, 2) := by decide +kernel
theorem dX12_foretold_107 : decode cX12_foretold 107 = .ok (.iaload, 1) := by decide +kernel
theorem dX12_foretold_108 : decode cX12_foretold 108 = .ok (.iload 5, 2) := by decide +kernel
theorem dX12_foretold_110 : decode cX12_foretold 110 = .ok (.if_icmp .ne 20, 3) := by decide +kernel
theorem dX12_foretold_113 : decode cX12_foretold 113 = .ok (.aload_n 0, 1) := by decide +kernel
theorem dX12_foretold_114 : decode cX12_foretold 114 = .ok (.getfield 149, 3) := by decide +kernel
theorem dX12_foretold_117 : decode cX12_foretold 117 = .ok (.iload 6, 2) := by decide +kernel
theorem dX12_foretold_119 : decode cX12_foretold 119 = .ok (.iaload, 1) := by decide +kernel
theorem dX12_foretold_120 : decode cX12_foretold 120 = .ok (.bipush 60, 2) := by decide +kernel
theorem dX12_foretold_122 : decode cX12_foretold 122 = .ok (.idiv, 1) := by decide +kernel
theorem dX12_foretold_123 : decode cX12_foretold 123 = .ok (.iload_n 1, 1) := by decide +kernel
theorem dX12_foretold_124 : decode cX12_foretold 124 = .ok (.if_icmp .ne 6, 3) := by decide +kernel
theorem dX12_foretold_127 : decode cX12_foretold 127 = .ok (.iinc 4 1, 3) := by decide +kernel
theorem dX12_foretold_130 : decode cX12_foretold 130 = .ok (.iinc 6 1, 3) := by decide +kernel
theorem dX12_foretold_133 : decode cX12_foretold 133 = .ok (.goto (-41), 3) := by decide +kernel
theorem dX12_foretold_136 : decode cX12_foretold 136 = .ok (.iinc 5 1, 3) := by decide +kernel
theorem dX12_foretold_139 : decode cX12_foretold 139 = .ok (.goto (-113), 3) := by decide +kernel
theorem dX12_foretold_142 : decode cX12_foretold 142 = .ok (.iload_n 3, 1) := by decide +kernel
theorem dX12_foretold_143 : decode cX12_foretold 143 = .ok (.ifCond .ne 7, 3) := by decide +kernel
theorem dX12_foretold_146 : decode cX12_foretold 146 = .ok (.iconst (-1), 1) := by decide +kernel
theorem dX12_foretold_147 : decode cX12_foretold 147 = .ok (.goto 10, 3) := by decide +kernel
theorem dX12_foretold_150 : decode cX12_foretold 150 = .ok (.bipush 100, 2) := by decide +kernel
theorem dX12_foretold_152 : decode cX12_foretold 152 = .ok (.iload 4, 2) := by decide +kernel
theorem dX12_foretold_154 : decode cX12_foretold 154 = .ok (.imul, 1) := by decide +kernel
theorem dX12_foretold_155 : decode cX12_foretold 155 = .ok (.iload_n 3, 1) := by decide +kernel
theorem dX12_foretold_156 : decode cX12_foretold 156 = .ok (.idiv, 1) := by decide +kernel
theorem dX12_foretold_157 : decode cX12_foretold 157 = .ok (.ireturn, 1) := by decide +kernel
theorem dX12_how_0 : decode cX12_how 0 = .ok (.iconst 0, 1) := by decide +kernel
theorem dX12_how_1 : decode cX12_how 1 = .ok (.istore_n 2, 1) := by decide +kernel
theorem dX12_how_2 : decode cX12_how 2 = .ok (.iconst 0, 1) := by decide +kernel
theorem dX12_how_3 : decode cX12_how 3 = .ok (.istore_n 3, 1) := by decide +kernel
theorem dX12_how_4 : decode cX12_how 4 = .ok (.iload_n 3, 1) := by decide +kernel
theorem dX12_how_5 : decode cX12_how 5 = .ok (.aload_n 0, 1) := by decide +kernel
theorem dX12_how_6 : decode cX12_how 6 = .ok (.getfield 350, 3) := by decide +kernel
theorem dX12_how_9 : decode cX12_how 9 = .ok (.if_icmp .ge 22, 3) := by decide +kernel
theorem dX12_how_12 : decode cX12_how 12 = .ok (.aload_n 0, 1) := by decide +kernel
theorem dX12_how_13 : decode cX12_how 13 = .ok (.getfield 164, 3) := by decide +kernel
theorem dX12_how_16 : decode cX12_how 16 = .ok (.iload_n 3, 1) := by decide +kernel
theorem dX12_how_17 : decode cX12_how 17 = .ok (.iaload, 1) := by decide +kernel
theorem dX12_how_18 : decode cX12_how 18 = .ok (.iload_n 1, 1) := by decide +kernel
theorem dX12_how_19 : decode cX12_how 19 = .ok (.if_icmp .ne 6, 3) := by decide +kernel
theorem dX12_how_22 : decode cX12_how 22 = .ok (.iinc 2 1, 3) := by decide +kernel
theorem dX12_how_25 : decode cX12_how 25 = .ok (.iinc 3 1, 3) := by decide +kernel
theorem dX12_how_28 : decode cX12_how 28 = .ok (.goto (-24), 3) := by decide +kernel
theorem dX12_how_31 : decode cX12_how 31 = .ok (.iload_n 2, 1) := by decide +kernel
theorem dX12_how_32 : decode cX12_how 32 = .ok (.ireturn, 1) := by decide +kernel
theorem dX12_count_0 : decode cX12_count 0 = .ok (.iload_n 1, 1) := by decide +kernel
theorem dX12_count_1 : decode cX12_count 1 = .ok (.tableswitch 122 0 10 #[59, 64, 69, 74, 79, 85, 91, 97, 102, 112, 117], 59) := by decide +kernel
theorem dX12_count_60 : decode cX12_count 60 = .ok (.aload_n 0, 1) := by decide +kernel
theorem dX12_count_61 : decode cX12_count 61 = .ok (.getfield 318, 3) := by decide +kernel
theorem dX12_count_64 : decode cX12_count 64 = .ok (.ireturn, 1) := by decide +kernel
theorem dX12_count_65 : decode cX12_count 65 = .ok (.aload_n 0, 1) := by decide +kernel
theorem dX12_count_66 : decode cX12_count 66 = .ok (.getfield 321, 3) := by decide +kernel
theorem dX12_count_69 : decode cX12_count 69 = .ok (.ireturn, 1) := by decide +kernel
theorem dX12_count_70 : decode cX12_count 70 = .ok (.aload_n 0, 1) := by decide +kernel
theorem dX12_count_71 : decode cX12_count 71 = .ok (.getfield 327, 3) := by decide +kernel
theorem dX12_count_74 : decode cX12_count 74 = .ok (.ireturn, 1) := by decide +kernel
theorem dX12_count_75 : decode cX12_count 75 = .ok (.aload_n 0, 1) := by decide +kernel
theorem dX12_count_76 : decode cX12_count 76 = .ok (.getfield 350, 3) := by decide +kernel
theorem dX12_count_79 : decode cX12_count 79 = .ok (.ireturn, 1) := by decide +kernel
theorem dX12_count_80 : decode cX12_count 80 = .ok (.aload_n 0, 1) := by decide +kernel
theorem dX12_count_81 : decode cX12_count 81 = .ok (.iconst 1, 1) := by decide +kernel
theorem dX12_count_82 : decode cX12_count 82 = .ok (.invokevirtual 391, 3) := by decide +kernel
theorem dX12_count_85 : decode cX12_count 85 = .ok (.ireturn, 1) := by decide +kernel
theorem dX12_count_86 : decode cX12_count 86 = .ok (.aload_n 0, 1) := by decide +kernel
theorem dX12_count_87 : decode cX12_count 87 = .ok (.iconst 2, 1) := by decide +kernel
theorem dX12_count_88 : decode cX12_count 88 = .ok (.invokevirtual 391, 3) := by decide +kernel
theorem dX12_count_91 : decode cX12_count 91 = .ok (.ireturn, 1) := by decide +kernel
theorem dX12_count_92 : decode cX12_count 92 = .ok (.aload_n 0, 1) := by decide +kernel
theorem dX12_count_93 : decode cX12_count 93 = .ok (.iconst 3, 1) := by decide +kernel
theorem dX12_count_94 : decode cX12_count 94 = .ok (.invokevirtual 391, 3) := by decide +kernel
theorem dX12_count_97 : decode cX12_count 97 = .ok (.ireturn, 1) := by decide +kernel
theorem dX12_count_98 : decode cX12_count 98 = .ok (.aload_n 0, 1) := by decide +kernel
theorem dX12_count_99 : decode cX12_count 99 = .ok (.getfield 388, 3) := by decide +kernel
theorem dX12_count_102 : decode cX12_count 102 = .ok (.ireturn, 1) := by decide +kernel
theorem dX12_count_103 : decode cX12_count 103 = .ok (.aload_n 0, 1) := by decide +kernel
theorem dX12_count_104 : decode cX12_count 104 = .ok (.getfield 40, 3) := by decide +kernel
theorem dX12_count_107 : decode cX12_count 107 = .ok (.aload_n 0, 1) := by decide +kernel
theorem dX12_count_108 : decode cX12_count 108 = .ok (.getfield 283, 3) := by decide +kernel
theorem dX12_count_111 : decode cX12_count 111 = .ok (.iaload, 1) := by decide +kernel
theorem dX12_count_112 : decode cX12_count 112 = .ok (.ireturn, 1) := by decide +kernel
theorem dX12_count_113 : decode cX12_count 113 = .ok (.aload_n 0, 1) := by decide +kernel
theorem dX12_count_114 : decode cX12_count 114 = .ok (.getfield 372, 3) := by decide +kernel
theorem dX12_count_117 : decode cX12_count 117 = .ok (.ireturn, 1) := by decide +kernel
theorem dX12_count_118 : decode cX12_count 118 = .ok (.aload_n 0, 1) := by decide +kernel
theorem dX12_count_119 : decode cX12_count 119 = .ok (.getfield 216, 3) := by decide +kernel
theorem dX12_count_122 : decode cX12_count 122 = .ok (.ireturn, 1) := by decide +kernel
theorem dX12_count_123 : decode cX12_count 123 = .ok (.iconst (-1), 1) := by decide +kernel
theorem dX12_count_124 : decode cX12_count 124 = .ok (.ireturn, 1) := by decide +kernel
theorem dJ6_bitCount_0f7a4_0 : decode cJ6_bitCount_0f7a4 0 = .ok (.iload_n 0, 1) := by decide +kernel
theorem dJ6_bitCount_0f7a4_1 : decode cJ6_bitCount_0f7a4 1 = .ok (.iload_n 0, 1) := by decide +kernel
theorem dJ6_bitCount_0f7a4_2 : decode cJ6_bitCount_0f7a4 2 = .ok (.iconst 1, 1) := by decide +kernel
theorem dJ6_bitCount_0f7a4_3 : decode cJ6_bitCount_0f7a4 3 = .ok (.iushr, 1) := by decide +kernel
theorem dJ6_bitCount_0f7a4_4 : decode cJ6_bitCount_0f7a4 4 = .ok (.ldc_w 265, 3) := by decide +kernel
theorem dJ6_bitCount_0f7a4_7 : decode cJ6_bitCount_0f7a4 7 = .ok (.iand, 1) := by decide +kernel
theorem dJ6_bitCount_0f7a4_8 : decode cJ6_bitCount_0f7a4 8 = .ok (.isub, 1) := by decide +kernel
theorem dJ6_bitCount_0f7a4_9 : decode cJ6_bitCount_0f7a4 9 = .ok (.istore_n 0, 1) := by decide +kernel
theorem dJ6_bitCount_0f7a4_10 : decode cJ6_bitCount_0f7a4 10 = .ok (.iload_n 0, 1) := by decide +kernel
theorem dJ6_bitCount_0f7a4_11 : decode cJ6_bitCount_0f7a4 11 = .ok (.ldc_w 266, 3) := by decide +kernel
theorem dJ6_bitCount_0f7a4_14 : decode cJ6_bitCount_0f7a4 14 = .ok (.iand, 1) := by decide +kernel
theorem dJ6_bitCount_0f7a4_15 : decode cJ6_bitCount_0f7a4 15 = .ok (.iload_n 0, 1) := by decide +kernel
theorem dJ6_bitCount_0f7a4_16 : decode cJ6_bitCount_0f7a4 16 = .ok (.iconst 2, 1) := by decide +kernel
theorem dJ6_bitCount_0f7a4_17 : decode cJ6_bitCount_0f7a4 17 = .ok (.iushr, 1) := by decide +kernel
theorem dJ6_bitCount_0f7a4_18 : decode cJ6_bitCount_0f7a4 18 = .ok (.ldc_w 266, 3) := by decide +kernel
theorem dJ6_bitCount_0f7a4_21 : decode cJ6_bitCount_0f7a4 21 = .ok (.iand, 1) := by decide +kernel
theorem dJ6_bitCount_0f7a4_22 : decode cJ6_bitCount_0f7a4 22 = .ok (.iadd, 1) := by decide +kernel
theorem dJ6_bitCount_0f7a4_23 : decode cJ6_bitCount_0f7a4 23 = .ok (.istore_n 0, 1) := by decide +kernel
theorem dJ6_bitCount_0f7a4_24 : decode cJ6_bitCount_0f7a4 24 = .ok (.iload_n 0, 1) := by decide +kernel
theorem dJ6_bitCount_0f7a4_25 : decode cJ6_bitCount_0f7a4 25 = .ok (.iload_n 0, 1) := by decide +kernel
theorem dJ6_bitCount_0f7a4_26 : decode cJ6_bitCount_0f7a4 26 = .ok (.iconst 4, 1) := by decide +kernel
theorem dJ6_bitCount_0f7a4_27 : decode cJ6_bitCount_0f7a4 27 = .ok (.iushr, 1) := by decide +kernel
theorem dJ6_bitCount_0f7a4_28 : decode cJ6_bitCount_0f7a4 28 = .ok (.iadd, 1) := by decide +kernel
theorem dJ6_bitCount_0f7a4_29 : decode cJ6_bitCount_0f7a4 29 = .ok (.ldc_w 267, 3) := by decide +kernel
theorem dJ6_bitCount_0f7a4_32 : decode cJ6_bitCount_0f7a4 32 = .ok (.iand, 1) := by decide +kernel
theorem dJ6_bitCount_0f7a4_33 : decode cJ6_bitCount_0f7a4 33 = .ok (.istore_n 0, 1) := by decide +kernel
theorem dJ6_bitCount_0f7a4_34 : decode cJ6_bitCount_0f7a4 34 = .ok (.iload_n 0, 1) := by decide +kernel
theorem dJ6_bitCount_0f7a4_35 : decode cJ6_bitCount_0f7a4 35 = .ok (.iload_n 0, 1) := by decide +kernel
theorem dJ6_bitCount_0f7a4_36 : decode cJ6_bitCount_0f7a4 36 = .ok (.bipush 8, 2) := by decide +kernel
theorem dJ6_bitCount_0f7a4_38 : decode cJ6_bitCount_0f7a4 38 = .ok (.iushr, 1) := by decide +kernel
theorem dJ6_bitCount_0f7a4_39 : decode cJ6_bitCount_0f7a4 39 = .ok (.iadd, 1) := by decide +kernel
theorem dJ6_bitCount_0f7a4_40 : decode cJ6_bitCount_0f7a4 40 = .ok (.istore_n 0, 1) := by decide +kernel
theorem dJ6_bitCount_0f7a4_41 : decode cJ6_bitCount_0f7a4 41 = .ok (.iload_n 0, 1) := by decide +kernel
theorem dJ6_bitCount_0f7a4_42 : decode cJ6_bitCount_0f7a4 42 = .ok (.iload_n 0, 1) := by decide +kernel
theorem dJ6_bitCount_0f7a4_43 : decode cJ6_bitCount_0f7a4 43 = .ok (.bipush 16, 2) := by decide +kernel
theorem dJ6_bitCount_0f7a4_45 : decode cJ6_bitCount_0f7a4 45 = .ok (.iushr, 1) := by decide +kernel
theorem dJ6_bitCount_0f7a4_46 : decode cJ6_bitCount_0f7a4 46 = .ok (.iadd, 1) := by decide +kernel
theorem dJ6_bitCount_0f7a4_47 : decode cJ6_bitCount_0f7a4 47 = .ok (.istore_n 0, 1) := by decide +kernel
theorem dJ6_bitCount_0f7a4_48 : decode cJ6_bitCount_0f7a4 48 = .ok (.iload_n 0, 1) := by decide +kernel
theorem dJ6_bitCount_0f7a4_49 : decode cJ6_bitCount_0f7a4 49 = .ok (.bipush 63, 2) := by decide +kernel
theorem dJ6_bitCount_0f7a4_51 : decode cJ6_bitCount_0f7a4 51 = .ok (.iand, 1) := by decide +kernel
theorem dJ6_bitCount_0f7a4_52 : decode cJ6_bitCount_0f7a4 52 = .ok (.ireturn, 1) := by decide +kernel
theorem dJ9_max_7cf53_0 : decode cJ9_max_7cf53 0 = .ok (.iload_n 0, 1) := by decide +kernel
theorem dJ9_max_7cf53_1 : decode cJ9_max_7cf53 1 = .ok (.iload_n 1, 1) := by decide +kernel
theorem dJ9_max_7cf53_2 : decode cJ9_max_7cf53 2 = .ok (.if_icmp .lt 7, 3) := by decide +kernel
theorem dJ9_max_7cf53_5 : decode cJ9_max_7cf53 5 = .ok (.iload_n 0, 1) := by decide +kernel
theorem dJ9_max_7cf53_6 : decode cJ9_max_7cf53 6 = .ok (.goto 4, 3) := by decide +kernel
theorem dJ9_max_7cf53_9 : decode cJ9_max_7cf53 9 = .ok (.iload_n 1, 1) := by decide +kernel
theorem dJ9_max_7cf53_10 : decode cJ9_max_7cf53 10 = .ok (.ireturn, 1) := by decide +kernel
theorem dJ9_min_7cf53_0 : decode cJ9_min_7cf53 0 = .ok (.iload_n 0, 1) := by decide +kernel
theorem dJ9_min_7cf53_1 : decode cJ9_min_7cf53 1 = .ok (.iload_n 1, 1) := by decide +kernel
theorem dJ9_min_7cf53_2 : decode cJ9_min_7cf53 2 = .ok (.if_icmp .gt 7, 3) := by decide +kernel
theorem dJ9_min_7cf53_5 : decode cJ9_min_7cf53 5 = .ok (.iload_n 0, 1) := by decide +kernel
theorem dJ9_min_7cf53_6 : decode cJ9_min_7cf53 6 = .ok (.goto 4, 3) := by decide +kernel
theorem dJ9_min_7cf53_9 : decode cJ9_min_7cf53 9 = .ok (.iload_n 1, 1) := by decide +kernel
theorem dJ9_min_7cf53_10 : decode cJ9_min_7cf53 10 = .ok (.ireturn, 1) := by decide +kernel
