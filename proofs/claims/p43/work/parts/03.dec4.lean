theorem dL_ballot_97 : decode cL_ballot 97 = .ok (.imul, 1) := by decide +kernel
theorem dL_ballot_98 : decode cL_ballot 98 = .ok (.iload 7, 2) := by decide +kernel
theorem dL_ballot_100 : decode cL_ballot 100 = .ok (.iadd, 1) := by decide +kernel
theorem dL_ballot_101 : decode cL_ballot 101 = .ok (.iconst 1, 1) := by decide +kernel
theorem dL_ballot_102 : decode cL_ballot 102 = .ok (.iadd, 1) := by decide +kernel
theorem dL_ballot_103 : decode cL_ballot 103 = .ok (.istore_n 3, 1) := by decide +kernel
theorem dL_ballot_104 : decode cL_ballot 104 = .ok (.iinc 5 1, 3) := by decide +kernel
theorem dL_ballot_107 : decode cL_ballot 107 = .ok (.goto (-80), 3) := by decide +kernel
theorem dL_ballot_110 : decode cL_ballot 110 = .ok (.iload_n 3, 1) := by decide +kernel
theorem dL_ballot_111 : decode cL_ballot 111 = .ok (.ireturn, 1) := by decide +kernel
theorem dL_place_0 : decode cL_place 0 = .ok (.bipush 9, 2) := by decide +kernel
theorem dL_place_2 : decode cL_place 2 = .ok (.istore_n 2, 1) := by decide +kernel
theorem dL_place_3 : decode cL_place 3 = .ok (.iconst 0, 1) := by decide +kernel
theorem dL_place_4 : decode cL_place 4 = .ok (.istore_n 3, 1) := by decide +kernel
theorem dL_place_5 : decode cL_place 5 = .ok (.iload_n 0, 1) := by decide +kernel
theorem dL_place_6 : decode cL_place 6 = .ok (.istore 4, 2) := by decide +kernel
theorem dL_place_8 : decode cL_place 8 = .ok (.iload 4, 2) := by decide +kernel
theorem dL_place_10 : decode cL_place 10 = .ok (.ifCond .le 33, 3) := by decide +kernel
theorem dL_place_13 : decode cL_place 13 = .ok (.iload 4, 2) := by decide +kernel
theorem dL_place_15 : decode cL_place 15 = .ok (.bipush 10, 2) := by decide +kernel
theorem dL_place_17 : decode cL_place 17 = .ok (.irem, 1) := by decide +kernel
theorem dL_place_18 : decode cL_place 18 = .ok (.iload_n 1, 1) := by decide +kernel
theorem dL_place_19 : decode cL_place 19 = .ok (.iconst 1, 1) := by decide +kernel
theorem dL_place_20 : decode cL_place 20 = .ok (.iadd, 1) := by decide +kernel
theorem dL_place_21 : decode cL_place 21 = .ok (.if_icmp .ne 7, 3) := by decide +kernel
theorem dL_place_24 : decode cL_place 24 = .ok (.iload_n 3, 1) := by decide +kernel
theorem dL_place_25 : decode cL_place 25 = .ok (.goto 4, 3) := by decide +kernel
theorem dL_place_28 : decode cL_place 28 = .ok (.iload_n 2, 1) := by decide +kernel
theorem dL_place_29 : decode cL_place 29 = .ok (.istore_n 2, 1) := by decide +kernel
theorem dL_place_30 : decode cL_place 30 = .ok (.iinc 3 1, 3) := by decide +kernel
theorem dL_place_33 : decode cL_place 33 = .ok (.iload 4, 2) := by decide +kernel
theorem dL_place_35 : decode cL_place 35 = .ok (.bipush 10, 2) := by decide +kernel
theorem dL_place_37 : decode cL_place 37 = .ok (.idiv, 1) := by decide +kernel
theorem dL_place_38 : decode cL_place 38 = .ok (.istore 4, 2) := by decide +kernel
theorem dL_place_40 : decode cL_place 40 = .ok (.goto (-32), 3) := by decide +kernel
theorem dL_place_43 : decode cL_place 43 = .ok (.iload_n 2, 1) := by decide +kernel
theorem dL_place_44 : decode cL_place 44 = .ok (.bipush 9, 2) := by decide +kernel
theorem dL_place_46 : decode cL_place 46 = .ok (.if_icmp .ne 8, 3) := by decide +kernel
theorem dL_place_49 : decode cL_place 49 = .ok (.bipush 9, 2) := by decide +kernel
theorem dL_place_51 : decode cL_place 51 = .ok (.goto 8, 3) := by decide +kernel
theorem dL_place_54 : decode cL_place 54 = .ok (.iload_n 3, 1) := by decide +kernel
theorem dL_place_55 : decode cL_place 55 = .ok (.iconst 1, 1) := by decide +kernel
theorem dL_place_56 : decode cL_place 56 = .ok (.isub, 1) := by decide +kernel
theorem dL_place_57 : decode cL_place 57 = .ok (.iload_n 2, 1) := by decide +kernel
theorem dL_place_58 : decode cL_place 58 = .ok (.isub, 1) := by decide +kernel
theorem dL_place_59 : decode cL_place 59 = .ok (.ireturn, 1) := by decide +kernel
theorem dL_arePairsSound_0 : decode cL_arePairsSound 0 = .ok (.aload_n 0, 1) := by decide +kernel
theorem dL_arePairsSound_1 : decode cL_arePairsSound 1 = .ok (.invokevirtual 15, 3) := by decide +kernel
theorem dL_arePairsSound_4 : decode cL_arePairsSound 4 = .ok (.istore_n 1, 1) := by decide +kernel
theorem dL_arePairsSound_5 : decode cL_arePairsSound 5 = .ok (.aload_n 0, 1) := by decide +kernel
theorem dL_arePairsSound_6 : decode cL_arePairsSound 6 = .ok (.invokevirtual 21, 3) := by decide +kernel
theorem dL_arePairsSound_9 : decode cL_arePairsSound 9 = .ok (.istore_n 2, 1) := by decide +kernel
theorem dL_arePairsSound_10 : decode cL_arePairsSound 10 = .ok (.iconst 0, 1) := by decide +kernel
theorem dL_arePairsSound_11 : decode cL_arePairsSound 11 = .ok (.istore_n 3, 1) := by decide +kernel
theorem dL_arePairsSound_12 : decode cL_arePairsSound 12 = .ok (.iload_n 3, 1) := by decide +kernel
theorem dL_arePairsSound_13 : decode cL_arePairsSound 13 = .ok (.iconst 5, 1) := by decide +kernel
theorem dL_arePairsSound_14 : decode cL_arePairsSound 14 = .ok (.if_icmp .ge 173, 3) := by decide +kernel
theorem dL_arePairsSound_17 : decode cL_arePairsSound 17 = .ok (.iconst 0, 1) := by decide +kernel
theorem dL_arePairsSound_18 : decode cL_arePairsSound 18 = .ok (.istore 4, 2) := by decide +kernel
theorem dL_arePairsSound_20 : decode cL_arePairsSound 20 = .ok (.iload 4, 2) := by decide +kernel
theorem dL_arePairsSound_22 : decode cL_arePairsSound 22 = .ok (.iconst 5, 1) := by decide +kernel
theorem dL_arePairsSound_23 : decode cL_arePairsSound 23 = .ok (.if_icmp .ge 158, 3) := by decide +kernel
theorem dL_arePairsSound_26 : decode cL_arePairsSound 26 = .ok (.iload_n 2, 1) := by decide +kernel
theorem dL_arePairsSound_27 : decode cL_arePairsSound 27 = .ok (.iload_n 3, 1) := by decide +kernel
theorem dL_arePairsSound_28 : decode cL_arePairsSound 28 = .ok (.ishr, 1) := by decide +kernel
theorem dL_arePairsSound_29 : decode cL_arePairsSound 29 = .ok (.iconst 1, 1) := by decide +kernel
theorem dL_arePairsSound_30 : decode cL_arePairsSound 30 = .ok (.iand, 1) := by decide +kernel
theorem dL_arePairsSound_31 : decode cL_arePairsSound 31 = .ok (.iconst 1, 1) := by decide +kernel
theorem dL_arePairsSound_32 : decode cL_arePairsSound 32 = .ok (.if_icmp .ne 17, 3) := by decide +kernel
theorem dL_arePairsSound_35 : decode cL_arePairsSound 35 = .ok (.iload_n 2, 1) := by decide +kernel
theorem dL_arePairsSound_36 : decode cL_arePairsSound 36 = .ok (.iload 4, 2) := by decide +kernel
theorem dL_arePairsSound_38 : decode cL_arePairsSound 38 = .ok (.ishr, 1) := by decide +kernel
theorem dL_arePairsSound_39 : decode cL_arePairsSound 39 = .ok (.iconst 1, 1) := by decide +kernel
theorem dL_arePairsSound_40 : decode cL_arePairsSound 40 = .ok (.iand, 1) := by decide +kernel
theorem dL_arePairsSound_41 : decode cL_arePairsSound 41 = .ok (.iconst 1, 1) := by decide +kernel
theorem dL_arePairsSound_42 : decode cL_arePairsSound 42 = .ok (.if_icmp .ne 7, 3) := by decide +kernel
theorem dL_arePairsSound_45 : decode cL_arePairsSound 45 = .ok (.iconst 1, 1) := by decide +kernel
theorem dL_arePairsSound_46 : decode cL_arePairsSound 46 = .ok (.goto 4, 3) := by decide +kernel
theorem dL_arePairsSound_49 : decode cL_arePairsSound 49 = .ok (.iconst 0, 1) := by decide +kernel
theorem dL_arePairsSound_50 : decode cL_arePairsSound 50 = .ok (.istore 5, 2) := by decide +kernel
theorem dL_arePairsSound_52 : decode cL_arePairsSound 52 = .ok (.iload 5, 2) := by decide +kernel
theorem dL_arePairsSound_54 : decode cL_arePairsSound 54 = .ok (.ifCond .ne 29, 3) := by decide +kernel
theorem dL_arePairsSound_57 : decode cL_arePairsSound 57 = .ok (.aload_n 0, 1) := by decide +kernel
theorem dL_arePairsSound_58 : decode cL_arePairsSound 58 = .ok (.iload_n 3, 1) := by decide +kernel
theorem dL_arePairsSound_59 : decode cL_arePairsSound 59 = .ok (.iload 4, 2) := by decide +kernel
theorem dL_arePairsSound_61 : decode cL_arePairsSound 61 = .ok (.invokevirtual 24, 3) := by decide +kernel
theorem dL_arePairsSound_64 : decode cL_arePairsSound 64 = .ok (.ldc 27, 2) := by decide +kernel
theorem dL_arePairsSound_66 : decode cL_arePairsSound 66 = .ok (.if_icmp .ne 15, 3) := by decide +kernel
theorem dL_arePairsSound_69 : decode cL_arePairsSound 69 = .ok (.aload_n 0, 1) := by decide +kernel
theorem dL_arePairsSound_70 : decode cL_arePairsSound 70 = .ok (.iload_n 3, 1) := by decide +kernel
theorem dL_arePairsSound_71 : decode cL_arePairsSound 71 = .ok (.iload 4, 2) := by decide +kernel
theorem dL_arePairsSound_73 : decode cL_arePairsSound 73 = .ok (.invokevirtual 28, 3) := by decide +kernel
theorem dL_arePairsSound_76 : decode cL_arePairsSound 76 = .ok (.ldc 27, 2) := by decide +kernel
theorem dL_arePairsSound_78 : decode cL_arePairsSound 78 = .ok (.if_icmp .eq 97, 3) := by decide +kernel
theorem dL_arePairsSound_81 : decode cL_arePairsSound 81 = .ok (.iconst 0, 1) := by decide +kernel
theorem dL_arePairsSound_82 : decode cL_arePairsSound 82 = .ok (.ireturn, 1) := by decide +kernel
theorem dL_arePairsSound_83 : decode cL_arePairsSound 83 = .ok (.iload_n 3, 1) := by decide +kernel
theorem dL_arePairsSound_84 : decode cL_arePairsSound 84 = .ok (.iload 4, 2) := by decide +kernel
theorem dL_arePairsSound_86 : decode cL_arePairsSound 86 = .ok (.if_icmp .ne 28, 3) := by decide +kernel
theorem dL_arePairsSound_89 : decode cL_arePairsSound 89 = .ok (.aload_n 0, 1) := by decide +kernel
theorem dL_arePairsSound_90 : decode cL_arePairsSound 90 = .ok (.iload_n 3, 1) := by decide +kernel
theorem dL_arePairsSound_91 : decode cL_arePairsSound 91 = .ok (.iload 4, 2) := by decide +kernel
theorem dL_arePairsSound_93 : decode cL_arePairsSound 93 = .ok (.invokevirtual 24, 3) := by decide +kernel
theorem dL_arePairsSound_96 : decode cL_arePairsSound 96 = .ok (.ifCond .ne 77, 3) := by decide +kernel
theorem dL_arePairsSound_99 : decode cL_arePairsSound 99 = .ok (.aload_n 0, 1) := by decide +kernel
theorem dL_arePairsSound_100 : decode cL_arePairsSound 100 = .ok (.iload_n 3, 1) := by decide +kernel
theorem dL_arePairsSound_101 : decode cL_arePairsSound 101 = .ok (.iload 4, 2) := by decide +kernel
theorem dL_arePairsSound_103 : decode cL_arePairsSound 103 = .ok (.invokevirtual 31, 3) := by decide +kernel
theorem dL_arePairsSound_106 : decode cL_arePairsSound 106 = .ok (.ldc 27, 2) := by decide +kernel
theorem dL_arePairsSound_108 : decode cL_arePairsSound 108 = .ok (.if_icmp .eq 67, 3) := by decide +kernel
theorem dL_arePairsSound_111 : decode cL_arePairsSound 111 = .ok (.goto 62, 3) := by decide +kernel
theorem dL_arePairsSound_114 : decode cL_arePairsSound 114 = .ok (.aload_n 0, 1) := by decide +kernel
theorem dL_arePairsSound_115 : decode cL_arePairsSound 115 = .ok (.iload_n 3, 1) := by decide +kernel
theorem dL_arePairsSound_116 : decode cL_arePairsSound 116 = .ok (.iload 4, 2) := by decide +kernel
theorem dL_arePairsSound_118 : decode cL_arePairsSound 118 = .ok (.invokevirtual 24, 3) := by decide +kernel
theorem dL_arePairsSound_121 : decode cL_arePairsSound 121 = .ok (.aload_n 0, 1) := by decide +kernel
theorem dL_arePairsSound_122 : decode cL_arePairsSound 122 = .ok (.iload 4, 2) := by decide +kernel
theorem dL_arePairsSound_124 : decode cL_arePairsSound 124 = .ok (.iload_n 3, 1) := by decide +kernel
theorem dL_arePairsSound_125 : decode cL_arePairsSound 125 = .ok (.invokevirtual 24, 3) := by decide +kernel
theorem dL_arePairsSound_128 : decode cL_arePairsSound 128 = .ok (.iadd, 1) := by decide +kernel
theorem dL_arePairsSound_129 : decode cL_arePairsSound 129 = .ok (.iload_n 1, 1) := by decide +kernel
theorem dL_arePairsSound_130 : decode cL_arePairsSound 130 = .ok (.if_icmp .gt 43, 3) := by decide +kernel
theorem dL_arePairsSound_133 : decode cL_arePairsSound 133 = .ok (.aload_n 0, 1) := by decide +kernel
theorem dL_arePairsSound_134 : decode cL_arePairsSound 134 = .ok (.iload_n 3, 1) := by decide +kernel
theorem dL_arePairsSound_135 : decode cL_arePairsSound 135 = .ok (.iload 4, 2) := by decide +kernel
theorem dL_arePairsSound_137 : decode cL_arePairsSound 137 = .ok (.invokevirtual 28, 3) := by decide +kernel
theorem dL_arePairsSound_140 : decode cL_arePairsSound 140 = .ok (.aload_n 0, 1) := by decide +kernel
theorem dL_arePairsSound_141 : decode cL_arePairsSound 141 = .ok (.iload 4, 2) := by decide +kernel
theorem dL_arePairsSound_143 : decode cL_arePairsSound 143 = .ok (.iload_n 3, 1) := by decide +kernel
theorem dL_arePairsSound_144 : decode cL_arePairsSound 144 = .ok (.invokevirtual 28, 3) := by decide +kernel
theorem dL_arePairsSound_147 : decode cL_arePairsSound 147 = .ok (.iadd, 1) := by decide +kernel
theorem dL_arePairsSound_148 : decode cL_arePairsSound 148 = .ok (.iconst 1, 1) := by decide +kernel
theorem dL_arePairsSound_149 : decode cL_arePairsSound 149 = .ok (.if_icmp .gt 24, 3) := by decide +kernel
theorem dL_arePairsSound_152 : decode cL_arePairsSound 152 = .ok (.aload_n 0, 1) := by decide +kernel
theorem dL_arePairsSound_153 : decode cL_arePairsSound 153 = .ok (.iload_n 3, 1) := by decide +kernel
theorem dL_arePairsSound_154 : decode cL_arePairsSound 154 = .ok (.iload 4, 2) := by decide +kernel
theorem dL_arePairsSound_156 : decode cL_arePairsSound 156 = .ok (.invokevirtual 31, 3) := by decide +kernel
theorem dL_arePairsSound_159 : decode cL_arePairsSound 159 = .ok (.ifCond .lt 14, 3) := by decide +kernel
theorem dL_arePairsSound_162 : decode cL_arePairsSound 162 = .ok (.aload_n 0, 1) := by decide +kernel
theorem dL_arePairsSound_163 : decode cL_arePairsSound 163 = .ok (.iload_n 3, 1) := by decide +kernel
theorem dL_arePairsSound_164 : decode cL_arePairsSound 164 = .ok (.iload 4, 2) := by decide +kernel
theorem dL_arePairsSound_166 : decode cL_arePairsSound 166 = .ok (.invokevirtual 31, 3) := by decide +kernel
theorem dL_arePairsSound_169 : decode cL_arePairsSound 169 = .ok (.iload_n 1, 1) := by decide +kernel
theorem dL_arePairsSound_170 : decode cL_arePairsSound 170 = .ok (.if_icmp .le 5, 3) := by decide +kernel
theorem dL_arePairsSound_173 : decode cL_arePairsSound 173 = .ok (.iconst 0, 1) := by decide +kernel
theorem dL_arePairsSound_174 : decode cL_arePairsSound 174 = .ok (.ireturn, 1) := by decide +kernel
theorem dL_arePairsSound_175 : decode cL_arePairsSound 175 = .ok (.iinc 4 1, 3) := by decide +kernel
theorem dL_arePairsSound_178 : decode cL_arePairsSound 178 = .ok (.goto (-158), 3) := by decide +kernel
theorem dL_arePairsSound_181 : decode cL_arePairsSound 181 = .ok (.iinc 3 1, 3) := by decide +kernel
theorem dL_arePairsSound_184 : decode cL_arePairsSound 184 = .ok (.goto (-172), 3) := by decide +kernel
theorem dL_arePairsSound_187 : decode cL_arePairsSound 187 = .ok (.iconst 1, 1) := by decide +kernel
theorem dL_arePairsSound_188 : decode cL_arePairsSound 188 = .ok (.ireturn, 1) := by decide +kernel
theorem dL_areWinnersSound_0 : decode cL_areWinnersSound 0 = .ok (.aload_n 0, 1) := by decide +kernel
theorem dL_areWinnersSound_1 : decode cL_areWinnersSound 1 = .ok (.invokevirtual 21, 3) := by decide +kernel
theorem dL_areWinnersSound_4 : decode cL_areWinnersSound 4 = .ok (.istore_n 1, 1) := by decide +kernel
theorem dL_areWinnersSound_5 : decode cL_areWinnersSound 5 = .ok (.aload_n 0, 1) := by decide +kernel
theorem dL_areWinnersSound_6 : decode cL_areWinnersSound 6 = .ok (.invokevirtual 34, 3) := by decide +kernel
theorem dL_areWinnersSound_9 : decode cL_areWinnersSound 9 = .ok (.istore_n 2, 1) := by decide +kernel
theorem dL_areWinnersSound_10 : decode cL_areWinnersSound 10 = .ok (.aload_n 0, 1) := by decide +kernel
theorem dL_areWinnersSound_11 : decode cL_areWinnersSound 11 = .ok (.invokevirtual 37, 3) := by decide +kernel
theorem dL_areWinnersSound_14 : decode cL_areWinnersSound 14 = .ok (.istore_n 3, 1) := by decide +kernel
theorem dL_areWinnersSound_15 : decode cL_areWinnersSound 15 = .ok (.aload_n 0, 1) := by decide +kernel
theorem dL_areWinnersSound_16 : decode cL_areWinnersSound 16 = .ok (.invokevirtual 40, 3) := by decide +kernel
theorem dL_areWinnersSound_19 : decode cL_areWinnersSound 19 = .ok (.istore 4, 2) := by decide +kernel
theorem dL_areWinnersSound_21 : decode cL_areWinnersSound 21 = .ok (.iload_n 1, 1) := by decide +kernel
theorem dL_areWinnersSound_22 : decode cL_areWinnersSound 22 = .ok (.ifCond .ne 16, 3) := by decide +kernel
theorem dL_areWinnersSound_25 : decode cL_areWinnersSound 25 = .ok (.aload_n 0, 1) := by decide +kernel
theorem dL_areWinnersSound_26 : decode cL_areWinnersSound 26 = .ok (.invokevirtual 43, 3) := by decide +kernel
theorem dL_areWinnersSound_29 : decode cL_areWinnersSound 29 = .ok (.ldc 46, 2) := by decide +kernel
theorem dL_areWinnersSound_31 : decode cL_areWinnersSound 31 = .ok (.if_icmp .ne 7, 3) := by decide +kernel
theorem dL_areWinnersSound_34 : decode cL_areWinnersSound 34 = .ok (.iconst 1, 1) := by decide +kernel
theorem dL_areWinnersSound_35 : decode cL_areWinnersSound 35 = .ok (.goto 4, 3) := by decide +kernel
theorem dL_areWinnersSound_38 : decode cL_areWinnersSound 38 = .ok (.iconst 0, 1) := by decide +kernel
theorem dL_areWinnersSound_39 : decode cL_areWinnersSound 39 = .ok (.istore 5, 2) := by decide +kernel
theorem dL_areWinnersSound_41 : decode cL_areWinnersSound 41 = .ok (.iconst 0, 1) := by decide +kernel
theorem dL_areWinnersSound_42 : decode cL_areWinnersSound 42 = .ok (.istore 6, 2) := by decide +kernel
theorem dL_areWinnersSound_44 : decode cL_areWinnersSound 44 = .ok (.iload 6, 2) := by decide +kernel
theorem dL_areWinnersSound_46 : decode cL_areWinnersSound 46 = .ok (.bipush 12, 2) := by decide +kernel
theorem dL_areWinnersSound_48 : decode cL_areWinnersSound 48 = .ok (.if_icmp .ge 267, 3) := by decide +kernel
theorem dL_areWinnersSound_51 : decode cL_areWinnersSound 51 = .ok (.aload_n 0, 1) := by decide +kernel
theorem dL_areWinnersSound_52 : decode cL_areWinnersSound 52 = .ok (.iload 6, 2) := by decide +kernel
theorem dL_areWinnersSound_54 : decode cL_areWinnersSound 54 = .ok (.invokevirtual 47, 3) := by decide +kernel
theorem dL_areWinnersSound_57 : decode cL_areWinnersSound 57 = .ok (.istore 7, 2) := by decide +kernel
theorem dL_areWinnersSound_59 : decode cL_areWinnersSound 59 = .ok (.aload_n 0, 1) := by decide +kernel
theorem dL_areWinnersSound_60 : decode cL_areWinnersSound 60 = .ok (.iload 6, 2) := by decide +kernel
theorem dL_areWinnersSound_62 : decode cL_areWinnersSound 62 = .ok (.invokevirtual 51, 3) := by decide +kernel
theorem dL_areWinnersSound_65 : decode cL_areWinnersSound 65 = .ok (.istore 8, 2) := by decide +kernel
theorem dL_areWinnersSound_67 : decode cL_areWinnersSound 67 = .ok (.iload 7, 2) := by decide +kernel
theorem dL_areWinnersSound_69 : decode cL_areWinnersSound 69 = .ok (.iload_n 1, 1) := by decide +kernel
theorem dL_areWinnersSound_70 : decode cL_areWinnersSound 70 = .ok (.iconst (-1), 1) := by decide +kernel
theorem dL_areWinnersSound_71 : decode cL_areWinnersSound 71 = .ok (.ixor, 1) := by decide +kernel
theorem dL_areWinnersSound_72 : decode cL_areWinnersSound 72 = .ok (.iand, 1) := by decide +kernel
theorem dL_areWinnersSound_73 : decode cL_areWinnersSound 73 = .ok (.ifCond .ne 50, 3) := by decide +kernel
theorem dL_areWinnersSound_76 : decode cL_areWinnersSound 76 = .ok (.iload_n 1, 1) := by decide +kernel
theorem dL_areWinnersSound_77 : decode cL_areWinnersSound 77 = .ok (.ifCond .ne 7, 3) := by decide +kernel
theorem dL_areWinnersSound_80 : decode cL_areWinnersSound 80 = .ok (.iconst 1, 1) := by decide +kernel
theorem dL_areWinnersSound_81 : decode cL_areWinnersSound 81 = .ok (.goto 4, 3) := by decide +kernel
theorem dL_areWinnersSound_84 : decode cL_areWinnersSound 84 = .ok (.iconst 0, 1) := by decide +kernel
theorem dL_areWinnersSound_85 : decode cL_areWinnersSound 85 = .ok (.iload 7, 2) := by decide +kernel
theorem dL_areWinnersSound_87 : decode cL_areWinnersSound 87 = .ok (.ifCond .ne 7, 3) := by decide +kernel
theorem dL_areWinnersSound_90 : decode cL_areWinnersSound 90 = .ok (.iconst 1, 1) := by decide +kernel
theorem dL_areWinnersSound_91 : decode cL_areWinnersSound 91 = .ok (.goto 4, 3) := by decide +kernel
theorem dL_areWinnersSound_94 : decode cL_areWinnersSound 94 = .ok (.iconst 0, 1) := by decide +kernel
theorem dL_areWinnersSound_95 : decode cL_areWinnersSound 95 = .ok (.if_icmp .ne 28, 3) := by decide +kernel
theorem dL_areWinnersSound_98 : decode cL_areWinnersSound 98 = .ok (.iload 8, 2) := by decide +kernel
theorem dL_areWinnersSound_100 : decode cL_areWinnersSound 100 = .ok (.ldc 46, 2) := by decide +kernel
theorem dL_areWinnersSound_102 : decode cL_areWinnersSound 102 = .ok (.if_icmp .ne 7, 3) := by decide +kernel
theorem dL_areWinnersSound_105 : decode cL_areWinnersSound 105 = .ok (.iconst 1, 1) := by decide +kernel
theorem dL_areWinnersSound_106 : decode cL_areWinnersSound 106 = .ok (.goto 4, 3) := by decide +kernel
theorem dL_areWinnersSound_109 : decode cL_areWinnersSound 109 = .ok (.iconst 0, 1) := by decide +kernel
theorem dL_areWinnersSound_110 : decode cL_areWinnersSound 110 = .ok (.iload 7, 2) := by decide +kernel
theorem dL_areWinnersSound_112 : decode cL_areWinnersSound 112 = .ok (.ifCond .ne 7, 3) := by decide +kernel
theorem dL_areWinnersSound_115 : decode cL_areWinnersSound 115 = .ok (.iconst 1, 1) := by decide +kernel
theorem dL_areWinnersSound_116 : decode cL_areWinnersSound 116 = .ok (.goto 4, 3) := by decide +kernel
theorem dL_areWinnersSound_119 : decode cL_areWinnersSound 119 = .ok (.iconst 0, 1) := by decide +kernel
theorem dL_areWinnersSound_120 : decode cL_areWinnersSound 120 = .ok (.if_icmp .eq 5, 3) := by decide +kernel
theorem dL_areWinnersSound_123 : decode cL_areWinnersSound 123 = .ok (.iconst 0, 1) := by decide +kernel
theorem dL_areWinnersSound_124 : decode cL_areWinnersSound 124 = .ok (.ireturn, 1) := by decide +kernel
theorem dL_areWinnersSound_125 : decode cL_areWinnersSound 125 = .ok (.iload 8, 2) := by decide +kernel
theorem dL_areWinnersSound_127 : decode cL_areWinnersSound 127 = .ok (.ifCond .lt 27, 3) := by decide +kernel
theorem dL_areWinnersSound_130 : decode cL_areWinnersSound 130 = .ok (.iload 7, 2) := by decide +kernel
theorem dL_areWinnersSound_132 : decode cL_areWinnersSound 132 = .ok (.iload 8, 2) := by decide +kernel
theorem dL_areWinnersSound_134 : decode cL_areWinnersSound 134 = .ok (.ishr, 1) := by decide +kernel
theorem dL_areWinnersSound_135 : decode cL_areWinnersSound 135 = .ok (.iconst 1, 1) := by decide +kernel
theorem dL_areWinnersSound_136 : decode cL_areWinnersSound 136 = .ok (.iand, 1) := by decide +kernel
theorem dL_areWinnersSound_137 : decode cL_areWinnersSound 137 = .ok (.ifCond .eq 15, 3) := by decide +kernel
theorem dL_areWinnersSound_140 : decode cL_areWinnersSound 140 = .ok (.iload 7, 2) := by decide +kernel
theorem dL_areWinnersSound_142 : decode cL_areWinnersSound 142 = .ok (.iconst 1, 1) := by decide +kernel
theorem dL_areWinnersSound_143 : decode cL_areWinnersSound 143 = .ok (.iload 8, 2) := by decide +kernel
theorem dL_areWinnersSound_145 : decode cL_areWinnersSound 145 = .ok (.ishl, 1) := by decide +kernel
theorem dL_areWinnersSound_146 : decode cL_areWinnersSound 146 = .ok (.iconst 1, 1) := by decide +kernel
theorem dL_areWinnersSound_147 : decode cL_areWinnersSound 147 = .ok (.isub, 1) := by decide +kernel
theorem dL_areWinnersSound_148 : decode cL_areWinnersSound 148 = .ok (.iand, 1) := by decide +kernel
theorem dL_areWinnersSound_149 : decode cL_areWinnersSound 149 = .ok (.ifCond .eq 5, 3) := by decide +kernel
theorem dL_areWinnersSound_152 : decode cL_areWinnersSound 152 = .ok (.iconst 0, 1) := by decide +kernel
theorem dL_areWinnersSound_153 : decode cL_areWinnersSound 153 = .ok (.ireturn, 1) := by decide +kernel
theorem dL_areWinnersSound_154 : decode cL_areWinnersSound 154 = .ok (.iload 5, 2) := by decide +kernel
theorem dL_areWinnersSound_156 : decode cL_areWinnersSound 156 = .ok (.ifCond .ne 17, 3) := by decide +kernel
theorem dL_areWinnersSound_159 : decode cL_areWinnersSound 159 = .ok (.iload 8, 2) := by decide +kernel
theorem dL_areWinnersSound_161 : decode cL_areWinnersSound 161 = .ok (.ifCond .lt 16, 3) := by decide +kernel
theorem dL_areWinnersSound_164 : decode cL_areWinnersSound 164 = .ok (.iload 8, 2) := by decide +kernel
theorem dL_areWinnersSound_166 : decode cL_areWinnersSound 166 = .ok (.aload_n 0, 1) := by decide +kernel
theorem dL_areWinnersSound_167 : decode cL_areWinnersSound 167 = .ok (.invokevirtual 43, 3) := by decide +kernel
theorem dL_areWinnersSound_170 : decode cL_areWinnersSound 170 = .ok (.if_icmp .ne 7, 3) := by decide +kernel
theorem dL_areWinnersSound_173 : decode cL_areWinnersSound 173 = .ok (.iconst 1, 1) := by decide +kernel
theorem dL_areWinnersSound_174 : decode cL_areWinnersSound 174 = .ok (.goto 4, 3) := by decide +kernel
theorem dL_areWinnersSound_177 : decode cL_areWinnersSound 177 = .ok (.iconst 0, 1) := by decide +kernel
theorem dL_areWinnersSound_178 : decode cL_areWinnersSound 178 = .ok (.istore 5, 2) := by decide +kernel
theorem dL_areWinnersSound_180 : decode cL_areWinnersSound 180 = .ok (.iload 6, 2) := by decide +kernel
theorem dL_areWinnersSound_182 : decode cL_areWinnersSound 182 = .ok (.iconst 2, 1) := by decide +kernel
theorem dL_areWinnersSound_183 : decode cL_areWinnersSound 183 = .ok (.if_icmp .eq 22, 3) := by decide +kernel
theorem dL_areWinnersSound_186 : decode cL_areWinnersSound 186 = .ok (.iload 6, 2) := by decide +kernel
theorem dL_areWinnersSound_188 : decode cL_areWinnersSound 188 = .ok (.iconst 4, 1) := by decide +kernel
theorem dL_areWinnersSound_189 : decode cL_areWinnersSound 189 = .ok (.if_icmp .eq 16, 3) := by decide +kernel
theorem dL_areWinnersSound_192 : decode cL_areWinnersSound 192 = .ok (.iload 6, 2) := by decide +kernel
theorem dL_areWinnersSound_194 : decode cL_areWinnersSound 194 = .ok (.iconst 5, 1) := by decide +kernel
theorem dL_areWinnersSound_195 : decode cL_areWinnersSound 195 = .ok (.if_icmp .eq 10, 3) := by decide +kernel
theorem dL_areWinnersSound_198 : decode cL_areWinnersSound 198 = .ok (.iload 6, 2) := by decide +kernel
theorem dL_areWinnersSound_200 : decode cL_areWinnersSound 200 = .ok (.bipush 11, 2) := by decide +kernel
theorem dL_areWinnersSound_202 : decode cL_areWinnersSound 202 = .ok (.if_icmp .ne 7, 3) := by decide +kernel
theorem dL_areWinnersSound_205 : decode cL_areWinnersSound 205 = .ok (.iconst 1, 1) := by decide +kernel
theorem dL_areWinnersSound_206 : decode cL_areWinnersSound 206 = .ok (.goto 4, 3) := by decide +kernel
theorem dL_areWinnersSound_209 : decode cL_areWinnersSound 209 = .ok (.iconst 0, 1) := by decide +kernel
theorem dL_areWinnersSound_210 : decode cL_areWinnersSound 210 = .ok (.istore 9, 2) := by decide +kernel
theorem dL_areWinnersSound_212 : decode cL_areWinnersSound 212 = .ok (.iload_n 3, 1) := by decide +kernel
theorem dL_areWinnersSound_213 : decode cL_areWinnersSound 213 = .ok (.ifCond .lt 36, 3) := by decide +kernel
theorem dL_areWinnersSound_216 : decode cL_areWinnersSound 216 = .ok (.iload 9, 2) := by decide +kernel
theorem dL_areWinnersSound_218 : decode cL_areWinnersSound 218 = .ok (.ifCond .ne 23, 3) := by decide +kernel
theorem dL_areWinnersSound_221 : decode cL_areWinnersSound 221 = .ok (.iload 6, 2) := by decide +kernel
theorem dL_areWinnersSound_223 : decode cL_areWinnersSound 223 = .ok (.iconst 3, 1) := by decide +kernel
theorem dL_areWinnersSound_224 : decode cL_areWinnersSound 224 = .ok (.if_icmp .eq 17, 3) := by decide +kernel
theorem dL_areWinnersSound_227 : decode cL_areWinnersSound 227 = .ok (.iload 6, 2) := by decide +kernel
theorem dL_areWinnersSound_229 : decode cL_areWinnersSound 229 = .ok (.bipush 9, 2) := by decide +kernel
theorem dL_areWinnersSound_231 : decode cL_areWinnersSound 231 = .ok (.if_icmp .eq 10, 3) := by decide +kernel
theorem dL_areWinnersSound_234 : decode cL_areWinnersSound 234 = .ok (.iload 6, 2) := by decide +kernel
theorem dL_areWinnersSound_236 : decode cL_areWinnersSound 236 = .ok (.bipush 10, 2) := by decide +kernel
theorem dL_areWinnersSound_238 : decode cL_areWinnersSound 238 = .ok (.if_icmp .ne 11, 3) := by decide +kernel
theorem dL_areWinnersSound_241 : decode cL_areWinnersSound 241 = .ok (.iload 7, 2) := by decide +kernel
theorem dL_areWinnersSound_243 : decode cL_areWinnersSound 243 = .ok (.iconst 1, 1) := by decide +kernel
theorem dL_areWinnersSound_244 : decode cL_areWinnersSound 244 = .ok (.iload_n 3, 1) := by decide +kernel
theorem dL_areWinnersSound_245 : decode cL_areWinnersSound 245 = .ok (.ishl, 1) := by decide +kernel
theorem dL_areWinnersSound_246 : decode cL_areWinnersSound 246 = .ok (.if_icmp .ne 17, 3) := by decide +kernel
theorem dL_areWinnersSound_249 : decode cL_areWinnersSound 249 = .ok (.iload 9, 2) := by decide +kernel
theorem dL_areWinnersSound_251 : decode cL_areWinnersSound 251 = .ok (.ifCond .eq 14, 3) := by decide +kernel
theorem dL_areWinnersSound_254 : decode cL_areWinnersSound 254 = .ok (.iload 7, 2) := by decide +kernel
theorem dL_areWinnersSound_256 : decode cL_areWinnersSound 256 = .ok (.iload_n 2, 1) := by decide +kernel
theorem dL_areWinnersSound_257 : decode cL_areWinnersSound 257 = .ok (.iconst (-1), 1) := by decide +kernel
theorem dL_areWinnersSound_258 : decode cL_areWinnersSound 258 = .ok (.ixor, 1) := by decide +kernel
theorem dL_areWinnersSound_259 : decode cL_areWinnersSound 259 = .ok (.iand, 1) := by decide +kernel
theorem dL_areWinnersSound_260 : decode cL_areWinnersSound 260 = .ok (.ifCond .eq 5, 3) := by decide +kernel
theorem dL_areWinnersSound_263 : decode cL_areWinnersSound 263 = .ok (.iconst 0, 1) := by decide +kernel
theorem dL_areWinnersSound_264 : decode cL_areWinnersSound 264 = .ok (.ireturn, 1) := by decide +kernel
theorem dL_areWinnersSound_265 : decode cL_areWinnersSound 265 = .ok (.iload 4, 2) := by decide +kernel
theorem dL_areWinnersSound_267 : decode cL_areWinnersSound 267 = .ok (.ifCond .lt 42, 3) := by decide +kernel
theorem dL_areWinnersSound_270 : decode cL_areWinnersSound 270 = .ok (.iload 6, 2) := by decide +kernel
theorem dL_areWinnersSound_272 : decode cL_areWinnersSound 272 = .ok (.iconst 4, 1) := by decide +kernel
theorem dL_areWinnersSound_273 : decode cL_areWinnersSound 273 = .ok (.if_icmp .eq 23, 3) := by decide +kernel
theorem dL_areWinnersSound_276 : decode cL_areWinnersSound 276 = .ok (.iload 6, 2) := by decide +kernel
theorem dL_areWinnersSound_278 : decode cL_areWinnersSound 278 = .ok (.iconst 5, 1) := by decide +kernel
theorem dL_areWinnersSound_279 : decode cL_areWinnersSound 279 = .ok (.if_icmp .eq 17, 3) := by decide +kernel
theorem dL_areWinnersSound_282 : decode cL_areWinnersSound 282 = .ok (.iload 6, 2) := by decide +kernel
theorem dL_areWinnersSound_284 : decode cL_areWinnersSound 284 = .ok (.bipush 10, 2) := by decide +kernel
theorem dL_areWinnersSound_286 : decode cL_areWinnersSound 286 = .ok (.if_icmp .eq 10, 3) := by decide +kernel
theorem dL_areWinnersSound_289 : decode cL_areWinnersSound 289 = .ok (.iload 6, 2) := by decide +kernel
theorem dL_areWinnersSound_291 : decode cL_areWinnersSound 291 = .ok (.bipush 11, 2) := by decide +kernel
theorem dL_areWinnersSound_293 : decode cL_areWinnersSound 293 = .ok (.if_icmp .ne 16, 3) := by decide +kernel
theorem dL_areWinnersSound_296 : decode cL_areWinnersSound 296 = .ok (.iload 7, 2) := by decide +kernel
theorem dL_areWinnersSound_298 : decode cL_areWinnersSound 298 = .ok (.iload 4, 2) := by decide +kernel
theorem dL_areWinnersSound_300 : decode cL_areWinnersSound 300 = .ok (.ishr, 1) := by decide +kernel
theorem dL_areWinnersSound_301 : decode cL_areWinnersSound 301 = .ok (.iconst 1, 1) := by decide +kernel
theorem dL_areWinnersSound_302 : decode cL_areWinnersSound 302 = .ok (.iand, 1) := by decide +kernel
theorem dL_areWinnersSound_303 : decode cL_areWinnersSound 303 = .ok (.iconst 1, 1) := by decide +kernel
theorem dL_areWinnersSound_304 : decode cL_areWinnersSound 304 = .ok (.if_icmp .ne 5, 3) := by decide +kernel
theorem dL_areWinnersSound_307 : decode cL_areWinnersSound 307 = .ok (.iconst 0, 1) := by decide +kernel
theorem dL_areWinnersSound_308 : decode cL_areWinnersSound 308 = .ok (.ireturn, 1) := by decide +kernel
theorem dL_areWinnersSound_309 : decode cL_areWinnersSound 309 = .ok (.iinc 6 1, 3) := by decide +kernel
theorem dL_areWinnersSound_312 : decode cL_areWinnersSound 312 = .ok (.goto (-268), 3) := by decide +kernel
theorem dL_areWinnersSound_315 : decode cL_areWinnersSound 315 = .ok (.iload 5, 2) := by decide +kernel
theorem dL_areWinnersSound_317 : decode cL_areWinnersSound 317 = .ok (.ifCond .eq 54, 3) := by decide +kernel
theorem dL_areWinnersSound_320 : decode cL_areWinnersSound 320 = .ok (.iload_n 3, 1) := by decide +kernel
theorem dL_areWinnersSound_321 : decode cL_areWinnersSound 321 = .ok (.ifCond .lt 10, 3) := by decide +kernel
theorem dL_areWinnersSound_324 : decode cL_areWinnersSound 324 = .ok (.iload_n 2, 1) := by decide +kernel
theorem dL_areWinnersSound_325 : decode cL_areWinnersSound 325 = .ok (.iconst 1, 1) := by decide +kernel
theorem dL_areWinnersSound_326 : decode cL_areWinnersSound 326 = .ok (.iload_n 3, 1) := by decide +kernel
theorem dL_areWinnersSound_327 : decode cL_areWinnersSound 327 = .ok (.ishl, 1) := by decide +kernel
theorem dL_areWinnersSound_328 : decode cL_areWinnersSound 328 = .ok (.if_icmp .ne 43, 3) := by decide +kernel
theorem dL_areWinnersSound_331 : decode cL_areWinnersSound 331 = .ok (.iload_n 1, 1) := by decide +kernel
theorem dL_areWinnersSound_332 : decode cL_areWinnersSound 332 = .ok (.ifCond .ne 7, 3) := by decide +kernel
theorem dL_areWinnersSound_335 : decode cL_areWinnersSound 335 = .ok (.iconst 1, 1) := by decide +kernel
theorem dL_areWinnersSound_336 : decode cL_areWinnersSound 336 = .ok (.goto 4, 3) := by decide +kernel
theorem dL_areWinnersSound_339 : decode cL_areWinnersSound 339 = .ok (.iconst 0, 1) := by decide +kernel
theorem dL_areWinnersSound_340 : decode cL_areWinnersSound 340 = .ok (.iload_n 2, 1) := by decide +kernel
theorem dL_areWinnersSound_341 : decode cL_areWinnersSound 341 = .ok (.ifCond .ne 7, 3) := by decide +kernel
theorem dL_areWinnersSound_344 : decode cL_areWinnersSound 344 = .ok (.iconst 1, 1) := by decide +kernel
theorem dL_areWinnersSound_345 : decode cL_areWinnersSound 345 = .ok (.goto 4, 3) := by decide +kernel
theorem dL_areWinnersSound_348 : decode cL_areWinnersSound 348 = .ok (.iconst 0, 1) := by decide +kernel
theorem dL_areWinnersSound_349 : decode cL_areWinnersSound 349 = .ok (.if_icmp .ne 22, 3) := by decide +kernel
theorem dL_areWinnersSound_352 : decode cL_areWinnersSound 352 = .ok (.iload_n 2, 1) := by decide +kernel
theorem dL_areWinnersSound_353 : decode cL_areWinnersSound 353 = .ok (.iload_n 1, 1) := by decide +kernel
theorem dL_areWinnersSound_354 : decode cL_areWinnersSound 354 = .ok (.iconst (-1), 1) := by decide +kernel
theorem dL_areWinnersSound_355 : decode cL_areWinnersSound 355 = .ok (.ixor, 1) := by decide +kernel
theorem dL_areWinnersSound_356 : decode cL_areWinnersSound 356 = .ok (.iand, 1) := by decide +kernel
theorem dL_areWinnersSound_357 : decode cL_areWinnersSound 357 = .ok (.ifCond .ne 14, 3) := by decide +kernel
theorem dL_areWinnersSound_360 : decode cL_areWinnersSound 360 = .ok (.iload 4, 2) := by decide +kernel
theorem dL_areWinnersSound_362 : decode cL_areWinnersSound 362 = .ok (.ifCond .lt 11, 3) := by decide +kernel
theorem dL_areWinnersSound_365 : decode cL_areWinnersSound 365 = .ok (.iload 4, 2) := by decide +kernel
theorem dL_areWinnersSound_367 : decode cL_areWinnersSound 367 = .ok (.iload_n 3, 1) := by decide +kernel
theorem dL_areWinnersSound_368 : decode cL_areWinnersSound 368 = .ok (.if_icmp .ne 5, 3) := by decide +kernel
theorem dL_areWinnersSound_371 : decode cL_areWinnersSound 371 = .ok (.iconst 0, 1) := by decide +kernel
theorem dL_areWinnersSound_372 : decode cL_areWinnersSound 372 = .ok (.ireturn, 1) := by decide +kernel
theorem dL_areWinnersSound_373 : decode cL_areWinnersSound 373 = .ok (.iload_n 1, 1) := by decide +kernel
theorem dL_areWinnersSound_374 : decode cL_areWinnersSound 374 = .ok (.invokestatic 54, 3) := by decide +kernel
theorem dL_areWinnersSound_377 : decode cL_areWinnersSound 377 = .ok (.istore 6, 2) := by decide +kernel
theorem dL_areWinnersSound_379 : decode cL_areWinnersSound 379 = .ok (.iconst 0, 1) := by decide +kernel
theorem dL_areWinnersSound_380 : decode cL_areWinnersSound 380 = .ok (.istore 7, 2) := by decide +kernel
theorem dL_areWinnersSound_382 : decode cL_areWinnersSound 382 = .ok (.iconst 0, 1) := by decide +kernel
theorem dL_areWinnersSound_383 : decode cL_areWinnersSound 383 = .ok (.istore 8, 2) := by decide +kernel
theorem dL_areWinnersSound_385 : decode cL_areWinnersSound 385 = .ok (.iload 8, 2) := by decide +kernel
theorem dL_areWinnersSound_387 : decode cL_areWinnersSound 387 = .ok (.iconst 5, 1) := by decide +kernel
theorem dL_areWinnersSound_388 : decode cL_areWinnersSound 388 = .ok (.if_icmp .ge 35, 3) := by decide +kernel
theorem dL_areWinnersSound_391 : decode cL_areWinnersSound 391 = .ok (.iload 7, 2) := by decide +kernel
theorem dL_areWinnersSound_393 : decode cL_areWinnersSound 393 = .ok (.iload_n 1, 1) := by decide +kernel
theorem dL_areWinnersSound_394 : decode cL_areWinnersSound 394 = .ok (.iload 8, 2) := by decide +kernel
theorem dL_areWinnersSound_396 : decode cL_areWinnersSound 396 = .ok (.ishr, 1) := by decide +kernel
theorem dL_areWinnersSound_397 : decode cL_areWinnersSound 397 = .ok (.iconst 1, 1) := by decide +kernel
theorem dL_areWinnersSound_398 : decode cL_areWinnersSound 398 = .ok (.iand, 1) := by decide +kernel
theorem dL_areWinnersSound_399 : decode cL_areWinnersSound 399 = .ok (.iconst 1, 1) := by decide +kernel
theorem dL_areWinnersSound_400 : decode cL_areWinnersSound 400 = .ok (.if_icmp .ne 13, 3) := by decide +kernel
theorem dL_areWinnersSound_403 : decode cL_areWinnersSound 403 = .ok (.aload_n 0, 1) := by decide +kernel
theorem dL_areWinnersSound_404 : decode cL_areWinnersSound 404 = .ok (.iconst 1, 1) := by decide +kernel
theorem dL_areWinnersSound_405 : decode cL_areWinnersSound 405 = .ok (.iload 8, 2) := by decide +kernel
theorem dL_areWinnersSound_407 : decode cL_areWinnersSound 407 = .ok (.invokevirtual 57, 3) := by decide +kernel
theorem dL_areWinnersSound_410 : decode cL_areWinnersSound 410 = .ok (.goto 4, 3) := by decide +kernel
theorem dL_areWinnersSound_413 : decode cL_areWinnersSound 413 = .ok (.iconst 0, 1) := by decide +kernel
theorem dL_areWinnersSound_414 : decode cL_areWinnersSound 414 = .ok (.iadd, 1) := by decide +kernel
theorem dL_areWinnersSound_415 : decode cL_areWinnersSound 415 = .ok (.istore 7, 2) := by decide +kernel
theorem dL_areWinnersSound_417 : decode cL_areWinnersSound 417 = .ok (.iinc 8 1, 3) := by decide +kernel
theorem dL_areWinnersSound_420 : decode cL_areWinnersSound 420 = .ok (.goto (-35), 3) := by decide +kernel
theorem dL_areWinnersSound_423 : decode cL_areWinnersSound 423 = .ok (.iload 7, 2) := by decide +kernel
theorem dL_areWinnersSound_425 : decode cL_areWinnersSound 425 = .ok (.aload_n 0, 1) := by decide +kernel
theorem dL_areWinnersSound_426 : decode cL_areWinnersSound 426 = .ok (.invokevirtual 15, 3) := by decide +kernel
theorem dL_areWinnersSound_429 : decode cL_areWinnersSound 429 = .ok (.iload 6, 2) := by decide +kernel
theorem dL_areWinnersSound_431 : decode cL_areWinnersSound 431 = .ok (.imul, 1) := by decide +kernel
theorem dL_areWinnersSound_432 : decode cL_areWinnersSound 432 = .ok (.iload 6, 2) := by decide +kernel
theorem dL_areWinnersSound_434 : decode cL_areWinnersSound 434 = .ok (.iconst 1, 1) := by decide +kernel
theorem dL_areWinnersSound_435 : decode cL_areWinnersSound 435 = .ok (.isub, 1) := by decide +kernel
theorem dL_areWinnersSound_436 : decode cL_areWinnersSound 436 = .ok (.imul, 1) := by decide +kernel
theorem dL_areWinnersSound_437 : decode cL_areWinnersSound 437 = .ok (.if_icmp .ne 55, 3) := by decide +kernel
theorem dL_areWinnersSound_440 : decode cL_areWinnersSound 440 = .ok (.aload_n 0, 1) := by decide +kernel
theorem dL_areWinnersSound_441 : decode cL_areWinnersSound 441 = .ok (.iload 6, 2) := by decide +kernel
theorem dL_areWinnersSound_443 : decode cL_areWinnersSound 443 = .ok (.invokevirtual 60, 3) := by decide +kernel
theorem dL_areWinnersSound_446 : decode cL_areWinnersSound 446 = .ok (.ldc 63, 2) := by decide +kernel
theorem dL_areWinnersSound_448 : decode cL_areWinnersSound 448 = .ok (.if_icmp .ne 44, 3) := by decide +kernel
theorem dL_areWinnersSound_451 : decode cL_areWinnersSound 451 = .ok (.aload_n 0, 1) := by decide +kernel
theorem dL_areWinnersSound_452 : decode cL_areWinnersSound 452 = .ok (.bipush 6, 2) := by decide +kernel
theorem dL_areWinnersSound_454 : decode cL_areWinnersSound 454 = .ok (.invokevirtual 64, 3) := by decide +kernel
theorem dL_areWinnersSound_457 : decode cL_areWinnersSound 457 = .ok (.iload 6, 2) := by decide +kernel
theorem dL_areWinnersSound_459 : decode cL_areWinnersSound 459 = .ok (.ifCond .le 10, 3) := by decide +kernel
theorem dL_areWinnersSound_462 : decode cL_areWinnersSound 462 = .ok (.iload 6, 2) := by decide +kernel
theorem dL_areWinnersSound_464 : decode cL_areWinnersSound 464 = .ok (.iconst 1, 1) := by decide +kernel
theorem dL_areWinnersSound_465 : decode cL_areWinnersSound 465 = .ok (.isub, 1) := by decide +kernel
theorem dL_areWinnersSound_466 : decode cL_areWinnersSound 466 = .ok (.goto 4, 3) := by decide +kernel
theorem dL_areWinnersSound_469 : decode cL_areWinnersSound 469 = .ok (.iconst 0, 1) := by decide +kernel
theorem dL_areWinnersSound_470 : decode cL_areWinnersSound 470 = .ok (.if_icmp .ne 22, 3) := by decide +kernel
theorem dL_areWinnersSound_473 : decode cL_areWinnersSound 473 = .ok (.aload_n 0, 1) := by decide +kernel
theorem dL_areWinnersSound_474 : decode cL_areWinnersSound 474 = .ok (.bipush 7, 2) := by decide +kernel
theorem dL_areWinnersSound_476 : decode cL_areWinnersSound 476 = .ok (.invokevirtual 64, 3) := by decide +kernel
theorem dL_areWinnersSound_479 : decode cL_areWinnersSound 479 = .ok (.aload_n 0, 1) := by decide +kernel
theorem dL_areWinnersSound_480 : decode cL_areWinnersSound 480 = .ok (.bipush 6, 2) := by decide +kernel
theorem dL_areWinnersSound_482 : decode cL_areWinnersSound 482 = .ok (.invokevirtual 64, 3) := by decide +kernel
theorem dL_areWinnersSound_485 : decode cL_areWinnersSound 485 = .ok (.if_icmp .gt 7, 3) := by decide +kernel
theorem dL_areWinnersSound_488 : decode cL_areWinnersSound 488 = .ok (.iconst 1, 1) := by decide +kernel
theorem dL_areWinnersSound_489 : decode cL_areWinnersSound 489 = .ok (.goto 4, 3) := by decide +kernel
theorem dL_areWinnersSound_492 : decode cL_areWinnersSound 492 = .ok (.iconst 0, 1) := by decide +kernel
theorem dL_areWinnersSound_493 : decode cL_areWinnersSound 493 = .ok (.ireturn, 1) := by decide +kernel
theorem dL_areParadoxesSound_0 : decode cL_areParadoxesSound 0 = .ok (.aload_n 0, 1) := by decide +kernel
theorem dL_areParadoxesSound_1 : decode cL_areParadoxesSound 1 = .ok (.invokevirtual 67, 3) := by decide +kernel
theorem dL_areParadoxesSound_4 : decode cL_areParadoxesSound 4 = .ok (.istore_n 2, 1) := by decide +kernel
theorem dL_areParadoxesSound_5 : decode cL_areParadoxesSound 5 = .ok (.aload_n 0, 1) := by decide +kernel
theorem dL_areParadoxesSound_6 : decode cL_areParadoxesSound 6 = .ok (.iload_n 1, 1) := by decide +kernel
theorem dL_areParadoxesSound_7 : decode cL_areParadoxesSound 7 = .ok (.invokevirtual 51, 3) := by decide +kernel
theorem dL_areParadoxesSound_10 : decode cL_areParadoxesSound 10 = .ok (.istore_n 3, 1) := by decide +kernel
theorem dL_areParadoxesSound_11 : decode cL_areParadoxesSound 11 = .ok (.aload_n 0, 1) := by decide +kernel
theorem dL_areParadoxesSound_12 : decode cL_areParadoxesSound 12 = .ok (.iload_n 1, 1) := by decide +kernel
theorem dL_areParadoxesSound_13 : decode cL_areParadoxesSound 13 = .ok (.invokevirtual 47, 3) := by decide +kernel
theorem dL_areParadoxesSound_16 : decode cL_areParadoxesSound 16 = .ok (.i2l, 1) := by decide +kernel
theorem dL_areParadoxesSound_17 : decode cL_areParadoxesSound 17 = .ok (.ldc2_w 70, 3) := by decide +kernel
theorem dL_areParadoxesSound_20 : decode cL_areParadoxesSound 20 = .ok (.lmul, 1) := by decide +kernel
theorem dL_areParadoxesSound_21 : decode cL_areParadoxesSound 21 = .ok (.aload_n 0, 1) := by decide +kernel
theorem dL_areParadoxesSound_22 : decode cL_areParadoxesSound 22 = .ok (.invokevirtual 21, 3) := by decide +kernel
theorem dL_areParadoxesSound_25 : decode cL_areParadoxesSound 25 = .ok (.i2l, 1) := by decide +kernel
theorem dL_areParadoxesSound_26 : decode cL_areParadoxesSound 26 = .ok (.ladd, 1) := by decide +kernel
theorem dL_areParadoxesSound_27 : decode cL_areParadoxesSound 27 = .ok (.lstore 4, 2) := by decide +kernel
theorem dL_areParadoxesSound_29 : decode cL_areParadoxesSound 29 = .ok (.aload_n 0, 1) := by decide +kernel
theorem dL_areParadoxesSound_30 : decode cL_areParadoxesSound 30 = .ok (.iload_n 1, 1) := by decide +kernel
theorem dL_areParadoxesSound_31 : decode cL_areParadoxesSound 31 = .ok (.invokevirtual 72, 3) := by decide +kernel
theorem dL_areParadoxesSound_34 : decode cL_areParadoxesSound 34 = .ok (.istore 6, 2) := by decide +kernel
theorem dL_areParadoxesSound_36 : decode cL_areParadoxesSound 36 = .ok (.iload 6, 2) := by decide +kernel
theorem dL_areParadoxesSound_38 : decode cL_areParadoxesSound 38 = .ok (.iload_n 2, 1) := by decide +kernel
theorem dL_areParadoxesSound_39 : decode cL_areParadoxesSound 39 = .ok (.ishr, 1) := by decide +kernel
theorem dL_areParadoxesSound_40 : decode cL_areParadoxesSound 40 = .ok (.ifCond .ne 55, 3) := by decide +kernel
theorem dL_areParadoxesSound_43 : decode cL_areParadoxesSound 43 = .ok (.aload_n 0, 1) := by decide +kernel
theorem dL_areParadoxesSound_44 : decode cL_areParadoxesSound 44 = .ok (.iload_n 1, 1) := by decide +kernel
theorem dL_areParadoxesSound_45 : decode cL_areParadoxesSound 45 = .ok (.invokevirtual 75, 3) := by decide +kernel
theorem dL_areParadoxesSound_48 : decode cL_areParadoxesSound 48 = .ok (.iload_n 2, 1) := by decide +kernel
theorem dL_areParadoxesSound_49 : decode cL_areParadoxesSound 49 = .ok (.ishr, 1) := by decide +kernel
theorem dL_areParadoxesSound_50 : decode cL_areParadoxesSound 50 = .ok (.ifCond .ne 45, 3) := by decide +kernel
theorem dL_areParadoxesSound_53 : decode cL_areParadoxesSound 53 = .ok (.aload_n 0, 1) := by decide +kernel
theorem dL_areParadoxesSound_54 : decode cL_areParadoxesSound 54 = .ok (.iload_n 1, 1) := by decide +kernel
theorem dL_areParadoxesSound_55 : decode cL_areParadoxesSound 55 = .ok (.invokevirtual 78, 3) := by decide +kernel
theorem dL_areParadoxesSound_58 : decode cL_areParadoxesSound 58 = .ok (.iload_n 2, 1) := by decide +kernel
theorem dL_areParadoxesSound_59 : decode cL_areParadoxesSound 59 = .ok (.ishr, 1) := by decide +kernel
theorem dL_areParadoxesSound_60 : decode cL_areParadoxesSound 60 = .ok (.ifCond .ne 35, 3) := by decide +kernel
theorem dL_areParadoxesSound_63 : decode cL_areParadoxesSound 63 = .ok (.aload_n 0, 1) := by decide +kernel
theorem dL_areParadoxesSound_64 : decode cL_areParadoxesSound 64 = .ok (.iload_n 1, 1) := by decide +kernel
theorem dL_areParadoxesSound_65 : decode cL_areParadoxesSound 65 = .ok (.invokevirtual 81, 3) := by decide +kernel
theorem dL_areParadoxesSound_68 : decode cL_areParadoxesSound 68 = .ok (.aload_n 0, 1) := by decide +kernel
theorem dL_areParadoxesSound_69 : decode cL_areParadoxesSound 69 = .ok (.invokevirtual 21, 3) := by decide +kernel
theorem dL_areParadoxesSound_72 : decode cL_areParadoxesSound 72 = .ok (.iconst (-1), 1) := by decide +kernel
theorem dL_areParadoxesSound_73 : decode cL_areParadoxesSound 73 = .ok (.ixor, 1) := by decide +kernel
theorem dL_areParadoxesSound_74 : decode cL_areParadoxesSound 74 = .ok (.iand, 1) := by decide +kernel
theorem dL_areParadoxesSound_75 : decode cL_areParadoxesSound 75 = .ok (.ifCond .ne 20, 3) := by decide +kernel
theorem dL_areParadoxesSound_78 : decode cL_areParadoxesSound 78 = .ok (.iload_n 3, 1) := by decide +kernel
theorem dL_areParadoxesSound_79 : decode cL_areParadoxesSound 79 = .ok (.ifCond .lt 18, 3) := by decide +kernel
theorem dL_areParadoxesSound_82 : decode cL_areParadoxesSound 82 = .ok (.aload_n 0, 1) := by decide +kernel
theorem dL_areParadoxesSound_83 : decode cL_areParadoxesSound 83 = .ok (.iload_n 1, 1) := by decide +kernel
theorem dL_areParadoxesSound_84 : decode cL_areParadoxesSound 84 = .ok (.invokevirtual 81, 3) := by decide +kernel
theorem dL_areParadoxesSound_87 : decode cL_areParadoxesSound 87 = .ok (.iload_n 3, 1) := by decide +kernel
theorem dL_areParadoxesSound_88 : decode cL_areParadoxesSound 88 = .ok (.ishr, 1) := by decide +kernel
theorem dL_areParadoxesSound_89 : decode cL_areParadoxesSound 89 = .ok (.iconst 1, 1) := by decide +kernel
theorem dL_areParadoxesSound_90 : decode cL_areParadoxesSound 90 = .ok (.iand, 1) := by decide +kernel
theorem dL_areParadoxesSound_91 : decode cL_areParadoxesSound 91 = .ok (.iconst 1, 1) := by decide +kernel
theorem dL_areParadoxesSound_92 : decode cL_areParadoxesSound 92 = .ok (.if_icmp .ne 5, 3) := by decide +kernel
theorem dL_areParadoxesSound_95 : decode cL_areParadoxesSound 95 = .ok (.iconst 0, 1) := by decide +kernel
theorem dL_areParadoxesSound_96 : decode cL_areParadoxesSound 96 = .ok (.ireturn, 1) := by decide +kernel
theorem dL_areParadoxesSound_97 : decode cL_areParadoxesSound 97 = .ok (.iload_n 1, 1) := by decide +kernel
theorem dL_areParadoxesSound_98 : decode cL_areParadoxesSound 98 = .ok (.iconst 2, 1) := by decide +kernel
theorem dL_areParadoxesSound_99 : decode cL_areParadoxesSound 99 = .ok (.if_icmp .ge 21, 3) := by decide +kernel
theorem dL_areParadoxesSound_102 : decode cL_areParadoxesSound 102 = .ok (.aload_n 0, 1) := by decide +kernel
theorem dL_areParadoxesSound_103 : decode cL_areParadoxesSound 103 = .ok (.iload_n 1, 1) := by decide +kernel
theorem dL_areParadoxesSound_104 : decode cL_areParadoxesSound 104 = .ok (.invokevirtual 75, 3) := by decide +kernel
theorem dL_areParadoxesSound_107 : decode cL_areParadoxesSound 107 = .ok (.ifCond .ne 38, 3) := by decide +kernel
theorem dL_areParadoxesSound_110 : decode cL_areParadoxesSound 110 = .ok (.aload_n 0, 1) := by decide +kernel
theorem dL_areParadoxesSound_111 : decode cL_areParadoxesSound 111 = .ok (.iload_n 1, 1) := by decide +kernel
theorem dL_areParadoxesSound_112 : decode cL_areParadoxesSound 112 = .ok (.invokevirtual 84, 3) := by decide +kernel
theorem dL_areParadoxesSound_115 : decode cL_areParadoxesSound 115 = .ok (.ldc 46, 2) := by decide +kernel
theorem dL_areParadoxesSound_117 : decode cL_areParadoxesSound 117 = .ok (.if_icmp .ne 28, 3) := by decide +kernel
theorem dL_areParadoxesSound_120 : decode cL_areParadoxesSound 120 = .ok (.iload_n 1, 1) := by decide +kernel
theorem dL_areParadoxesSound_121 : decode cL_areParadoxesSound 121 = .ok (.iconst 4, 1) := by decide +kernel
theorem dL_areParadoxesSound_122 : decode cL_areParadoxesSound 122 = .ok (.if_icmp .lt 15, 3) := by decide +kernel
theorem dL_areParadoxesSound_125 : decode cL_areParadoxesSound 125 = .ok (.iload_n 1, 1) := by decide +kernel
theorem dL_areParadoxesSound_126 : decode cL_areParadoxesSound 126 = .ok (.bipush 8, 2) := by decide +kernel
theorem dL_areParadoxesSound_128 : decode cL_areParadoxesSound 128 = .ok (.if_icmp .eq 9, 3) := by decide +kernel
theorem dL_areParadoxesSound_131 : decode cL_areParadoxesSound 131 = .ok (.iload_n 1, 1) := by decide +kernel
theorem dL_areParadoxesSound_132 : decode cL_areParadoxesSound 132 = .ok (.bipush 11, 2) := by decide +kernel
theorem dL_areParadoxesSound_134 : decode cL_areParadoxesSound 134 = .ok (.if_icmp .ne 13, 3) := by decide +kernel
theorem dL_areParadoxesSound_137 : decode cL_areParadoxesSound 137 = .ok (.aload_n 0, 1) := by decide +kernel
theorem dL_areParadoxesSound_138 : decode cL_areParadoxesSound 138 = .ok (.iload_n 1, 1) := by decide +kernel
theorem dL_areParadoxesSound_139 : decode cL_areParadoxesSound 139 = .ok (.invokevirtual 78, 3) := by decide +kernel
theorem dL_areParadoxesSound_142 : decode cL_areParadoxesSound 142 = .ok (.ifCond .eq 5, 3) := by decide +kernel
theorem dL_areParadoxesSound_145 : decode cL_areParadoxesSound 145 = .ok (.iconst 0, 1) := by decide +kernel
theorem dL_areParadoxesSound_146 : decode cL_areParadoxesSound 146 = .ok (.ireturn, 1) := by decide +kernel
theorem dL_areParadoxesSound_147 : decode cL_areParadoxesSound 147 = .ok (.iconst 0, 1) := by decide +kernel
theorem dL_areParadoxesSound_148 : decode cL_areParadoxesSound 148 = .ok (.istore 7, 2) := by decide +kernel
theorem dL_areParadoxesSound_150 : decode cL_areParadoxesSound 150 = .ok (.iload 7, 2) := by decide +kernel
theorem dL_areParadoxesSound_152 : decode cL_areParadoxesSound 152 = .ok (.iload_n 2, 1) := by decide +kernel
theorem dL_areParadoxesSound_153 : decode cL_areParadoxesSound 153 = .ok (.if_icmp .ge 109, 3) := by decide +kernel
theorem dL_areParadoxesSound_156 : decode cL_areParadoxesSound 156 = .ok (.aload_n 0, 1) := by decide +kernel
theorem dL_areParadoxesSound_157 : decode cL_areParadoxesSound 157 = .ok (.iload_n 1, 1) := by decide +kernel
theorem dL_areParadoxesSound_158 : decode cL_areParadoxesSound 158 = .ok (.iload 7, 2) := by decide +kernel
theorem dL_areParadoxesSound_160 : decode cL_areParadoxesSound 160 = .ok (.invokevirtual 87, 3) := by decide +kernel
theorem dL_areParadoxesSound_163 : decode cL_areParadoxesSound 163 = .ok (.istore 8, 2) := by decide +kernel
theorem dL_areParadoxesSound_165 : decode cL_areParadoxesSound 165 = .ok (.aload_n 0, 1) := by decide +kernel
theorem dL_areParadoxesSound_166 : decode cL_areParadoxesSound 166 = .ok (.iload 7, 2) := by decide +kernel
theorem dL_areParadoxesSound_168 : decode cL_areParadoxesSound 168 = .ok (.invokevirtual 90, 3) := by decide +kernel
theorem dL_areParadoxesSound_171 : decode cL_areParadoxesSound 171 = .ok (.istore 9, 2) := by decide +kernel
theorem dL_areParadoxesSound_173 : decode cL_areParadoxesSound 173 = .ok (.iload 6, 2) := by decide +kernel
theorem dL_areParadoxesSound_175 : decode cL_areParadoxesSound 175 = .ok (.iload 7, 2) := by decide +kernel
theorem dL_areParadoxesSound_177 : decode cL_areParadoxesSound 177 = .ok (.ishr, 1) := by decide +kernel
theorem dL_areParadoxesSound_178 : decode cL_areParadoxesSound 178 = .ok (.iconst 1, 1) := by decide +kernel
theorem dL_areParadoxesSound_179 : decode cL_areParadoxesSound 179 = .ok (.iand, 1) := by decide +kernel
theorem dL_areParadoxesSound_180 : decode cL_areParadoxesSound 180 = .ok (.iconst 1, 1) := by decide +kernel
theorem dL_areParadoxesSound_181 : decode cL_areParadoxesSound 181 = .ok (.if_icmp .ne 7, 3) := by decide +kernel
theorem dL_areParadoxesSound_184 : decode cL_areParadoxesSound 184 = .ok (.iconst 1, 1) := by decide +kernel
theorem dL_areParadoxesSound_185 : decode cL_areParadoxesSound 185 = .ok (.goto 4, 3) := by decide +kernel
theorem dL_areParadoxesSound_188 : decode cL_areParadoxesSound 188 = .ok (.iconst 0, 1) := by decide +kernel
theorem dL_areParadoxesSound_189 : decode cL_areParadoxesSound 189 = .ok (.istore 10, 2) := by decide +kernel
theorem dL_areParadoxesSound_191 : decode cL_areParadoxesSound 191 = .ok (.iload 10, 2) := by decide +kernel
theorem dL_areParadoxesSound_193 : decode cL_areParadoxesSound 193 = .ok (.iload 8, 2) := by decide +kernel
theorem dL_areParadoxesSound_195 : decode cL_areParadoxesSound 195 = .ok (.ldc 46, 2) := by decide +kernel
theorem dL_areParadoxesSound_197 : decode cL_areParadoxesSound 197 = .ok (.if_icmp .eq 7, 3) := by decide +kernel
theorem dL_areParadoxesSound_200 : decode cL_areParadoxesSound 200 = .ok (.iconst 1, 1) := by decide +kernel
theorem dL_areParadoxesSound_201 : decode cL_areParadoxesSound 201 = .ok (.goto 4, 3) := by decide +kernel
theorem dL_areParadoxesSound_204 : decode cL_areParadoxesSound 204 = .ok (.iconst 0, 1) := by decide +kernel
theorem dL_areParadoxesSound_205 : decode cL_areParadoxesSound 205 = .ok (.if_icmp .ne 49, 3) := by decide +kernel
theorem dL_areParadoxesSound_208 : decode cL_areParadoxesSound 208 = .ok (.iload 10, 2) := by decide +kernel
theorem dL_areParadoxesSound_210 : decode cL_areParadoxesSound 210 = .ok (.ifCond .eq 19, 3) := by decide +kernel
theorem dL_areParadoxesSound_213 : decode cL_areParadoxesSound 213 = .ok (.iload 9, 2) := by decide +kernel
theorem dL_areParadoxesSound_215 : decode cL_areParadoxesSound 215 = .ok (.iload 8, 2) := by decide +kernel
theorem dL_areParadoxesSound_217 : decode cL_areParadoxesSound 217 = .ok (.invokestatic 93, 3) := by decide +kernel
theorem dL_areParadoxesSound_220 : decode cL_areParadoxesSound 220 = .ok (.iload 9, 2) := by decide +kernel
theorem dL_areParadoxesSound_222 : decode cL_areParadoxesSound 222 = .ok (.iload_n 3, 1) := by decide +kernel
theorem dL_areParadoxesSound_223 : decode cL_areParadoxesSound 223 = .ok (.invokestatic 93, 3) := by decide +kernel
theorem dL_areParadoxesSound_226 : decode cL_areParadoxesSound 226 = .ok (.if_icmp .ge 28, 3) := by decide +kernel
theorem dL_areParadoxesSound_229 : decode cL_areParadoxesSound 229 = .ok (.iload 10, 2) := by decide +kernel
theorem dL_areParadoxesSound_231 : decode cL_areParadoxesSound 231 = .ok (.ifCond .ne 25, 3) := by decide +kernel
theorem dL_areParadoxesSound_234 : decode cL_areParadoxesSound 234 = .ok (.aload_n 0, 1) := by decide +kernel
theorem dL_areParadoxesSound_235 : decode cL_areParadoxesSound 235 = .ok (.invokevirtual 21, 3) := by decide +kernel
theorem dL_areParadoxesSound_238 : decode cL_areParadoxesSound 238 = .ok (.ifCond .eq 18, 3) := by decide +kernel
theorem dL_areParadoxesSound_241 : decode cL_areParadoxesSound 241 = .ok (.aload_n 0, 1) := by decide +kernel
theorem dL_areParadoxesSound_242 : decode cL_areParadoxesSound 242 = .ok (.iload_n 1, 1) := by decide +kernel
theorem dL_areParadoxesSound_243 : decode cL_areParadoxesSound 243 = .ok (.iload 7, 2) := by decide +kernel
theorem dL_areParadoxesSound_245 : decode cL_areParadoxesSound 245 = .ok (.iconst 0, 1) := by decide +kernel
theorem dL_areParadoxesSound_246 : decode cL_areParadoxesSound 246 = .ok (.invokevirtual 96, 3) := by decide +kernel
theorem dL_areParadoxesSound_249 : decode cL_areParadoxesSound 249 = .ok (.ldc 46, 2) := by decide +kernel
theorem dL_areParadoxesSound_251 : decode cL_areParadoxesSound 251 = .ok (.if_icmp .eq 5, 3) := by decide +kernel
theorem dL_areParadoxesSound_254 : decode cL_areParadoxesSound 254 = .ok (.iconst 0, 1) := by decide +kernel
theorem dL_areParadoxesSound_255 : decode cL_areParadoxesSound 255 = .ok (.ireturn, 1) := by decide +kernel
theorem dL_areParadoxesSound_256 : decode cL_areParadoxesSound 256 = .ok (.iinc 7 1, 3) := by decide +kernel
theorem dL_areParadoxesSound_259 : decode cL_areParadoxesSound 259 = .ok (.goto (-109), 3) := by decide +kernel
theorem dL_areParadoxesSound_262 : decode cL_areParadoxesSound 262 = .ok (.aload_n 0, 1) := by decide +kernel
theorem dL_areParadoxesSound_263 : decode cL_areParadoxesSound 263 = .ok (.iload_n 1, 1) := by decide +kernel
theorem dL_areParadoxesSound_264 : decode cL_areParadoxesSound 264 = .ok (.invokevirtual 100, 3) := by decide +kernel
theorem dL_areParadoxesSound_267 : decode cL_areParadoxesSound 267 = .ok (.istore 7, 2) := by decide +kernel
theorem dL_areParadoxesSound_269 : decode cL_areParadoxesSound 269 = .ok (.iload 7, 2) := by decide +kernel
theorem dL_areParadoxesSound_271 : decode cL_areParadoxesSound 271 = .ok (.ldc 46, 2) := by decide +kernel
theorem dL_areParadoxesSound_273 : decode cL_areParadoxesSound 273 = .ok (.if_icmp .eq 22, 3) := by decide +kernel
theorem dL_areParadoxesSound_276 : decode cL_areParadoxesSound 276 = .ok (.iload 7, 2) := by decide +kernel
theorem dL_areParadoxesSound_278 : decode cL_areParadoxesSound 278 = .ok (.iconst 1, 1) := by decide +kernel
theorem dL_areParadoxesSound_279 : decode cL_areParadoxesSound 279 = .ok (.if_icmp .lt 14, 3) := by decide +kernel
theorem dL_areParadoxesSound_282 : decode cL_areParadoxesSound 282 = .ok (.iload 7, 2) := by decide +kernel
theorem dL_areParadoxesSound_284 : decode cL_areParadoxesSound 284 = .ok (.bipush 100, 2) := by decide +kernel
theorem dL_areParadoxesSound_286 : decode cL_areParadoxesSound 286 = .ok (.if_icmp .gt 7, 3) := by decide +kernel
theorem dL_areParadoxesSound_289 : decode cL_areParadoxesSound 289 = .ok (.iload_n 3, 1) := by decide +kernel
theorem dL_areParadoxesSound_290 : decode cL_areParadoxesSound 290 = .ok (.ifCond .ge 5, 3) := by decide +kernel
theorem dL_areParadoxesSound_293 : decode cL_areParadoxesSound 293 = .ok (.iconst 0, 1) := by decide +kernel
theorem dL_areParadoxesSound_294 : decode cL_areParadoxesSound 294 = .ok (.ireturn, 1) := by decide +kernel
theorem dL_areParadoxesSound_295 : decode cL_areParadoxesSound 295 = .ok (.aload_n 0, 1) := by decide +kernel
theorem dL_areParadoxesSound_296 : decode cL_areParadoxesSound 296 = .ok (.iload_n 1, 1) := by decide +kernel
theorem dL_areParadoxesSound_297 : decode cL_areParadoxesSound 297 = .ok (.invokevirtual 47, 3) := by decide +kernel
theorem dL_areParadoxesSound_300 : decode cL_areParadoxesSound 300 = .ok (.i2l, 1) := by decide +kernel
theorem dL_areParadoxesSound_301 : decode cL_areParadoxesSound 301 = .ok (.ldc2_w 70, 3) := by decide +kernel
theorem dL_areParadoxesSound_304 : decode cL_areParadoxesSound 304 = .ok (.lmul, 1) := by decide +kernel
theorem dL_areParadoxesSound_305 : decode cL_areParadoxesSound 305 = .ok (.aload_n 0, 1) := by decide +kernel
theorem dL_areParadoxesSound_306 : decode cL_areParadoxesSound 306 = .ok (.invokevirtual 21, 3) := by decide +kernel
theorem dL_areParadoxesSound_309 : decode cL_areParadoxesSound 309 = .ok (.i2l, 1) := by decide +kernel
theorem dL_areParadoxesSound_310 : decode cL_areParadoxesSound 310 = .ok (.ladd, 1) := by decide +kernel
theorem dL_areParadoxesSound_311 : decode cL_areParadoxesSound 311 = .ok (.lload 4, 2) := by decide +kernel
theorem dL_areParadoxesSound_313 : decode cL_areParadoxesSound 313 = .ok (.lcmp, 1) := by decide +kernel
theorem dL_areParadoxesSound_314 : decode cL_areParadoxesSound 314 = .ok (.ifCond .ne 7, 3) := by decide +kernel
theorem dL_areParadoxesSound_317 : decode cL_areParadoxesSound 317 = .ok (.iconst 1, 1) := by decide +kernel
theorem dL_areParadoxesSound_318 : decode cL_areParadoxesSound 318 = .ok (.goto 4, 3) := by decide +kernel
theorem dL_areParadoxesSound_321 : decode cL_areParadoxesSound 321 = .ok (.iconst 0, 1) := by decide +kernel
theorem dL_areParadoxesSound_322 : decode cL_areParadoxesSound 322 = .ok (.ireturn, 1) := by decide +kernel
theorem dL_isBrought_0 : decode cL_isBrought 0 = .ok (.aload_n 0, 1) := by decide +kernel
theorem dL_isBrought_1 : decode cL_isBrought 1 = .ok (.iload_n 1, 1) := by decide +kernel
theorem dL_isBrought_2 : decode cL_isBrought 2 = .ok (.iload_n 2, 1) := by decide +kernel
theorem dL_isBrought_3 : decode cL_isBrought 3 = .ok (.invokevirtual 87, 3) := by decide +kernel
theorem dL_isBrought_6 : decode cL_isBrought 6 = .ok (.istore_n 3, 1) := by decide +kernel
theorem dL_isBrought_7 : decode cL_isBrought 7 = .ok (.iload_n 3, 1) := by decide +kernel
theorem dL_isBrought_8 : decode cL_isBrought 8 = .ok (.ldc 46, 2) := by decide +kernel
theorem dL_isBrought_10 : decode cL_isBrought 10 = .ok (.if_icmp .ne 5, 3) := by decide +kernel
theorem dL_isBrought_13 : decode cL_isBrought 13 = .ok (.iconst 1, 1) := by decide +kernel
theorem dL_isBrought_14 : decode cL_isBrought 14 = .ok (.ireturn, 1) := by decide +kernel
theorem dL_isBrought_15 : decode cL_isBrought 15 = .ok (.iconst 0, 1) := by decide +kernel
theorem dL_isBrought_16 : decode cL_isBrought 16 = .ok (.istore 4, 2) := by decide +kernel
theorem dL_isBrought_18 : decode cL_isBrought 18 = .ok (.iconst 0, 1) := by decide +kernel
theorem dL_isBrought_19 : decode cL_isBrought 19 = .ok (.istore 5, 2) := by decide +kernel
theorem dL_isBrought_21 : decode cL_isBrought 21 = .ok (.iload 5, 2) := by decide +kernel
theorem dL_isBrought_23 : decode cL_isBrought 23 = .ok (.aload_n 0, 1) := by decide +kernel
theorem dL_isBrought_24 : decode cL_isBrought 24 = .ok (.invokevirtual 21, 3) := by decide +kernel
theorem dL_isBrought_27 : decode cL_isBrought 27 = .ok (.invokestatic 54, 3) := by decide +kernel
theorem dL_isBrought_30 : decode cL_isBrought 30 = .ok (.if_icmp .ge 27, 3) := by decide +kernel
theorem dL_isBrought_33 : decode cL_isBrought 33 = .ok (.bipush 10, 2) := by decide +kernel
theorem dL_isBrought_35 : decode cL_isBrought 35 = .ok (.iload 4, 2) := by decide +kernel
theorem dL_isBrought_37 : decode cL_isBrought 37 = .ok (.imul, 1) := by decide +kernel
theorem dL_isBrought_38 : decode cL_isBrought 38 = .ok (.aload_n 0, 1) := by decide +kernel
theorem dL_isBrought_39 : decode cL_isBrought 39 = .ok (.iload_n 1, 1) := by decide +kernel
theorem dL_isBrought_40 : decode cL_isBrought 40 = .ok (.iload_n 2, 1) := by decide +kernel
theorem dL_isBrought_41 : decode cL_isBrought 41 = .ok (.iload 5, 2) := by decide +kernel
theorem dL_isBrought_43 : decode cL_isBrought 43 = .ok (.invokevirtual 96, 3) := by decide +kernel
theorem dL_isBrought_46 : decode cL_isBrought 46 = .ok (.iadd, 1) := by decide +kernel
theorem dL_isBrought_47 : decode cL_isBrought 47 = .ok (.iconst 1, 1) := by decide +kernel
theorem dL_isBrought_48 : decode cL_isBrought 48 = .ok (.iadd, 1) := by decide +kernel
theorem dL_isBrought_49 : decode cL_isBrought 49 = .ok (.istore 4, 2) := by decide +kernel
theorem dL_isBrought_51 : decode cL_isBrought 51 = .ok (.iinc 5 1, 3) := by decide +kernel
theorem dL_isBrought_54 : decode cL_isBrought 54 = .ok (.goto (-33), 3) := by decide +kernel
theorem dL_isBrought_57 : decode cL_isBrought 57 = .ok (.aload_n 0, 1) := by decide +kernel
theorem dL_isBrought_58 : decode cL_isBrought 58 = .ok (.iload_n 2, 1) := by decide +kernel
theorem dL_isBrought_59 : decode cL_isBrought 59 = .ok (.invokevirtual 103, 3) := by decide +kernel
theorem dL_isBrought_62 : decode cL_isBrought 62 = .ok (.istore 5, 2) := by decide +kernel
theorem dL_isBrought_64 : decode cL_isBrought 64 = .ok (.aload_n 0, 1) := by decide +kernel
theorem dL_isBrought_65 : decode cL_isBrought 65 = .ok (.iload_n 2, 1) := by decide +kernel
theorem dL_isBrought_66 : decode cL_isBrought 66 = .ok (.invokevirtual 90, 3) := by decide +kernel
theorem dL_isBrought_69 : decode cL_isBrought 69 = .ok (.istore 6, 2) := by decide +kernel
theorem dL_isBrought_71 : decode cL_isBrought 71 = .ok (.aload_n 0, 1) := by decide +kernel
theorem dL_isBrought_72 : decode cL_isBrought 72 = .ok (.iload_n 1, 1) := by decide +kernel
theorem dL_isBrought_73 : decode cL_isBrought 73 = .ok (.invokevirtual 51, 3) := by decide +kernel
theorem dL_isBrought_76 : decode cL_isBrought 76 = .ok (.istore 7, 2) := by decide +kernel
theorem dL_isBrought_78 : decode cL_isBrought 78 = .ok (.aload_n 0, 1) := by decide +kernel
theorem dL_isBrought_79 : decode cL_isBrought 79 = .ok (.iload_n 2, 1) := by decide +kernel
theorem dL_isBrought_80 : decode cL_isBrought 80 = .ok (.invokevirtual 106, 3) := by decide +kernel
theorem dL_isBrought_83 : decode cL_isBrought 83 = .ok (.pop, 1) := by decide +kernel
theorem dL_isBrought_84 : decode cL_isBrought 84 = .ok (.aload_n 0, 1) := by decide +kernel
theorem dL_isBrought_85 : decode cL_isBrought 85 = .ok (.iload 5, 2) := by decide +kernel
theorem dL_isBrought_87 : decode cL_isBrought 87 = .ok (.iload 6, 2) := by decide +kernel
theorem dL_isBrought_89 : decode cL_isBrought 89 = .ok (.invokevirtual 109, 3) := by decide +kernel
theorem dL_isBrought_92 : decode cL_isBrought 92 = .ok (.pop, 1) := by decide +kernel
theorem dL_isBrought_93 : decode cL_isBrought 93 = .ok (.aload_n 0, 1) := by decide +kernel
theorem dL_isBrought_94 : decode cL_isBrought 94 = .ok (.iload_n 1, 1) := by decide +kernel
theorem dL_isBrought_95 : decode cL_isBrought 95 = .ok (.invokevirtual 51, 3) := by decide +kernel
theorem dL_isBrought_98 : decode cL_isBrought 98 = .ok (.iload 7, 2) := by decide +kernel
theorem dL_isBrought_100 : decode cL_isBrought 100 = .ok (.if_icmp .eq 5, 3) := by decide +kernel
theorem dL_isBrought_103 : decode cL_isBrought 103 = .ok (.iconst 0, 1) := by decide +kernel
theorem dL_isBrought_104 : decode cL_isBrought 104 = .ok (.ireturn, 1) := by decide +kernel
theorem dL_isBrought_105 : decode cL_isBrought 105 = .ok (.aload_n 0, 1) := by decide +kernel
theorem dL_isBrought_106 : decode cL_isBrought 106 = .ok (.invokevirtual 112, 3) := by decide +kernel
theorem dL_isBrought_109 : decode cL_isBrought 109 = .ok (.pop, 1) := by decide +kernel
theorem dL_isBrought_110 : decode cL_isBrought 110 = .ok (.aload_n 0, 1) := by decide +kernel
theorem dL_isBrought_111 : decode cL_isBrought 111 = .ok (.iload 5, 2) := by decide +kernel
theorem dL_isBrought_113 : decode cL_isBrought 113 = .ok (.iload 4, 2) := by decide +kernel
theorem dL_isBrought_115 : decode cL_isBrought 115 = .ok (.invokevirtual 109, 3) := by decide +kernel
theorem dL_isBrought_118 : decode cL_isBrought 118 = .ok (.pop, 1) := by decide +kernel
theorem dL_isBrought_119 : decode cL_isBrought 119 = .ok (.aload_n 0, 1) := by decide +kernel
theorem dL_isBrought_120 : decode cL_isBrought 120 = .ok (.iload_n 1, 1) := by decide +kernel
theorem dL_isBrought_121 : decode cL_isBrought 121 = .ok (.invokevirtual 51, 3) := by decide +kernel
theorem dL_isBrought_124 : decode cL_isBrought 124 = .ok (.iload_n 3, 1) := by decide +kernel
theorem dL_isBrought_125 : decode cL_isBrought 125 = .ok (.if_icmp .eq 5, 3) := by decide +kernel
theorem dL_isBrought_128 : decode cL_isBrought 128 = .ok (.iconst 0, 1) := by decide +kernel
theorem dL_isBrought_129 : decode cL_isBrought 129 = .ok (.ireturn, 1) := by decide +kernel
theorem dL_isBrought_130 : decode cL_isBrought 130 = .ok (.aload_n 0, 1) := by decide +kernel
theorem dL_isBrought_131 : decode cL_isBrought 131 = .ok (.invokevirtual 112, 3) := by decide +kernel
theorem dL_isBrought_134 : decode cL_isBrought 134 = .ok (.pop, 1) := by decide +kernel
theorem dL_isBrought_135 : decode cL_isBrought 135 = .ok (.aload_n 0, 1) := by decide +kernel
theorem dL_isBrought_136 : decode cL_isBrought 136 = .ok (.invokevirtual 112, 3) := by decide +kernel
theorem dL_isBrought_139 : decode cL_isBrought 139 = .ok (.ifCond .lt 37, 3) := by decide +kernel
theorem dL_isBrought_142 : decode cL_isBrought 142 = .ok (.aload_n 0, 1) := by decide +kernel
theorem dL_isBrought_143 : decode cL_isBrought 143 = .ok (.iload_n 2, 1) := by decide +kernel
theorem dL_isBrought_144 : decode cL_isBrought 144 = .ok (.invokevirtual 103, 3) := by decide +kernel
theorem dL_isBrought_147 : decode cL_isBrought 147 = .ok (.iload 5, 2) := by decide +kernel
theorem dL_isBrought_149 : decode cL_isBrought 149 = .ok (.if_icmp .ne 27, 3) := by decide +kernel
theorem dL_isBrought_152 : decode cL_isBrought 152 = .ok (.aload_n 0, 1) := by decide +kernel
theorem dL_isBrought_153 : decode cL_isBrought 153 = .ok (.iload_n 2, 1) := by decide +kernel
theorem dL_isBrought_154 : decode cL_isBrought 154 = .ok (.invokevirtual 90, 3) := by decide +kernel
theorem dL_isBrought_157 : decode cL_isBrought 157 = .ok (.iload 6, 2) := by decide +kernel
theorem dL_isBrought_159 : decode cL_isBrought 159 = .ok (.if_icmp .ne 17, 3) := by decide +kernel
theorem dL_isBrought_162 : decode cL_isBrought 162 = .ok (.aload_n 0, 1) := by decide +kernel
theorem dL_isBrought_163 : decode cL_isBrought 163 = .ok (.iload_n 1, 1) := by decide +kernel
theorem dL_isBrought_164 : decode cL_isBrought 164 = .ok (.invokevirtual 51, 3) := by decide +kernel
theorem dL_isBrought_167 : decode cL_isBrought 167 = .ok (.iload 7, 2) := by decide +kernel
theorem dL_isBrought_169 : decode cL_isBrought 169 = .ok (.if_icmp .ne 7, 3) := by decide +kernel
theorem dL_isBrought_172 : decode cL_isBrought 172 = .ok (.iconst 1, 1) := by decide +kernel
theorem dL_isBrought_173 : decode cL_isBrought 173 = .ok (.goto 4, 3) := by decide +kernel
theorem dL_isBrought_176 : decode cL_isBrought 176 = .ok (.iconst 0, 1) := by decide +kernel
theorem dL_isBrought_177 : decode cL_isBrought 177 = .ok (.ireturn, 1) := by decide +kernel
theorem dL_law_0 : decode cL_law 0 = .ok (.new 16, 3) := by decide +kernel
theorem dL_law_3 : decode cL_law 3 = .ok (.dup, 1) := by decide +kernel
theorem dL_law_4 : decode cL_law 4 = .ok (.invokespecial 115, 3) := by decide +kernel
theorem dL_law_7 : decode cL_law 7 = .ok (.astore_n 1, 1) := by decide +kernel
theorem dL_law_8 : decode cL_law 8 = .ok (.aload_n 0, 1) := by decide +kernel
theorem dL_law_9 : decode cL_law 9 = .ok (.iconst 0, 1) := by decide +kernel
theorem dL_law_10 : decode cL_law 10 = .ok (.invokestatic 116, 3) := by decide +kernel
theorem dL_law_13 : decode cL_law 13 = .ok (.istore_n 2, 1) := by decide +kernel
theorem dL_law_14 : decode cL_law 14 = .ok (.iload_n 2, 1) := by decide +kernel
theorem dL_law_15 : decode cL_law 15 = .ok (.bipush 6, 2) := by decide +kernel
theorem dL_law_17 : decode cL_law 17 = .ok (.invokestatic 8, 3) := by decide +kernel
theorem dL_law_20 : decode cL_law 20 = .ok (.istore_n 3, 1) := by decide +kernel
theorem dL_law_21 : decode cL_law 21 = .ok (.aload_n 1, 1) := by decide +kernel
theorem dL_law_22 : decode cL_law 22 = .ok (.invokevirtual 112, 3) := by decide +kernel
theorem dL_law_25 : decode cL_law 25 = .ok (.ldc 27, 2) := by decide +kernel
theorem dL_law_27 : decode cL_law 27 = .ok (.if_icmp .ne 70, 3) := by decide +kernel
theorem dL_law_30 : decode cL_law 30 = .ok (.aload_n 1, 1) := by decide +kernel
theorem dL_law_31 : decode cL_law 31 = .ok (.iconst 0, 1) := by decide +kernel
theorem dL_law_32 : decode cL_law 32 = .ok (.iconst 1, 1) := by decide +kernel
theorem dL_law_33 : decode cL_law 33 = .ok (.iconst 1, 1) := by decide +kernel
theorem dL_law_34 : decode cL_law 34 = .ok (.invokevirtual 120, 3) := by decide +kernel
theorem dL_law_37 : decode cL_law 37 = .ok (.ldc 27, 2) := by decide +kernel
theorem dL_law_39 : decode cL_law 39 = .ok (.if_icmp .ne 58, 3) := by decide +kernel
theorem dL_law_42 : decode cL_law 42 = .ok (.aload_n 1, 1) := by decide +kernel
theorem dL_law_43 : decode cL_law 43 = .ok (.invokevirtual 123, 3) := by decide +kernel
theorem dL_law_46 : decode cL_law 46 = .ok (.ldc 27, 2) := by decide +kernel
theorem dL_law_48 : decode cL_law 48 = .ok (.if_icmp .ne 49, 3) := by decide +kernel
theorem dL_law_51 : decode cL_law 51 = .ok (.aload_n 1, 1) := by decide +kernel
theorem dL_law_52 : decode cL_law 52 = .ok (.iconst 1, 1) := by decide +kernel
theorem dL_law_53 : decode cL_law 53 = .ok (.iconst 0, 1) := by decide +kernel
theorem dL_law_54 : decode cL_law 54 = .ok (.invokevirtual 109, 3) := by decide +kernel
theorem dL_law_57 : decode cL_law 57 = .ok (.ldc 126, 2) := by decide +kernel
theorem dL_law_59 : decode cL_law 59 = .ok (.if_icmp .ne 38, 3) := by decide +kernel
theorem dL_law_62 : decode cL_law 62 = .ok (.aload_n 1, 1) := by decide +kernel
theorem dL_law_63 : decode cL_law 63 = .ok (.iconst 1, 1) := by decide +kernel
theorem dL_law_64 : decode cL_law 64 = .ok (.bipush 11, 2) := by decide +kernel
theorem dL_law_66 : decode cL_law 66 = .ok (.invokevirtual 109, 3) := by decide +kernel
theorem dL_law_69 : decode cL_law 69 = .ok (.ldc 126, 2) := by decide +kernel
theorem dL_law_71 : decode cL_law 71 = .ok (.if_icmp .ne 26, 3) := by decide +kernel
theorem dL_law_74 : decode cL_law 74 = .ok (.aload_n 1, 1) := by decide +kernel
theorem dL_law_75 : decode cL_law 75 = .ok (.iconst 1, 1) := by decide +kernel
theorem dL_law_76 : decode cL_law 76 = .ok (.bipush 6, 2) := by decide +kernel
theorem dL_law_78 : decode cL_law 78 = .ok (.invokevirtual 109, 3) := by decide +kernel
theorem dL_law_81 : decode cL_law 81 = .ok (.ldc 126, 2) := by decide +kernel
theorem dL_law_83 : decode cL_law 83 = .ok (.if_icmp .ne 14, 3) := by decide +kernel
theorem dL_law_86 : decode cL_law 86 = .ok (.aload_n 1, 1) := by decide +kernel
theorem dL_law_87 : decode cL_law 87 = .ok (.iconst 0, 1) := by decide +kernel
theorem dL_law_88 : decode cL_law 88 = .ok (.iconst 1, 1) := by decide +kernel
theorem dL_law_89 : decode cL_law 89 = .ok (.invokevirtual 109, 3) := by decide +kernel
theorem dL_law_92 : decode cL_law 92 = .ok (.ldc 126, 2) := by decide +kernel
theorem dL_law_94 : decode cL_law 94 = .ok (.if_icmp .eq 5, 3) := by decide +kernel
theorem dL_law_97 : decode cL_law 97 = .ok (.iconst 0, 1) := by decide +kernel
theorem dL_law_98 : decode cL_law 98 = .ok (.ireturn, 1) := by decide +kernel
theorem dL_law_99 : decode cL_law 99 = .ok (.iconst 0, 1) := by decide +kernel
theorem dL_law_100 : decode cL_law 100 = .ok (.istore 4, 2) := by decide +kernel
theorem dL_law_102 : decode cL_law 102 = .ok (.iconst 0, 1) := by decide +kernel
theorem dL_law_103 : decode cL_law 103 = .ok (.istore 5, 2) := by decide +kernel
theorem dL_law_105 : decode cL_law 105 = .ok (.iload 5, 2) := by decide +kernel
theorem dL_law_107 : decode cL_law 107 = .ok (.iload_n 3, 1) := by decide +kernel
theorem dL_law_108 : decode cL_law 108 = .ok (.if_icmp .ge 83, 3) := by decide +kernel
theorem dL_law_111 : decode cL_law 111 = .ok (.aload_n 0, 1) := by decide +kernel
theorem dL_law_112 : decode cL_law 112 = .ok (.iconst 1, 1) := by decide +kernel
theorem dL_law_113 : decode cL_law 113 = .ok (.iload 5, 2) := by decide +kernel
theorem dL_law_115 : decode cL_law 115 = .ok (.iadd, 1) := by decide +kernel
theorem dL_law_116 : decode cL_law 116 = .ok (.invokestatic 116, 3) := by decide +kernel
theorem dL_law_119 : decode cL_law 119 = .ok (.istore 6, 2) := by decide +kernel
theorem dL_law_121 : decode cL_law 121 = .ok (.iconst 1, 1) := by decide +kernel
theorem dL_law_122 : decode cL_law 122 = .ok (.iload 6, 2) := by decide +kernel
theorem dL_law_124 : decode cL_law 124 = .ok (.bipush 27, 2) := by decide +kernel
theorem dL_law_126 : decode cL_law 126 = .ok (.ishr, 1) := by decide +kernel
theorem dL_law_127 : decode cL_law 127 = .ok (.bipush 9, 2) := by decide +kernel
theorem dL_law_129 : decode cL_law 129 = .ok (.invokestatic 8, 3) := by decide +kernel
theorem dL_law_132 : decode cL_law 132 = .ok (.iadd, 1) := by decide +kernel
theorem dL_law_133 : decode cL_law 133 = .ok (.istore 7, 2) := by decide +kernel
theorem dL_law_135 : decode cL_law 135 = .ok (.aload_n 1, 1) := by decide +kernel
theorem dL_law_136 : decode cL_law 136 = .ok (.iload 7, 2) := by decide +kernel
theorem dL_law_138 : decode cL_law 138 = .ok (.iload 6, 2) := by decide +kernel
theorem dL_law_140 : decode cL_law 140 = .ok (.invokestatic 127, 3) := by decide +kernel
theorem dL_law_143 : decode cL_law 143 = .ok (.invokevirtual 109, 3) := by decide +kernel
theorem dL_law_146 : decode cL_law 146 = .ok (.iload 5, 2) := by decide +kernel
theorem dL_law_148 : decode cL_law 148 = .ok (.if_icmp .ne 28, 3) := by decide +kernel
theorem dL_law_151 : decode cL_law 151 = .ok (.aload_n 1, 1) := by decide +kernel
theorem dL_law_152 : decode cL_law 152 = .ok (.iload 5, 2) := by decide +kernel
theorem dL_law_154 : decode cL_law 154 = .ok (.invokevirtual 90, 3) := by decide +kernel
theorem dL_law_157 : decode cL_law 157 = .ok (.iload 6, 2) := by decide +kernel
theorem dL_law_159 : decode cL_law 159 = .ok (.invokestatic 127, 3) := by decide +kernel
theorem dL_law_162 : decode cL_law 162 = .ok (.if_icmp .ne 14, 3) := by decide +kernel
theorem dL_law_165 : decode cL_law 165 = .ok (.aload_n 1, 1) := by decide +kernel
theorem dL_law_166 : decode cL_law 166 = .ok (.iload 5, 2) := by decide +kernel
theorem dL_law_168 : decode cL_law 168 = .ok (.invokevirtual 103, 3) := by decide +kernel
theorem dL_law_171 : decode cL_law 171 = .ok (.iload 7, 2) := by decide +kernel
theorem dL_law_173 : decode cL_law 173 = .ok (.if_icmp .eq 5, 3) := by decide +kernel
theorem dL_law_176 : decode cL_law 176 = .ok (.iconst 0, 1) := by decide +kernel
theorem dL_law_177 : decode cL_law 177 = .ok (.ireturn, 1) := by decide +kernel
theorem dL_law_178 : decode cL_law 178 = .ok (.iload 4, 2) := by decide +kernel
theorem dL_law_180 : decode cL_law 180 = .ok (.iload 7, 2) := by decide +kernel
theorem dL_law_182 : decode cL_law 182 = .ok (.iadd, 1) := by decide +kernel
theorem dL_law_183 : decode cL_law 183 = .ok (.istore 4, 2) := by decide +kernel
theorem dL_law_185 : decode cL_law 185 = .ok (.iinc 5 1, 3) := by decide +kernel
theorem dL_law_188 : decode cL_law 188 = .ok (.goto (-83), 3) := by decide +kernel
theorem dL_law_191 : decode cL_law 191 = .ok (.aload_n 1, 1) := by decide +kernel
theorem dL_law_192 : decode cL_law 192 = .ok (.invokevirtual 15, 3) := by decide +kernel
theorem dL_law_195 : decode cL_law 195 = .ok (.iload 4, 2) := by decide +kernel
theorem dL_law_197 : decode cL_law 197 = .ok (.if_icmp .ne 17, 3) := by decide +kernel
theorem dL_law_200 : decode cL_law 200 = .ok (.aload_n 1, 1) := by decide +kernel
theorem dL_law_201 : decode cL_law 201 = .ok (.invokestatic 128, 3) := by decide +kernel
theorem dL_law_204 : decode cL_law 204 = .ok (.ifCond .eq 10, 3) := by decide +kernel
theorem dL_law_207 : decode cL_law 207 = .ok (.aload_n 1, 1) := by decide +kernel
theorem dL_law_208 : decode cL_law 208 = .ok (.invokestatic 132, 3) := by decide +kernel
theorem dL_law_211 : decode cL_law 211 = .ok (.ifCond .ne 5, 3) := by decide +kernel
theorem dL_law_214 : decode cL_law 214 = .ok (.iconst 0, 1) := by decide +kernel
theorem dL_law_215 : decode cL_law 215 = .ok (.ireturn, 1) := by decide +kernel
theorem dL_law_216 : decode cL_law 216 = .ok (.iconst 0, 1) := by decide +kernel
theorem dL_law_217 : decode cL_law 217 = .ok (.istore 5, 2) := by decide +kernel
theorem dL_law_219 : decode cL_law 219 = .ok (.iload 5, 2) := by decide +kernel
theorem dL_law_221 : decode cL_law 221 = .ok (.iconst 3, 1) := by decide +kernel
theorem dL_law_222 : decode cL_law 222 = .ok (.if_icmp .ge 232, 3) := by decide +kernel
theorem dL_law_225 : decode cL_law 225 = .ok (.aload_n 0, 1) := by decide +kernel
theorem dL_law_226 : decode cL_law 226 = .ok (.bipush 8, 2) := by decide +kernel
theorem dL_law_228 : decode cL_law 228 = .ok (.iload 5, 2) := by decide +kernel
theorem dL_law_230 : decode cL_law 230 = .ok (.iadd, 1) := by decide +kernel
theorem dL_law_231 : decode cL_law 231 = .ok (.invokestatic 116, 3) := by decide +kernel
theorem dL_law_234 : decode cL_law 234 = .ok (.istore 6, 2) := by decide +kernel
theorem dL_law_236 : decode cL_law 236 = .ok (.iload 6, 2) := by decide +kernel
theorem dL_law_238 : decode cL_law 238 = .ok (.bipush 12, 2) := by decide +kernel
theorem dL_law_240 : decode cL_law 240 = .ok (.invokestatic 8, 3) := by decide +kernel
theorem dL_law_243 : decode cL_law 243 = .ok (.istore 7, 2) := by decide +kernel
theorem dL_law_245 : decode cL_law 245 = .ok (.iload 6, 2) := by decide +kernel
theorem dL_law_247 : decode cL_law 247 = .ok (.iconst 4, 1) := by decide +kernel
theorem dL_law_248 : decode cL_law 248 = .ok (.ishr, 1) := by decide +kernel
theorem dL_law_249 : decode cL_law 249 = .ok (.iconst 1, 1) := by decide +kernel
theorem dL_law_250 : decode cL_law 250 = .ok (.iand, 1) := by decide +kernel
theorem dL_law_251 : decode cL_law 251 = .ok (.ifCond .ne 31, 3) := by decide +kernel
theorem dL_law_254 : decode cL_law 254 = .ok (.aload_n 1, 1) := by decide +kernel
theorem dL_law_255 : decode cL_law 255 = .ok (.iload 6, 2) := by decide +kernel
theorem dL_law_257 : decode cL_law 257 = .ok (.iconst 5, 1) := by decide +kernel
theorem dL_law_258 : decode cL_law 258 = .ok (.ishr, 1) := by decide +kernel
theorem dL_law_259 : decode cL_law 259 = .ok (.iconst 5, 1) := by decide +kernel
theorem dL_law_260 : decode cL_law 260 = .ok (.invokestatic 8, 3) := by decide +kernel
theorem dL_law_263 : decode cL_law 263 = .ok (.iload 6, 2) := by decide +kernel
theorem dL_law_265 : decode cL_law 265 = .ok (.bipush 8, 2) := by decide +kernel
theorem dL_law_267 : decode cL_law 267 = .ok (.ishr, 1) := by decide +kernel
theorem dL_law_268 : decode cL_law 268 = .ok (.iconst 3, 1) := by decide +kernel
theorem dL_law_269 : decode cL_law 269 = .ok (.iand, 1) := by decide +kernel
theorem dL_law_270 : decode cL_law 270 = .ok (.ifCond .ne 7, 3) := by decide +kernel
theorem dL_law_273 : decode cL_law 273 = .ok (.iconst 1, 1) := by decide +kernel
theorem dL_law_274 : decode cL_law 274 = .ok (.goto 4, 3) := by decide +kernel
theorem dL_law_277 : decode cL_law 277 = .ok (.iconst 0, 1) := by decide +kernel
theorem dL_law_278 : decode cL_law 278 = .ok (.invokevirtual 135, 3) := by decide +kernel
theorem dL_law_281 : decode cL_law 281 = .ok (.pop, 1) := by decide +kernel
theorem dL_law_282 : decode cL_law 282 = .ok (.iload_n 3, 1) := by decide +kernel
theorem dL_law_283 : decode cL_law 283 = .ok (.ifCond .le 118, 3) := by decide +kernel
theorem dL_law_286 : decode cL_law 286 = .ok (.iload 6, 2) := by decide +kernel
theorem dL_law_288 : decode cL_law 288 = .ok (.bipush 10, 2) := by decide +kernel
theorem dL_law_290 : decode cL_law 290 = .ok (.ishr, 1) := by decide +kernel
theorem dL_law_291 : decode cL_law 291 = .ok (.iconst 1, 1) := by decide +kernel
theorem dL_law_292 : decode cL_law 292 = .ok (.iand, 1) := by decide +kernel
theorem dL_law_293 : decode cL_law 293 = .ok (.ifCond .ne 108, 3) := by decide +kernel
theorem dL_law_296 : decode cL_law 296 = .ok (.iload 6, 2) := by decide +kernel
theorem dL_law_298 : decode cL_law 298 = .ok (.bipush 11, 2) := by decide +kernel
theorem dL_law_300 : decode cL_law 300 = .ok (.ishr, 1) := by decide +kernel
theorem dL_law_301 : decode cL_law 301 = .ok (.iload_n 3, 1) := by decide +kernel
theorem dL_law_302 : decode cL_law 302 = .ok (.invokestatic 8, 3) := by decide +kernel
theorem dL_law_305 : decode cL_law 305 = .ok (.istore 8, 2) := by decide +kernel
theorem dL_law_307 : decode cL_law 307 = .ok (.aload_n 1, 1) := by decide +kernel
theorem dL_law_308 : decode cL_law 308 = .ok (.iload 8, 2) := by decide +kernel
theorem dL_law_310 : decode cL_law 310 = .ok (.invokevirtual 90, 3) := by decide +kernel
theorem dL_law_313 : decode cL_law 313 = .ok (.istore 9, 2) := by decide +kernel
theorem dL_law_315 : decode cL_law 315 = .ok (.iload 6, 2) := by decide +kernel
theorem dL_law_317 : decode cL_law 317 = .ok (.bipush 14, 2) := by decide +kernel
theorem dL_law_319 : decode cL_law 319 = .ok (.ishr, 1) := by decide +kernel
theorem dL_law_320 : decode cL_law 320 = .ok (.iconst 5, 1) := by decide +kernel
theorem dL_law_321 : decode cL_law 321 = .ok (.invokestatic 8, 3) := by decide +kernel
theorem dL_law_324 : decode cL_law 324 = .ok (.istore 10, 2) := by decide +kernel
theorem dL_law_326 : decode cL_law 326 = .ok (.aload_n 1, 1) := by decide +kernel
theorem dL_law_327 : decode cL_law 327 = .ok (.iload 8, 2) := by decide +kernel
theorem dL_law_329 : decode cL_law 329 = .ok (.iload 10, 2) := by decide +kernel
theorem dL_law_331 : decode cL_law 331 = .ok (.invokevirtual 139, 3) := by decide +kernel
theorem dL_law_334 : decode cL_law 334 = .ok (.istore 11, 2) := by decide +kernel
theorem dL_law_336 : decode cL_law 336 = .ok (.iload 11, 2) := by decide +kernel
theorem dL_law_338 : decode cL_law 338 = .ok (.ifCond .le 37, 3) := by decide +kernel
theorem dL_law_341 : decode cL_law 341 = .ok (.aload_n 1, 1) := by decide +kernel
theorem dL_law_342 : decode cL_law 342 = .ok (.iload 8, 2) := by decide +kernel
theorem dL_law_344 : decode cL_law 344 = .ok (.iload 10, 2) := by decide +kernel
theorem dL_law_346 : decode cL_law 346 = .ok (.invokevirtual 139, 3) := by decide +kernel
theorem dL_law_349 : decode cL_law 349 = .ok (.iload 9, 2) := by decide +kernel
theorem dL_law_351 : decode cL_law 351 = .ok (.if_icmp .ne 48, 3) := by decide +kernel
theorem dL_law_354 : decode cL_law 354 = .ok (.aload_n 1, 1) := by decide +kernel
theorem dL_law_355 : decode cL_law 355 = .ok (.invokevirtual 112, 3) := by decide +kernel
theorem dL_law_358 : decode cL_law 358 = .ok (.ifCond .lt 41, 3) := by decide +kernel
theorem dL_law_361 : decode cL_law 361 = .ok (.aload_n 1, 1) := by decide +kernel
theorem dL_law_362 : decode cL_law 362 = .ok (.iload 8, 2) := by decide +kernel
theorem dL_law_364 : decode cL_law 364 = .ok (.invokevirtual 90, 3) := by decide +kernel
theorem dL_law_367 : decode cL_law 367 = .ok (.iload 11, 2) := by decide +kernel
theorem dL_law_369 : decode cL_law 369 = .ok (.if_icmp .eq 32, 3) := by decide +kernel
theorem dL_law_372 : decode cL_law 372 = .ok (.goto 27, 3) := by decide +kernel
theorem dL_law_375 : decode cL_law 375 = .ok (.iload 11, 2) := by decide +kernel
theorem dL_law_377 : decode cL_law 377 = .ok (.ldc 63, 2) := by decide +kernel
theorem dL_law_379 : decode cL_law 379 = .ok (.if_icmp .ne 20, 3) := by decide +kernel
theorem dL_law_382 : decode cL_law 382 = .ok (.iload 9, 2) := by decide +kernel
theorem dL_law_384 : decode cL_law 384 = .ok (.iload 9, 2) := by decide +kernel
theorem dL_law_386 : decode cL_law 386 = .ok (.bipush 10, 2) := by decide +kernel
theorem dL_law_388 : decode cL_law 388 = .ok (.irem, 1) := by decide +kernel
theorem dL_law_389 : decode cL_law 389 = .ok (.iconst 1, 1) := by decide +kernel
theorem dL_law_390 : decode cL_law 390 = .ok (.isub, 1) := by decide +kernel
theorem dL_law_391 : decode cL_law 391 = .ok (.invokestatic 93, 3) := by decide +kernel
theorem dL_law_394 : decode cL_law 394 = .ok (.iload 10, 2) := by decide +kernel
theorem dL_law_396 : decode cL_law 396 = .ok (.if_icmp .le 5, 3) := by decide +kernel
theorem dL_law_399 : decode cL_law 399 = .ok (.iconst 0, 1) := by decide +kernel
theorem dL_law_400 : decode cL_law 400 = .ok (.ireturn, 1) := by decide +kernel
theorem dL_law_401 : decode cL_law 401 = .ok (.aload_n 1, 1) := by decide +kernel
theorem dL_law_402 : decode cL_law 402 = .ok (.invokestatic 128, 3) := by decide +kernel
theorem dL_law_405 : decode cL_law 405 = .ok (.ifCond .eq 41, 3) := by decide +kernel
theorem dL_law_408 : decode cL_law 408 = .ok (.aload_n 1, 1) := by decide +kernel
theorem dL_law_409 : decode cL_law 409 = .ok (.invokestatic 132, 3) := by decide +kernel
theorem dL_law_412 : decode cL_law 412 = .ok (.ifCond .eq 34, 3) := by decide +kernel
theorem dL_law_415 : decode cL_law 415 = .ok (.aload_n 1, 1) := by decide +kernel
theorem dL_law_416 : decode cL_law 416 = .ok (.iload 7, 2) := by decide +kernel
theorem dL_law_418 : decode cL_law 418 = .ok (.invokestatic 142, 3) := by decide +kernel
theorem dL_law_421 : decode cL_law 421 = .ok (.ifCond .eq 25, 3) := by decide +kernel
theorem dL_law_424 : decode cL_law 424 = .ok (.iload_n 3, 1) := by decide +kernel
theorem dL_law_425 : decode cL_law 425 = .ok (.ifCond .le 23, 3) := by decide +kernel
theorem dL_law_428 : decode cL_law 428 = .ok (.aload_n 1, 1) := by decide +kernel
theorem dL_law_429 : decode cL_law 429 = .ok (.iload 7, 2) := by decide +kernel
theorem dL_law_431 : decode cL_law 431 = .ok (.iload 6, 2) := by decide +kernel
theorem dL_law_433 : decode cL_law 433 = .ok (.bipush 17, 2) := by decide +kernel
theorem dL_law_435 : decode cL_law 435 = .ok (.ishr, 1) := by decide +kernel
theorem dL_law_436 : decode cL_law 436 = .ok (.iload_n 3, 1) := by decide +kernel
theorem dL_law_437 : decode cL_law 437 = .ok (.invokestatic 8, 3) := by decide +kernel
theorem dL_law_440 : decode cL_law 440 = .ok (.invokestatic 146, 3) := by decide +kernel
theorem dL_law_443 : decode cL_law 443 = .ok (.ifCond .ne 5, 3) := by decide +kernel
theorem dL_law_446 : decode cL_law 446 = .ok (.iconst 0, 1) := by decide +kernel
theorem dL_law_447 : decode cL_law 447 = .ok (.ireturn, 1) := by decide +kernel
theorem dL_law_448 : decode cL_law 448 = .ok (.iinc 5 1, 3) := by decide +kernel
theorem dL_law_451 : decode cL_law 451 = .ok (.goto (-232), 3) := by decide +kernel
theorem dL_law_454 : decode cL_law 454 = .ok (.iload_n 2, 1) := by decide +kernel
theorem dL_law_455 : decode cL_law 455 = .ok (.iconst 3, 1) := by decide +kernel
theorem dL_law_456 : decode cL_law 456 = .ok (.ishr, 1) := by decide +kernel
theorem dL_law_457 : decode cL_law 457 = .ok (.bipush 12, 2) := by decide +kernel
theorem dL_law_459 : decode cL_law 459 = .ok (.invokestatic 8, 3) := by decide +kernel
theorem dL_law_462 : decode cL_law 462 = .ok (.istore 5, 2) := by decide +kernel
theorem dL_law_464 : decode cL_law 464 = .ok (.aload_n 1, 1) := by decide +kernel
theorem dL_law_465 : decode cL_law 465 = .ok (.iload 5, 2) := by decide +kernel
theorem dL_law_467 : decode cL_law 467 = .ok (.invokevirtual 51, 3) := by decide +kernel
theorem dL_law_470 : decode cL_law 470 = .ok (.istore 6, 2) := by decide +kernel
theorem dL_law_472 : decode cL_law 472 = .ok (.iload_n 3, 1) := by decide +kernel
theorem dL_law_473 : decode cL_law 473 = .ok (.ifCond .le 99, 3) := by decide +kernel
theorem dL_law_476 : decode cL_law 476 = .ok (.iconst 1, 1) := by decide +kernel
theorem dL_law_477 : decode cL_law 477 = .ok (.iload_n 2, 1) := by decide +kernel
theorem dL_law_478 : decode cL_law 478 = .ok (.bipush 7, 2) := by decide +kernel
theorem dL_law_480 : decode cL_law 480 = .ok (.ishr, 1) := by decide +kernel
theorem dL_law_481 : decode cL_law 481 = .ok (.bipush 50, 2) := by decide +kernel
theorem dL_law_483 : decode cL_law 483 = .ok (.invokestatic 8, 3) := by decide +kernel
theorem dL_law_486 : decode cL_law 486 = .ok (.iadd, 1) := by decide +kernel
theorem dL_law_487 : decode cL_law 487 = .ok (.istore 7, 2) := by decide +kernel
theorem dL_law_489 : decode cL_law 489 = .ok (.aload_n 1, 1) := by decide +kernel
theorem dL_law_490 : decode cL_law 490 = .ok (.iload 5, 2) := by decide +kernel
theorem dL_law_492 : decode cL_law 492 = .ok (.iload_n 2, 1) := by decide +kernel
theorem dL_law_493 : decode cL_law 493 = .ok (.iload 7, 2) := by decide +kernel
theorem dL_law_495 : decode cL_law 495 = .ok (.iconst 5, 1) := by decide +kernel
theorem dL_law_496 : decode cL_law 496 = .ok (.invokevirtual 150, 3) := by decide +kernel
theorem dL_law_499 : decode cL_law 499 = .ok (.istore 8, 2) := by decide +kernel
theorem dL_law_501 : decode cL_law 501 = .ok (.aload_n 1, 1) := by decide +kernel
theorem dL_law_502 : decode cL_law 502 = .ok (.iload 5, 2) := by decide +kernel
theorem dL_law_504 : decode cL_law 504 = .ok (.iload_n 2, 1) := by decide +kernel
theorem dL_law_505 : decode cL_law 505 = .ok (.iload 7, 2) := by decide +kernel
theorem dL_law_507 : decode cL_law 507 = .ok (.invokevirtual 120, 3) := by decide +kernel
theorem dL_law_510 : decode cL_law 510 = .ok (.istore 9, 2) := by decide +kernel
theorem dL_law_512 : decode cL_law 512 = .ok (.iload 6, 2) := by decide +kernel
theorem dL_law_514 : decode cL_law 514 = .ok (.ifCond .ge 20, 3) := by decide +kernel
theorem dL_law_517 : decode cL_law 517 = .ok (.iload 8, 2) := by decide +kernel
theorem dL_law_519 : decode cL_law 519 = .ok (.ldc 27, 2) := by decide +kernel
theorem dL_law_521 : decode cL_law 521 = .ok (.if_icmp .ne 49, 3) := by decide +kernel
theorem dL_law_524 : decode cL_law 524 = .ok (.iload 9, 2) := by decide +kernel
theorem dL_law_526 : decode cL_law 526 = .ok (.ldc 46, 2) := by decide +kernel
theorem dL_law_528 : decode cL_law 528 = .ok (.if_icmp .eq 44, 3) := by decide +kernel
theorem dL_law_531 : decode cL_law 531 = .ok (.goto 39, 3) := by decide +kernel
theorem dL_law_534 : decode cL_law 534 = .ok (.iload 8, 2) := by decide +kernel
theorem dL_law_536 : decode cL_law 536 = .ok (.ifCond .lt 34, 3) := by decide +kernel
theorem dL_law_539 : decode cL_law 539 = .ok (.iload 8, 2) := by decide +kernel
theorem dL_law_541 : decode cL_law 541 = .ok (.iconst 5, 1) := by decide +kernel
theorem dL_law_542 : decode cL_law 542 = .ok (.if_icmp .gt 28, 3) := by decide +kernel
theorem dL_law_545 : decode cL_law 545 = .ok (.aload_n 1, 1) := by decide +kernel
theorem dL_law_546 : decode cL_law 546 = .ok (.iload 5, 2) := by decide +kernel
theorem dL_law_548 : decode cL_law 548 = .ok (.iload_n 2, 1) := by decide +kernel
theorem dL_law_549 : decode cL_law 549 = .ok (.iload 7, 2) := by decide +kernel
theorem dL_law_551 : decode cL_law 551 = .ok (.iconst 1, 1) := by decide +kernel
theorem dL_law_552 : decode cL_law 552 = .ok (.invokevirtual 150, 3) := by decide +kernel
theorem dL_law_555 : decode cL_law 555 = .ok (.iload 9, 2) := by decide +kernel
theorem dL_law_557 : decode cL_law 557 = .ok (.iload 6, 2) := by decide +kernel
theorem dL_law_559 : decode cL_law 559 = .ok (.if_icmp .ne 7, 3) := by decide +kernel
theorem dL_law_562 : decode cL_law 562 = .ok (.iconst 1, 1) := by decide +kernel
theorem dL_law_563 : decode cL_law 563 = .ok (.goto 4, 3) := by decide +kernel
theorem dL_law_566 : decode cL_law 566 = .ok (.iconst 0, 1) := by decide +kernel
theorem dL_law_567 : decode cL_law 567 = .ok (.if_icmp .eq 5, 3) := by decide +kernel
theorem dL_law_570 : decode cL_law 570 = .ok (.iconst 0, 1) := by decide +kernel
theorem dL_law_571 : decode cL_law 571 = .ok (.ireturn, 1) := by decide +kernel
theorem dL_law_572 : decode cL_law 572 = .ok (.aload_n 1, 1) := by decide +kernel
theorem dL_law_573 : decode cL_law 573 = .ok (.bipush 12, 2) := by decide +kernel
theorem dL_law_575 : decode cL_law 575 = .ok (.invokevirtual 51, 3) := by decide +kernel
theorem dL_law_578 : decode cL_law 578 = .ok (.ldc 63, 2) := by decide +kernel
theorem dL_law_580 : decode cL_law 580 = .ok (.if_icmp .ne 74, 3) := by decide +kernel
theorem dL_law_583 : decode cL_law 583 = .ok (.aload_n 1, 1) := by decide +kernel
theorem dL_law_584 : decode cL_law 584 = .ok (.iconst 4, 1) := by decide +kernel
theorem dL_law_585 : decode cL_law 585 = .ok (.iconst 0, 1) := by decide +kernel
theorem dL_law_586 : decode cL_law 586 = .ok (.invokevirtual 57, 3) := by decide +kernel
theorem dL_law_589 : decode cL_law 589 = .ok (.ldc 27, 2) := by decide +kernel
theorem dL_law_591 : decode cL_law 591 = .ok (.if_icmp .ne 63, 3) := by decide +kernel
theorem dL_law_594 : decode cL_law 594 = .ok (.aload_n 1, 1) := by decide +kernel
theorem dL_law_595 : decode cL_law 595 = .ok (.iconst 0, 1) := by decide +kernel
theorem dL_law_596 : decode cL_law 596 = .ok (.iconst 5, 1) := by decide +kernel
theorem dL_law_597 : decode cL_law 597 = .ok (.invokevirtual 57, 3) := by decide +kernel
theorem dL_law_600 : decode cL_law 600 = .ok (.ldc 63, 2) := by decide +kernel
theorem dL_law_602 : decode cL_law 602 = .ok (.if_icmp .ne 52, 3) := by decide +kernel
theorem dL_law_605 : decode cL_law 605 = .ok (.aload_n 1, 1) := by decide +kernel
theorem dL_law_606 : decode cL_law 606 = .ok (.iconst 5, 1) := by decide +kernel
theorem dL_law_607 : decode cL_law 607 = .ok (.invokevirtual 64, 3) := by decide +kernel
theorem dL_law_610 : decode cL_law 610 = .ok (.ldc 27, 2) := by decide +kernel
theorem dL_law_612 : decode cL_law 612 = .ok (.if_icmp .ne 42, 3) := by decide +kernel
theorem dL_law_615 : decode cL_law 615 = .ok (.aload_n 1, 1) := by decide +kernel
theorem dL_law_616 : decode cL_law 616 = .ok (.iconst 0, 1) := by decide +kernel
theorem dL_law_617 : decode cL_law 617 = .ok (.iconst 0, 1) := by decide +kernel
theorem dL_law_618 : decode cL_law 618 = .ok (.bipush 51, 2) := by decide +kernel
theorem dL_law_620 : decode cL_law 620 = .ok (.iconst 1, 1) := by decide +kernel
theorem dL_law_621 : decode cL_law 621 = .ok (.invokevirtual 150, 3) := by decide +kernel
theorem dL_law_624 : decode cL_law 624 = .ok (.ldc 126, 2) := by decide +kernel
theorem dL_law_626 : decode cL_law 626 = .ok (.if_icmp .ne 28, 3) := by decide +kernel
theorem dL_law_629 : decode cL_law 629 = .ok (.aload_n 1, 1) := by decide +kernel
theorem dL_law_630 : decode cL_law 630 = .ok (.iload_n 3, 1) := by decide +kernel
theorem dL_law_631 : decode cL_law 631 = .ok (.invokevirtual 103, 3) := by decide +kernel
theorem dL_law_634 : decode cL_law 634 = .ok (.ldc 63, 2) := by decide +kernel
theorem dL_law_636 : decode cL_law 636 = .ok (.if_icmp .ne 18, 3) := by decide +kernel
theorem dL_law_639 : decode cL_law 639 = .ok (.aload_n 1, 1) := by decide +kernel
theorem dL_law_640 : decode cL_law 640 = .ok (.iload 5, 2) := by decide +kernel
theorem dL_law_642 : decode cL_law 642 = .ok (.invokevirtual 51, 3) := by decide +kernel
theorem dL_law_645 : decode cL_law 645 = .ok (.iload 6, 2) := by decide +kernel
theorem dL_law_647 : decode cL_law 647 = .ok (.if_icmp .ne 7, 3) := by decide +kernel
theorem dL_law_650 : decode cL_law 650 = .ok (.iconst 1, 1) := by decide +kernel
theorem dL_law_651 : decode cL_law 651 = .ok (.goto 4, 3) := by decide +kernel
theorem dL_law_654 : decode cL_law 654 = .ok (.iconst 0, 1) := by decide +kernel
theorem dL_law_655 : decode cL_law 655 = .ok (.ireturn, 1) := by decide +kernel
