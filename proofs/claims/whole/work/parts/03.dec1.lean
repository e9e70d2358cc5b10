theorem dX6_tallyOf_16 : decode cX6_tallyOf 16 = .ok (.invokestatic 30, 3) := by decide +kernel
theorem dX6_tallyOf_19 : decode cX6_tallyOf 19 = .ok (.ifCond .ne 6, 3) := by decide +kernel
theorem dX6_tallyOf_22 : decode cX6_tallyOf 22 = .ok (.ldc 36, 2) := by decide +kernel
theorem dX6_tallyOf_24 : decode cX6_tallyOf 24 = .ok (.ireturn, 1) := by decide +kernel
theorem dX6_tallyOf_25 : decode cX6_tallyOf 25 = .ok (.aload_n 0, 1) := by decide +kernel
theorem dX6_tallyOf_26 : decode cX6_tallyOf 26 = .ok (.getfield 20, 3) := by decide +kernel
theorem dX6_tallyOf_29 : decode cX6_tallyOf 29 = .ok (.iload_n 1, 1) := by decide +kernel
theorem dX6_tallyOf_30 : decode cX6_tallyOf 30 = .ok (.aaload, 1) := by decide +kernel
theorem dX6_tallyOf_31 : decode cX6_tallyOf 31 = .ok (.iload_n 2, 1) := by decide +kernel
theorem dX6_tallyOf_32 : decode cX6_tallyOf 32 = .ok (.iaload, 1) := by decide +kernel
theorem dX6_tallyOf_33 : decode cX6_tallyOf 33 = .ok (.ireturn, 1) := by decide +kernel
theorem dX6_play_0 : decode cX6_play 0 = .ok (.aload_n 2, 1) := by decide +kernel
theorem dX6_play_1 : decode cX6_play 1 = .ok (.getfield 37, 3) := by decide +kernel
theorem dX6_play_4 : decode cX6_play 4 = .ok (.istore_n 3, 1) := by decide +kernel
theorem dX6_play_5 : decode cX6_play 5 = .ok (.aload_n 0, 1) := by decide +kernel
theorem dX6_play_6 : decode cX6_play 6 = .ok (.iconst 0, 1) := by decide +kernel
theorem dX6_play_7 : decode cX6_play 7 = .ok (.putfield 26, 3) := by decide +kernel
theorem dX6_play_10 : decode cX6_play 10 = .ok (.iconst 0, 1) := by decide +kernel
theorem dX6_play_11 : decode cX6_play 11 = .ok (.istore 4, 2) := by decide +kernel
theorem dX6_play_13 : decode cX6_play 13 = .ok (.iload 4, 2) := by decide +kernel
theorem dX6_play_15 : decode cX6_play 15 = .ok (.iconst 5, 1) := by decide +kernel
theorem dX6_play_16 : decode cX6_play 16 = .ok (.if_icmp .ge 147, 3) := by decide +kernel
theorem dX6_play_19 : decode cX6_play 19 = .ok (.iload_n 3, 1) := by decide +kernel
theorem dX6_play_20 : decode cX6_play 20 = .ok (.invokestatic 42, 3) := by decide +kernel
theorem dX6_play_23 : decode cX6_play 23 = .ok (.iconst 1, 1) := by decide +kernel
theorem dX6_play_24 : decode cX6_play 24 = .ok (.if_icmp .le 139, 3) := by decide +kernel
theorem dX6_play_27 : decode cX6_play 27 = .ok (.iload_n 1, 1) := by decide +kernel
theorem dX6_play_28 : decode cX6_play 28 = .ok (.bipush 7, 2) := by decide +kernel
theorem dX6_play_30 : decode cX6_play 30 = .ok (.if_icmp .ne 36, 3) := by decide +kernel
theorem dX6_play_33 : decode cX6_play 33 = .ok (.aload_n 0, 1) := by decide +kernel
theorem dX6_play_34 : decode cX6_play 34 = .ok (.getfield 23, 3) := by decide +kernel
theorem dX6_play_37 : decode cX6_play 37 = .ok (.invokestatic 48, 3) := by decide +kernel
theorem dX6_play_40 : decode cX6_play 40 = .ok (.aload_n 2, 1) := by decide +kernel
theorem dX6_play_41 : decode cX6_play 41 = .ok (.iload_n 3, 1) := by decide +kernel
theorem dX6_play_42 : decode cX6_play 42 = .ok (.aload_n 0, 1) := by decide +kernel
theorem dX6_play_43 : decode cX6_play 43 = .ok (.getfield 23, 3) := by decide +kernel
theorem dX6_play_46 : decode cX6_play 46 = .ok (.invokevirtual 52, 3) := by decide +kernel
theorem dX6_play_49 : decode cX6_play 49 = .ok (.aload_n 0, 1) := by decide +kernel
theorem dX6_play_50 : decode cX6_play 50 = .ok (.invokevirtual 56, 3) := by decide +kernel
theorem dX6_play_53 : decode cX6_play 53 = .ok (.istore 5, 2) := by decide +kernel
theorem dX6_play_55 : decode cX6_play 55 = .ok (.iload 5, 2) := by decide +kernel
theorem dX6_play_57 : decode cX6_play 57 = .ok (.iconst (-1), 1) := by decide +kernel
theorem dX6_play_58 : decode cX6_play 58 = .ok (.if_icmp .eq 8, 3) := by decide +kernel
theorem dX6_play_61 : decode cX6_play 61 = .ok (.iconst 1, 1) := by decide +kernel
theorem dX6_play_62 : decode cX6_play 62 = .ok (.iload 5, 2) := by decide +kernel
theorem dX6_play_64 : decode cX6_play 64 = .ok (.ishl, 1) := by decide +kernel
theorem dX6_play_65 : decode cX6_play 65 = .ok (.ireturn, 1) := by decide +kernel
theorem dX6_play_66 : decode cX6_play 66 = .ok (.aload_n 0, 1) := by decide +kernel
theorem dX6_play_67 : decode cX6_play 67 = .ok (.getfield 20, 3) := by decide +kernel
theorem dX6_play_70 : decode cX6_play 70 = .ok (.iload 4, 2) := by decide +kernel
theorem dX6_play_72 : decode cX6_play 72 = .ok (.aaload, 1) := by decide +kernel
theorem dX6_play_73 : decode cX6_play 73 = .ok (.astore 5, 2) := by decide +kernel
theorem dX6_play_75 : decode cX6_play 75 = .ok (.aload 5, 2) := by decide +kernel
theorem dX6_play_77 : decode cX6_play 77 = .ok (.invokestatic 48, 3) := by decide +kernel
theorem dX6_play_80 : decode cX6_play 80 = .ok (.iload_n 1, 1) := by decide +kernel
theorem dX6_play_81 : decode cX6_play 81 = .ok (.bipush 7, 2) := by decide +kernel
theorem dX6_play_83 : decode cX6_play 83 = .ok (.if_icmp .ne 26, 3) := by decide +kernel
theorem dX6_play_86 : decode cX6_play 86 = .ok (.aload_n 2, 1) := by decide +kernel
theorem dX6_play_87 : decode cX6_play 87 = .ok (.iload_n 3, 1) := by decide +kernel
theorem dX6_play_88 : decode cX6_play 88 = .ok (.aload 5, 2) := by decide +kernel
theorem dX6_play_90 : decode cX6_play 90 = .ok (.invokevirtual 60, 3) := by decide +kernel
theorem dX6_play_93 : decode cX6_play 93 = .ok (.aload_n 0, 1) := by decide +kernel
theorem dX6_play_94 : decode cX6_play 94 = .ok (.getfield 9, 3) := by decide +kernel
theorem dX6_play_97 : decode cX6_play 97 = .ok (.iload 4, 2) := by decide +kernel
theorem dX6_play_99 : decode cX6_play 99 = .ok (.aload 5, 2) := by decide +kernel
theorem dX6_play_101 : decode cX6_play 101 = .ok (.iload_n 3, 1) := by decide +kernel
theorem dX6_play_102 : decode cX6_play 102 = .ok (.invokestatic 63, 3) := by decide +kernel
theorem dX6_play_105 : decode cX6_play 105 = .ok (.iastore, 1) := by decide +kernel
theorem dX6_play_106 : decode cX6_play 106 = .ok (.goto 23, 3) := by decide +kernel
theorem dX6_play_109 : decode cX6_play 109 = .ok (.aload_n 2, 1) := by decide +kernel
theorem dX6_play_110 : decode cX6_play 110 = .ok (.iload_n 3, 1) := by decide +kernel
theorem dX6_play_111 : decode cX6_play 111 = .ok (.aload 5, 2) := by decide +kernel
theorem dX6_play_113 : decode cX6_play 113 = .ok (.invokevirtual 52, 3) := by decide +kernel
theorem dX6_play_116 : decode cX6_play 116 = .ok (.aload_n 0, 1) := by decide +kernel
theorem dX6_play_117 : decode cX6_play 117 = .ok (.getfield 9, 3) := by decide +kernel
theorem dX6_play_120 : decode cX6_play 120 = .ok (.iload 4, 2) := by decide +kernel
theorem dX6_play_122 : decode cX6_play 122 = .ok (.aload 5, 2) := by decide +kernel
theorem dX6_play_124 : decode cX6_play 124 = .ok (.iload_n 3, 1) := by decide +kernel
theorem dX6_play_125 : decode cX6_play 125 = .ok (.invokestatic 67, 3) := by decide +kernel
theorem dX6_play_128 : decode cX6_play 128 = .ok (.iastore, 1) := by decide +kernel
theorem dX6_play_129 : decode cX6_play 129 = .ok (.aload_n 0, 1) := by decide +kernel
theorem dX6_play_130 : decode cX6_play 130 = .ok (.getfield 15, 3) := by decide +kernel
theorem dX6_play_133 : decode cX6_play 133 = .ok (.iload 4, 2) := by decide +kernel
theorem dX6_play_135 : decode cX6_play 135 = .ok (.iload_n 3, 1) := by decide +kernel
theorem dX6_play_136 : decode cX6_play 136 = .ok (.iastore, 1) := by decide +kernel
theorem dX6_play_137 : decode cX6_play 137 = .ok (.iload_n 3, 1) := by decide +kernel
theorem dX6_play_138 : decode cX6_play 138 = .ok (.aload_n 0, 1) := by decide +kernel
theorem dX6_play_139 : decode cX6_play 139 = .ok (.getfield 9, 3) := by decide +kernel
theorem dX6_play_142 : decode cX6_play 142 = .ok (.iload 4, 2) := by decide +kernel
theorem dX6_play_144 : decode cX6_play 144 = .ok (.iaload, 1) := by decide +kernel
theorem dX6_play_145 : decode cX6_play 145 = .ok (.invokestatic 70, 3) := by decide +kernel
theorem dX6_play_148 : decode cX6_play 148 = .ok (.istore_n 3, 1) := by decide +kernel
theorem dX6_play_149 : decode cX6_play 149 = .ok (.aload_n 0, 1) := by decide +kernel
theorem dX6_play_150 : decode cX6_play 150 = .ok (.iload 4, 2) := by decide +kernel
theorem dX6_play_152 : decode cX6_play 152 = .ok (.iconst 1, 1) := by decide +kernel
theorem dX6_play_153 : decode cX6_play 153 = .ok (.iadd, 1) := by decide +kernel
theorem dX6_play_154 : decode cX6_play 154 = .ok (.putfield 26, 3) := by decide +kernel
theorem dX6_play_157 : decode cX6_play 157 = .ok (.iinc 4 1, 3) := by decide +kernel
theorem dX6_play_160 : decode cX6_play 160 = .ok (.goto (-147), 3) := by decide +kernel
theorem dX6_play_163 : decode cX6_play 163 = .ok (.iload_n 3, 1) := by decide +kernel
theorem dX6_play_164 : decode cX6_play 164 = .ok (.ireturn, 1) := by decide +kernel
theorem dX6_majority_0 : decode cX6_majority 0 = .ok (.iconst 0, 1) := by decide +kernel
theorem dX6_majority_1 : decode cX6_majority 1 = .ok (.istore_n 1, 1) := by decide +kernel
theorem dX6_majority_2 : decode cX6_majority 2 = .ok (.iconst 0, 1) := by decide +kernel
theorem dX6_majority_3 : decode cX6_majority 3 = .ok (.istore_n 2, 1) := by decide +kernel
theorem dX6_majority_4 : decode cX6_majority 4 = .ok (.iload_n 2, 1) := by decide +kernel
theorem dX6_majority_5 : decode cX6_majority 5 = .ok (.aload_n 0, 1) := by decide +kernel
theorem dX6_majority_6 : decode cX6_majority 6 = .ok (.getfield 23, 3) := by decide +kernel
theorem dX6_majority_9 : decode cX6_majority 9 = .ok (.arraylength, 1) := by decide +kernel
theorem dX6_majority_10 : decode cX6_majority 10 = .ok (.if_icmp .ge 18, 3) := by decide +kernel
theorem dX6_majority_13 : decode cX6_majority 13 = .ok (.iload_n 1, 1) := by decide +kernel
theorem dX6_majority_14 : decode cX6_majority 14 = .ok (.aload_n 0, 1) := by decide +kernel
theorem dX6_majority_15 : decode cX6_majority 15 = .ok (.getfield 23, 3) := by decide +kernel
theorem dX6_majority_18 : decode cX6_majority 18 = .ok (.iload_n 2, 1) := by decide +kernel
theorem dX6_majority_19 : decode cX6_majority 19 = .ok (.iaload, 1) := by decide +kernel
theorem dX6_majority_20 : decode cX6_majority 20 = .ok (.iadd, 1) := by decide +kernel
theorem dX6_majority_21 : decode cX6_majority 21 = .ok (.istore_n 1, 1) := by decide +kernel
theorem dX6_majority_22 : decode cX6_majority 22 = .ok (.iinc 2 1, 3) := by decide +kernel
theorem dX6_majority_25 : decode cX6_majority 25 = .ok (.goto (-21), 3) := by decide +kernel
theorem dX6_majority_28 : decode cX6_majority 28 = .ok (.iconst 0, 1) := by decide +kernel
theorem dX6_majority_29 : decode cX6_majority 29 = .ok (.istore_n 2, 1) := by decide +kernel
theorem dX6_majority_30 : decode cX6_majority 30 = .ok (.iload_n 2, 1) := by decide +kernel
theorem dX6_majority_31 : decode cX6_majority 31 = .ok (.aload_n 0, 1) := by decide +kernel
theorem dX6_majority_32 : decode cX6_majority 32 = .ok (.getfield 23, 3) := by decide +kernel
theorem dX6_majority_35 : decode cX6_majority 35 = .ok (.arraylength, 1) := by decide +kernel
theorem dX6_majority_36 : decode cX6_majority 36 = .ok (.if_icmp .ge 23, 3) := by decide +kernel
theorem dX6_majority_39 : decode cX6_majority 39 = .ok (.iconst 2, 1) := by decide +kernel
theorem dX6_majority_40 : decode cX6_majority 40 = .ok (.aload_n 0, 1) := by decide +kernel
theorem dX6_majority_41 : decode cX6_majority 41 = .ok (.getfield 23, 3) := by decide +kernel
theorem dX6_majority_44 : decode cX6_majority 44 = .ok (.iload_n 2, 1) := by decide +kernel
theorem dX6_majority_45 : decode cX6_majority 45 = .ok (.iaload, 1) := by decide +kernel
theorem dX6_majority_46 : decode cX6_majority 46 = .ok (.imul, 1) := by decide +kernel
theorem dX6_majority_47 : decode cX6_majority 47 = .ok (.iload_n 1, 1) := by decide +kernel
theorem dX6_majority_48 : decode cX6_majority 48 = .ok (.if_icmp .le 5, 3) := by decide +kernel
theorem dX6_majority_51 : decode cX6_majority 51 = .ok (.iload_n 2, 1) := by decide +kernel
theorem dX6_majority_52 : decode cX6_majority 52 = .ok (.ireturn, 1) := by decide +kernel
theorem dX6_majority_53 : decode cX6_majority 53 = .ok (.iinc 2 1, 3) := by decide +kernel
theorem dX6_majority_56 : decode cX6_majority 56 = .ok (.goto (-26), 3) := by decide +kernel
theorem dX6_majority_59 : decode cX6_majority 59 = .ok (.iconst (-1), 1) := by decide +kernel
theorem dX6_majority_60 : decode cX6_majority 60 = .ok (.ireturn, 1) := by decide +kernel
theorem dX6_clear_0 : decode cX6_clear 0 = .ok (.iconst 0, 1) := by decide +kernel
theorem dX6_clear_1 : decode cX6_clear 1 = .ok (.istore_n 1, 1) := by decide +kernel
theorem dX6_clear_2 : decode cX6_clear 2 = .ok (.iload_n 1, 1) := by decide +kernel
theorem dX6_clear_3 : decode cX6_clear 3 = .ok (.aload_n 0, 1) := by decide +kernel
theorem dX6_clear_4 : decode cX6_clear 4 = .ok (.arraylength, 1) := by decide +kernel
theorem dX6_clear_5 : decode cX6_clear 5 = .ok (.if_icmp .ge 13, 3) := by decide +kernel
theorem dX6_clear_8 : decode cX6_clear 8 = .ok (.aload_n 0, 1) := by decide +kernel
theorem dX6_clear_9 : decode cX6_clear 9 = .ok (.iload_n 1, 1) := by decide +kernel
theorem dX6_clear_10 : decode cX6_clear 10 = .ok (.iconst 0, 1) := by decide +kernel
theorem dX6_clear_11 : decode cX6_clear 11 = .ok (.iastore, 1) := by decide +kernel
theorem dX6_clear_12 : decode cX6_clear 12 = .ok (.iinc 1 1, 3) := by decide +kernel
theorem dX6_clear_15 : decode cX6_clear 15 = .ok (.goto (-13), 3) := by decide +kernel
theorem dX6_clear_18 : decode cX6_clear 18 = .ok (.return_, 1) := by decide +kernel
theorem dX6_smallest_0 : decode cX6_smallest 0 = .ok (.iconst (-1), 1) := by decide +kernel
theorem dX6_smallest_1 : decode cX6_smallest 1 = .ok (.istore_n 2, 1) := by decide +kernel
theorem dX6_smallest_2 : decode cX6_smallest 2 = .ok (.iconst 0, 1) := by decide +kernel
theorem dX6_smallest_3 : decode cX6_smallest 3 = .ok (.istore_n 3, 1) := by decide +kernel
theorem dX6_smallest_4 : decode cX6_smallest 4 = .ok (.iconst 0, 1) := by decide +kernel
theorem dX6_smallest_5 : decode cX6_smallest 5 = .ok (.istore 4, 2) := by decide +kernel
theorem dX6_smallest_7 : decode cX6_smallest 7 = .ok (.iload 4, 2) := by decide +kernel
theorem dX6_smallest_9 : decode cX6_smallest 9 = .ok (.aload_n 0, 1) := by decide +kernel
theorem dX6_smallest_10 : decode cX6_smallest 10 = .ok (.arraylength, 1) := by decide +kernel
theorem dX6_smallest_11 : decode cX6_smallest 11 = .ok (.if_icmp .ge 39, 3) := by decide +kernel
theorem dX6_smallest_14 : decode cX6_smallest 14 = .ok (.iload_n 1, 1) := by decide +kernel
theorem dX6_smallest_15 : decode cX6_smallest 15 = .ok (.iload 4, 2) := by decide +kernel
theorem dX6_smallest_17 : decode cX6_smallest 17 = .ok (.invokestatic 30, 3) := by decide +kernel
theorem dX6_smallest_20 : decode cX6_smallest 20 = .ok (.ifCond .eq 24, 3) := by decide +kernel
theorem dX6_smallest_23 : decode cX6_smallest 23 = .ok (.iload_n 2, 1) := by decide +kernel
theorem dX6_smallest_24 : decode cX6_smallest 24 = .ok (.iconst (-1), 1) := by decide +kernel
theorem dX6_smallest_25 : decode cX6_smallest 25 = .ok (.if_icmp .eq 11, 3) := by decide +kernel
theorem dX6_smallest_28 : decode cX6_smallest 28 = .ok (.aload_n 0, 1) := by decide +kernel
theorem dX6_smallest_29 : decode cX6_smallest 29 = .ok (.iload 4, 2) := by decide +kernel
theorem dX6_smallest_31 : decode cX6_smallest 31 = .ok (.iaload, 1) := by decide +kernel
theorem dX6_smallest_32 : decode cX6_smallest 32 = .ok (.iload_n 3, 1) := by decide +kernel
theorem dX6_smallest_33 : decode cX6_smallest 33 = .ok (.if_icmp .gt 11, 3) := by decide +kernel
theorem dX6_smallest_36 : decode cX6_smallest 36 = .ok (.iload 4, 2) := by decide +kernel
theorem dX6_smallest_38 : decode cX6_smallest 38 = .ok (.istore_n 2, 1) := by decide +kernel
theorem dX6_smallest_39 : decode cX6_smallest 39 = .ok (.aload_n 0, 1) := by decide +kernel
theorem dX6_smallest_40 : decode cX6_smallest 40 = .ok (.iload 4, 2) := by decide +kernel
theorem dX6_smallest_42 : decode cX6_smallest 42 = .ok (.iaload, 1) := by decide +kernel
theorem dX6_smallest_43 : decode cX6_smallest 43 = .ok (.istore_n 3, 1) := by decide +kernel
theorem dX6_smallest_44 : decode cX6_smallest 44 = .ok (.iinc 4 1, 3) := by decide +kernel
theorem dX6_smallest_47 : decode cX6_smallest 47 = .ok (.goto (-40), 3) := by decide +kernel
theorem dX6_smallest_50 : decode cX6_smallest 50 = .ok (.iload_n 2, 1) := by decide +kernel
theorem dX6_smallest_51 : decode cX6_smallest 51 = .ok (.ireturn, 1) := by decide +kernel
theorem dX6_greatest_0 : decode cX6_greatest 0 = .ok (.iconst (-1), 1) := by decide +kernel
theorem dX6_greatest_1 : decode cX6_greatest 1 = .ok (.istore_n 2, 1) := by decide +kernel
theorem dX6_greatest_2 : decode cX6_greatest 2 = .ok (.iconst 0, 1) := by decide +kernel
theorem dX6_greatest_3 : decode cX6_greatest 3 = .ok (.istore_n 3, 1) := by decide +kernel
theorem dX6_greatest_4 : decode cX6_greatest 4 = .ok (.iconst 0, 1) := by decide +kernel
theorem dX6_greatest_5 : decode cX6_greatest 5 = .ok (.istore 4, 2) := by decide +kernel
theorem dX6_greatest_7 : decode cX6_greatest 7 = .ok (.iload 4, 2) := by decide +kernel
theorem dX6_greatest_9 : decode cX6_greatest 9 = .ok (.aload_n 0, 1) := by decide +kernel
theorem dX6_greatest_10 : decode cX6_greatest 10 = .ok (.arraylength, 1) := by decide +kernel
theorem dX6_greatest_11 : decode cX6_greatest 11 = .ok (.if_icmp .ge 34, 3) := by decide +kernel
theorem dX6_greatest_14 : decode cX6_greatest 14 = .ok (.iload_n 1, 1) := by decide +kernel
theorem dX6_greatest_15 : decode cX6_greatest 15 = .ok (.iload 4, 2) := by decide +kernel
theorem dX6_greatest_17 : decode cX6_greatest 17 = .ok (.invokestatic 30, 3) := by decide +kernel
theorem dX6_greatest_20 : decode cX6_greatest 20 = .ok (.ifCond .eq 19, 3) := by decide +kernel
theorem dX6_greatest_23 : decode cX6_greatest 23 = .ok (.aload_n 0, 1) := by decide +kernel
theorem dX6_greatest_24 : decode cX6_greatest 24 = .ok (.iload 4, 2) := by decide +kernel
theorem dX6_greatest_26 : decode cX6_greatest 26 = .ok (.iaload, 1) := by decide +kernel
theorem dX6_greatest_27 : decode cX6_greatest 27 = .ok (.iload_n 3, 1) := by decide +kernel
theorem dX6_greatest_28 : decode cX6_greatest 28 = .ok (.if_icmp .lt 11, 3) := by decide +kernel
theorem dX6_greatest_31 : decode cX6_greatest 31 = .ok (.iload 4, 2) := by decide +kernel
theorem dX6_greatest_33 : decode cX6_greatest 33 = .ok (.istore_n 2, 1) := by decide +kernel
theorem dX6_greatest_34 : decode cX6_greatest 34 = .ok (.aload_n 0, 1) := by decide +kernel
theorem dX6_greatest_35 : decode cX6_greatest 35 = .ok (.iload 4, 2) := by decide +kernel
theorem dX6_greatest_37 : decode cX6_greatest 37 = .ok (.iaload, 1) := by decide +kernel
theorem dX6_greatest_38 : decode cX6_greatest 38 = .ok (.istore_n 3, 1) := by decide +kernel
theorem dX6_greatest_39 : decode cX6_greatest 39 = .ok (.iinc 4 1, 3) := by decide +kernel
theorem dX6_greatest_42 : decode cX6_greatest 42 = .ok (.goto (-35), 3) := by decide +kernel
theorem dX6_greatest_45 : decode cX6_greatest 45 = .ok (.iload_n 2, 1) := by decide +kernel
theorem dX6_greatest_46 : decode cX6_greatest 46 = .ok (.ireturn, 1) := by decide +kernel
theorem dX7_init_0 : decode cX7_init 0 = .ok (.aload_n 0, 1) := by decide +kernel
theorem dX7_init_1 : decode cX7_init 1 = .ok (.invokespecial 3, 3) := by decide +kernel
theorem dX7_init_4 : decode cX7_init 4 = .ok (.aload_n 0, 1) := by decide +kernel
theorem dX7_init_5 : decode cX7_init 5 = .ok (.new 9, 3) := by decide +kernel
theorem dX7_init_8 : decode cX7_init 8 = .ok (.dup, 1) := by decide +kernel
theorem dX7_init_9 : decode cX7_init 9 = .ok (.invokespecial 11, 3) := by decide +kernel
theorem dX7_init_12 : decode cX7_init 12 = .ok (.putfield 12, 3) := by decide +kernel
theorem dX7_init_15 : decode cX7_init 15 = .ok (.aload_n 0, 1) := by decide +kernel
theorem dX7_init_16 : decode cX7_init 16 = .ok (.new 18, 3) := by decide +kernel
theorem dX7_init_19 : decode cX7_init 19 = .ok (.dup, 1) := by decide +kernel
theorem dX7_init_20 : decode cX7_init 20 = .ok (.invokespecial 20, 3) := by decide +kernel
theorem dX7_init_23 : decode cX7_init 23 = .ok (.putfield 21, 3) := by decide +kernel
theorem dX7_init_26 : decode cX7_init 26 = .ok (.aload_n 0, 1) := by decide +kernel
theorem dX7_init_27 : decode cX7_init 27 = .ok (.new 25, 3) := by decide +kernel
theorem dX7_init_30 : decode cX7_init 30 = .ok (.dup, 1) := by decide +kernel
theorem dX7_init_31 : decode cX7_init 31 = .ok (.invokespecial 27, 3) := by decide +kernel
theorem dX7_init_34 : decode cX7_init 34 = .ok (.putfield 28, 3) := by decide +kernel
theorem dX7_init_37 : decode cX7_init 37 = .ok (.aload_n 0, 1) := by decide +kernel
theorem dX7_init_38 : decode cX7_init 38 = .ok (.new 32, 3) := by decide +kernel
theorem dX7_init_41 : decode cX7_init 41 = .ok (.dup, 1) := by decide +kernel
theorem dX7_init_42 : decode cX7_init 42 = .ok (.invokespecial 34, 3) := by decide +kernel
theorem dX7_init_45 : decode cX7_init 45 = .ok (.putfield 35, 3) := by decide +kernel
theorem dX7_init_48 : decode cX7_init 48 = .ok (.return_, 1) := by decide +kernel
theorem dX7_winnerBy_0 : decode cX7_winnerBy 0 = .ok (.aload_n 0, 1) := by decide +kernel
theorem dX7_winnerBy_1 : decode cX7_winnerBy 1 = .ok (.iload_n 1, 1) := by decide +kernel
theorem dX7_winnerBy_2 : decode cX7_winnerBy 2 = .ok (.aload_n 2, 1) := by decide +kernel
theorem dX7_winnerBy_3 : decode cX7_winnerBy 3 = .ok (.invokevirtual 39, 3) := by decide +kernel
theorem dX7_winnerBy_6 : decode cX7_winnerBy 6 = .ok (.invokestatic 43, 3) := by decide +kernel
theorem dX7_winnerBy_9 : decode cX7_winnerBy 9 = .ok (.istore_n 3, 1) := by decide +kernel
theorem dX7_winnerBy_10 : decode cX7_winnerBy 10 = .ok (.iload_n 3, 1) := by decide +kernel
theorem dX7_winnerBy_11 : decode cX7_winnerBy 11 = .ok (.iconst (-1), 1) := by decide +kernel
theorem dX7_winnerBy_12 : decode cX7_winnerBy 12 = .ok (.if_icmp .ne 8, 3) := by decide +kernel
theorem dX7_winnerBy_15 : decode cX7_winnerBy 15 = .ok (.ldc 49, 2) := by decide +kernel
theorem dX7_winnerBy_17 : decode cX7_winnerBy 17 = .ok (.goto 4, 3) := by decide +kernel
theorem dX7_winnerBy_20 : decode cX7_winnerBy 20 = .ok (.iload_n 3, 1) := by decide +kernel
theorem dX7_winnerBy_21 : decode cX7_winnerBy 21 = .ok (.ireturn, 1) := by decide +kernel
theorem dX7_winnersBy_0 : decode cX7_winnersBy 0 = .ok (.iload_n 1, 1) := by decide +kernel
theorem dX7_winnersBy_1 : decode cX7_winnersBy 1 = .ok (.tableswitch 187 3 11 #[51, 72, 89, 106, 106, 187, 116, 157, 166], 51) := by decide +kernel
theorem dX7_winnersBy_52 : decode cX7_winnersBy 52 = .ok (.aload_n 0, 1) := by decide +kernel
theorem dX7_winnersBy_53 : decode cX7_winnersBy 53 = .ok (.getfield 12, 3) := by decide +kernel
theorem dX7_winnersBy_56 : decode cX7_winnersBy 56 = .ok (.iload_n 1, 1) := by decide +kernel
theorem dX7_winnersBy_57 : decode cX7_winnersBy 57 = .ok (.aload_n 2, 1) := by decide +kernel
theorem dX7_winnersBy_58 : decode cX7_winnersBy 58 = .ok (.invokevirtual 50, 3) := by decide +kernel
theorem dX7_winnersBy_61 : decode cX7_winnersBy 61 = .ok (.aload_n 0, 1) := by decide +kernel
theorem dX7_winnersBy_62 : decode cX7_winnersBy 62 = .ok (.getfield 12, 3) := by decide +kernel
theorem dX7_winnersBy_65 : decode cX7_winnersBy 65 = .ok (.aload_n 2, 1) := by decide +kernel
theorem dX7_winnersBy_66 : decode cX7_winnersBy 66 = .ok (.getfield 54, 3) := by decide +kernel
theorem dX7_winnersBy_69 : decode cX7_winnersBy 69 = .ok (.invokevirtual 60, 3) := by decide +kernel
theorem dX7_winnersBy_72 : decode cX7_winnersBy 72 = .ok (.ireturn, 1) := by decide +kernel
theorem dX7_winnersBy_73 : decode cX7_winnersBy 73 = .ok (.aload_n 0, 1) := by decide +kernel
theorem dX7_winnersBy_74 : decode cX7_winnersBy 74 = .ok (.getfield 28, 3) := by decide +kernel
theorem dX7_winnersBy_77 : decode cX7_winnersBy 77 = .ok (.aload_n 2, 1) := by decide +kernel
theorem dX7_winnersBy_78 : decode cX7_winnersBy 78 = .ok (.invokevirtual 63, 3) := by decide +kernel
theorem dX7_winnersBy_81 : decode cX7_winnersBy 81 = .ok (.aload_n 0, 1) := by decide +kernel
theorem dX7_winnersBy_82 : decode cX7_winnersBy 82 = .ok (.getfield 28, 3) := by decide +kernel
theorem dX7_winnersBy_85 : decode cX7_winnersBy 85 = .ok (.aload_n 2, 1) := by decide +kernel
theorem dX7_winnersBy_86 : decode cX7_winnersBy 86 = .ok (.invokevirtual 67, 3) := by decide +kernel
theorem dX7_winnersBy_89 : decode cX7_winnersBy 89 = .ok (.ireturn, 1) := by decide +kernel
theorem dX7_winnersBy_90 : decode cX7_winnersBy 90 = .ok (.aload_n 0, 1) := by decide +kernel
theorem dX7_winnersBy_91 : decode cX7_winnersBy 91 = .ok (.getfield 28, 3) := by decide +kernel
theorem dX7_winnersBy_94 : decode cX7_winnersBy 94 = .ok (.aload_n 2, 1) := by decide +kernel
theorem dX7_winnersBy_95 : decode cX7_winnersBy 95 = .ok (.invokevirtual 71, 3) := by decide +kernel
theorem dX7_winnersBy_98 : decode cX7_winnersBy 98 = .ok (.aload_n 0, 1) := by decide +kernel
theorem dX7_winnersBy_99 : decode cX7_winnersBy 99 = .ok (.getfield 28, 3) := by decide +kernel
theorem dX7_winnersBy_102 : decode cX7_winnersBy 102 = .ok (.aload_n 2, 1) := by decide +kernel
theorem dX7_winnersBy_103 : decode cX7_winnersBy 103 = .ok (.invokevirtual 74, 3) := by decide +kernel
theorem dX7_winnersBy_106 : decode cX7_winnersBy 106 = .ok (.ireturn, 1) := by decide +kernel
theorem dX7_winnersBy_107 : decode cX7_winnersBy 107 = .ok (.aload_n 0, 1) := by decide +kernel
theorem dX7_winnersBy_108 : decode cX7_winnersBy 108 = .ok (.getfield 21, 3) := by decide +kernel
theorem dX7_winnersBy_111 : decode cX7_winnersBy 111 = .ok (.iload_n 1, 1) := by decide +kernel
theorem dX7_winnersBy_112 : decode cX7_winnersBy 112 = .ok (.aload_n 2, 1) := by decide +kernel
theorem dX7_winnersBy_113 : decode cX7_winnersBy 113 = .ok (.invokevirtual 77, 3) := by decide +kernel
theorem dX7_winnersBy_116 : decode cX7_winnersBy 116 = .ok (.ireturn, 1) := by decide +kernel
theorem dX7_winnersBy_117 : decode cX7_winnersBy 117 = .ok (.aload_n 0, 1) := by decide +kernel
theorem dX7_winnersBy_118 : decode cX7_winnersBy 118 = .ok (.getfield 28, 3) := by decide +kernel
theorem dX7_winnersBy_121 : decode cX7_winnersBy 121 = .ok (.aload_n 2, 1) := by decide +kernel
theorem dX7_winnersBy_122 : decode cX7_winnersBy 122 = .ok (.invokevirtual 80, 3) := by decide +kernel
theorem dX7_winnersBy_125 : decode cX7_winnersBy 125 = .ok (.istore_n 3, 1) := by decide +kernel
theorem dX7_winnersBy_126 : decode cX7_winnersBy 126 = .ok (.aload_n 0, 1) := by decide +kernel
theorem dX7_winnersBy_127 : decode cX7_winnersBy 127 = .ok (.getfield 12, 3) := by decide +kernel
theorem dX7_winnersBy_130 : decode cX7_winnersBy 130 = .ok (.iconst 1, 1) := by decide +kernel
theorem dX7_winnersBy_131 : decode cX7_winnersBy 131 = .ok (.aload_n 2, 1) := by decide +kernel
theorem dX7_winnersBy_132 : decode cX7_winnersBy 132 = .ok (.invokevirtual 50, 3) := by decide +kernel
theorem dX7_winnersBy_135 : decode cX7_winnersBy 135 = .ok (.iload_n 3, 1) := by decide +kernel
theorem dX7_winnersBy_136 : decode cX7_winnersBy 136 = .ok (.iconst (-1), 1) := by decide +kernel
theorem dX7_winnersBy_137 : decode cX7_winnersBy 137 = .ok (.if_icmp .ne 17, 3) := by decide +kernel
theorem dX7_winnersBy_140 : decode cX7_winnersBy 140 = .ok (.aload_n 0, 1) := by decide +kernel
theorem dX7_winnersBy_141 : decode cX7_winnersBy 141 = .ok (.getfield 12, 3) := by decide +kernel
theorem dX7_winnersBy_144 : decode cX7_winnersBy 144 = .ok (.aload_n 2, 1) := by decide +kernel
theorem dX7_winnersBy_145 : decode cX7_winnersBy 145 = .ok (.getfield 54, 3) := by decide +kernel
theorem dX7_winnersBy_148 : decode cX7_winnersBy 148 = .ok (.invokevirtual 83, 3) := by decide +kernel
theorem dX7_winnersBy_151 : decode cX7_winnersBy 151 = .ok (.goto 6, 3) := by decide +kernel
theorem dX7_winnersBy_154 : decode cX7_winnersBy 154 = .ok (.iconst 1, 1) := by decide +kernel
theorem dX7_winnersBy_155 : decode cX7_winnersBy 155 = .ok (.iload_n 3, 1) := by decide +kernel
theorem dX7_winnersBy_156 : decode cX7_winnersBy 156 = .ok (.ishl, 1) := by decide +kernel
theorem dX7_winnersBy_157 : decode cX7_winnersBy 157 = .ok (.ireturn, 1) := by decide +kernel
theorem dX7_winnersBy_158 : decode cX7_winnersBy 158 = .ok (.aload_n 0, 1) := by decide +kernel
theorem dX7_winnersBy_159 : decode cX7_winnersBy 159 = .ok (.getfield 12, 3) := by decide +kernel
theorem dX7_winnersBy_162 : decode cX7_winnersBy 162 = .ok (.aload_n 2, 1) := by decide +kernel
theorem dX7_winnersBy_163 : decode cX7_winnersBy 163 = .ok (.invokevirtual 86, 3) := by decide +kernel
theorem dX7_winnersBy_166 : decode cX7_winnersBy 166 = .ok (.ireturn, 1) := by decide +kernel
theorem dX7_winnersBy_167 : decode cX7_winnersBy 167 = .ok (.aload_n 0, 1) := by decide +kernel
theorem dX7_winnersBy_168 : decode cX7_winnersBy 168 = .ok (.getfield 35, 3) := by decide +kernel
theorem dX7_winnersBy_171 : decode cX7_winnersBy 171 = .ok (.aload_n 2, 1) := by decide +kernel
theorem dX7_winnersBy_172 : decode cX7_winnersBy 172 = .ok (.invokevirtual 89, 3) := by decide +kernel
theorem dX7_winnersBy_175 : decode cX7_winnersBy 175 = .ok (.aload_n 0, 1) := by decide +kernel
theorem dX7_winnersBy_176 : decode cX7_winnersBy 176 = .ok (.getfield 35, 3) := by decide +kernel
theorem dX7_winnersBy_179 : decode cX7_winnersBy 179 = .ok (.aload_n 2, 1) := by decide +kernel
theorem dX7_winnersBy_180 : decode cX7_winnersBy 180 = .ok (.aload_n 2, 1) := by decide +kernel
theorem dX7_winnersBy_181 : decode cX7_winnersBy 181 = .ok (.getfield 54, 3) := by decide +kernel
theorem dX7_winnersBy_184 : decode cX7_winnersBy 184 = .ok (.invokevirtual 92, 3) := by decide +kernel
theorem dX7_winnersBy_187 : decode cX7_winnersBy 187 = .ok (.ireturn, 1) := by decide +kernel
theorem dX7_winnersBy_188 : decode cX7_winnersBy 188 = .ok (.aload_n 0, 1) := by decide +kernel
theorem dX7_winnersBy_189 : decode cX7_winnersBy 189 = .ok (.getfield 12, 3) := by decide +kernel
theorem dX7_winnersBy_192 : decode cX7_winnersBy 192 = .ok (.iload_n 1, 1) := by decide +kernel
theorem dX7_winnersBy_193 : decode cX7_winnersBy 193 = .ok (.aload_n 2, 1) := by decide +kernel
theorem dX7_winnersBy_194 : decode cX7_winnersBy 194 = .ok (.invokevirtual 50, 3) := by decide +kernel
theorem dX7_winnersBy_197 : decode cX7_winnersBy 197 = .ok (.aload_n 0, 1) := by decide +kernel
theorem dX7_winnersBy_198 : decode cX7_winnersBy 198 = .ok (.getfield 12, 3) := by decide +kernel
theorem dX7_winnersBy_201 : decode cX7_winnersBy 201 = .ok (.aload_n 2, 1) := by decide +kernel
theorem dX7_winnersBy_202 : decode cX7_winnersBy 202 = .ok (.getfield 54, 3) := by decide +kernel
theorem dX7_winnersBy_205 : decode cX7_winnersBy 205 = .ok (.invokevirtual 83, 3) := by decide +kernel
theorem dX7_winnersBy_208 : decode cX7_winnersBy 208 = .ok (.ireturn, 1) := by decide +kernel
theorem dX8_init_0 : decode cX8_init 0 = .ok (.aload_n 0, 1) := by decide +kernel
theorem dX8_init_1 : decode cX8_init 1 = .ok (.invokespecial 3, 3) := by decide +kernel
theorem dX8_init_4 : decode cX8_init 4 = .ok (.aload_n 0, 1) := by decide +kernel
theorem dX8_init_5 : decode cX8_init 5 = .ok (.bipush 31, 2) := by decide +kernel
theorem dX8_init_7 : decode cX8_init 7 = .ok (.putfield 9, 3) := by decide +kernel
theorem dX8_init_10 : decode cX8_init 10 = .ok (.aload_n 0, 1) := by decide +kernel
theorem dX8_init_11 : decode cX8_init 11 = .ok (.bipush 20, 2) := by decide +kernel
theorem dX8_init_13 : decode cX8_init 13 = .ok (.newarray .int, 2) := by decide +kernel
theorem dX8_init_15 : decode cX8_init 15 = .ok (.putfield 15, 3) := by decide +kernel
theorem dX8_init_18 : decode cX8_init 18 = .ok (.aload_n 0, 1) := by decide +kernel
theorem dX8_init_19 : decode cX8_init 19 = .ok (.bipush 20, 2) := by decide +kernel
theorem dX8_init_21 : decode cX8_init 21 = .ok (.newarray .int, 2) := by decide +kernel
theorem dX8_init_23 : decode cX8_init 23 = .ok (.putfield 19, 3) := by decide +kernel
theorem dX8_init_26 : decode cX8_init 26 = .ok (.return_, 1) := by decide +kernel
theorem dX8_holds_0 : decode cX8_holds 0 = .ok (.iload_n 1, 1) := by decide +kernel
theorem dX8_holds_1 : decode cX8_holds 1 = .ok (.ifCond .lt 15, 3) := by decide +kernel
theorem dX8_holds_4 : decode cX8_holds 4 = .ok (.iload_n 1, 1) := by decide +kernel
theorem dX8_holds_5 : decode cX8_holds 5 = .ok (.aload_n 0, 1) := by decide +kernel
theorem dX8_holds_6 : decode cX8_holds 6 = .ok (.getfield 22, 3) := by decide +kernel
theorem dX8_holds_9 : decode cX8_holds 9 = .ok (.if_icmp .ge 7, 3) := by decide +kernel
theorem dX8_holds_12 : decode cX8_holds 12 = .ok (.iconst 1, 1) := by decide +kernel
theorem dX8_holds_13 : decode cX8_holds 13 = .ok (.goto 4, 3) := by decide +kernel
theorem dX8_holds_16 : decode cX8_holds 16 = .ok (.iconst 0, 1) := by decide +kernel
theorem dX8_holds_17 : decode cX8_holds 17 = .ok (.ireturn, 1) := by decide +kernel
theorem dX8_room_0 : decode cX8_room 0 = .ok (.bipush 20, 2) := by decide +kernel
theorem dX8_room_2 : decode cX8_room 2 = .ok (.aload_n 0, 1) := by decide +kernel
theorem dX8_room_3 : decode cX8_room 3 = .ok (.getfield 22, 3) := by decide +kernel
theorem dX8_room_6 : decode cX8_room 6 = .ok (.isub, 1) := by decide +kernel
theorem dX8_room_7 : decode cX8_room 7 = .ok (.ireturn, 1) := by decide +kernel
theorem dX8_votersOf_0 : decode cX8_votersOf 0 = .ok (.iload_n 1, 1) := by decide +kernel
theorem dX8_votersOf_1 : decode cX8_votersOf 1 = .ok (.ifCond .lt 21, 3) := by decide +kernel
theorem dX8_votersOf_4 : decode cX8_votersOf 4 = .ok (.iload_n 1, 1) := by decide +kernel
theorem dX8_votersOf_5 : decode cX8_votersOf 5 = .ok (.aload_n 0, 1) := by decide +kernel
theorem dX8_votersOf_6 : decode cX8_votersOf 6 = .ok (.getfield 15, 3) := by decide +kernel
theorem dX8_votersOf_9 : decode cX8_votersOf 9 = .ok (.arraylength, 1) := by decide +kernel
theorem dX8_votersOf_10 : decode cX8_votersOf 10 = .ok (.if_icmp .ge 12, 3) := by decide +kernel
theorem dX8_votersOf_13 : decode cX8_votersOf 13 = .ok (.aload_n 0, 1) := by decide +kernel
theorem dX8_votersOf_14 : decode cX8_votersOf 14 = .ok (.getfield 15, 3) := by decide +kernel
theorem dX8_votersOf_17 : decode cX8_votersOf 17 = .ok (.iload_n 1, 1) := by decide +kernel
theorem dX8_votersOf_18 : decode cX8_votersOf 18 = .ok (.iaload, 1) := by decide +kernel
theorem dX8_votersOf_19 : decode cX8_votersOf 19 = .ok (.goto 4, 3) := by decide +kernel
theorem dX8_votersOf_22 : decode cX8_votersOf 22 = .ok (.iconst 0, 1) := by decide +kernel
theorem dX8_votersOf_23 : decode cX8_votersOf 23 = .ok (.ireturn, 1) := by decide +kernel
theorem dX8_ballotOf_0 : decode cX8_ballotOf 0 = .ok (.iload_n 1, 1) := by decide +kernel
theorem dX8_ballotOf_1 : decode cX8_ballotOf 1 = .ok (.ifCond .lt 21, 3) := by decide +kernel
theorem dX8_ballotOf_4 : decode cX8_ballotOf 4 = .ok (.iload_n 1, 1) := by decide +kernel
theorem dX8_ballotOf_5 : decode cX8_ballotOf 5 = .ok (.aload_n 0, 1) := by decide +kernel
theorem dX8_ballotOf_6 : decode cX8_ballotOf 6 = .ok (.getfield 19, 3) := by decide +kernel
theorem dX8_ballotOf_9 : decode cX8_ballotOf 9 = .ok (.arraylength, 1) := by decide +kernel
theorem dX8_ballotOf_10 : decode cX8_ballotOf 10 = .ok (.if_icmp .ge 12, 3) := by decide +kernel
theorem dX8_ballotOf_13 : decode cX8_ballotOf 13 = .ok (.aload_n 0, 1) := by decide +kernel
theorem dX8_ballotOf_14 : decode cX8_ballotOf 14 = .ok (.getfield 19, 3) := by decide +kernel
theorem dX8_ballotOf_17 : decode cX8_ballotOf 17 = .ok (.iload_n 1, 1) := by decide +kernel
theorem dX8_ballotOf_18 : decode cX8_ballotOf 18 = .ok (.iaload, 1) := by decide +kernel
theorem dX8_ballotOf_19 : decode cX8_ballotOf 19 = .ok (.goto 4, 3) := by decide +kernel
theorem dX8_ballotOf_22 : decode cX8_ballotOf 22 = .ok (.iconst 0, 1) := by decide +kernel
theorem dX8_ballotOf_23 : decode cX8_ballotOf 23 = .ok (.ireturn, 1) := by decide +kernel
theorem dX8_write_0 : decode cX8_write 0 = .ok (.iload_n 1, 1) := by decide +kernel
theorem dX8_write_1 : decode cX8_write 1 = .ok (.ifCond .lt 23, 3) := by decide +kernel
theorem dX8_write_4 : decode cX8_write 4 = .ok (.iload_n 1, 1) := by decide +kernel
theorem dX8_write_5 : decode cX8_write 5 = .ok (.bipush 20, 2) := by decide +kernel
theorem dX8_write_7 : decode cX8_write 7 = .ok (.if_icmp .ge 17, 3) := by decide +kernel
theorem dX8_write_10 : decode cX8_write 10 = .ok (.aload_n 0, 1) := by decide +kernel
theorem dX8_write_11 : decode cX8_write 11 = .ok (.getfield 15, 3) := by decide +kernel
theorem dX8_write_14 : decode cX8_write 14 = .ok (.iload_n 1, 1) := by decide +kernel
theorem dX8_write_15 : decode cX8_write 15 = .ok (.iload_n 2, 1) := by decide +kernel
theorem dX8_write_16 : decode cX8_write 16 = .ok (.iastore, 1) := by decide +kernel
theorem dX8_write_17 : decode cX8_write 17 = .ok (.aload_n 0, 1) := by decide +kernel
theorem dX8_write_18 : decode cX8_write 18 = .ok (.getfield 19, 3) := by decide +kernel
theorem dX8_write_21 : decode cX8_write 21 = .ok (.iload_n 1, 1) := by decide +kernel
theorem dX8_write_22 : decode cX8_write 22 = .ok (.iload_n 3, 1) := by decide +kernel
theorem dX8_write_23 : decode cX8_write 23 = .ok (.iastore, 1) := by decide +kernel
theorem dX8_write_24 : decode cX8_write 24 = .ok (.return_, 1) := by decide +kernel
theorem dX8_append_0 : decode cX8_append 0 = .ok (.aload_n 0, 1) := by decide +kernel
theorem dX8_append_1 : decode cX8_append 1 = .ok (.invokevirtual 27, 3) := by decide +kernel
theorem dX8_append_4 : decode cX8_append 4 = .ok (.ifCond .le 23, 3) := by decide +kernel
theorem dX8_append_7 : decode cX8_append 7 = .ok (.aload_n 0, 1) := by decide +kernel
theorem dX8_append_8 : decode cX8_append 8 = .ok (.aload_n 0, 1) := by decide +kernel
theorem dX8_append_9 : decode cX8_append 9 = .ok (.getfield 22, 3) := by decide +kernel
theorem dX8_append_12 : decode cX8_append 12 = .ok (.iload_n 1, 1) := by decide +kernel
theorem dX8_append_13 : decode cX8_append 13 = .ok (.iload_n 2, 1) := by decide +kernel
theorem dX8_append_14 : decode cX8_append 14 = .ok (.invokevirtual 31, 3) := by decide +kernel
theorem dX8_append_17 : decode cX8_append 17 = .ok (.aload_n 0, 1) := by decide +kernel
theorem dX8_append_18 : decode cX8_append 18 = .ok (.dup, 1) := by decide +kernel
theorem dX8_append_19 : decode cX8_append 19 = .ok (.getfield 22, 3) := by decide +kernel
theorem dX8_append_22 : decode cX8_append 22 = .ok (.iconst 1, 1) := by decide +kernel
theorem dX8_append_23 : decode cX8_append 23 = .ok (.iadd, 1) := by decide +kernel
theorem dX8_append_24 : decode cX8_append 24 = .ok (.putfield 22, 3) := by decide +kernel
theorem dX8_append_27 : decode cX8_append 27 = .ok (.return_, 1) := by decide +kernel
theorem dX8_drop_0 : decode cX8_drop 0 = .ok (.iload_n 1, 1) := by decide +kernel
theorem dX8_drop_1 : decode cX8_drop 1 = .ok (.iconst 1, 1) := by decide +kernel
theorem dX8_drop_2 : decode cX8_drop 2 = .ok (.iadd, 1) := by decide +kernel
theorem dX8_drop_3 : decode cX8_drop 3 = .ok (.istore_n 2, 1) := by decide +kernel
theorem dX8_drop_4 : decode cX8_drop 4 = .ok (.iload_n 2, 1) := by decide +kernel
theorem dX8_drop_5 : decode cX8_drop 5 = .ok (.aload_n 0, 1) := by decide +kernel
theorem dX8_drop_6 : decode cX8_drop 6 = .ok (.getfield 22, 3) := by decide +kernel
theorem dX8_drop_9 : decode cX8_drop 9 = .ok (.if_icmp .ge 26, 3) := by decide +kernel
theorem dX8_drop_12 : decode cX8_drop 12 = .ok (.aload_n 0, 1) := by decide +kernel
theorem dX8_drop_13 : decode cX8_drop 13 = .ok (.iload_n 2, 1) := by decide +kernel
theorem dX8_drop_14 : decode cX8_drop 14 = .ok (.iconst 1, 1) := by decide +kernel
theorem dX8_drop_15 : decode cX8_drop 15 = .ok (.isub, 1) := by decide +kernel
theorem dX8_drop_16 : decode cX8_drop 16 = .ok (.aload_n 0, 1) := by decide +kernel
theorem dX8_drop_17 : decode cX8_drop 17 = .ok (.iload_n 2, 1) := by decide +kernel
theorem dX8_drop_18 : decode cX8_drop 18 = .ok (.invokevirtual 35, 3) := by decide +kernel
theorem dX8_drop_21 : decode cX8_drop 21 = .ok (.aload_n 0, 1) := by decide +kernel
theorem dX8_drop_22 : decode cX8_drop 22 = .ok (.iload_n 2, 1) := by decide +kernel
theorem dX8_drop_23 : decode cX8_drop 23 = .ok (.invokevirtual 39, 3) := by decide +kernel
theorem dX8_drop_26 : decode cX8_drop 26 = .ok (.invokevirtual 31, 3) := by decide +kernel
theorem dX8_drop_29 : decode cX8_drop 29 = .ok (.iinc 2 1, 3) := by decide +kernel
theorem dX8_drop_32 : decode cX8_drop 32 = .ok (.goto (-28), 3) := by decide +kernel
theorem dX8_drop_35 : decode cX8_drop 35 = .ok (.aload_n 0, 1) := by decide +kernel
theorem dX8_drop_36 : decode cX8_drop 36 = .ok (.dup, 1) := by decide +kernel
theorem dX8_drop_37 : decode cX8_drop 37 = .ok (.getfield 22, 3) := by decide +kernel
theorem dX8_drop_40 : decode cX8_drop 40 = .ok (.iconst 1, 1) := by decide +kernel
theorem dX8_drop_41 : decode cX8_drop 41 = .ok (.isub, 1) := by decide +kernel
theorem dX8_drop_42 : decode cX8_drop 42 = .ok (.putfield 22, 3) := by decide +kernel
theorem dX8_drop_45 : decode cX8_drop 45 = .ok (.return_, 1) := by decide +kernel
theorem dX8_total_0 : decode cX8_total 0 = .ok (.iconst 0, 1) := by decide +kernel
theorem dX8_total_1 : decode cX8_total 1 = .ok (.istore_n 1, 1) := by decide +kernel
theorem dX8_total_2 : decode cX8_total 2 = .ok (.iconst 0, 1) := by decide +kernel
theorem dX8_total_3 : decode cX8_total 3 = .ok (.istore_n 2, 1) := by decide +kernel
theorem dX8_total_4 : decode cX8_total 4 = .ok (.iload_n 2, 1) := by decide +kernel
theorem dX8_total_5 : decode cX8_total 5 = .ok (.aload_n 0, 1) := by decide +kernel
theorem dX8_total_6 : decode cX8_total 6 = .ok (.getfield 22, 3) := by decide +kernel
theorem dX8_total_9 : decode cX8_total 9 = .ok (.if_icmp .ge 17, 3) := by decide +kernel
theorem dX8_total_12 : decode cX8_total 12 = .ok (.iload_n 1, 1) := by decide +kernel
theorem dX8_total_13 : decode cX8_total 13 = .ok (.aload_n 0, 1) := by decide +kernel
theorem dX8_total_14 : decode cX8_total 14 = .ok (.iload_n 2, 1) := by decide +kernel
theorem dX8_total_15 : decode cX8_total 15 = .ok (.invokevirtual 35, 3) := by decide +kernel
theorem dX8_total_18 : decode cX8_total 18 = .ok (.iadd, 1) := by decide +kernel
theorem dX8_total_19 : decode cX8_total 19 = .ok (.istore_n 1, 1) := by decide +kernel
theorem dX8_total_20 : decode cX8_total 20 = .ok (.iinc 2 1, 3) := by decide +kernel
theorem dX8_total_23 : decode cX8_total 23 = .ok (.goto (-19), 3) := by decide +kernel
theorem dX8_total_26 : decode cX8_total 26 = .ok (.iload_n 1, 1) := by decide +kernel
theorem dX8_total_27 : decode cX8_total 27 = .ok (.ireturn, 1) := by decide +kernel
theorem dX8_groupOf_0 : decode cX8_groupOf 0 = .ok (.iconst 0, 1) := by decide +kernel
theorem dX8_groupOf_1 : decode cX8_groupOf 1 = .ok (.istore_n 2, 1) := by decide +kernel
theorem dX8_groupOf_2 : decode cX8_groupOf 2 = .ok (.iconst 0, 1) := by decide +kernel
theorem dX8_groupOf_3 : decode cX8_groupOf 3 = .ok (.istore_n 3, 1) := by decide +kernel
theorem dX8_groupOf_4 : decode cX8_groupOf 4 = .ok (.iload_n 3, 1) := by decide +kernel
theorem dX8_groupOf_5 : decode cX8_groupOf 5 = .ok (.aload_n 0, 1) := by decide +kernel
theorem dX8_groupOf_6 : decode cX8_groupOf 6 = .ok (.getfield 22, 3) := by decide +kernel
theorem dX8_groupOf_9 : decode cX8_groupOf 9 = .ok (.if_icmp .ge 24, 3) := by decide +kernel
theorem dX8_groupOf_12 : decode cX8_groupOf 12 = .ok (.iload_n 2, 1) := by decide +kernel
theorem dX8_groupOf_13 : decode cX8_groupOf 13 = .ok (.aload_n 0, 1) := by decide +kernel
theorem dX8_groupOf_14 : decode cX8_groupOf 14 = .ok (.iload_n 3, 1) := by decide +kernel
theorem dX8_groupOf_15 : decode cX8_groupOf 15 = .ok (.invokevirtual 35, 3) := by decide +kernel
theorem dX8_groupOf_18 : decode cX8_groupOf 18 = .ok (.iadd, 1) := by decide +kernel
theorem dX8_groupOf_19 : decode cX8_groupOf 19 = .ok (.istore_n 2, 1) := by decide +kernel
theorem dX8_groupOf_20 : decode cX8_groupOf 20 = .ok (.iload_n 1, 1) := by decide +kernel
theorem dX8_groupOf_21 : decode cX8_groupOf 21 = .ok (.iload_n 2, 1) := by decide +kernel
theorem dX8_groupOf_22 : decode cX8_groupOf 22 = .ok (.if_icmp .ge 5, 3) := by decide +kernel
theorem dX8_groupOf_25 : decode cX8_groupOf 25 = .ok (.iload_n 3, 1) := by decide +kernel
theorem dX8_groupOf_26 : decode cX8_groupOf 26 = .ok (.ireturn, 1) := by decide +kernel
theorem dX8_groupOf_27 : decode cX8_groupOf 27 = .ok (.iinc 3 1, 3) := by decide +kernel
theorem dX8_groupOf_30 : decode cX8_groupOf 30 = .ok (.goto (-26), 3) := by decide +kernel
theorem dX8_groupOf_33 : decode cX8_groupOf 33 = .ok (.aload_n 0, 1) := by decide +kernel
theorem dX8_groupOf_34 : decode cX8_groupOf 34 = .ok (.getfield 22, 3) := by decide +kernel
theorem dX8_groupOf_37 : decode cX8_groupOf 37 = .ok (.iconst 1, 1) := by decide +kernel
theorem dX8_groupOf_38 : decode cX8_groupOf 38 = .ok (.isub, 1) := by decide +kernel
theorem dX8_groupOf_39 : decode cX8_groupOf 39 = .ok (.ireturn, 1) := by decide +kernel
theorem dX8_copy_0 : decode cX8_copy 0 = .ok (.aload_n 0, 1) := by decide +kernel
theorem dX8_copy_1 : decode cX8_copy 1 = .ok (.aload_n 1, 1) := by decide +kernel
theorem dX8_copy_2 : decode cX8_copy 2 = .ok (.getfield 9, 3) := by decide +kernel
theorem dX8_copy_5 : decode cX8_copy 5 = .ok (.putfield 9, 3) := by decide +kernel
theorem dX8_copy_8 : decode cX8_copy 8 = .ok (.aload_n 0, 1) := by decide +kernel
theorem dX8_copy_9 : decode cX8_copy 9 = .ok (.aload_n 1, 1) := by decide +kernel
theorem dX8_copy_10 : decode cX8_copy 10 = .ok (.getfield 22, 3) := by decide +kernel
theorem dX8_copy_13 : decode cX8_copy 13 = .ok (.putfield 22, 3) := by decide +kernel
theorem dX8_copy_16 : decode cX8_copy 16 = .ok (.iconst 0, 1) := by decide +kernel
theorem dX8_copy_17 : decode cX8_copy 17 = .ok (.istore_n 2, 1) := by decide +kernel
theorem dX8_copy_18 : decode cX8_copy 18 = .ok (.iload_n 2, 1) := by decide +kernel
theorem dX8_copy_19 : decode cX8_copy 19 = .ok (.bipush 20, 2) := by decide +kernel
theorem dX8_copy_21 : decode cX8_copy 21 = .ok (.if_icmp .ge 33, 3) := by decide +kernel
theorem dX8_copy_24 : decode cX8_copy 24 = .ok (.aload_n 0, 1) := by decide +kernel
theorem dX8_copy_25 : decode cX8_copy 25 = .ok (.getfield 15, 3) := by decide +kernel
theorem dX8_copy_28 : decode cX8_copy 28 = .ok (.iload_n 2, 1) := by decide +kernel
theorem dX8_copy_29 : decode cX8_copy 29 = .ok (.aload_n 1, 1) := by decide +kernel
theorem dX8_copy_30 : decode cX8_copy 30 = .ok (.getfield 15, 3) := by decide +kernel
theorem dX8_copy_33 : decode cX8_copy 33 = .ok (.iload_n 2, 1) := by decide +kernel
theorem dX8_copy_34 : decode cX8_copy 34 = .ok (.iaload, 1) := by decide +kernel
theorem dX8_copy_35 : decode cX8_copy 35 = .ok (.iastore, 1) := by decide +kernel
theorem dX8_copy_36 : decode cX8_copy 36 = .ok (.aload_n 0, 1) := by decide +kernel
theorem dX8_copy_37 : decode cX8_copy 37 = .ok (.getfield 19, 3) := by decide +kernel
theorem dX8_copy_40 : decode cX8_copy 40 = .ok (.iload_n 2, 1) := by decide +kernel
theorem dX8_copy_41 : decode cX8_copy 41 = .ok (.aload_n 1, 1) := by decide +kernel
theorem dX8_copy_42 : decode cX8_copy 42 = .ok (.getfield 19, 3) := by decide +kernel
theorem dX8_copy_45 : decode cX8_copy 45 = .ok (.iload_n 2, 1) := by decide +kernel
theorem dX8_copy_46 : decode cX8_copy 46 = .ok (.iaload, 1) := by decide +kernel
theorem dX8_copy_47 : decode cX8_copy 47 = .ok (.iastore, 1) := by decide +kernel
theorem dX8_copy_48 : decode cX8_copy 48 = .ok (.iinc 2 1, 3) := by decide +kernel
theorem dX8_copy_51 : decode cX8_copy 51 = .ok (.goto (-33), 3) := by decide +kernel
theorem dX8_copy_54 : decode cX8_copy 54 = .ok (.return_, 1) := by decide +kernel
theorem dX9_init_0 : decode cX9_init 0 = .ok (.aload_n 0, 1) := by decide +kernel
theorem dX9_init_1 : decode cX9_init 1 = .ok (.invokespecial 3, 3) := by decide +kernel
theorem dX9_init_4 : decode cX9_init 4 = .ok (.aload_n 0, 1) := by decide +kernel
theorem dX9_init_5 : decode cX9_init 5 = .ok (.bipush 100, 2) := by decide +kernel
theorem dX9_init_7 : decode cX9_init 7 = .ok (.newarray .char, 2) := by decide +kernel
theorem dX9_init_9 : decode cX9_init 9 = .ok (.putfield 9, 3) := by decide +kernel
theorem dX9_init_12 : decode cX9_init 12 = .ok (.aload_n 0, 1) := by decide +kernel
theorem dX9_init_13 : decode cX9_init 13 = .ok (.bipush 20, 2) := by decide +kernel
theorem dX9_init_15 : decode cX9_init 15 = .ok (.newarray .int, 2) := by decide +kernel
theorem dX9_init_17 : decode cX9_init 17 = .ok (.putfield 15, 3) := by decide +kernel
theorem dX9_init_20 : decode cX9_init 20 = .ok (.aload_n 0, 1) := by decide +kernel
theorem dX9_init_21 : decode cX9_init 21 = .ok (.bipush 20, 2) := by decide +kernel
theorem dX9_init_23 : decode cX9_init 23 = .ok (.newarray .int, 2) := by decide +kernel
theorem dX9_init_25 : decode cX9_init 25 = .ok (.putfield 19, 3) := by decide +kernel
theorem dX9_init_28 : decode cX9_init 28 = .ok (.return_, 1) := by decide +kernel
theorem dX9_put_0 : decode cX9_put 0 = .ok (.aload_n 0, 1) := by decide +kernel
theorem dX9_put_1 : decode cX9_put 1 = .ok (.getfield 22, 3) := by decide +kernel
theorem dX9_put_4 : decode cX9_put 4 = .ok (.ifCond .lt 15, 3) := by decide +kernel
theorem dX9_put_7 : decode cX9_put 7 = .ok (.aload_n 0, 1) := by decide +kernel
theorem dX9_put_8 : decode cX9_put 8 = .ok (.getfield 22, 3) := by decide +kernel
theorem dX9_put_11 : decode cX9_put 11 = .ok (.aload_n 0, 1) := by decide +kernel
theorem dX9_put_12 : decode cX9_put 12 = .ok (.getfield 9, 3) := by decide +kernel
theorem dX9_put_15 : decode cX9_put 15 = .ok (.arraylength, 1) := by decide +kernel
theorem dX9_put_16 : decode cX9_put 16 = .ok (.if_icmp .lt 5, 3) := by decide +kernel
theorem dX9_put_19 : decode cX9_put 19 = .ok (.iconst 0, 1) := by decide +kernel
theorem dX9_put_20 : decode cX9_put 20 = .ok (.ireturn, 1) := by decide +kernel
theorem dX9_put_21 : decode cX9_put 21 = .ok (.aload_n 0, 1) := by decide +kernel
theorem dX9_put_22 : decode cX9_put 22 = .ok (.getfield 9, 3) := by decide +kernel
theorem dX9_put_25 : decode cX9_put 25 = .ok (.aload_n 0, 1) := by decide +kernel
theorem dX9_put_26 : decode cX9_put 26 = .ok (.getfield 22, 3) := by decide +kernel
theorem dX9_put_29 : decode cX9_put 29 = .ok (.iload_n 1, 1) := by decide +kernel
theorem dX9_put_30 : decode cX9_put 30 = .ok (.i2c, 1) := by decide +kernel
theorem dX9_put_31 : decode cX9_put 31 = .ok (.castore, 1) := by decide +kernel
theorem dX9_put_32 : decode cX9_put 32 = .ok (.aload_n 0, 1) := by decide +kernel
theorem dX9_put_33 : decode cX9_put 33 = .ok (.dup, 1) := by decide +kernel
theorem dX9_put_34 : decode cX9_put 34 = .ok (.getfield 22, 3) := by decide +kernel
theorem dX9_put_37 : decode cX9_put 37 = .ok (.iconst 1, 1) := by decide +kernel
theorem dX9_put_38 : decode cX9_put 38 = .ok (.iadd, 1) := by decide +kernel
theorem dX9_put_39 : decode cX9_put 39 = .ok (.putfield 22, 3) := by decide +kernel
theorem dX9_put_42 : decode cX9_put 42 = .ok (.iconst 1, 1) := by decide +kernel
theorem dX9_put_43 : decode cX9_put 43 = .ok (.ireturn, 1) := by decide +kernel
theorem dX9_votersOf_0 : decode cX9_votersOf 0 = .ok (.iload_n 1, 1) := by decide +kernel
theorem dX9_votersOf_1 : decode cX9_votersOf 1 = .ok (.ifCond .lt 21, 3) := by decide +kernel
theorem dX9_votersOf_4 : decode cX9_votersOf 4 = .ok (.iload_n 1, 1) := by decide +kernel
theorem dX9_votersOf_5 : decode cX9_votersOf 5 = .ok (.aload_n 0, 1) := by decide +kernel
theorem dX9_votersOf_6 : decode cX9_votersOf 6 = .ok (.getfield 15, 3) := by decide +kernel
theorem dX9_votersOf_9 : decode cX9_votersOf 9 = .ok (.arraylength, 1) := by decide +kernel
theorem dX9_votersOf_10 : decode cX9_votersOf 10 = .ok (.if_icmp .ge 12, 3) := by decide +kernel
theorem dX9_votersOf_13 : decode cX9_votersOf 13 = .ok (.aload_n 0, 1) := by decide +kernel
theorem dX9_votersOf_14 : decode cX9_votersOf 14 = .ok (.getfield 15, 3) := by decide +kernel
theorem dX9_votersOf_17 : decode cX9_votersOf 17 = .ok (.iload_n 1, 1) := by decide +kernel
theorem dX9_votersOf_18 : decode cX9_votersOf 18 = .ok (.iaload, 1) := by decide +kernel
theorem dX9_votersOf_19 : decode cX9_votersOf 19 = .ok (.goto 4, 3) := by decide +kernel
theorem dX9_votersOf_22 : decode cX9_votersOf 22 = .ok (.iconst 0, 1) := by decide +kernel
theorem dX9_votersOf_23 : decode cX9_votersOf 23 = .ok (.ireturn, 1) := by decide +kernel
theorem dX9_ballotOf_0 : decode cX9_ballotOf 0 = .ok (.iload_n 1, 1) := by decide +kernel
theorem dX9_ballotOf_1 : decode cX9_ballotOf 1 = .ok (.ifCond .lt 21, 3) := by decide +kernel
theorem dX9_ballotOf_4 : decode cX9_ballotOf 4 = .ok (.iload_n 1, 1) := by decide +kernel
theorem dX9_ballotOf_5 : decode cX9_ballotOf 5 = .ok (.aload_n 0, 1) := by decide +kernel
theorem dX9_ballotOf_6 : decode cX9_ballotOf 6 = .ok (.getfield 19, 3) := by decide +kernel
theorem dX9_ballotOf_9 : decode cX9_ballotOf 9 = .ok (.arraylength, 1) := by decide +kernel
theorem dX9_ballotOf_10 : decode cX9_ballotOf 10 = .ok (.if_icmp .ge 12, 3) := by decide +kernel
theorem dX9_ballotOf_13 : decode cX9_ballotOf 13 = .ok (.aload_n 0, 1) := by decide +kernel
theorem dX9_ballotOf_14 : decode cX9_ballotOf 14 = .ok (.getfield 19, 3) := by decide +kernel
theorem dX9_ballotOf_17 : decode cX9_ballotOf 17 = .ok (.iload_n 1, 1) := by decide +kernel
theorem dX9_ballotOf_18 : decode cX9_ballotOf 18 = .ok (.iaload, 1) := by decide +kernel
theorem dX9_ballotOf_19 : decode cX9_ballotOf 19 = .ok (.goto 4, 3) := by decide +kernel
theorem dX9_ballotOf_22 : decode cX9_ballotOf 22 = .ok (.iconst 0, 1) := by decide +kernel
theorem dX9_ballotOf_23 : decode cX9_ballotOf 23 = .ok (.ireturn, 1) := by decide +kernel
theorem dX9_read_0 : decode cX9_read 0 = .ok (.aload_n 0, 1) := by decide +kernel
theorem dX9_read_1 : decode cX9_read 1 = .ok (.iconst 0, 1) := by decide +kernel
theorem dX9_read_2 : decode cX9_read 2 = .ok (.putfield 28, 3) := by decide +kernel
theorem dX9_read_5 : decode cX9_read 5 = .ok (.aload_n 0, 1) := by decide +kernel
theorem dX9_read_6 : decode cX9_read 6 = .ok (.iconst 0, 1) := by decide +kernel
theorem dX9_read_7 : decode cX9_read 7 = .ok (.putfield 31, 3) := by decide +kernel
theorem dX9_read_10 : decode cX9_read 10 = .ok (.iconst 0, 1) := by decide +kernel
theorem dX9_read_11 : decode cX9_read 11 = .ok (.istore_n 2, 1) := by decide +kernel
theorem dX9_read_12 : decode cX9_read 12 = .ok (.iload_n 2, 1) := by decide +kernel
theorem dX9_read_13 : decode cX9_read 13 = .ok (.bipush 20, 2) := by decide +kernel
theorem dX9_read_15 : decode cX9_read 15 = .ok (.if_icmp .gt 47, 3) := by decide +kernel
theorem dX9_read_18 : decode cX9_read 18 = .ok (.aload_n 0, 1) := by decide +kernel
theorem dX9_read_19 : decode cX9_read 19 = .ok (.iload_n 1, 1) := by decide +kernel
theorem dX9_read_20 : decode cX9_read 20 = .ok (.invokevirtual 34, 3) := by decide +kernel
theorem dX9_read_23 : decode cX9_read 23 = .ok (.ifCond .ne 8, 3) := by decide +kernel
theorem dX9_read_26 : decode cX9_read 26 = .ok (.aload_n 0, 1) := by decide +kernel
theorem dX9_read_27 : decode cX9_read 27 = .ok (.getfield 28, 3) := by decide +kernel
theorem dX9_read_30 : decode cX9_read 30 = .ok (.ireturn, 1) := by decide +kernel
theorem dX9_read_31 : decode cX9_read 31 = .ok (.aload_n 0, 1) := by decide +kernel
theorem dX9_read_32 : decode cX9_read 32 = .ok (.invokevirtual 38, 3) := by decide +kernel
theorem dX9_read_35 : decode cX9_read 35 = .ok (.iconst (-1), 1) := by decide +kernel
theorem dX9_read_36 : decode cX9_read 36 = .ok (.if_icmp .ne 6, 3) := by decide +kernel
theorem dX9_read_39 : decode cX9_read 39 = .ok (.ldc 42, 2) := by decide +kernel
theorem dX9_read_41 : decode cX9_read 41 = .ok (.ireturn, 1) := by decide +kernel
theorem dX9_read_42 : decode cX9_read 42 = .ok (.aload_n 0, 1) := by decide +kernel
theorem dX9_read_43 : decode cX9_read 43 = .ok (.bipush 59, 2) := by decide +kernel
theorem dX9_read_45 : decode cX9_read 45 = .ok (.invokevirtual 43, 3) := by decide +kernel
theorem dX9_read_48 : decode cX9_read 48 = .ok (.ifCond .ne 8, 3) := by decide +kernel
theorem dX9_read_51 : decode cX9_read 51 = .ok (.aload_n 0, 1) := by decide +kernel
theorem dX9_read_52 : decode cX9_read 52 = .ok (.getfield 28, 3) := by decide +kernel
theorem dX9_read_55 : decode cX9_read 55 = .ok (.ireturn, 1) := by decide +kernel
theorem dX9_read_56 : decode cX9_read 56 = .ok (.iinc 2 1, 3) := by decide +kernel
theorem dX9_read_59 : decode cX9_read 59 = .ok (.goto (-47), 3) := by decide +kernel
theorem dX9_read_62 : decode cX9_read 62 = .ok (.aload_n 0, 1) := by decide +kernel
theorem dX9_read_63 : decode cX9_read 63 = .ok (.getfield 28, 3) := by decide +kernel
theorem dX9_read_66 : decode cX9_read 66 = .ok (.ireturn, 1) := by decide +kernel
theorem dX9_readGroup_0 : decode cX9_readGroup 0 = .ok (.aload_n 0, 1) := by decide +kernel
theorem dX9_readGroup_1 : decode cX9_readGroup 1 = .ok (.invokevirtual 38, 3) := by decide +kernel
theorem dX9_readGroup_4 : decode cX9_readGroup 4 = .ok (.istore_n 2, 1) := by decide +kernel
theorem dX9_readGroup_5 : decode cX9_readGroup 5 = .ok (.aload_n 0, 1) := by decide +kernel
theorem dX9_readGroup_6 : decode cX9_readGroup 6 = .ok (.getfield 31, 3) := by decide +kernel
theorem dX9_readGroup_9 : decode cX9_readGroup 9 = .ok (.ifCond .lt 27, 3) := by decide +kernel
theorem dX9_readGroup_12 : decode cX9_readGroup 12 = .ok (.aload_n 0, 1) := by decide +kernel
theorem dX9_readGroup_13 : decode cX9_readGroup 13 = .ok (.getfield 31, 3) := by decide +kernel
theorem dX9_readGroup_16 : decode cX9_readGroup 16 = .ok (.iload_n 1, 1) := by decide +kernel
theorem dX9_readGroup_17 : decode cX9_readGroup 17 = .ok (.if_icmp .ge 19, 3) := by decide +kernel
theorem dX9_readGroup_20 : decode cX9_readGroup 20 = .ok (.aload_n 0, 1) := by decide +kernel
theorem dX9_readGroup_21 : decode cX9_readGroup 21 = .ok (.getfield 31, 3) := by decide +kernel
theorem dX9_readGroup_24 : decode cX9_readGroup 24 = .ok (.bipush 20, 2) := by decide +kernel
theorem dX9_readGroup_26 : decode cX9_readGroup 26 = .ok (.if_icmp .ge 10, 3) := by decide +kernel
theorem dX9_readGroup_29 : decode cX9_readGroup 29 = .ok (.iload_n 2, 1) := by decide +kernel
theorem dX9_readGroup_30 : decode cX9_readGroup 30 = .ok (.invokestatic 47, 3) := by decide +kernel
theorem dX9_readGroup_33 : decode cX9_readGroup 33 = .ok (.ifCond .ne 5, 3) := by decide +kernel
theorem dX9_readGroup_36 : decode cX9_readGroup 36 = .ok (.iconst 0, 1) := by decide +kernel
theorem dX9_readGroup_37 : decode cX9_readGroup 37 = .ok (.ireturn, 1) := by decide +kernel
theorem dX9_readGroup_38 : decode cX9_readGroup 38 = .ok (.aload_n 0, 1) := by decide +kernel
theorem dX9_readGroup_39 : decode cX9_readGroup 39 = .ok (.invokevirtual 50, 3) := by decide +kernel
theorem dX9_readGroup_42 : decode cX9_readGroup 42 = .ok (.istore_n 3, 1) := by decide +kernel
theorem dX9_readGroup_43 : decode cX9_readGroup 43 = .ok (.iload_n 3, 1) := by decide +kernel
theorem dX9_readGroup_44 : decode cX9_readGroup 44 = .ok (.ifCond .eq 12, 3) := by decide +kernel
theorem dX9_readGroup_47 : decode cX9_readGroup 47 = .ok (.aload_n 0, 1) := by decide +kernel
theorem dX9_readGroup_48 : decode cX9_readGroup 48 = .ok (.bipush 58, 2) := by decide +kernel
theorem dX9_readGroup_50 : decode cX9_readGroup 50 = .ok (.invokevirtual 43, 3) := by decide +kernel
theorem dX9_readGroup_53 : decode cX9_readGroup 53 = .ok (.ifCond .ne 5, 3) := by decide +kernel
theorem dX9_readGroup_56 : decode cX9_readGroup 56 = .ok (.iconst 0, 1) := by decide +kernel
theorem dX9_readGroup_57 : decode cX9_readGroup 57 = .ok (.ireturn, 1) := by decide +kernel
theorem dX9_readGroup_58 : decode cX9_readGroup 58 = .ok (.aload_n 0, 1) := by decide +kernel
theorem dX9_readGroup_59 : decode cX9_readGroup 59 = .ok (.invokevirtual 53, 3) := by decide +kernel
theorem dX9_readGroup_62 : decode cX9_readGroup 62 = .ok (.istore 4, 2) := by decide +kernel
theorem dX9_readGroup_64 : decode cX9_readGroup 64 = .ok (.iload 4, 2) := by decide +kernel
theorem dX9_readGroup_66 : decode cX9_readGroup 66 = .ok (.ifCond .ne 5, 3) := by decide +kernel
theorem dX9_readGroup_69 : decode cX9_readGroup 69 = .ok (.iconst 0, 1) := by decide +kernel
theorem dX9_readGroup_70 : decode cX9_readGroup 70 = .ok (.ireturn, 1) := by decide +kernel
theorem dX9_readGroup_71 : decode cX9_readGroup 71 = .ok (.aload_n 0, 1) := by decide +kernel
theorem dX9_readGroup_72 : decode cX9_readGroup 72 = .ok (.getfield 15, 3) := by decide +kernel
theorem dX9_readGroup_75 : decode cX9_readGroup 75 = .ok (.aload_n 0, 1) := by decide +kernel
theorem dX9_readGroup_76 : decode cX9_readGroup 76 = .ok (.getfield 31, 3) := by decide +kernel
theorem dX9_readGroup_79 : decode cX9_readGroup 79 = .ok (.iload_n 3, 1) := by decide +kernel
theorem dX9_readGroup_80 : decode cX9_readGroup 80 = .ok (.iastore, 1) := by decide +kernel
theorem dX9_readGroup_81 : decode cX9_readGroup 81 = .ok (.aload_n 0, 1) := by decide +kernel
theorem dX9_readGroup_82 : decode cX9_readGroup 82 = .ok (.getfield 19, 3) := by decide +kernel
theorem dX9_readGroup_85 : decode cX9_readGroup 85 = .ok (.aload_n 0, 1) := by decide +kernel
theorem dX9_readGroup_86 : decode cX9_readGroup 86 = .ok (.getfield 31, 3) := by decide +kernel
theorem dX9_readGroup_89 : decode cX9_readGroup 89 = .ok (.iload 4, 2) := by decide +kernel
theorem dX9_readGroup_91 : decode cX9_readGroup 91 = .ok (.iastore, 1) := by decide +kernel
theorem dX9_readGroup_92 : decode cX9_readGroup 92 = .ok (.aload_n 0, 1) := by decide +kernel
theorem dX9_readGroup_93 : decode cX9_readGroup 93 = .ok (.dup, 1) := by decide +kernel
theorem dX9_readGroup_94 : decode cX9_readGroup 94 = .ok (.getfield 31, 3) := by decide +kernel
theorem dX9_readGroup_97 : decode cX9_readGroup 97 = .ok (.iconst 1, 1) := by decide +kernel
theorem dX9_readGroup_98 : decode cX9_readGroup 98 = .ok (.iadd, 1) := by decide +kernel
theorem dX9_readGroup_99 : decode cX9_readGroup 99 = .ok (.putfield 31, 3) := by decide +kernel
theorem dX9_readGroup_102 : decode cX9_readGroup 102 = .ok (.iconst 1, 1) := by decide +kernel
theorem dX9_readGroup_103 : decode cX9_readGroup 103 = .ok (.ireturn, 1) := by decide +kernel
theorem dX9_readNumber_0 : decode cX9_readNumber 0 = .ok (.aload_n 0, 1) := by decide +kernel
theorem dX9_readNumber_1 : decode cX9_readNumber 1 = .ok (.getfield 28, 3) := by decide +kernel
theorem dX9_readNumber_4 : decode cX9_readNumber 4 = .ok (.istore_n 1, 1) := by decide +kernel
theorem dX9_readNumber_5 : decode cX9_readNumber 5 = .ok (.iconst 0, 1) := by decide +kernel
theorem dX9_readNumber_6 : decode cX9_readNumber 6 = .ok (.istore_n 2, 1) := by decide +kernel
theorem dX9_readNumber_7 : decode cX9_readNumber 7 = .ok (.aload_n 0, 1) := by decide +kernel
theorem dX9_readNumber_8 : decode cX9_readNumber 8 = .ok (.getfield 28, 3) := by decide +kernel
theorem dX9_readNumber_11 : decode cX9_readNumber 11 = .ok (.aload_n 0, 1) := by decide +kernel
theorem dX9_readNumber_12 : decode cX9_readNumber 12 = .ok (.getfield 22, 3) := by decide +kernel
theorem dX9_readNumber_15 : decode cX9_readNumber 15 = .ok (.if_icmp .ge 57, 3) := by decide +kernel
theorem dX9_readNumber_18 : decode cX9_readNumber 18 = .ok (.aload_n 0, 1) := by decide +kernel
theorem dX9_readNumber_19 : decode cX9_readNumber 19 = .ok (.getfield 28, 3) := by decide +kernel
theorem dX9_readNumber_22 : decode cX9_readNumber 22 = .ok (.iload_n 1, 1) := by decide +kernel
theorem dX9_readNumber_23 : decode cX9_readNumber 23 = .ok (.iconst 4, 1) := by decide +kernel
theorem dX9_readNumber_24 : decode cX9_readNumber 24 = .ok (.iadd, 1) := by decide +kernel
theorem dX9_readNumber_25 : decode cX9_readNumber 25 = .ok (.if_icmp .ge 47, 3) := by decide +kernel
theorem dX9_readNumber_28 : decode cX9_readNumber 28 = .ok (.aload_n 0, 1) := by decide +kernel
theorem dX9_readNumber_29 : decode cX9_readNumber 29 = .ok (.aload_n 0, 1) := by decide +kernel
theorem dX9_readNumber_30 : decode cX9_readNumber 30 = .ok (.getfield 28, 3) := by decide +kernel
theorem dX9_readNumber_33 : decode cX9_readNumber 33 = .ok (.invokevirtual 56, 3) := by decide +kernel
theorem dX9_readNumber_36 : decode cX9_readNumber 36 = .ok (.invokestatic 47, 3) := by decide +kernel
theorem dX9_readNumber_39 : decode cX9_readNumber 39 = .ok (.ifCond .eq 33, 3) := by decide +kernel
theorem dX9_readNumber_42 : decode cX9_readNumber 42 = .ok (.iload_n 2, 1) := by decide +kernel
theorem dX9_readNumber_43 : decode cX9_readNumber 43 = .ok (.bipush 10, 2) := by decide +kernel
theorem dX9_readNumber_45 : decode cX9_readNumber 45 = .ok (.imul, 1) := by decide +kernel
theorem dX9_readNumber_46 : decode cX9_readNumber 46 = .ok (.aload_n 0, 1) := by decide +kernel
theorem dX9_readNumber_47 : decode cX9_readNumber 47 = .ok (.aload_n 0, 1) := by decide +kernel
theorem dX9_readNumber_48 : decode cX9_readNumber 48 = .ok (.getfield 28, 3) := by decide +kernel
theorem dX9_readNumber_51 : decode cX9_readNumber 51 = .ok (.invokevirtual 56, 3) := by decide +kernel
theorem dX9_readNumber_54 : decode cX9_readNumber 54 = .ok (.iadd, 1) := by decide +kernel
theorem dX9_readNumber_55 : decode cX9_readNumber 55 = .ok (.bipush 48, 2) := by decide +kernel
theorem dX9_readNumber_57 : decode cX9_readNumber 57 = .ok (.isub, 1) := by decide +kernel
theorem dX9_readNumber_58 : decode cX9_readNumber 58 = .ok (.istore_n 2, 1) := by decide +kernel
theorem dX9_readNumber_59 : decode cX9_readNumber 59 = .ok (.aload_n 0, 1) := by decide +kernel
theorem dX9_readNumber_60 : decode cX9_readNumber 60 = .ok (.dup, 1) := by decide +kernel
theorem dX9_readNumber_61 : decode cX9_readNumber 61 = .ok (.getfield 28, 3) := by decide +kernel
theorem dX9_readNumber_64 : decode cX9_readNumber 64 = .ok (.iconst 1, 1) := by decide +kernel
theorem dX9_readNumber_65 : decode cX9_readNumber 65 = .ok (.iadd, 1) := by decide +kernel
theorem dX9_readNumber_66 : decode cX9_readNumber 66 = .ok (.putfield 28, 3) := by decide +kernel
theorem dX9_readNumber_69 : decode cX9_readNumber 69 = .ok (.goto (-62), 3) := by decide +kernel
theorem dX9_readNumber_72 : decode cX9_readNumber 72 = .ok (.aload_n 0, 1) := by decide +kernel
theorem dX9_readNumber_73 : decode cX9_readNumber 73 = .ok (.getfield 28, 3) := by decide +kernel
theorem dX9_readNumber_76 : decode cX9_readNumber 76 = .ok (.iload_n 1, 1) := by decide +kernel
theorem dX9_readNumber_77 : decode cX9_readNumber 77 = .ok (.isub, 1) := by decide +kernel
theorem dX9_readNumber_78 : decode cX9_readNumber 78 = .ok (.iconst 3, 1) := by decide +kernel
theorem dX9_readNumber_79 : decode cX9_readNumber 79 = .ok (.if_icmp .gt 10, 3) := by decide +kernel
theorem dX9_readNumber_82 : decode cX9_readNumber 82 = .ok (.iload_n 2, 1) := by decide +kernel
theorem dX9_readNumber_83 : decode cX9_readNumber 83 = .ok (.invokestatic 60, 3) := by decide +kernel
theorem dX9_readNumber_86 : decode cX9_readNumber 86 = .ok (.ifCond .ne 10, 3) := by decide +kernel
theorem dX9_readNumber_89 : decode cX9_readNumber 89 = .ok (.aload_n 0, 1) := by decide +kernel
theorem dX9_readNumber_90 : decode cX9_readNumber 90 = .ok (.iload_n 1, 1) := by decide +kernel
theorem dX9_readNumber_91 : decode cX9_readNumber 91 = .ok (.putfield 28, 3) := by decide +kernel
theorem dX9_readNumber_94 : decode cX9_readNumber 94 = .ok (.iconst 0, 1) := by decide +kernel
theorem dX9_readNumber_95 : decode cX9_readNumber 95 = .ok (.ireturn, 1) := by decide +kernel
theorem dX9_readNumber_96 : decode cX9_readNumber 96 = .ok (.iload_n 2, 1) := by decide +kernel
theorem dX9_readNumber_97 : decode cX9_readNumber 97 = .ok (.ireturn, 1) := by decide +kernel
theorem dX9_readBallot_0 : decode cX9_readBallot 0 = .ok (.iconst 0, 1) := by decide +kernel
theorem dX9_readBallot_1 : decode cX9_readBallot 1 = .ok (.istore_n 1, 1) := by decide +kernel
theorem dX9_readBallot_2 : decode cX9_readBallot 2 = .ok (.iconst 0, 1) := by decide +kernel
theorem dX9_readBallot_3 : decode cX9_readBallot 3 = .ok (.istore_n 2, 1) := by decide +kernel
theorem dX9_readBallot_4 : decode cX9_readBallot 4 = .ok (.iload_n 2, 1) := by decide +kernel
theorem dX9_readBallot_5 : decode cX9_readBallot 5 = .ok (.iconst 5, 1) := by decide +kernel
theorem dX9_readBallot_6 : decode cX9_readBallot 6 = .ok (.if_icmp .gt 61, 3) := by decide +kernel
theorem dX9_readBallot_9 : decode cX9_readBallot 9 = .ok (.aload_n 0, 1) := by decide +kernel
theorem dX9_readBallot_10 : decode cX9_readBallot 10 = .ok (.invokevirtual 38, 3) := by decide +kernel
theorem dX9_readBallot_13 : decode cX9_readBallot 13 = .ok (.bipush 48, 2) := by decide +kernel
theorem dX9_readBallot_15 : decode cX9_readBallot 15 = .ok (.isub, 1) := by decide +kernel
theorem dX9_readBallot_16 : decode cX9_readBallot 16 = .ok (.istore_n 3, 1) := by decide +kernel
theorem dX9_readBallot_17 : decode cX9_readBallot 17 = .ok (.iload_n 3, 1) := by decide +kernel
theorem dX9_readBallot_18 : decode cX9_readBallot 18 = .ok (.invokestatic 63, 3) := by decide +kernel
theorem dX9_readBallot_21 : decode cX9_readBallot 21 = .ok (.ifCond .eq 11, 3) := by decide +kernel
theorem dX9_readBallot_24 : decode cX9_readBallot 24 = .ok (.iload_n 1, 1) := by decide +kernel
theorem dX9_readBallot_25 : decode cX9_readBallot 25 = .ok (.iload_n 3, 1) := by decide +kernel
theorem dX9_readBallot_26 : decode cX9_readBallot 26 = .ok (.invokestatic 68, 3) := by decide +kernel
theorem dX9_readBallot_29 : decode cX9_readBallot 29 = .ok (.ifCond .lt 5, 3) := by decide +kernel
theorem dX9_readBallot_32 : decode cX9_readBallot 32 = .ok (.iconst 0, 1) := by decide +kernel
theorem dX9_readBallot_33 : decode cX9_readBallot 33 = .ok (.ireturn, 1) := by decide +kernel
theorem dX9_readBallot_34 : decode cX9_readBallot 34 = .ok (.iload_n 1, 1) := by decide +kernel
theorem dX9_readBallot_35 : decode cX9_readBallot 35 = .ok (.iload_n 3, 1) := by decide +kernel
theorem dX9_readBallot_36 : decode cX9_readBallot 36 = .ok (.invokestatic 72, 3) := by decide +kernel
theorem dX9_readBallot_39 : decode cX9_readBallot 39 = .ok (.istore_n 1, 1) := by decide +kernel
theorem dX9_readBallot_40 : decode cX9_readBallot 40 = .ok (.aload_n 0, 1) := by decide +kernel
theorem dX9_readBallot_41 : decode cX9_readBallot 41 = .ok (.dup, 1) := by decide +kernel
theorem dX9_readBallot_42 : decode cX9_readBallot 42 = .ok (.getfield 28, 3) := by decide +kernel
theorem dX9_readBallot_45 : decode cX9_readBallot 45 = .ok (.iconst 1, 1) := by decide +kernel
theorem dX9_readBallot_46 : decode cX9_readBallot 46 = .ok (.iadd, 1) := by decide +kernel
theorem dX9_readBallot_47 : decode cX9_readBallot 47 = .ok (.putfield 28, 3) := by decide +kernel
theorem dX9_readBallot_50 : decode cX9_readBallot 50 = .ok (.aload_n 0, 1) := by decide +kernel
theorem dX9_readBallot_51 : decode cX9_readBallot 51 = .ok (.bipush 62, 2) := by decide +kernel
theorem dX9_readBallot_53 : decode cX9_readBallot 53 = .ok (.invokevirtual 43, 3) := by decide +kernel
theorem dX9_readBallot_56 : decode cX9_readBallot 56 = .ok (.ifCond .ne 5, 3) := by decide +kernel
theorem dX9_readBallot_59 : decode cX9_readBallot 59 = .ok (.iload_n 1, 1) := by decide +kernel
theorem dX9_readBallot_60 : decode cX9_readBallot 60 = .ok (.ireturn, 1) := by decide +kernel
theorem dX9_readBallot_61 : decode cX9_readBallot 61 = .ok (.iinc 2 1, 3) := by decide +kernel
theorem dX9_readBallot_64 : decode cX9_readBallot 64 = .ok (.goto (-60), 3) := by decide +kernel
theorem dX9_readBallot_67 : decode cX9_readBallot 67 = .ok (.iconst 0, 1) := by decide +kernel
theorem dX9_readBallot_68 : decode cX9_readBallot 68 = .ok (.ireturn, 1) := by decide +kernel
theorem dX9_readSign_0 : decode cX9_readSign 0 = .ok (.aload_n 0, 1) := by decide +kernel
theorem dX9_readSign_1 : decode cX9_readSign 1 = .ok (.invokevirtual 38, 3) := by decide +kernel
theorem dX9_readSign_4 : decode cX9_readSign 4 = .ok (.iload_n 1, 1) := by decide +kernel
theorem dX9_readSign_5 : decode cX9_readSign 5 = .ok (.if_icmp .ne 7, 3) := by decide +kernel
theorem dX9_readSign_8 : decode cX9_readSign 8 = .ok (.iconst 1, 1) := by decide +kernel
theorem dX9_readSign_9 : decode cX9_readSign 9 = .ok (.goto 4, 3) := by decide +kernel
theorem dX9_readSign_12 : decode cX9_readSign 12 = .ok (.iconst 0, 1) := by decide +kernel
theorem dX9_readSign_13 : decode cX9_readSign 13 = .ok (.istore_n 2, 1) := by decide +kernel
theorem dX9_readSign_14 : decode cX9_readSign 14 = .ok (.iload_n 2, 1) := by decide +kernel
theorem dX9_readSign_15 : decode cX9_readSign 15 = .ok (.ifCond .eq 13, 3) := by decide +kernel
theorem dX9_readSign_18 : decode cX9_readSign 18 = .ok (.aload_n 0, 1) := by decide +kernel
theorem dX9_readSign_19 : decode cX9_readSign 19 = .ok (.dup, 1) := by decide +kernel
theorem dX9_readSign_20 : decode cX9_readSign 20 = .ok (.getfield 28, 3) := by decide +kernel
theorem dX9_readSign_23 : decode cX9_readSign 23 = .ok (.iconst 1, 1) := by decide +kernel
theorem dX9_readSign_24 : decode cX9_readSign 24 = .ok (.iadd, 1) := by decide +kernel
theorem dX9_readSign_25 : decode cX9_readSign 25 = .ok (.putfield 28, 3) := by decide +kernel
theorem dX9_readSign_28 : decode cX9_readSign 28 = .ok (.iload_n 2, 1) := by decide +kernel
theorem dX9_readSign_29 : decode cX9_readSign 29 = .ok (.ireturn, 1) := by decide +kernel
theorem dX9_next_0 : decode cX9_next 0 = .ok (.aload_n 0, 1) := by decide +kernel
theorem dX9_next_1 : decode cX9_next 1 = .ok (.getfield 28, 3) := by decide +kernel
theorem dX9_next_4 : decode cX9_next 4 = .ok (.aload_n 0, 1) := by decide +kernel
theorem dX9_next_5 : decode cX9_next 5 = .ok (.getfield 22, 3) := by decide +kernel
theorem dX9_next_8 : decode cX9_next 8 = .ok (.if_icmp .ge 29, 3) := by decide +kernel
theorem dX9_next_11 : decode cX9_next 11 = .ok (.aload_n 0, 1) := by decide +kernel
theorem dX9_next_12 : decode cX9_next 12 = .ok (.aload_n 0, 1) := by decide +kernel
theorem dX9_next_13 : decode cX9_next 13 = .ok (.getfield 28, 3) := by decide +kernel
theorem dX9_next_16 : decode cX9_next 16 = .ok (.invokevirtual 56, 3) := by decide +kernel
theorem dX9_next_19 : decode cX9_next 19 = .ok (.bipush 32, 2) := by decide +kernel
theorem dX9_next_21 : decode cX9_next 21 = .ok (.if_icmp .ne 16, 3) := by decide +kernel
theorem dX9_next_24 : decode cX9_next 24 = .ok (.aload_n 0, 1) := by decide +kernel
theorem dX9_next_25 : decode cX9_next 25 = .ok (.dup, 1) := by decide +kernel
theorem dX9_next_26 : decode cX9_next 26 = .ok (.getfield 28, 3) := by decide +kernel
theorem dX9_next_29 : decode cX9_next 29 = .ok (.iconst 1, 1) := by decide +kernel
theorem dX9_next_30 : decode cX9_next 30 = .ok (.iadd, 1) := by decide +kernel
theorem dX9_next_31 : decode cX9_next 31 = .ok (.putfield 28, 3) := by decide +kernel
theorem dX9_next_34 : decode cX9_next 34 = .ok (.goto (-34), 3) := by decide +kernel
theorem dX9_next_37 : decode cX9_next 37 = .ok (.aload_n 0, 1) := by decide +kernel
theorem dX9_next_38 : decode cX9_next 38 = .ok (.getfield 28, 3) := by decide +kernel
theorem dX9_next_41 : decode cX9_next 41 = .ok (.aload_n 0, 1) := by decide +kernel
theorem dX9_next_42 : decode cX9_next 42 = .ok (.getfield 22, 3) := by decide +kernel
theorem dX9_next_45 : decode cX9_next 45 = .ok (.if_icmp .ge 14, 3) := by decide +kernel
theorem dX9_next_48 : decode cX9_next 48 = .ok (.aload_n 0, 1) := by decide +kernel
theorem dX9_next_49 : decode cX9_next 49 = .ok (.aload_n 0, 1) := by decide +kernel
theorem dX9_next_50 : decode cX9_next 50 = .ok (.getfield 28, 3) := by decide +kernel
theorem dX9_next_53 : decode cX9_next 53 = .ok (.invokevirtual 56, 3) := by decide +kernel
theorem dX9_next_56 : decode cX9_next 56 = .ok (.goto 4, 3) := by decide +kernel
theorem dX9_next_59 : decode cX9_next 59 = .ok (.iconst (-1), 1) := by decide +kernel
theorem dX9_next_60 : decode cX9_next 60 = .ok (.ireturn, 1) := by decide +kernel
theorem dX9_byteAt_0 : decode cX9_byteAt 0 = .ok (.iload_n 1, 1) := by decide +kernel
theorem dX9_byteAt_1 : decode cX9_byteAt 1 = .ok (.ifCond .lt 21, 3) := by decide +kernel
theorem dX9_byteAt_4 : decode cX9_byteAt 4 = .ok (.iload_n 1, 1) := by decide +kernel
theorem dX9_byteAt_5 : decode cX9_byteAt 5 = .ok (.aload_n 0, 1) := by decide +kernel
theorem dX9_byteAt_6 : decode cX9_byteAt 6 = .ok (.getfield 9, 3) := by decide +kernel
theorem dX9_byteAt_9 : decode cX9_byteAt 9 = .ok (.arraylength, 1) := by decide +kernel
theorem dX9_byteAt_10 : decode cX9_byteAt 10 = .ok (.if_icmp .ge 12, 3) := by decide +kernel
theorem dX9_byteAt_13 : decode cX9_byteAt 13 = .ok (.aload_n 0, 1) := by decide +kernel
theorem dX9_byteAt_14 : decode cX9_byteAt 14 = .ok (.getfield 9, 3) := by decide +kernel
theorem dX9_byteAt_17 : decode cX9_byteAt 17 = .ok (.iload_n 1, 1) := by decide +kernel
theorem dX9_byteAt_18 : decode cX9_byteAt 18 = .ok (.caload, 1) := by decide +kernel
theorem dX9_byteAt_19 : decode cX9_byteAt 19 = .ok (.goto 4, 3) := by decide +kernel
theorem dX9_byteAt_22 : decode cX9_byteAt 22 = .ok (.iconst (-1), 1) := by decide +kernel
theorem dX9_byteAt_23 : decode cX9_byteAt 23 = .ok (.ireturn, 1) := by decide +kernel
theorem dX9_isDigit_0 : decode cX9_isDigit 0 = .ok (.iload_n 0, 1) := by decide +kernel
theorem dX9_isDigit_1 : decode cX9_isDigit 1 = .ok (.bipush 48, 2) := by decide +kernel
theorem dX9_isDigit_3 : decode cX9_isDigit 3 = .ok (.if_icmp .lt 13, 3) := by decide +kernel
theorem dX9_isDigit_6 : decode cX9_isDigit 6 = .ok (.iload_n 0, 1) := by decide +kernel
theorem dX9_isDigit_7 : decode cX9_isDigit 7 = .ok (.bipush 57, 2) := by decide +kernel
theorem dX9_isDigit_9 : decode cX9_isDigit 9 = .ok (.if_icmp .gt 7, 3) := by decide +kernel
theorem dX9_isDigit_12 : decode cX9_isDigit 12 = .ok (.iconst 1, 1) := by decide +kernel
theorem dX9_isDigit_13 : decode cX9_isDigit 13 = .ok (.goto 4, 3) := by decide +kernel
theorem dX9_isDigit_16 : decode cX9_isDigit 16 = .ok (.iconst 0, 1) := by decide +kernel
theorem dX9_isDigit_17 : decode cX9_isDigit 17 = .ok (.ireturn, 1) := by decide +kernel
theorem dX10_init_0 : decode cX10_init 0 = .ok (.aload_n 0, 1) := by decide +kernel
theorem dX10_init_1 : decode cX10_init 1 = .ok (.invokespecial 1, 3) := by decide +kernel
theorem dX10_init_4 : decode cX10_init 4 = .ok (.aload_n 0, 1) := by decide +kernel
theorem dX10_init_5 : decode cX10_init 5 = .ok (.new 7, 3) := by decide +kernel
theorem dX10_init_8 : decode cX10_init 8 = .ok (.dup, 1) := by decide +kernel
theorem dX10_init_9 : decode cX10_init 9 = .ok (.invokespecial 9, 3) := by decide +kernel
theorem dX10_init_12 : decode cX10_init 12 = .ok (.putfield 10, 3) := by decide +kernel
theorem dX10_init_15 : decode cX10_init 15 = .ok (.aload_n 0, 1) := by decide +kernel
theorem dX10_init_16 : decode cX10_init 16 = .ok (.iconst 5, 1) := by decide +kernel
theorem dX10_init_17 : decode cX10_init 17 = .ok (.anewarray 7, 3) := by decide +kernel
theorem dX10_init_20 : decode cX10_init 20 = .ok (.putfield 16, 3) := by decide +kernel
theorem dX10_init_23 : decode cX10_init 23 = .ok (.aload_n 0, 1) := by decide +kernel
theorem dX10_init_24 : decode cX10_init 24 = .ok (.new 20, 3) := by decide +kernel
theorem dX10_init_27 : decode cX10_init 27 = .ok (.dup, 1) := by decide +kernel
theorem dX10_init_28 : decode cX10_init 28 = .ok (.invokespecial 22, 3) := by decide +kernel
theorem dX10_init_31 : decode cX10_init 31 = .ok (.putfield 23, 3) := by decide +kernel
theorem dX10_init_34 : decode cX10_init 34 = .ok (.aload_n 0, 1) := by decide +kernel
theorem dX10_init_35 : decode cX10_init 35 = .ok (.new 27, 3) := by decide +kernel
theorem dX10_init_38 : decode cX10_init 38 = .ok (.dup, 1) := by decide +kernel
theorem dX10_init_39 : decode cX10_init 39 = .ok (.invokespecial 29, 3) := by decide +kernel
theorem dX10_init_42 : decode cX10_init 42 = .ok (.putfield 30, 3) := by decide +kernel
theorem dX10_init_45 : decode cX10_init 45 = .ok (.aload_n 0, 1) := by decide +kernel
theorem dX10_init_46 : decode cX10_init 46 = .ok (.new 34, 3) := by decide +kernel
theorem dX10_init_49 : decode cX10_init 49 = .ok (.dup, 1) := by decide +kernel
theorem dX10_init_50 : decode cX10_init 50 = .ok (.invokespecial 36, 3) := by decide +kernel
theorem dX10_init_53 : decode cX10_init 53 = .ok (.putfield 37, 3) := by decide +kernel
theorem dX10_init_56 : decode cX10_init 56 = .ok (.aload_n 0, 1) := by decide +kernel
theorem dX10_init_57 : decode cX10_init 57 = .ok (.iconst 5, 1) := by decide +kernel
theorem dX10_init_58 : decode cX10_init 58 = .ok (.newarray .int, 2) := by decide +kernel
theorem dX10_init_60 : decode cX10_init 60 = .ok (.putfield 41, 3) := by decide +kernel
theorem dX10_init_63 : decode cX10_init 63 = .ok (.iconst 0, 1) := by decide +kernel
theorem dX10_init_64 : decode cX10_init 64 = .ok (.istore_n 1, 1) := by decide +kernel
theorem dX10_init_65 : decode cX10_init 65 = .ok (.iload_n 1, 1) := by decide +kernel
theorem dX10_init_66 : decode cX10_init 66 = .ok (.aload_n 0, 1) := by decide +kernel
theorem dX10_init_67 : decode cX10_init 67 = .ok (.getfield 16, 3) := by decide +kernel
theorem dX10_init_70 : decode cX10_init 70 = .ok (.arraylength, 1) := by decide +kernel
theorem dX10_init_71 : decode cX10_init 71 = .ok (.if_icmp .ge 22, 3) := by decide +kernel
theorem dX10_init_74 : decode cX10_init 74 = .ok (.aload_n 0, 1) := by decide +kernel
theorem dX10_init_75 : decode cX10_init 75 = .ok (.getfield 16, 3) := by decide +kernel
theorem dX10_init_78 : decode cX10_init 78 = .ok (.iload_n 1, 1) := by decide +kernel
theorem dX10_init_79 : decode cX10_init 79 = .ok (.new 7, 3) := by decide +kernel
theorem dX10_init_82 : decode cX10_init 82 = .ok (.dup, 1) := by decide +kernel
theorem dX10_init_83 : decode cX10_init 83 = .ok (.invokespecial 9, 3) := by decide +kernel
theorem dX10_init_86 : decode cX10_init 86 = .ok (.aastore, 1) := by decide +kernel
theorem dX10_init_87 : decode cX10_init 87 = .ok (.iinc 1 1, 3) := by decide +kernel
theorem dX10_init_90 : decode cX10_init 90 = .ok (.goto (-25), 3) := by decide +kernel
theorem dX10_init_93 : decode cX10_init 93 = .ok (.return_, 1) := by decide +kernel
theorem dX10_addGroup_0 : decode cX10_addGroup 0 = .ok (.iload_n 2, 1) := by decide +kernel
theorem dX10_addGroup_1 : decode cX10_addGroup 1 = .ok (.invokestatic 45, 3) := by decide +kernel
theorem dX10_addGroup_4 : decode cX10_addGroup 4 = .ok (.istore_n 3, 1) := by decide +kernel
theorem dX10_addGroup_5 : decode cX10_addGroup 5 = .ok (.iload_n 1, 1) := by decide +kernel
theorem dX10_addGroup_6 : decode cX10_addGroup 6 = .ok (.invokestatic 51, 3) := by decide +kernel
theorem dX10_addGroup_9 : decode cX10_addGroup 9 = .ok (.ifCond .eq 7, 3) := by decide +kernel
theorem dX10_addGroup_12 : decode cX10_addGroup 12 = .ok (.iload_n 3, 1) := by decide +kernel
theorem dX10_addGroup_13 : decode cX10_addGroup 13 = .ok (.ifCond .ne 6, 3) := by decide +kernel
theorem dX10_addGroup_16 : decode cX10_addGroup 16 = .ok (.ldc 55, 2) := by decide +kernel
theorem dX10_addGroup_18 : decode cX10_addGroup 18 = .ok (.ireturn, 1) := by decide +kernel
theorem dX10_addGroup_19 : decode cX10_addGroup 19 = .ok (.aload_n 0, 1) := by decide +kernel
theorem dX10_addGroup_20 : decode cX10_addGroup 20 = .ok (.getfield 10, 3) := by decide +kernel
theorem dX10_addGroup_23 : decode cX10_addGroup 23 = .ok (.invokevirtual 56, 3) := by decide +kernel
theorem dX10_addGroup_26 : decode cX10_addGroup 26 = .ok (.ifCond .ne 6, 3) := by decide +kernel
theorem dX10_addGroup_29 : decode cX10_addGroup 29 = .ok (.ldc 60, 2) := by decide +kernel
theorem dX10_addGroup_31 : decode cX10_addGroup 31 = .ok (.ireturn, 1) := by decide +kernel
theorem dX10_addGroup_32 : decode cX10_addGroup 32 = .ok (.aload_n 0, 1) := by decide +kernel
theorem dX10_addGroup_33 : decode cX10_addGroup 33 = .ok (.invokevirtual 61, 3) := by decide +kernel
theorem dX10_addGroup_36 : decode cX10_addGroup 36 = .ok (.aload_n 0, 1) := by decide +kernel
theorem dX10_addGroup_37 : decode cX10_addGroup 37 = .ok (.getfield 10, 3) := by decide +kernel
theorem dX10_addGroup_40 : decode cX10_addGroup 40 = .ok (.iload_n 1, 1) := by decide +kernel
theorem dX10_addGroup_41 : decode cX10_addGroup 41 = .ok (.iload_n 3, 1) := by decide +kernel
theorem dX10_addGroup_42 : decode cX10_addGroup 42 = .ok (.invokevirtual 64, 3) := by decide +kernel
theorem dX10_addGroup_45 : decode cX10_addGroup 45 = .ok (.aload_n 0, 1) := by decide +kernel
theorem dX10_addGroup_46 : decode cX10_addGroup 46 = .ok (.getfield 10, 3) := by decide +kernel
theorem dX10_addGroup_49 : decode cX10_addGroup 49 = .ok (.getfield 68, 3) := by decide +kernel
theorem dX10_addGroup_52 : decode cX10_addGroup 52 = .ok (.iconst 1, 1) := by decide +kernel
theorem dX10_addGroup_53 : decode cX10_addGroup 53 = .ok (.isub, 1) := by decide +kernel
theorem dX10_addGroup_54 : decode cX10_addGroup 54 = .ok (.ireturn, 1) := by decide +kernel
theorem dX10_removeGroup_0 : decode cX10_removeGroup 0 = .ok (.aload_n 0, 1) := by decide +kernel
theorem dX10_removeGroup_1 : decode cX10_removeGroup 1 = .ok (.getfield 10, 3) := by decide +kernel
theorem dX10_removeGroup_4 : decode cX10_removeGroup 4 = .ok (.iload_n 1, 1) := by decide +kernel
theorem dX10_removeGroup_5 : decode cX10_removeGroup 5 = .ok (.invokevirtual 72, 3) := by decide +kernel
theorem dX10_removeGroup_8 : decode cX10_removeGroup 8 = .ok (.ifCond .ne 6, 3) := by decide +kernel
theorem dX10_removeGroup_11 : decode cX10_removeGroup 11 = .ok (.ldc 75, 2) := by decide +kernel
theorem dX10_removeGroup_13 : decode cX10_removeGroup 13 = .ok (.ireturn, 1) := by decide +kernel
theorem dX10_removeGroup_14 : decode cX10_removeGroup 14 = .ok (.aload_n 0, 1) := by decide +kernel
theorem dX10_removeGroup_15 : decode cX10_removeGroup 15 = .ok (.invokevirtual 61, 3) := by decide +kernel
theorem dX10_removeGroup_18 : decode cX10_removeGroup 18 = .ok (.aload_n 0, 1) := by decide +kernel
theorem dX10_removeGroup_19 : decode cX10_removeGroup 19 = .ok (.getfield 10, 3) := by decide +kernel
theorem dX10_removeGroup_22 : decode cX10_removeGroup 22 = .ok (.iload_n 1, 1) := by decide +kernel
theorem dX10_removeGroup_23 : decode cX10_removeGroup 23 = .ok (.invokevirtual 76, 3) := by decide +kernel
theorem dX10_removeGroup_26 : decode cX10_removeGroup 26 = .ok (.aload_n 0, 1) := by decide +kernel
theorem dX10_removeGroup_27 : decode cX10_removeGroup 27 = .ok (.getfield 10, 3) := by decide +kernel
theorem dX10_removeGroup_30 : decode cX10_removeGroup 30 = .ok (.getfield 68, 3) := by decide +kernel
theorem dX10_removeGroup_33 : decode cX10_removeGroup 33 = .ok (.ireturn, 1) := by decide +kernel
theorem dX10_setVoters_0 : decode cX10_setVoters 0 = .ok (.aload_n 0, 1) := by decide +kernel
theorem dX10_setVoters_1 : decode cX10_setVoters 1 = .ok (.getfield 10, 3) := by decide +kernel
theorem dX10_setVoters_4 : decode cX10_setVoters 4 = .ok (.iload_n 1, 1) := by decide +kernel
theorem dX10_setVoters_5 : decode cX10_setVoters 5 = .ok (.invokevirtual 72, 3) := by decide +kernel
theorem dX10_setVoters_8 : decode cX10_setVoters 8 = .ok (.ifCond .ne 6, 3) := by decide +kernel
theorem dX10_setVoters_11 : decode cX10_setVoters 11 = .ok (.ldc 75, 2) := by decide +kernel
theorem dX10_setVoters_13 : decode cX10_setVoters 13 = .ok (.ireturn, 1) := by decide +kernel
theorem dX10_setVoters_14 : decode cX10_setVoters 14 = .ok (.iload_n 2, 1) := by decide +kernel
theorem dX10_setVoters_15 : decode cX10_setVoters 15 = .ok (.invokestatic 51, 3) := by decide +kernel
theorem dX10_setVoters_18 : decode cX10_setVoters 18 = .ok (.ifCond .ne 6, 3) := by decide +kernel
theorem dX10_setVoters_21 : decode cX10_setVoters 21 = .ok (.ldc 55, 2) := by decide +kernel
theorem dX10_setVoters_23 : decode cX10_setVoters 23 = .ok (.ireturn, 1) := by decide +kernel
theorem dX10_setVoters_24 : decode cX10_setVoters 24 = .ok (.aload_n 0, 1) := by decide +kernel
theorem dX10_setVoters_25 : decode cX10_setVoters 25 = .ok (.invokevirtual 61, 3) := by decide +kernel
theorem dX10_setVoters_28 : decode cX10_setVoters 28 = .ok (.aload_n 0, 1) := by decide +kernel
theorem dX10_setVoters_29 : decode cX10_setVoters 29 = .ok (.getfield 10, 3) := by decide +kernel
theorem dX10_setVoters_32 : decode cX10_setVoters 32 = .ok (.iload_n 1, 1) := by decide +kernel
theorem dX10_setVoters_33 : decode cX10_setVoters 33 = .ok (.invokevirtual 80, 3) := by decide +kernel
theorem dX10_setVoters_36 : decode cX10_setVoters 36 = .ok (.istore_n 3, 1) := by decide +kernel
theorem dX10_setVoters_37 : decode cX10_setVoters 37 = .ok (.aload_n 0, 1) := by decide +kernel
theorem dX10_setVoters_38 : decode cX10_setVoters 38 = .ok (.getfield 10, 3) := by decide +kernel
theorem dX10_setVoters_41 : decode cX10_setVoters 41 = .ok (.iload_n 1, 1) := by decide +kernel
theorem dX10_setVoters_42 : decode cX10_setVoters 42 = .ok (.iload_n 2, 1) := by decide +kernel
theorem dX10_setVoters_43 : decode cX10_setVoters 43 = .ok (.aload_n 0, 1) := by decide +kernel
theorem dX10_setVoters_44 : decode cX10_setVoters 44 = .ok (.getfield 10, 3) := by decide +kernel
theorem dX10_setVoters_47 : decode cX10_setVoters 47 = .ok (.iload_n 1, 1) := by decide +kernel
theorem dX10_setVoters_48 : decode cX10_setVoters 48 = .ok (.invokevirtual 83, 3) := by decide +kernel
theorem dX10_setVoters_51 : decode cX10_setVoters 51 = .ok (.invokevirtual 86, 3) := by decide +kernel
theorem dX10_setVoters_54 : decode cX10_setVoters 54 = .ok (.iload_n 3, 1) := by decide +kernel
theorem dX10_setVoters_55 : decode cX10_setVoters 55 = .ok (.ireturn, 1) := by decide +kernel
theorem dX10_exchange_0 : decode cX10_exchange 0 = .ok (.aload_n 0, 1) := by decide +kernel
theorem dX10_exchange_1 : decode cX10_exchange 1 = .ok (.getfield 10, 3) := by decide +kernel
theorem dX10_exchange_4 : decode cX10_exchange 4 = .ok (.iload_n 1, 1) := by decide +kernel
theorem dX10_exchange_5 : decode cX10_exchange 5 = .ok (.invokevirtual 72, 3) := by decide +kernel
theorem dX10_exchange_8 : decode cX10_exchange 8 = .ok (.ifCond .ne 6, 3) := by decide +kernel
theorem dX10_exchange_11 : decode cX10_exchange 11 = .ok (.ldc 75, 2) := by decide +kernel
theorem dX10_exchange_13 : decode cX10_exchange 13 = .ok (.ireturn, 1) := by decide +kernel
theorem dX10_exchange_14 : decode cX10_exchange 14 = .ok (.aload_n 0, 1) := by decide +kernel
theorem dX10_exchange_15 : decode cX10_exchange 15 = .ok (.getfield 10, 3) := by decide +kernel
theorem dX10_exchange_18 : decode cX10_exchange 18 = .ok (.iload_n 1, 1) := by decide +kernel
theorem dX10_exchange_19 : decode cX10_exchange 19 = .ok (.invokevirtual 83, 3) := by decide +kernel
theorem dX10_exchange_22 : decode cX10_exchange 22 = .ok (.istore_n 3, 1) := by decide +kernel
theorem dX10_exchange_23 : decode cX10_exchange 23 = .ok (.iload_n 2, 1) := by decide +kernel
theorem dX10_exchange_24 : decode cX10_exchange 24 = .ok (.ifCond .lt 13, 3) := by decide +kernel
theorem dX10_exchange_27 : decode cX10_exchange 27 = .ok (.iload_n 2, 1) := by decide +kernel
theorem dX10_exchange_28 : decode cX10_exchange 28 = .ok (.iload_n 3, 1) := by decide +kernel
theorem dX10_exchange_29 : decode cX10_exchange 29 = .ok (.invokestatic 90, 3) := by decide +kernel
theorem dX10_exchange_32 : decode cX10_exchange 32 = .ok (.iconst 1, 1) := by decide +kernel
theorem dX10_exchange_33 : decode cX10_exchange 33 = .ok (.isub, 1) := by decide +kernel
theorem dX10_exchange_34 : decode cX10_exchange 34 = .ok (.if_icmp .lt 6, 3) := by decide +kernel
theorem dX10_exchange_37 : decode cX10_exchange 37 = .ok (.ldc 75, 2) := by decide +kernel
theorem dX10_exchange_39 : decode cX10_exchange 39 = .ok (.ireturn, 1) := by decide +kernel
theorem dX10_exchange_40 : decode cX10_exchange 40 = .ok (.aload_n 0, 1) := by decide +kernel
theorem dX10_exchange_41 : decode cX10_exchange 41 = .ok (.invokevirtual 61, 3) := by decide +kernel
theorem dX10_exchange_44 : decode cX10_exchange 44 = .ok (.iload_n 3, 1) := by decide +kernel
theorem dX10_exchange_45 : decode cX10_exchange 45 = .ok (.iload_n 2, 1) := by decide +kernel
theorem dX10_exchange_46 : decode cX10_exchange 46 = .ok (.invokestatic 93, 3) := by decide +kernel
theorem dX10_exchange_49 : decode cX10_exchange 49 = .ok (.istore 4, 2) := by decide +kernel
theorem dX10_exchange_51 : decode cX10_exchange 51 = .ok (.aload_n 0, 1) := by decide +kernel
theorem dX10_exchange_52 : decode cX10_exchange 52 = .ok (.getfield 10, 3) := by decide +kernel
theorem dX10_exchange_55 : decode cX10_exchange 55 = .ok (.iload_n 1, 1) := by decide +kernel
theorem dX10_exchange_56 : decode cX10_exchange 56 = .ok (.aload_n 0, 1) := by decide +kernel
theorem dX10_exchange_57 : decode cX10_exchange 57 = .ok (.getfield 10, 3) := by decide +kernel
theorem dX10_exchange_60 : decode cX10_exchange 60 = .ok (.iload_n 1, 1) := by decide +kernel
theorem dX10_exchange_61 : decode cX10_exchange 61 = .ok (.invokevirtual 80, 3) := by decide +kernel
theorem dX10_exchange_64 : decode cX10_exchange 64 = .ok (.iload 4, 2) := by decide +kernel
theorem dX10_exchange_66 : decode cX10_exchange 66 = .ok (.invokevirtual 86, 3) := by decide +kernel
theorem dX10_exchange_69 : decode cX10_exchange 69 = .ok (.iload 4, 2) := by decide +kernel
theorem dX10_exchange_71 : decode cX10_exchange 71 = .ok (.invokestatic 97, 3) := by decide +kernel
theorem dX10_exchange_74 : decode cX10_exchange 74 = .ok (.ireturn, 1) := by decide +kernel
theorem dX10_setStanding_0 : decode cX10_setStanding 0 = .ok (.iload_n 1, 1) := by decide +kernel
theorem dX10_setStanding_1 : decode cX10_setStanding 1 = .ok (.invokestatic 100, 3) := by decide +kernel
theorem dX10_setStanding_4 : decode cX10_setStanding 4 = .ok (.ifCond .ne 6, 3) := by decide +kernel
theorem dX10_setStanding_7 : decode cX10_setStanding 7 = .ok (.ldc 75, 2) := by decide +kernel
theorem dX10_setStanding_9 : decode cX10_setStanding 9 = .ok (.ireturn, 1) := by decide +kernel
theorem dX10_setStanding_10 : decode cX10_setStanding 10 = .ok (.aload_n 0, 1) := by decide +kernel
theorem dX10_setStanding_11 : decode cX10_setStanding 11 = .ok (.invokevirtual 61, 3) := by decide +kernel
theorem dX10_setStanding_14 : decode cX10_setStanding 14 = .ok (.aload_n 0, 1) := by decide +kernel
theorem dX10_setStanding_15 : decode cX10_setStanding 15 = .ok (.getfield 10, 3) := by decide +kernel
theorem dX10_setStanding_18 : decode cX10_setStanding 18 = .ok (.getfield 105, 3) := by decide +kernel
theorem dX10_setStanding_21 : decode cX10_setStanding 21 = .ok (.iload_n 1, 1) := by decide +kernel
theorem dX10_setStanding_22 : decode cX10_setStanding 22 = .ok (.invokestatic 108, 3) := by decide +kernel
theorem dX10_setStanding_25 : decode cX10_setStanding 25 = .ok (.istore_n 3, 1) := by decide +kernel
theorem dX10_setStanding_26 : decode cX10_setStanding 26 = .ok (.aload_n 0, 1) := by decide +kernel
theorem dX10_setStanding_27 : decode cX10_setStanding 27 = .ok (.getfield 10, 3) := by decide +kernel
theorem dX10_setStanding_30 : decode cX10_setStanding 30 = .ok (.getfield 105, 3) := by decide +kernel
theorem dX10_setStanding_33 : decode cX10_setStanding 33 = .ok (.iload_n 1, 1) := by decide +kernel
theorem dX10_setStanding_34 : decode cX10_setStanding 34 = .ok (.invokestatic 112, 3) := by decide +kernel
theorem dX10_setStanding_37 : decode cX10_setStanding 37 = .ok (.istore 4, 2) := by decide +kernel
theorem dX10_setStanding_39 : decode cX10_setStanding 39 = .ok (.aload_n 0, 1) := by decide +kernel
theorem dX10_setStanding_40 : decode cX10_setStanding 40 = .ok (.getfield 10, 3) := by decide +kernel
theorem dX10_setStanding_43 : decode cX10_setStanding 43 = .ok (.iload_n 2, 1) := by decide +kernel
theorem dX10_setStanding_44 : decode cX10_setStanding 44 = .ok (.ifCond .eq 12, 3) := by decide +kernel
theorem dX10_setStanding_47 : decode cX10_setStanding 47 = .ok (.iload 4, 2) := by decide +kernel
theorem dX10_setStanding_49 : decode cX10_setStanding 49 = .ok (.iconst 1, 1) := by decide +kernel
theorem dX10_setStanding_50 : decode cX10_setStanding 50 = .ok (.iload_n 1, 1) := by decide +kernel
theorem dX10_setStanding_51 : decode cX10_setStanding 51 = .ok (.ishl, 1) := by decide +kernel
theorem dX10_setStanding_52 : decode cX10_setStanding 52 = .ok (.ior, 1) := by decide +kernel
theorem dX10_setStanding_53 : decode cX10_setStanding 53 = .ok (.goto 5, 3) := by decide +kernel
theorem dX10_setStanding_56 : decode cX10_setStanding 56 = .ok (.iload 4, 2) := by decide +kernel
theorem dX10_setStanding_58 : decode cX10_setStanding 58 = .ok (.putfield 105, 3) := by decide +kernel
theorem dX10_setStanding_61 : decode cX10_setStanding 61 = .ok (.iload_n 3, 1) := by decide +kernel
theorem dX10_setStanding_62 : decode cX10_setStanding 62 = .ok (.ifCond .eq 7, 3) := by decide +kernel
theorem dX10_setStanding_65 : decode cX10_setStanding 65 = .ok (.iconst 1, 1) := by decide +kernel
theorem dX10_setStanding_66 : decode cX10_setStanding 66 = .ok (.goto 4, 3) := by decide +kernel
theorem dX10_setStanding_69 : decode cX10_setStanding 69 = .ok (.iconst 0, 1) := by decide +kernel
theorem dX10_setStanding_70 : decode cX10_setStanding 70 = .ok (.ireturn, 1) := by decide +kernel
theorem dX10_standing_0 : decode cX10_standing 0 = .ok (.aload_n 0, 1) := by decide +kernel
theorem dX10_standing_1 : decode cX10_standing 1 = .ok (.getfield 10, 3) := by decide +kernel
theorem dX10_standing_4 : decode cX10_standing 4 = .ok (.getfield 105, 3) := by decide +kernel
theorem dX10_standing_7 : decode cX10_standing 7 = .ok (.ireturn, 1) := by decide +kernel
theorem dX10_groupCount_0 : decode cX10_groupCount 0 = .ok (.aload_n 0, 1) := by decide +kernel
theorem dX10_groupCount_1 : decode cX10_groupCount 1 = .ok (.getfield 10, 3) := by decide +kernel
theorem dX10_groupCount_4 : decode cX10_groupCount 4 = .ok (.getfield 68, 3) := by decide +kernel
theorem dX10_groupCount_7 : decode cX10_groupCount 7 = .ok (.ireturn, 1) := by decide +kernel
theorem dX10_voters_0 : decode cX10_voters 0 = .ok (.aload_n 0, 1) := by decide +kernel
theorem dX10_voters_1 : decode cX10_voters 1 = .ok (.getfield 10, 3) := by decide +kernel
theorem dX10_voters_4 : decode cX10_voters 4 = .ok (.iload_n 1, 1) := by decide +kernel
theorem dX10_voters_5 : decode cX10_voters 5 = .ok (.invokevirtual 72, 3) := by decide +kernel
theorem dX10_voters_8 : decode cX10_voters 8 = .ok (.ifCond .eq 14, 3) := by decide +kernel
theorem dX10_voters_11 : decode cX10_voters 11 = .ok (.aload_n 0, 1) := by decide +kernel
theorem dX10_voters_12 : decode cX10_voters 12 = .ok (.getfield 10, 3) := by decide +kernel
theorem dX10_voters_15 : decode cX10_voters 15 = .ok (.iload_n 1, 1) := by decide +kernel
theorem dX10_voters_16 : decode cX10_voters 16 = .ok (.invokevirtual 80, 3) := by decide +kernel
theorem dX10_voters_19 : decode cX10_voters 19 = .ok (.goto 5, 3) := by decide +kernel
theorem dX10_voters_22 : decode cX10_voters 22 = .ok (.ldc 75, 2) := by decide +kernel
theorem dX10_voters_24 : decode cX10_voters 24 = .ok (.ireturn, 1) := by decide +kernel
theorem dX10_ballot_0 : decode cX10_ballot 0 = .ok (.aload_n 0, 1) := by decide +kernel
theorem dX10_ballot_1 : decode cX10_ballot 1 = .ok (.getfield 10, 3) := by decide +kernel
theorem dX10_ballot_4 : decode cX10_ballot 4 = .ok (.iload_n 1, 1) := by decide +kernel
theorem dX10_ballot_5 : decode cX10_ballot 5 = .ok (.invokevirtual 72, 3) := by decide +kernel
theorem dX10_ballot_8 : decode cX10_ballot 8 = .ok (.ifCond .eq 17, 3) := by decide +kernel
theorem dX10_ballot_11 : decode cX10_ballot 11 = .ok (.aload_n 0, 1) := by decide +kernel
theorem dX10_ballot_12 : decode cX10_ballot 12 = .ok (.getfield 10, 3) := by decide +kernel
theorem dX10_ballot_15 : decode cX10_ballot 15 = .ok (.iload_n 1, 1) := by decide +kernel
theorem dX10_ballot_16 : decode cX10_ballot 16 = .ok (.invokevirtual 83, 3) := by decide +kernel
theorem dX10_ballot_19 : decode cX10_ballot 19 = .ok (.invokestatic 97, 3) := by decide +kernel
theorem dX10_ballot_22 : decode cX10_ballot 22 = .ok (.goto 5, 3) := by decide +kernel
theorem dX10_ballot_25 : decode cX10_ballot 25 = .ok (.ldc 75, 2) := by decide +kernel
theorem dX10_ballot_27 : decode cX10_ballot 27 = .ok (.ireturn, 1) := by decide +kernel
theorem dX10_allVoters_0 : decode cX10_allVoters 0 = .ok (.aload_n 0, 1) := by decide +kernel
theorem dX10_allVoters_1 : decode cX10_allVoters 1 = .ok (.getfield 10, 3) := by decide +kernel
theorem dX10_allVoters_4 : decode cX10_allVoters 4 = .ok (.invokevirtual 115, 3) := by decide +kernel
theorem dX10_allVoters_7 : decode cX10_allVoters 7 = .ok (.ireturn, 1) := by decide +kernel
theorem dX10_pair_0 : decode cX10_pair 0 = .ok (.iload_n 1, 1) := by decide +kernel
theorem dX10_pair_1 : decode cX10_pair 1 = .ok (.invokestatic 100, 3) := by decide +kernel
theorem dX10_pair_4 : decode cX10_pair 4 = .ok (.ifCond .eq 10, 3) := by decide +kernel
theorem dX10_pair_7 : decode cX10_pair 7 = .ok (.iload_n 2, 1) := by decide +kernel
theorem dX10_pair_8 : decode cX10_pair 8 = .ok (.invokestatic 100, 3) := by decide +kernel
theorem dX10_pair_11 : decode cX10_pair 11 = .ok (.ifCond .ne 6, 3) := by decide +kernel
theorem dX10_pair_14 : decode cX10_pair 14 = .ok (.ldc 75, 2) := by decide +kernel
theorem dX10_pair_16 : decode cX10_pair 16 = .ok (.ireturn, 1) := by decide +kernel
theorem dX10_pair_17 : decode cX10_pair 17 = .ok (.aload_n 0, 1) := by decide +kernel
theorem dX10_pair_18 : decode cX10_pair 18 = .ok (.iload_n 1, 1) := by decide +kernel
theorem dX10_pair_19 : decode cX10_pair 19 = .ok (.iload_n 2, 1) := by decide +kernel
theorem dX10_pair_20 : decode cX10_pair 20 = .ok (.invokevirtual 118, 3) := by decide +kernel
theorem dX10_pair_23 : decode cX10_pair 23 = .ok (.ifCond .ne 6, 3) := by decide +kernel
theorem dX10_pair_26 : decode cX10_pair 26 = .ok (.ldc 121, 2) := by decide +kernel
theorem dX10_pair_28 : decode cX10_pair 28 = .ok (.ireturn, 1) := by decide +kernel
theorem dX10_pair_29 : decode cX10_pair 29 = .ok (.aload_n 0, 1) := by decide +kernel
theorem dX10_pair_30 : decode cX10_pair 30 = .ok (.invokevirtual 122, 3) := by decide +kernel
theorem dX10_pair_33 : decode cX10_pair 33 = .ok (.aload_n 0, 1) := by decide +kernel
theorem dX10_pair_34 : decode cX10_pair 34 = .ok (.getfield 30, 3) := by decide +kernel
theorem dX10_pair_37 : decode cX10_pair 37 = .ok (.iload_n 1, 1) := by decide +kernel
theorem dX10_pair_38 : decode cX10_pair 38 = .ok (.iload_n 2, 1) := by decide +kernel
theorem dX10_pair_39 : decode cX10_pair 39 = .ok (.invokevirtual 125, 3) := by decide +kernel
theorem dX10_pair_42 : decode cX10_pair 42 = .ok (.ireturn, 1) := by decide +kernel
theorem dX10_winners_0 : decode cX10_winners 0 = .ok (.iload_n 1, 1) := by decide +kernel
theorem dX10_winners_1 : decode cX10_winners 1 = .ok (.invokestatic 128, 3) := by decide +kernel
theorem dX10_winners_4 : decode cX10_winners 4 = .ok (.ifCond .ne 6, 3) := by decide +kernel
theorem dX10_winners_7 : decode cX10_winners 7 = .ok (.ldc 75, 2) := by decide +kernel
theorem dX10_winners_9 : decode cX10_winners 9 = .ok (.ireturn, 1) := by decide +kernel
theorem dX10_winners_10 : decode cX10_winners 10 = .ok (.aload_n 0, 1) := by decide +kernel
theorem dX10_winners_11 : decode cX10_winners 11 = .ok (.invokevirtual 122, 3) := by decide +kernel
theorem dX10_winners_14 : decode cX10_winners 14 = .ok (.aload_n 0, 1) := by decide +kernel
theorem dX10_winners_15 : decode cX10_winners 15 = .ok (.getfield 37, 3) := by decide +kernel
theorem dX10_winners_18 : decode cX10_winners 18 = .ok (.iload_n 1, 1) := by decide +kernel
theorem dX10_winners_19 : decode cX10_winners 19 = .ok (.aload_n 0, 1) := by decide +kernel
theorem dX10_winners_20 : decode cX10_winners 20 = .ok (.getfield 30, 3) := by decide +kernel
theorem dX10_winners_23 : decode cX10_winners 23 = .ok (.invokevirtual 131, 3) := by decide +kernel
theorem dX10_winners_26 : decode cX10_winners 26 = .ok (.ireturn, 1) := by decide +kernel
theorem dX10_winner_0 : decode cX10_winner 0 = .ok (.iload_n 1, 1) := by decide +kernel
theorem dX10_winner_1 : decode cX10_winner 1 = .ok (.invokestatic 128, 3) := by decide +kernel
theorem dX10_winner_4 : decode cX10_winner 4 = .ok (.ifCond .ne 6, 3) := by decide +kernel
theorem dX10_winner_7 : decode cX10_winner 7 = .ok (.ldc 75, 2) := by decide +kernel
theorem dX10_winner_9 : decode cX10_winner 9 = .ok (.ireturn, 1) := by decide +kernel
theorem dX10_winner_10 : decode cX10_winner 10 = .ok (.aload_n 0, 1) := by decide +kernel
theorem dX10_winner_11 : decode cX10_winner 11 = .ok (.invokevirtual 122, 3) := by decide +kernel
theorem dX10_winner_14 : decode cX10_winner 14 = .ok (.aload_n 0, 1) := by decide +kernel
theorem dX10_winner_15 : decode cX10_winner 15 = .ok (.getfield 37, 3) := by decide +kernel
theorem dX10_winner_18 : decode cX10_winner 18 = .ok (.iload_n 1, 1) := by decide +kernel
theorem dX10_winner_19 : decode cX10_winner 19 = .ok (.aload_n 0, 1) := by decide +kernel
theorem dX10_winner_20 : decode cX10_winner 20 = .ok (.getfield 30, 3) := by decide +kernel
theorem dX10_winner_23 : decode cX10_winner 23 = .ok (.invokevirtual 135, 3) := by decide +kernel
theorem dX10_winner_26 : decode cX10_winner 26 = .ok (.ireturn, 1) := by decide +kernel
theorem dX10_points_0 : decode cX10_points 0 = .ok (.iload_n 1, 1) := by decide +kernel
theorem dX10_points_1 : decode cX10_points 1 = .ok (.invokestatic 128, 3) := by decide +kernel
theorem dX10_points_4 : decode cX10_points 4 = .ok (.ifCond .eq 10, 3) := by decide +kernel
theorem dX10_points_7 : decode cX10_points 7 = .ok (.iload_n 2, 1) := by decide +kernel
theorem dX10_points_8 : decode cX10_points 8 = .ok (.invokestatic 100, 3) := by decide +kernel
theorem dX10_points_11 : decode cX10_points 11 = .ok (.ifCond .ne 6, 3) := by decide +kernel
theorem dX10_points_14 : decode cX10_points 14 = .ok (.ldc 75, 2) := by decide +kernel
theorem dX10_points_16 : decode cX10_points 16 = .ok (.ireturn, 1) := by decide +kernel
theorem dX10_points_17 : decode cX10_points 17 = .ok (.iload_n 1, 1) := by decide +kernel
theorem dX10_points_18 : decode cX10_points 18 = .ok (.invokestatic 138, 3) := by decide +kernel
theorem dX10_points_21 : decode cX10_points 21 = .ok (.ifCond .eq 17, 3) := by decide +kernel
theorem dX10_points_24 : decode cX10_points 24 = .ok (.aload_n 0, 1) := by decide +kernel
theorem dX10_points_25 : decode cX10_points 25 = .ok (.getfield 10, 3) := by decide +kernel
theorem dX10_points_28 : decode cX10_points 28 = .ok (.getfield 105, 3) := by decide +kernel
theorem dX10_points_31 : decode cX10_points 31 = .ok (.iload_n 2, 1) := by decide +kernel
theorem dX10_points_32 : decode cX10_points 32 = .ok (.invokestatic 108, 3) := by decide +kernel
theorem dX10_points_35 : decode cX10_points 35 = .ok (.ifCond .ne 6, 3) := by decide +kernel
theorem dX10_points_38 : decode cX10_points 38 = .ok (.ldc 121, 2) := by decide +kernel
theorem dX10_points_40 : decode cX10_points 40 = .ok (.ireturn, 1) := by decide +kernel
theorem dX10_points_41 : decode cX10_points 41 = .ok (.aload_n 0, 1) := by decide +kernel
theorem dX10_points_42 : decode cX10_points 42 = .ok (.invokevirtual 122, 3) := by decide +kernel
theorem dX10_points_45 : decode cX10_points 45 = .ok (.aload_n 0, 1) := by decide +kernel
theorem dX10_points_46 : decode cX10_points 46 = .ok (.getfield 37, 3) := by decide +kernel
theorem dX10_points_49 : decode cX10_points 49 = .ok (.getfield 141, 3) := by decide +kernel
theorem dX10_points_52 : decode cX10_points 52 = .ok (.iload_n 1, 1) := by decide +kernel
theorem dX10_points_53 : decode cX10_points 53 = .ok (.aload_n 0, 1) := by decide +kernel
theorem dX10_points_54 : decode cX10_points 54 = .ok (.getfield 30, 3) := by decide +kernel
theorem dX10_points_57 : decode cX10_points 57 = .ok (.invokevirtual 145, 3) := by decide +kernel
theorem dX10_points_60 : decode cX10_points 60 = .ok (.aload_n 0, 1) := by decide +kernel
theorem dX10_points_61 : decode cX10_points 61 = .ok (.getfield 37, 3) := by decide +kernel
theorem dX10_points_64 : decode cX10_points 64 = .ok (.getfield 141, 3) := by decide +kernel
theorem dX10_points_67 : decode cX10_points 67 = .ok (.iload_n 2, 1) := by decide +kernel
theorem dX10_points_68 : decode cX10_points 68 = .ok (.invokevirtual 151, 3) := by decide +kernel
theorem dX10_points_71 : decode cX10_points 71 = .ok (.ireturn, 1) := by decide +kernel
theorem dX10_beatsAll_0 : decode cX10_beatsAll 0 = .ok (.aload_n 0, 1) := by decide +kernel
theorem dX10_beatsAll_1 : decode cX10_beatsAll 1 = .ok (.invokevirtual 122, 3) := by decide +kernel
theorem dX10_beatsAll_4 : decode cX10_beatsAll 4 = .ok (.aload_n 0, 1) := by decide +kernel
theorem dX10_beatsAll_5 : decode cX10_beatsAll 5 = .ok (.getfield 37, 3) := by decide +kernel
theorem dX10_beatsAll_8 : decode cX10_beatsAll 8 = .ok (.getfield 154, 3) := by decide +kernel
theorem dX10_beatsAll_11 : decode cX10_beatsAll 11 = .ok (.aload_n 0, 1) := by decide +kernel
theorem dX10_beatsAll_12 : decode cX10_beatsAll 12 = .ok (.getfield 30, 3) := by decide +kernel
theorem dX10_beatsAll_15 : decode cX10_beatsAll 15 = .ok (.invokevirtual 158, 3) := by decide +kernel
theorem dX10_beatsAll_18 : decode cX10_beatsAll 18 = .ok (.invokestatic 164, 3) := by decide +kernel
theorem dX10_beatsAll_21 : decode cX10_beatsAll 21 = .ok (.ireturn, 1) := by decide +kernel
theorem dX10_losesToAll_0 : decode cX10_losesToAll 0 = .ok (.aload_n 0, 1) := by decide +kernel
theorem dX10_losesToAll_1 : decode cX10_losesToAll 1 = .ok (.invokevirtual 122, 3) := by decide +kernel
theorem dX10_losesToAll_4 : decode cX10_losesToAll 4 = .ok (.aload_n 0, 1) := by decide +kernel
theorem dX10_losesToAll_5 : decode cX10_losesToAll 5 = .ok (.getfield 37, 3) := by decide +kernel
theorem dX10_losesToAll_8 : decode cX10_losesToAll 8 = .ok (.getfield 154, 3) := by decide +kernel
theorem dX10_losesToAll_11 : decode cX10_losesToAll 11 = .ok (.aload_n 0, 1) := by decide +kernel
theorem dX10_losesToAll_12 : decode cX10_losesToAll 12 = .ok (.getfield 30, 3) := by decide +kernel
theorem dX10_losesToAll_15 : decode cX10_losesToAll 15 = .ok (.invokevirtual 167, 3) := by decide +kernel
theorem dX10_losesToAll_18 : decode cX10_losesToAll 18 = .ok (.invokestatic 164, 3) := by decide +kernel
theorem dX10_losesToAll_21 : decode cX10_losesToAll 21 = .ok (.ireturn, 1) := by decide +kernel
theorem dX10_smith_0 : decode cX10_smith 0 = .ok (.aload_n 0, 1) := by decide +kernel
theorem dX10_smith_1 : decode cX10_smith 1 = .ok (.invokevirtual 122, 3) := by decide +kernel
theorem dX10_smith_4 : decode cX10_smith 4 = .ok (.aload_n 0, 1) := by decide +kernel
theorem dX10_smith_5 : decode cX10_smith 5 = .ok (.getfield 37, 3) := by decide +kernel
theorem dX10_smith_8 : decode cX10_smith 8 = .ok (.getfield 154, 3) := by decide +kernel
theorem dX10_smith_11 : decode cX10_smith 11 = .ok (.aload_n 0, 1) := by decide +kernel
theorem dX10_smith_12 : decode cX10_smith 12 = .ok (.getfield 30, 3) := by decide +kernel
theorem dX10_smith_15 : decode cX10_smith 15 = .ok (.invokevirtual 170, 3) := by decide +kernel
theorem dX10_smith_18 : decode cX10_smith 18 = .ok (.ireturn, 1) := by decide +kernel
theorem dX10_strength_0 : decode cX10_strength 0 = .ok (.iload_n 1, 1) := by decide +kernel
theorem dX10_strength_1 : decode cX10_strength 1 = .ok (.invokestatic 100, 3) := by decide +kernel
theorem dX10_strength_4 : decode cX10_strength 4 = .ok (.ifCond .eq 10, 3) := by decide +kernel
theorem dX10_strength_7 : decode cX10_strength 7 = .ok (.iload_n 2, 1) := by decide +kernel
theorem dX10_strength_8 : decode cX10_strength 8 = .ok (.invokestatic 100, 3) := by decide +kernel
theorem dX10_strength_11 : decode cX10_strength 11 = .ok (.ifCond .ne 6, 3) := by decide +kernel
theorem dX10_strength_14 : decode cX10_strength 14 = .ok (.ldc 75, 2) := by decide +kernel
theorem dX10_strength_16 : decode cX10_strength 16 = .ok (.ireturn, 1) := by decide +kernel
theorem dX10_strength_17 : decode cX10_strength 17 = .ok (.aload_n 0, 1) := by decide +kernel
theorem dX10_strength_18 : decode cX10_strength 18 = .ok (.iload_n 1, 1) := by decide +kernel
theorem dX10_strength_19 : decode cX10_strength 19 = .ok (.iload_n 2, 1) := by decide +kernel
theorem dX10_strength_20 : decode cX10_strength 20 = .ok (.invokevirtual 118, 3) := by decide +kernel
theorem dX10_strength_23 : decode cX10_strength 23 = .ok (.ifCond .eq 8, 3) := by decide +kernel
theorem dX10_strength_26 : decode cX10_strength 26 = .ok (.iload_n 1, 1) := by decide +kernel
theorem dX10_strength_27 : decode cX10_strength 27 = .ok (.iload_n 2, 1) := by decide +kernel
theorem dX10_strength_28 : decode cX10_strength 28 = .ok (.if_icmp .ne 6, 3) := by decide +kernel
theorem dX10_strength_31 : decode cX10_strength 31 = .ok (.ldc 121, 2) := by decide +kernel
theorem dX10_strength_33 : decode cX10_strength 33 = .ok (.ireturn, 1) := by decide +kernel
theorem dX10_strength_34 : decode cX10_strength 34 = .ok (.aload_n 0, 1) := by decide +kernel
theorem dX10_strength_35 : decode cX10_strength 35 = .ok (.invokevirtual 122, 3) := by decide +kernel
theorem dX10_strength_38 : decode cX10_strength 38 = .ok (.aload_n 0, 1) := by decide +kernel
theorem dX10_strength_39 : decode cX10_strength 39 = .ok (.getfield 37, 3) := by decide +kernel
theorem dX10_strength_42 : decode cX10_strength 42 = .ok (.getfield 154, 3) := by decide +kernel
theorem dX10_strength_45 : decode cX10_strength 45 = .ok (.aload_n 0, 1) := by decide +kernel
theorem dX10_strength_46 : decode cX10_strength 46 = .ok (.getfield 30, 3) := by decide +kernel
theorem dX10_strength_49 : decode cX10_strength 49 = .ok (.invokevirtual 173, 3) := by decide +kernel
theorem dX10_strength_52 : decode cX10_strength 52 = .ok (.aload_n 0, 1) := by decide +kernel
theorem dX10_strength_53 : decode cX10_strength 53 = .ok (.getfield 37, 3) := by decide +kernel
theorem dX10_strength_56 : decode cX10_strength 56 = .ok (.getfield 154, 3) := by decide +kernel
theorem dX10_strength_59 : decode cX10_strength 59 = .ok (.iload_n 1, 1) := by decide +kernel
theorem dX10_strength_60 : decode cX10_strength 60 = .ok (.iload_n 2, 1) := by decide +kernel
theorem dX10_strength_61 : decode cX10_strength 61 = .ok (.invokevirtual 177, 3) := by decide +kernel
theorem dX10_strength_64 : decode cX10_strength 64 = .ok (.ireturn, 1) := by decide +kernel
theorem dX10_isLocked_0 : decode cX10_isLocked 0 = .ok (.iload_n 1, 1) := by decide +kernel
theorem dX10_isLocked_1 : decode cX10_isLocked 1 = .ok (.invokestatic 100, 3) := by decide +kernel
theorem dX10_isLocked_4 : decode cX10_isLocked 4 = .ok (.ifCond .eq 10, 3) := by decide +kernel
theorem dX10_isLocked_7 : decode cX10_isLocked 7 = .ok (.iload_n 2, 1) := by decide +kernel
theorem dX10_isLocked_8 : decode cX10_isLocked 8 = .ok (.invokestatic 100, 3) := by decide +kernel
theorem dX10_isLocked_11 : decode cX10_isLocked 11 = .ok (.ifCond .ne 6, 3) := by decide +kernel
theorem dX10_isLocked_14 : decode cX10_isLocked 14 = .ok (.ldc 75, 2) := by decide +kernel
theorem dX10_isLocked_16 : decode cX10_isLocked 16 = .ok (.ireturn, 1) := by decide +kernel
theorem dX10_isLocked_17 : decode cX10_isLocked 17 = .ok (.aload_n 0, 1) := by decide +kernel
theorem dX10_isLocked_18 : decode cX10_isLocked 18 = .ok (.iload_n 1, 1) := by decide +kernel
theorem dX10_isLocked_19 : decode cX10_isLocked 19 = .ok (.iload_n 2, 1) := by decide +kernel
theorem dX10_isLocked_20 : decode cX10_isLocked 20 = .ok (.invokevirtual 118, 3) := by decide +kernel
theorem dX10_isLocked_23 : decode cX10_isLocked 23 = .ok (.ifCond .ne 6, 3) := by decide +kernel
theorem dX10_isLocked_26 : decode cX10_isLocked 26 = .ok (.ldc 121, 2) := by decide +kernel
theorem dX10_isLocked_28 : decode cX10_isLocked 28 = .ok (.ireturn, 1) := by decide +kernel
theorem dX10_isLocked_29 : decode cX10_isLocked 29 = .ok (.aload_n 0, 1) := by decide +kernel
theorem dX10_isLocked_30 : decode cX10_isLocked 30 = .ok (.invokevirtual 122, 3) := by decide +kernel
theorem dX10_isLocked_33 : decode cX10_isLocked 33 = .ok (.aload_n 0, 1) := by decide +kernel
theorem dX10_isLocked_34 : decode cX10_isLocked 34 = .ok (.getfield 37, 3) := by decide +kernel
theorem dX10_isLocked_37 : decode cX10_isLocked 37 = .ok (.getfield 154, 3) := by decide +kernel
theorem dX10_isLocked_40 : decode cX10_isLocked 40 = .ok (.aload_n 0, 1) := by decide +kernel
theorem dX10_isLocked_41 : decode cX10_isLocked 41 = .ok (.getfield 30, 3) := by decide +kernel
theorem dX10_isLocked_44 : decode cX10_isLocked 44 = .ok (.invokevirtual 180, 3) := by decide +kernel
theorem dX10_isLocked_47 : decode cX10_isLocked 47 = .ok (.aload_n 0, 1) := by decide +kernel
theorem dX10_isLocked_48 : decode cX10_isLocked 48 = .ok (.getfield 37, 3) := by decide +kernel
theorem dX10_isLocked_51 : decode cX10_isLocked 51 = .ok (.getfield 154, 3) := by decide +kernel
theorem dX10_isLocked_54 : decode cX10_isLocked 54 = .ok (.iload_n 1, 1) := by decide +kernel
theorem dX10_isLocked_55 : decode cX10_isLocked 55 = .ok (.iload_n 2, 1) := by decide +kernel
theorem dX10_isLocked_56 : decode cX10_isLocked 56 = .ok (.invokevirtual 183, 3) := by decide +kernel
theorem dX10_isLocked_59 : decode cX10_isLocked 59 = .ok (.ifCond .eq 7, 3) := by decide +kernel
theorem dX10_isLocked_62 : decode cX10_isLocked 62 = .ok (.iconst 1, 1) := by decide +kernel
theorem dX10_isLocked_63 : decode cX10_isLocked 63 = .ok (.goto 4, 3) := by decide +kernel
theorem dX10_isLocked_66 : decode cX10_isLocked 66 = .ok (.iconst 0, 1) := by decide +kernel
theorem dX10_isLocked_67 : decode cX10_isLocked 67 = .ok (.ireturn, 1) := by decide +kernel
theorem dX10_rounds_0 : decode cX10_rounds 0 = .ok (.iload_n 1, 1) := by decide +kernel
theorem dX10_rounds_1 : decode cX10_rounds 1 = .ok (.invokestatic 128, 3) := by decide +kernel
theorem dX10_rounds_4 : decode cX10_rounds 4 = .ok (.ifCond .ne 6, 3) := by decide +kernel
theorem dX10_rounds_7 : decode cX10_rounds 7 = .ok (.ldc 75, 2) := by decide +kernel
theorem dX10_rounds_9 : decode cX10_rounds 9 = .ok (.ireturn, 1) := by decide +kernel
theorem dX10_rounds_10 : decode cX10_rounds 10 = .ok (.iload_n 1, 1) := by decide +kernel
theorem dX10_rounds_11 : decode cX10_rounds 11 = .ok (.invokestatic 186, 3) := by decide +kernel
theorem dX10_rounds_14 : decode cX10_rounds 14 = .ok (.ifCond .ne 6, 3) := by decide +kernel
theorem dX10_rounds_17 : decode cX10_rounds 17 = .ok (.ldc 121, 2) := by decide +kernel
theorem dX10_rounds_19 : decode cX10_rounds 19 = .ok (.ireturn, 1) := by decide +kernel
theorem dX10_rounds_20 : decode cX10_rounds 20 = .ok (.aload_n 0, 1) := by decide +kernel
theorem dX10_rounds_21 : decode cX10_rounds 21 = .ok (.invokevirtual 122, 3) := by decide +kernel
theorem dX10_rounds_24 : decode cX10_rounds 24 = .ok (.aload_n 0, 1) := by decide +kernel
theorem dX10_rounds_25 : decode cX10_rounds 25 = .ok (.getfield 37, 3) := by decide +kernel
theorem dX10_rounds_28 : decode cX10_rounds 28 = .ok (.getfield 189, 3) := by decide +kernel
theorem dX10_rounds_31 : decode cX10_rounds 31 = .ok (.iload_n 1, 1) := by decide +kernel
theorem dX10_rounds_32 : decode cX10_rounds 32 = .ok (.aload_n 0, 1) := by decide +kernel
theorem dX10_rounds_33 : decode cX10_rounds 33 = .ok (.getfield 30, 3) := by decide +kernel
theorem dX10_rounds_36 : decode cX10_rounds 36 = .ok (.invokevirtual 193, 3) := by decide +kernel
theorem dX10_rounds_39 : decode cX10_rounds 39 = .ok (.pop, 1) := by decide +kernel
theorem dX10_rounds_40 : decode cX10_rounds 40 = .ok (.aload_n 0, 1) := by decide +kernel
theorem dX10_rounds_41 : decode cX10_rounds 41 = .ok (.getfield 37, 3) := by decide +kernel
theorem dX10_rounds_44 : decode cX10_rounds 44 = .ok (.getfield 189, 3) := by decide +kernel
theorem dX10_rounds_47 : decode cX10_rounds 47 = .ok (.getfield 198, 3) := by decide +kernel
theorem dX10_rounds_50 : decode cX10_rounds 50 = .ok (.ireturn, 1) := by decide +kernel
theorem dX10_leaves_0 : decode cX10_leaves 0 = .ok (.iload_n 1, 1) := by decide +kernel
theorem dX10_leaves_1 : decode cX10_leaves 1 = .ok (.invokestatic 128, 3) := by decide +kernel
theorem dX10_leaves_4 : decode cX10_leaves 4 = .ok (.ifCond .ne 6, 3) := by decide +kernel
theorem dX10_leaves_7 : decode cX10_leaves 7 = .ok (.ldc 75, 2) := by decide +kernel
theorem dX10_leaves_9 : decode cX10_leaves 9 = .ok (.ireturn, 1) := by decide +kernel
theorem dX10_leaves_10 : decode cX10_leaves 10 = .ok (.iload_n 1, 1) := by decide +kernel
theorem dX10_leaves_11 : decode cX10_leaves 11 = .ok (.invokestatic 186, 3) := by decide +kernel
theorem dX10_leaves_14 : decode cX10_leaves 14 = .ok (.ifCond .ne 6, 3) := by decide +kernel
theorem dX10_leaves_17 : decode cX10_leaves 17 = .ok (.ldc 121, 2) := by decide +kernel
theorem dX10_leaves_19 : decode cX10_leaves 19 = .ok (.ireturn, 1) := by decide +kernel
theorem dX10_leaves_20 : decode cX10_leaves 20 = .ok (.aload_n 0, 1) := by decide +kernel
theorem dX10_leaves_21 : decode cX10_leaves 21 = .ok (.invokevirtual 122, 3) := by decide +kernel
theorem dX10_leaves_24 : decode cX10_leaves 24 = .ok (.aload_n 0, 1) := by decide +kernel
theorem dX10_leaves_25 : decode cX10_leaves 25 = .ok (.getfield 37, 3) := by decide +kernel
theorem dX10_leaves_28 : decode cX10_leaves 28 = .ok (.getfield 189, 3) := by decide +kernel
theorem dX10_leaves_31 : decode cX10_leaves 31 = .ok (.iload_n 1, 1) := by decide +kernel
theorem dX10_leaves_32 : decode cX10_leaves 32 = .ok (.aload_n 0, 1) := by decide +kernel
theorem dX10_leaves_33 : decode cX10_leaves 33 = .ok (.getfield 30, 3) := by decide +kernel
theorem dX10_leaves_36 : decode cX10_leaves 36 = .ok (.invokevirtual 193, 3) := by decide +kernel
theorem dX10_leaves_39 : decode cX10_leaves 39 = .ok (.pop, 1) := by decide +kernel
theorem dX10_leaves_40 : decode cX10_leaves 40 = .ok (.aload_n 0, 1) := by decide +kernel
theorem dX10_leaves_41 : decode cX10_leaves 41 = .ok (.getfield 37, 3) := by decide +kernel
theorem dX10_leaves_44 : decode cX10_leaves 44 = .ok (.getfield 189, 3) := by decide +kernel
theorem dX10_leaves_47 : decode cX10_leaves 47 = .ok (.iload_n 2, 1) := by decide +kernel
theorem dX10_leaves_48 : decode cX10_leaves 48 = .ok (.invokevirtual 201, 3) := by decide +kernel
theorem dX10_leaves_51 : decode cX10_leaves 51 = .ok (.ifCond .eq 17, 3) := by decide +kernel
theorem dX10_leaves_54 : decode cX10_leaves 54 = .ok (.aload_n 0, 1) := by decide +kernel
theorem dX10_leaves_55 : decode cX10_leaves 55 = .ok (.getfield 37, 3) := by decide +kernel
theorem dX10_leaves_58 : decode cX10_leaves 58 = .ok (.getfield 189, 3) := by decide +kernel
theorem dX10_leaves_61 : decode cX10_leaves 61 = .ok (.iload_n 2, 1) := by decide +kernel
theorem dX10_leaves_62 : decode cX10_leaves 62 = .ok (.invokevirtual 202, 3) := by decide +kernel
theorem dX10_leaves_65 : decode cX10_leaves 65 = .ok (.goto 5, 3) := by decide +kernel
theorem dX10_leaves_68 : decode cX10_leaves 68 = .ok (.ldc 75, 2) := by decide +kernel
theorem dX10_leaves_70 : decode cX10_leaves 70 = .ok (.ireturn, 1) := by decide +kernel
theorem dX10_tally_0 : decode cX10_tally 0 = .ok (.iload_n 1, 1) := by decide +kernel
theorem dX10_tally_1 : decode cX10_tally 1 = .ok (.invokestatic 128, 3) := by decide +kernel
theorem dX10_tally_4 : decode cX10_tally 4 = .ok (.ifCond .eq 10, 3) := by decide +kernel
theorem dX10_tally_7 : decode cX10_tally 7 = .ok (.iload_n 3, 1) := by decide +kernel
theorem dX10_tally_8 : decode cX10_tally 8 = .ok (.invokestatic 100, 3) := by decide +kernel
theorem dX10_tally_11 : decode cX10_tally 11 = .ok (.ifCond .ne 6, 3) := by decide +kernel
theorem dX10_tally_14 : decode cX10_tally 14 = .ok (.ldc 75, 2) := by decide +kernel
theorem dX10_tally_16 : decode cX10_tally 16 = .ok (.ireturn, 1) := by decide +kernel
theorem dX10_tally_17 : decode cX10_tally 17 = .ok (.iload_n 1, 1) := by decide +kernel
theorem dX10_tally_18 : decode cX10_tally 18 = .ok (.invokestatic 186, 3) := by decide +kernel
theorem dX10_tally_21 : decode cX10_tally 21 = .ok (.ifCond .ne 6, 3) := by decide +kernel
theorem dX10_tally_24 : decode cX10_tally 24 = .ok (.ldc 121, 2) := by decide +kernel
theorem dX10_tally_26 : decode cX10_tally 26 = .ok (.ireturn, 1) := by decide +kernel
theorem dX10_tally_27 : decode cX10_tally 27 = .ok (.aload_n 0, 1) := by decide +kernel
theorem dX10_tally_28 : decode cX10_tally 28 = .ok (.invokevirtual 122, 3) := by decide +kernel
theorem dX10_tally_31 : decode cX10_tally 31 = .ok (.aload_n 0, 1) := by decide +kernel
theorem dX10_tally_32 : decode cX10_tally 32 = .ok (.getfield 37, 3) := by decide +kernel
theorem dX10_tally_35 : decode cX10_tally 35 = .ok (.getfield 189, 3) := by decide +kernel
theorem dX10_tally_38 : decode cX10_tally 38 = .ok (.iload_n 1, 1) := by decide +kernel
theorem dX10_tally_39 : decode cX10_tally 39 = .ok (.aload_n 0, 1) := by decide +kernel
theorem dX10_tally_40 : decode cX10_tally 40 = .ok (.getfield 30, 3) := by decide +kernel
theorem dX10_tally_43 : decode cX10_tally 43 = .ok (.invokevirtual 193, 3) := by decide +kernel
theorem dX10_tally_46 : decode cX10_tally 46 = .ok (.pop, 1) := by decide +kernel
theorem dX10_tally_47 : decode cX10_tally 47 = .ok (.aload_n 0, 1) := by decide +kernel
theorem dX10_tally_48 : decode cX10_tally 48 = .ok (.getfield 37, 3) := by decide +kernel
theorem dX10_tally_51 : decode cX10_tally 51 = .ok (.getfield 189, 3) := by decide +kernel
theorem dX10_tally_54 : decode cX10_tally 54 = .ok (.iload_n 2, 1) := by decide +kernel
theorem dX10_tally_55 : decode cX10_tally 55 = .ok (.invokevirtual 201, 3) := by decide +kernel
theorem dX10_tally_58 : decode cX10_tally 58 = .ok (.ifCond .eq 18, 3) := by decide +kernel
theorem dX10_tally_61 : decode cX10_tally 61 = .ok (.aload_n 0, 1) := by decide +kernel
theorem dX10_tally_62 : decode cX10_tally 62 = .ok (.getfield 37, 3) := by decide +kernel
theorem dX10_tally_65 : decode cX10_tally 65 = .ok (.getfield 189, 3) := by decide +kernel
theorem dX10_tally_68 : decode cX10_tally 68 = .ok (.iload_n 2, 1) := by decide +kernel
theorem dX10_tally_69 : decode cX10_tally 69 = .ok (.iload_n 3, 1) := by decide +kernel
theorem dX10_tally_70 : decode cX10_tally 70 = .ok (.invokevirtual 205, 3) := by decide +kernel
theorem dX10_tally_73 : decode cX10_tally 73 = .ok (.goto 5, 3) := by decide +kernel
theorem dX10_tally_76 : decode cX10_tally 76 = .ok (.ldc 75, 2) := by decide +kernel
theorem dX10_tally_78 : decode cX10_tally 78 = .ok (.ireturn, 1) := by decide +kernel
theorem dX10_kemenyValue_0 : decode cX10_kemenyValue 0 = .ok (.aload_n 0, 1) := by decide +kernel
theorem dX10_kemenyValue_1 : decode cX10_kemenyValue 1 = .ok (.invokevirtual 122, 3) := by decide +kernel
theorem dX10_kemenyValue_4 : decode cX10_kemenyValue 4 = .ok (.aload_n 0, 1) := by decide +kernel
theorem dX10_kemenyValue_5 : decode cX10_kemenyValue 5 = .ok (.getfield 37, 3) := by decide +kernel
theorem dX10_kemenyValue_8 : decode cX10_kemenyValue 8 = .ok (.getfield 208, 3) := by decide +kernel
theorem dX10_kemenyValue_11 : decode cX10_kemenyValue 11 = .ok (.aload_n 0, 1) := by decide +kernel
theorem dX10_kemenyValue_12 : decode cX10_kemenyValue 12 = .ok (.getfield 30, 3) := by decide +kernel
theorem dX10_kemenyValue_15 : decode cX10_kemenyValue 15 = .ok (.invokevirtual 212, 3) := by decide +kernel
theorem dX10_kemenyValue_18 : decode cX10_kemenyValue 18 = .ok (.aload_n 0, 1) := by decide +kernel
theorem dX10_kemenyValue_19 : decode cX10_kemenyValue 19 = .ok (.getfield 37, 3) := by decide +kernel
theorem dX10_kemenyValue_22 : decode cX10_kemenyValue 22 = .ok (.getfield 208, 3) := by decide +kernel
theorem dX10_kemenyValue_25 : decode cX10_kemenyValue 25 = .ok (.aload_n 0, 1) := by decide +kernel
theorem dX10_kemenyValue_26 : decode cX10_kemenyValue 26 = .ok (.getfield 10, 3) := by decide +kernel
theorem dX10_kemenyValue_29 : decode cX10_kemenyValue 29 = .ok (.getfield 105, 3) := by decide +kernel
theorem dX10_kemenyValue_32 : decode cX10_kemenyValue 32 = .ok (.invokevirtual 217, 3) := by decide +kernel
theorem dX10_kemenyValue_35 : decode cX10_kemenyValue 35 = .ok (.ireturn, 1) := by decide +kernel
theorem dX10_kemeny_0 : decode cX10_kemeny 0 = .ok (.aload_n 0, 1) := by decide +kernel
theorem dX10_kemeny_1 : decode cX10_kemeny 1 = .ok (.iload_n 1, 1) := by decide +kernel
theorem dX10_kemeny_2 : decode cX10_kemeny 2 = .ok (.invokevirtual 220, 3) := by decide +kernel
theorem dX10_kemeny_5 : decode cX10_kemeny 5 = .ok (.ifCond .ne 6, 3) := by decide +kernel
theorem dX10_kemeny_8 : decode cX10_kemeny 8 = .ok (.ldc 75, 2) := by decide +kernel
theorem dX10_kemeny_10 : decode cX10_kemeny 10 = .ok (.ireturn, 1) := by decide +kernel
theorem dX10_kemeny_11 : decode cX10_kemeny 11 = .ok (.aload_n 0, 1) := by decide +kernel
theorem dX10_kemeny_12 : decode cX10_kemeny 12 = .ok (.invokevirtual 122, 3) := by decide +kernel
theorem dX10_kemeny_15 : decode cX10_kemeny 15 = .ok (.aload_n 0, 1) := by decide +kernel
theorem dX10_kemeny_16 : decode cX10_kemeny 16 = .ok (.getfield 37, 3) := by decide +kernel
theorem dX10_kemeny_19 : decode cX10_kemeny 19 = .ok (.getfield 208, 3) := by decide +kernel
theorem dX10_kemeny_22 : decode cX10_kemeny 22 = .ok (.aload_n 0, 1) := by decide +kernel
theorem dX10_kemeny_23 : decode cX10_kemeny 23 = .ok (.getfield 30, 3) := by decide +kernel
theorem dX10_kemeny_26 : decode cX10_kemeny 26 = .ok (.invokevirtual 212, 3) := by decide +kernel
theorem dX10_kemeny_29 : decode cX10_kemeny 29 = .ok (.aload_n 0, 1) := by decide +kernel
theorem dX10_kemeny_30 : decode cX10_kemeny 30 = .ok (.getfield 37, 3) := by decide +kernel
theorem dX10_kemeny_33 : decode cX10_kemeny 33 = .ok (.getfield 208, 3) := by decide +kernel
theorem dX10_kemeny_36 : decode cX10_kemeny 36 = .ok (.aload_n 0, 1) := by decide +kernel
theorem dX10_kemeny_37 : decode cX10_kemeny 37 = .ok (.getfield 30, 3) := by decide +kernel
theorem dX10_kemeny_40 : decode cX10_kemeny 40 = .ok (.iload_n 1, 1) := by decide +kernel
theorem dX10_kemeny_41 : decode cX10_kemeny 41 = .ok (.invokevirtual 223, 3) := by decide +kernel
theorem dX10_kemeny_44 : decode cX10_kemeny 44 = .ok (.ireturn, 1) := by decide +kernel
theorem dX10_favourite_0 : decode cX10_favourite 0 = .ok (.aload_n 0, 1) := by decide +kernel
theorem dX10_favourite_1 : decode cX10_favourite 1 = .ok (.invokevirtual 122, 3) := by decide +kernel
theorem dX10_favourite_4 : decode cX10_favourite 4 = .ok (.iconst 0, 1) := by decide +kernel
theorem dX10_favourite_5 : decode cX10_favourite 5 = .ok (.istore_n 1, 1) := by decide +kernel
theorem dX10_favourite_6 : decode cX10_favourite 6 = .ok (.iload_n 1, 1) := by decide +kernel
theorem dX10_favourite_7 : decode cX10_favourite 7 = .ok (.aload_n 0, 1) := by decide +kernel
theorem dX10_favourite_8 : decode cX10_favourite 8 = .ok (.getfield 41, 3) := by decide +kernel
theorem dX10_favourite_11 : decode cX10_favourite 11 = .ok (.arraylength, 1) := by decide +kernel
theorem dX10_favourite_12 : decode cX10_favourite 12 = .ok (.if_icmp .ge 16, 3) := by decide +kernel
theorem dX10_favourite_15 : decode cX10_favourite 15 = .ok (.aload_n 0, 1) := by decide +kernel
theorem dX10_favourite_16 : decode cX10_favourite 16 = .ok (.getfield 41, 3) := by decide +kernel
theorem dX10_favourite_19 : decode cX10_favourite 19 = .ok (.iload_n 1, 1) := by decide +kernel
theorem dX10_favourite_20 : decode cX10_favourite 20 = .ok (.iconst 0, 1) := by decide +kernel
theorem dX10_favourite_21 : decode cX10_favourite 21 = .ok (.iastore, 1) := by decide +kernel
theorem dX10_favourite_22 : decode cX10_favourite 22 = .ok (.iinc 1 1, 3) := by decide +kernel
theorem dX10_favourite_25 : decode cX10_favourite 25 = .ok (.goto (-19), 3) := by decide +kernel
theorem dX10_favourite_28 : decode cX10_favourite 28 = .ok (.iconst 0, 1) := by decide +kernel
theorem dX10_favourite_29 : decode cX10_favourite 29 = .ok (.istore_n 1, 1) := by decide +kernel
theorem dX10_favourite_30 : decode cX10_favourite 30 = .ok (.iload_n 1, 1) := by decide +kernel
theorem dX10_favourite_31 : decode cX10_favourite 31 = .ok (.bipush 12, 2) := by decide +kernel
theorem dX10_favourite_33 : decode cX10_favourite 33 = .ok (.if_icmp .ge 45, 3) := by decide +kernel
theorem dX10_favourite_36 : decode cX10_favourite 36 = .ok (.aload_n 0, 1) := by decide +kernel
theorem dX10_favourite_37 : decode cX10_favourite 37 = .ok (.getfield 37, 3) := by decide +kernel
theorem dX10_favourite_40 : decode cX10_favourite 40 = .ok (.iload_n 1, 1) := by decide +kernel
theorem dX10_favourite_41 : decode cX10_favourite 41 = .ok (.aload_n 0, 1) := by decide +kernel
theorem dX10_favourite_42 : decode cX10_favourite 42 = .ok (.getfield 30, 3) := by decide +kernel
theorem dX10_favourite_45 : decode cX10_favourite 45 = .ok (.invokevirtual 135, 3) := by decide +kernel
theorem dX10_favourite_48 : decode cX10_favourite 48 = .ok (.istore_n 2, 1) := by decide +kernel
theorem dX10_favourite_49 : decode cX10_favourite 49 = .ok (.iload_n 2, 1) := by decide +kernel
theorem dX10_favourite_50 : decode cX10_favourite 50 = .ok (.ifCond .lt 22, 3) := by decide +kernel
theorem dX10_favourite_53 : decode cX10_favourite 53 = .ok (.iload_n 2, 1) := by decide +kernel
theorem dX10_favourite_54 : decode cX10_favourite 54 = .ok (.aload_n 0, 1) := by decide +kernel
theorem dX10_favourite_55 : decode cX10_favourite 55 = .ok (.getfield 41, 3) := by decide +kernel
theorem dX10_favourite_58 : decode cX10_favourite 58 = .ok (.arraylength, 1) := by decide +kernel
theorem dX10_favourite_59 : decode cX10_favourite 59 = .ok (.if_icmp .ge 13, 3) := by decide +kernel
theorem dX10_favourite_62 : decode cX10_favourite 62 = .ok (.aload_n 0, 1) := by decide +kernel
theorem dX10_favourite_63 : decode cX10_favourite 63 = .ok (.getfield 41, 3) := by decide +kernel
theorem dX10_favourite_66 : decode cX10_favourite 66 = .ok (.iload_n 2, 1) := by decide +kernel
theorem dX10_favourite_67 : decode cX10_favourite 67 = .ok (.dup2, 1) := by decide +kernel
theorem dX10_favourite_68 : decode cX10_favourite 68 = .ok (.iaload, 1) := by decide +kernel
theorem dX10_favourite_69 : decode cX10_favourite 69 = .ok (.iconst 1, 1) := by decide +kernel
theorem dX10_favourite_70 : decode cX10_favourite 70 = .ok (.iadd, 1) := by decide +kernel
theorem dX10_favourite_71 : decode cX10_favourite 71 = .ok (.iastore, 1) := by decide +kernel
theorem dX10_favourite_72 : decode cX10_favourite 72 = .ok (.iinc 1 1, 3) := by decide +kernel
theorem dX10_favourite_75 : decode cX10_favourite 75 = .ok (.goto (-45), 3) := by decide +kernel
theorem dX10_favourite_78 : decode cX10_favourite 78 = .ok (.ldc 227, 2) := by decide +kernel
theorem dX10_favourite_80 : decode cX10_favourite 80 = .ok (.istore_n 1, 1) := by decide +kernel
theorem dX10_favourite_81 : decode cX10_favourite 81 = .ok (.iconst 0, 1) := by decide +kernel
theorem dX10_favourite_82 : decode cX10_favourite 82 = .ok (.istore_n 2, 1) := by decide +kernel
theorem dX10_favourite_83 : decode cX10_favourite 83 = .ok (.iconst 0, 1) := by decide +kernel
theorem dX10_favourite_84 : decode cX10_favourite 84 = .ok (.istore_n 3, 1) := by decide +kernel
theorem dX10_favourite_85 : decode cX10_favourite 85 = .ok (.iload_n 3, 1) := by decide +kernel
theorem dX10_favourite_86 : decode cX10_favourite 86 = .ok (.aload_n 0, 1) := by decide +kernel
theorem dX10_favourite_87 : decode cX10_favourite 87 = .ok (.getfield 41, 3) := by decide +kernel
theorem dX10_favourite_90 : decode cX10_favourite 90 = .ok (.arraylength, 1) := by decide +kernel
theorem dX10_favourite_91 : decode cX10_favourite 91 = .ok (.if_icmp .ge 28, 3) := by decide +kernel
theorem dX10_favourite_94 : decode cX10_favourite 94 = .ok (.aload_n 0, 1) := by decide +kernel
theorem dX10_favourite_95 : decode cX10_favourite 95 = .ok (.getfield 41, 3) := by decide +kernel
theorem dX10_favourite_98 : decode cX10_favourite 98 = .ok (.iload_n 3, 1) := by decide +kernel
theorem dX10_favourite_99 : decode cX10_favourite 99 = .ok (.iaload, 1) := by decide +kernel
theorem dX10_favourite_100 : decode cX10_favourite 100 = .ok (.iload_n 2, 1) := by decide +kernel
theorem dX10_favourite_101 : decode cX10_favourite 101 = .ok (.if_icmp .le 12, 3) := by decide +kernel
theorem dX10_favourite_104 : decode cX10_favourite 104 = .ok (.aload_n 0, 1) := by decide +kernel
theorem dX10_favourite_105 : decode cX10_favourite 105 = .ok (.getfield 41, 3) := by decide +kernel
theorem dX10_favourite_108 : decode cX10_favourite 108 = .ok (.iload_n 3, 1) := by decide +kernel
theorem dX10_favourite_109 : decode cX10_favourite 109 = .ok (.iaload, 1) := by decide +kernel
theorem dX10_favourite_110 : decode cX10_favourite 110 = .ok (.istore_n 2, 1) := by decide +kernel
theorem dX10_favourite_111 : decode cX10_favourite 111 = .ok (.iload_n 3, 1) := by decide +kernel
theorem dX10_favourite_112 : decode cX10_favourite 112 = .ok (.istore_n 1, 1) := by decide +kernel
theorem dX10_favourite_113 : decode cX10_favourite 113 = .ok (.iinc 3 1, 3) := by decide +kernel
theorem dX10_favourite_116 : decode cX10_favourite 116 = .ok (.goto (-31), 3) := by decide +kernel
theorem dX10_favourite_119 : decode cX10_favourite 119 = .ok (.iload_n 1, 1) := by decide +kernel
theorem dX10_favourite_120 : decode cX10_favourite 120 = .ok (.ireturn, 1) := by decide +kernel
theorem dX10_strategy_0 : decode cX10_strategy 0 = .ok (.iload_n 1, 1) := by decide +kernel
theorem dX10_strategy_1 : decode cX10_strategy 1 = .ok (.invokestatic 128, 3) := by decide +kernel
theorem dX10_strategy_4 : decode cX10_strategy 4 = .ok (.ifCond .eq 14, 3) := by decide +kernel
theorem dX10_strategy_7 : decode cX10_strategy 7 = .ok (.aload_n 0, 1) := by decide +kernel
theorem dX10_strategy_8 : decode cX10_strategy 8 = .ok (.getfield 10, 3) := by decide +kernel
theorem dX10_strategy_11 : decode cX10_strategy 11 = .ok (.iload_n 2, 1) := by decide +kernel
theorem dX10_strategy_12 : decode cX10_strategy 12 = .ok (.invokevirtual 72, 3) := by decide +kernel
theorem dX10_strategy_15 : decode cX10_strategy 15 = .ok (.ifCond .ne 6, 3) := by decide +kernel
theorem dX10_strategy_18 : decode cX10_strategy 18 = .ok (.ldc 75, 2) := by decide +kernel
theorem dX10_strategy_20 : decode cX10_strategy 20 = .ok (.ireturn, 1) := by decide +kernel
theorem dX10_strategy_21 : decode cX10_strategy 21 = .ok (.aload_n 0, 1) := by decide +kernel
theorem dX10_strategy_22 : decode cX10_strategy 22 = .ok (.iload_n 1, 1) := by decide +kernel
theorem dX10_strategy_23 : decode cX10_strategy 23 = .ok (.iload_n 2, 1) := by decide +kernel
theorem dX10_strategy_24 : decode cX10_strategy 24 = .ok (.invokevirtual 228, 3) := by decide +kernel
theorem dX10_strategy_27 : decode cX10_strategy 27 = .ok (.istore_n 3, 1) := by decide +kernel
theorem dX10_strategy_28 : decode cX10_strategy 28 = .ok (.iload_n 3, 1) := by decide +kernel
theorem dX10_strategy_29 : decode cX10_strategy 29 = .ok (.ifCond .ne 6, 3) := by decide +kernel
theorem dX10_strategy_32 : decode cX10_strategy 32 = .ok (.ldc 227, 2) := by decide +kernel
theorem dX10_strategy_34 : decode cX10_strategy 34 = .ok (.ireturn, 1) := by decide +kernel
theorem dX10_strategy_35 : decode cX10_strategy 35 = .ok (.aload_n 0, 1) := by decide +kernel
theorem dX10_strategy_36 : decode cX10_strategy 36 = .ok (.getfield 30, 3) := by decide +kernel
theorem dX10_strategy_39 : decode cX10_strategy 39 = .ok (.iload_n 2, 1) := by decide +kernel
theorem dX10_strategy_40 : decode cX10_strategy 40 = .ok (.aload_n 0, 1) := by decide +kernel
theorem dX10_strategy_41 : decode cX10_strategy 41 = .ok (.getfield 10, 3) := by decide +kernel
theorem dX10_strategy_44 : decode cX10_strategy 44 = .ok (.iload_n 2, 1) := by decide +kernel
theorem dX10_strategy_45 : decode cX10_strategy 45 = .ok (.invokevirtual 80, 3) := by decide +kernel
theorem dX10_strategy_48 : decode cX10_strategy 48 = .ok (.iload_n 3, 1) := by decide +kernel
theorem dX10_strategy_49 : decode cX10_strategy 49 = .ok (.invokevirtual 231, 3) := by decide +kernel
theorem dX10_strategy_52 : decode cX10_strategy 52 = .ok (.aload_n 0, 1) := by decide +kernel
theorem dX10_strategy_53 : decode cX10_strategy 53 = .ok (.getfield 37, 3) := by decide +kernel
theorem dX10_strategy_56 : decode cX10_strategy 56 = .ok (.iload_n 1, 1) := by decide +kernel
theorem dX10_strategy_57 : decode cX10_strategy 57 = .ok (.aload_n 0, 1) := by decide +kernel
theorem dX10_strategy_58 : decode cX10_strategy 58 = .ok (.getfield 30, 3) := by decide +kernel
theorem dX10_strategy_61 : decode cX10_strategy 61 = .ok (.invokevirtual 135, 3) := by decide +kernel
theorem dX10_strategy_64 : decode cX10_strategy 64 = .ok (.ireturn, 1) := by decide +kernel
theorem dX10_strategyAt_0 : decode cX10_strategyAt 0 = .ok (.iload_n 1, 1) := by decide +kernel
theorem dX10_strategyAt_1 : decode cX10_strategyAt 1 = .ok (.invokestatic 128, 3) := by decide +kernel
theorem dX10_strategyAt_4 : decode cX10_strategyAt 4 = .ok (.ifCond .eq 22, 3) := by decide +kernel
theorem dX10_strategyAt_7 : decode cX10_strategyAt 7 = .ok (.aload_n 0, 1) := by decide +kernel
theorem dX10_strategyAt_8 : decode cX10_strategyAt 8 = .ok (.getfield 10, 3) := by decide +kernel
theorem dX10_strategyAt_11 : decode cX10_strategyAt 11 = .ok (.iload_n 2, 1) := by decide +kernel
theorem dX10_strategyAt_12 : decode cX10_strategyAt 12 = .ok (.invokevirtual 72, 3) := by decide +kernel
theorem dX10_strategyAt_15 : decode cX10_strategyAt 15 = .ok (.ifCond .eq 11, 3) := by decide +kernel
theorem dX10_strategyAt_18 : decode cX10_strategyAt 18 = .ok (.aload_n 0, 1) := by decide +kernel
theorem dX10_strategyAt_19 : decode cX10_strategyAt 19 = .ok (.iload_n 3, 1) := by decide +kernel
theorem dX10_strategyAt_20 : decode cX10_strategyAt 20 = .ok (.invokevirtual 220, 3) := by decide +kernel
theorem dX10_strategyAt_23 : decode cX10_strategyAt 23 = .ok (.ifCond .ne 6, 3) := by decide +kernel
theorem dX10_strategyAt_26 : decode cX10_strategyAt 26 = .ok (.ldc 75, 2) := by decide +kernel
theorem dX10_strategyAt_28 : decode cX10_strategyAt 28 = .ok (.ireturn, 1) := by decide +kernel
theorem dX10_strategyAt_29 : decode cX10_strategyAt 29 = .ok (.aload_n 0, 1) := by decide +kernel
theorem dX10_strategyAt_30 : decode cX10_strategyAt 30 = .ok (.iload_n 1, 1) := by decide +kernel
theorem dX10_strategyAt_31 : decode cX10_strategyAt 31 = .ok (.iload_n 2, 1) := by decide +kernel
theorem dX10_strategyAt_32 : decode cX10_strategyAt 32 = .ok (.invokevirtual 228, 3) := by decide +kernel
theorem dX10_strategyAt_35 : decode cX10_strategyAt 35 = .ok (.iload_n 3, 1) := by decide +kernel
theorem dX10_strategyAt_36 : decode cX10_strategyAt 36 = .ok (.invokestatic 234, 3) := by decide +kernel
theorem dX10_strategyAt_39 : decode cX10_strategyAt 39 = .ok (.invokestatic 164, 3) := by decide +kernel
theorem dX10_strategyAt_42 : decode cX10_strategyAt 42 = .ok (.ireturn, 1) := by decide +kernel
theorem dX10_strategists_0 : decode cX10_strategists 0 = .ok (.iload_n 1, 1) := by decide +kernel
theorem dX10_strategists_1 : decode cX10_strategists 1 = .ok (.invokestatic 128, 3) := by decide +kernel
theorem dX10_strategists_4 : decode cX10_strategists 4 = .ok (.ifCond .ne 6, 3) := by decide +kernel
theorem dX10_strategists_7 : decode cX10_strategists 7 = .ok (.ldc 75, 2) := by decide +kernel
theorem dX10_strategists_9 : decode cX10_strategists 9 = .ok (.ireturn, 1) := by decide +kernel
theorem dX10_strategists_10 : decode cX10_strategists 10 = .ok (.iconst 0, 1) := by decide +kernel
theorem dX10_strategists_11 : decode cX10_strategists 11 = .ok (.istore_n 2, 1) := by decide +kernel
theorem dX10_strategists_12 : decode cX10_strategists 12 = .ok (.iconst 0, 1) := by decide +kernel
theorem dX10_strategists_13 : decode cX10_strategists 13 = .ok (.istore_n 3, 1) := by decide +kernel
theorem dX10_strategists_14 : decode cX10_strategists 14 = .ok (.iload_n 3, 1) := by decide +kernel
theorem dX10_strategists_15 : decode cX10_strategists 15 = .ok (.aload_n 0, 1) := by decide +kernel
theorem dX10_strategists_16 : decode cX10_strategists 16 = .ok (.getfield 10, 3) := by decide +kernel
theorem dX10_strategists_19 : decode cX10_strategists 19 = .ok (.getfield 68, 3) := by decide +kernel
theorem dX10_strategists_22 : decode cX10_strategists 22 = .ok (.if_icmp .ge 24, 3) := by decide +kernel
theorem dX10_strategists_25 : decode cX10_strategists 25 = .ok (.aload_n 0, 1) := by decide +kernel
theorem dX10_strategists_26 : decode cX10_strategists 26 = .ok (.iload_n 1, 1) := by decide +kernel
theorem dX10_strategists_27 : decode cX10_strategists 27 = .ok (.iload_n 3, 1) := by decide +kernel
theorem dX10_strategists_28 : decode cX10_strategists 28 = .ok (.invokevirtual 228, 3) := by decide +kernel
theorem dX10_strategists_31 : decode cX10_strategists 31 = .ok (.ifCond .eq 9, 3) := by decide +kernel
theorem dX10_strategists_34 : decode cX10_strategists 34 = .ok (.iload_n 2, 1) := by decide +kernel
theorem dX10_strategists_35 : decode cX10_strategists 35 = .ok (.iconst 1, 1) := by decide +kernel
theorem dX10_strategists_36 : decode cX10_strategists 36 = .ok (.iload_n 3, 1) := by decide +kernel
theorem dX10_strategists_37 : decode cX10_strategists 37 = .ok (.ishl, 1) := by decide +kernel
theorem dX10_strategists_38 : decode cX10_strategists 38 = .ok (.ior, 1) := by decide +kernel
theorem dX10_strategists_39 : decode cX10_strategists 39 = .ok (.istore_n 2, 1) := by decide +kernel
theorem dX10_strategists_40 : decode cX10_strategists 40 = .ok (.iinc 3 1, 3) := by decide +kernel
theorem dX10_strategists_43 : decode cX10_strategists 43 = .ok (.goto (-29), 3) := by decide +kernel
theorem dX10_strategists_46 : decode cX10_strategists 46 = .ok (.iload_n 2, 1) := by decide +kernel
theorem dX10_strategists_47 : decode cX10_strategists 47 = .ok (.ireturn, 1) := by decide +kernel
theorem dX10_absentees_0 : decode cX10_absentees 0 = .ok (.iload_n 1, 1) := by decide +kernel
theorem dX10_absentees_1 : decode cX10_absentees 1 = .ok (.invokestatic 128, 3) := by decide +kernel
theorem dX10_absentees_4 : decode cX10_absentees 4 = .ok (.ifCond .ne 6, 3) := by decide +kernel
theorem dX10_absentees_7 : decode cX10_absentees 7 = .ok (.ldc 75, 2) := by decide +kernel
theorem dX10_absentees_9 : decode cX10_absentees 9 = .ok (.ireturn, 1) := by decide +kernel
theorem dX10_absentees_10 : decode cX10_absentees 10 = .ok (.aload_n 0, 1) := by decide +kernel
theorem dX10_absentees_11 : decode cX10_absentees 11 = .ok (.invokevirtual 122, 3) := by decide +kernel
theorem dX10_absentees_14 : decode cX10_absentees 14 = .ok (.aload_n 0, 1) := by decide +kernel
theorem dX10_absentees_15 : decode cX10_absentees 15 = .ok (.getfield 37, 3) := by decide +kernel
theorem dX10_absentees_18 : decode cX10_absentees 18 = .ok (.iload_n 1, 1) := by decide +kernel
theorem dX10_absentees_19 : decode cX10_absentees 19 = .ok (.aload_n 0, 1) := by decide +kernel
theorem dX10_absentees_20 : decode cX10_absentees 20 = .ok (.getfield 30, 3) := by decide +kernel
theorem dX10_absentees_23 : decode cX10_absentees 23 = .ok (.invokevirtual 135, 3) := by decide +kernel
theorem dX10_absentees_26 : decode cX10_absentees 26 = .ok (.istore_n 2, 1) := by decide +kernel
theorem dX10_absentees_27 : decode cX10_absentees 27 = .ok (.iconst 0, 1) := by decide +kernel
theorem dX10_absentees_28 : decode cX10_absentees 28 = .ok (.istore_n 3, 1) := by decide +kernel
theorem dX10_absentees_29 : decode cX10_absentees 29 = .ok (.iconst 0, 1) := by decide +kernel
theorem dX10_absentees_30 : decode cX10_absentees 30 = .ok (.istore 4, 2) := by decide +kernel
theorem dX10_absentees_32 : decode cX10_absentees 32 = .ok (.iload 4, 2) := by decide +kernel
theorem dX10_absentees_34 : decode cX10_absentees 34 = .ok (.aload_n 0, 1) := by decide +kernel
theorem dX10_absentees_35 : decode cX10_absentees 35 = .ok (.getfield 10, 3) := by decide +kernel
theorem dX10_absentees_38 : decode cX10_absentees 38 = .ok (.getfield 68, 3) := by decide +kernel
theorem dX10_absentees_41 : decode cX10_absentees 41 = .ok (.if_icmp .ge 45, 3) := by decide +kernel
theorem dX10_absentees_44 : decode cX10_absentees 44 = .ok (.aload_n 0, 1) := by decide +kernel
theorem dX10_absentees_45 : decode cX10_absentees 45 = .ok (.iload_n 1, 1) := by decide +kernel
theorem dX10_absentees_46 : decode cX10_absentees 46 = .ok (.iload 4, 2) := by decide +kernel
theorem dX10_absentees_48 : decode cX10_absentees 48 = .ok (.iconst 0, 1) := by decide +kernel
theorem dX10_absentees_49 : decode cX10_absentees 49 = .ok (.iconst 0, 1) := by decide +kernel
theorem dX10_absentees_50 : decode cX10_absentees 50 = .ok (.invokevirtual 237, 3) := by decide +kernel
theorem dX10_absentees_53 : decode cX10_absentees 53 = .ok (.istore 5, 2) := by decide +kernel
theorem dX10_absentees_55 : decode cX10_absentees 55 = .ok (.aload_n 0, 1) := by decide +kernel
theorem dX10_absentees_56 : decode cX10_absentees 56 = .ok (.getfield 10, 3) := by decide +kernel
theorem dX10_absentees_59 : decode cX10_absentees 59 = .ok (.iload 4, 2) := by decide +kernel
theorem dX10_absentees_61 : decode cX10_absentees 61 = .ok (.invokevirtual 83, 3) := by decide +kernel
theorem dX10_absentees_64 : decode cX10_absentees 64 = .ok (.iload 5, 2) := by decide +kernel
theorem dX10_absentees_66 : decode cX10_absentees 66 = .ok (.iload_n 2, 1) := by decide +kernel
theorem dX10_absentees_67 : decode cX10_absentees 67 = .ok (.invokestatic 241, 3) := by decide +kernel
theorem dX10_absentees_70 : decode cX10_absentees 70 = .ok (.ifCond .eq 10, 3) := by decide +kernel
theorem dX10_absentees_73 : decode cX10_absentees 73 = .ok (.iload_n 3, 1) := by decide +kernel
theorem dX10_absentees_74 : decode cX10_absentees 74 = .ok (.iconst 1, 1) := by decide +kernel
theorem dX10_absentees_75 : decode cX10_absentees 75 = .ok (.iload 4, 2) := by decide +kernel
theorem dX10_absentees_77 : decode cX10_absentees 77 = .ok (.ishl, 1) := by decide +kernel
theorem dX10_absentees_78 : decode cX10_absentees 78 = .ok (.ior, 1) := by decide +kernel
theorem dX10_absentees_79 : decode cX10_absentees 79 = .ok (.istore_n 3, 1) := by decide +kernel
theorem dX10_absentees_80 : decode cX10_absentees 80 = .ok (.iinc 4 1, 3) := by decide +kernel
theorem dX10_absentees_83 : decode cX10_absentees 83 = .ok (.goto (-51), 3) := by decide +kernel
theorem dX10_absentees_86 : decode cX10_absentees 86 = .ok (.iload_n 3, 1) := by decide +kernel
theorem dX10_absentees_87 : decode cX10_absentees 87 = .ok (.ireturn, 1) := by decide +kernel
theorem dX10_raisers_0 : decode cX10_raisers 0 = .ok (.iload_n 1, 1) := by decide +kernel
theorem dX10_raisers_1 : decode cX10_raisers 1 = .ok (.invokestatic 128, 3) := by decide +kernel
theorem dX10_raisers_4 : decode cX10_raisers 4 = .ok (.ifCond .ne 6, 3) := by decide +kernel
theorem dX10_raisers_7 : decode cX10_raisers 7 = .ok (.ldc 75, 2) := by decide +kernel
theorem dX10_raisers_9 : decode cX10_raisers 9 = .ok (.ireturn, 1) := by decide +kernel
theorem dX10_raisers_10 : decode cX10_raisers 10 = .ok (.aload_n 0, 1) := by decide +kernel
theorem dX10_raisers_11 : decode cX10_raisers 11 = .ok (.invokevirtual 122, 3) := by decide +kernel
theorem dX10_raisers_14 : decode cX10_raisers 14 = .ok (.aload_n 0, 1) := by decide +kernel
theorem dX10_raisers_15 : decode cX10_raisers 15 = .ok (.getfield 37, 3) := by decide +kernel
theorem dX10_raisers_18 : decode cX10_raisers 18 = .ok (.iload_n 1, 1) := by decide +kernel
theorem dX10_raisers_19 : decode cX10_raisers 19 = .ok (.aload_n 0, 1) := by decide +kernel
theorem dX10_raisers_20 : decode cX10_raisers 20 = .ok (.getfield 30, 3) := by decide +kernel
theorem dX10_raisers_23 : decode cX10_raisers 23 = .ok (.invokevirtual 135, 3) := by decide +kernel
theorem dX10_raisers_26 : decode cX10_raisers 26 = .ok (.istore_n 2, 1) := by decide +kernel
theorem dX10_raisers_27 : decode cX10_raisers 27 = .ok (.iconst 0, 1) := by decide +kernel
theorem dX10_raisers_28 : decode cX10_raisers 28 = .ok (.istore_n 3, 1) := by decide +kernel
theorem dX10_raisers_29 : decode cX10_raisers 29 = .ok (.iconst 0, 1) := by decide +kernel
theorem dX10_raisers_30 : decode cX10_raisers 30 = .ok (.istore 4, 2) := by decide +kernel
theorem dX10_raisers_32 : decode cX10_raisers 32 = .ok (.iload 4, 2) := by decide +kernel
theorem dX10_raisers_34 : decode cX10_raisers 34 = .ok (.aload_n 0, 1) := by decide +kernel
theorem dX10_raisers_35 : decode cX10_raisers 35 = .ok (.getfield 10, 3) := by decide +kernel
theorem dX10_raisers_38 : decode cX10_raisers 38 = .ok (.getfield 68, 3) := by decide +kernel
theorem dX10_raisers_41 : decode cX10_raisers 41 = .ok (.if_icmp .ge 87, 3) := by decide +kernel
theorem dX10_raisers_44 : decode cX10_raisers 44 = .ok (.aload_n 0, 1) := by decide +kernel
theorem dX10_raisers_45 : decode cX10_raisers 45 = .ok (.getfield 10, 3) := by decide +kernel
theorem dX10_raisers_48 : decode cX10_raisers 48 = .ok (.iload 4, 2) := by decide +kernel
theorem dX10_raisers_50 : decode cX10_raisers 50 = .ok (.invokevirtual 83, 3) := by decide +kernel
theorem dX10_raisers_53 : decode cX10_raisers 53 = .ok (.aload_n 0, 1) := by decide +kernel
theorem dX10_raisers_54 : decode cX10_raisers 54 = .ok (.getfield 10, 3) := by decide +kernel
theorem dX10_raisers_57 : decode cX10_raisers 57 = .ok (.getfield 105, 3) := by decide +kernel
theorem dX10_raisers_60 : decode cX10_raisers 60 = .ok (.invokestatic 245, 3) := by decide +kernel
theorem dX10_raisers_63 : decode cX10_raisers 63 = .ok (.istore 5, 2) := by decide +kernel
theorem dX10_raisers_65 : decode cX10_raisers 65 = .ok (.iload 5, 2) := by decide +kernel
theorem dX10_raisers_67 : decode cX10_raisers 67 = .ok (.iload_n 2, 1) := by decide +kernel
theorem dX10_raisers_68 : decode cX10_raisers 68 = .ok (.invokestatic 248, 3) := by decide +kernel
theorem dX10_raisers_71 : decode cX10_raisers 71 = .ok (.istore 6, 2) := by decide +kernel
theorem dX10_raisers_73 : decode cX10_raisers 73 = .ok (.iload 6, 2) := by decide +kernel
theorem dX10_raisers_75 : decode cX10_raisers 75 = .ok (.iconst 1, 1) := by decide +kernel
theorem dX10_raisers_76 : decode cX10_raisers 76 = .ok (.if_icmp .ge 6, 3) := by decide +kernel
theorem dX10_raisers_79 : decode cX10_raisers 79 = .ok (.goto 43, 3) := by decide +kernel
theorem dX10_raisers_82 : decode cX10_raisers 82 = .ok (.iload 5, 2) := by decide +kernel
theorem dX10_raisers_84 : decode cX10_raisers 84 = .ok (.iload 6, 2) := by decide +kernel
theorem dX10_raisers_86 : decode cX10_raisers 86 = .ok (.iconst 1, 1) := by decide +kernel
theorem dX10_raisers_87 : decode cX10_raisers 87 = .ok (.isub, 1) := by decide +kernel
theorem dX10_raisers_88 : decode cX10_raisers 88 = .ok (.invokestatic 93, 3) := by decide +kernel
theorem dX10_raisers_91 : decode cX10_raisers 91 = .ok (.istore 7, 2) := by decide +kernel
theorem dX10_raisers_93 : decode cX10_raisers 93 = .ok (.aload_n 0, 1) := by decide +kernel
theorem dX10_raisers_94 : decode cX10_raisers 94 = .ok (.iload_n 1, 1) := by decide +kernel
theorem dX10_raisers_95 : decode cX10_raisers 95 = .ok (.iload 4, 2) := by decide +kernel
theorem dX10_raisers_97 : decode cX10_raisers 97 = .ok (.aload_n 0, 1) := by decide +kernel
theorem dX10_raisers_98 : decode cX10_raisers 98 = .ok (.getfield 10, 3) := by decide +kernel
theorem dX10_raisers_101 : decode cX10_raisers 101 = .ok (.iload 4, 2) := by decide +kernel
theorem dX10_raisers_103 : decode cX10_raisers 103 = .ok (.invokevirtual 80, 3) := by decide +kernel
theorem dX10_raisers_106 : decode cX10_raisers 106 = .ok (.iload 7, 2) := by decide +kernel
theorem dX10_raisers_108 : decode cX10_raisers 108 = .ok (.invokevirtual 237, 3) := by decide +kernel
theorem dX10_raisers_111 : decode cX10_raisers 111 = .ok (.iload_n 2, 1) := by decide +kernel
theorem dX10_raisers_112 : decode cX10_raisers 112 = .ok (.if_icmp .eq 10, 3) := by decide +kernel
theorem dX10_raisers_115 : decode cX10_raisers 115 = .ok (.iload_n 3, 1) := by decide +kernel
theorem dX10_raisers_116 : decode cX10_raisers 116 = .ok (.iconst 1, 1) := by decide +kernel
theorem dX10_raisers_117 : decode cX10_raisers 117 = .ok (.iload 4, 2) := by decide +kernel
theorem dX10_raisers_119 : decode cX10_raisers 119 = .ok (.ishl, 1) := by decide +kernel
theorem dX10_raisers_120 : decode cX10_raisers 120 = .ok (.ior, 1) := by decide +kernel
theorem dX10_raisers_121 : decode cX10_raisers 121 = .ok (.istore_n 3, 1) := by decide +kernel
theorem dX10_raisers_122 : decode cX10_raisers 122 = .ok (.iinc 4 1, 3) := by decide +kernel
theorem dX10_raisers_125 : decode cX10_raisers 125 = .ok (.goto (-93), 3) := by decide +kernel
theorem dX10_raisers_128 : decode cX10_raisers 128 = .ok (.iload_n 3, 1) := by decide +kernel
theorem dX10_raisers_129 : decode cX10_raisers 129 = .ok (.ireturn, 1) := by decide +kernel
theorem dX10_spoilers_0 : decode cX10_spoilers 0 = .ok (.iload_n 1, 1) := by decide +kernel
theorem dX10_spoilers_1 : decode cX10_spoilers 1 = .ok (.invokestatic 128, 3) := by decide +kernel
theorem dX10_spoilers_4 : decode cX10_spoilers 4 = .ok (.ifCond .ne 6, 3) := by decide +kernel
theorem dX10_spoilers_7 : decode cX10_spoilers 7 = .ok (.ldc 75, 2) := by decide +kernel
theorem dX10_spoilers_9 : decode cX10_spoilers 9 = .ok (.ireturn, 1) := by decide +kernel
theorem dX10_spoilers_10 : decode cX10_spoilers 10 = .ok (.aload_n 0, 1) := by decide +kernel
theorem dX10_spoilers_11 : decode cX10_spoilers 11 = .ok (.invokevirtual 122, 3) := by decide +kernel
theorem dX10_spoilers_14 : decode cX10_spoilers 14 = .ok (.aload_n 0, 1) := by decide +kernel
theorem dX10_spoilers_15 : decode cX10_spoilers 15 = .ok (.getfield 37, 3) := by decide +kernel
theorem dX10_spoilers_18 : decode cX10_spoilers 18 = .ok (.iload_n 1, 1) := by decide +kernel
theorem dX10_spoilers_19 : decode cX10_spoilers 19 = .ok (.aload_n 0, 1) := by decide +kernel
theorem dX10_spoilers_20 : decode cX10_spoilers 20 = .ok (.getfield 30, 3) := by decide +kernel
theorem dX10_spoilers_23 : decode cX10_spoilers 23 = .ok (.invokevirtual 135, 3) := by decide +kernel
theorem dX10_spoilers_26 : decode cX10_spoilers 26 = .ok (.istore_n 2, 1) := by decide +kernel
theorem dX10_spoilers_27 : decode cX10_spoilers 27 = .ok (.iconst 0, 1) := by decide +kernel
theorem dX10_spoilers_28 : decode cX10_spoilers 28 = .ok (.istore_n 3, 1) := by decide +kernel
theorem dX10_spoilers_29 : decode cX10_spoilers 29 = .ok (.iconst 0, 1) := by decide +kernel
theorem dX10_spoilers_30 : decode cX10_spoilers 30 = .ok (.istore 4, 2) := by decide +kernel
theorem dX10_spoilers_32 : decode cX10_spoilers 32 = .ok (.iload 4, 2) := by decide +kernel
theorem dX10_spoilers_34 : decode cX10_spoilers 34 = .ok (.iconst 5, 1) := by decide +kernel
theorem dX10_spoilers_35 : decode cX10_spoilers 35 = .ok (.if_icmp .ge 80, 3) := by decide +kernel
theorem dX10_spoilers_38 : decode cX10_spoilers 38 = .ok (.iload 4, 2) := by decide +kernel
theorem dX10_spoilers_40 : decode cX10_spoilers 40 = .ok (.iload_n 2, 1) := by decide +kernel
theorem dX10_spoilers_41 : decode cX10_spoilers 41 = .ok (.if_icmp .eq 68, 3) := by decide +kernel
theorem dX10_spoilers_44 : decode cX10_spoilers 44 = .ok (.aload_n 0, 1) := by decide +kernel
theorem dX10_spoilers_45 : decode cX10_spoilers 45 = .ok (.getfield 10, 3) := by decide +kernel
theorem dX10_spoilers_48 : decode cX10_spoilers 48 = .ok (.getfield 105, 3) := by decide +kernel
theorem dX10_spoilers_51 : decode cX10_spoilers 51 = .ok (.iload 4, 2) := by decide +kernel
theorem dX10_spoilers_53 : decode cX10_spoilers 53 = .ok (.invokestatic 108, 3) := by decide +kernel
theorem dX10_spoilers_56 : decode cX10_spoilers 56 = .ok (.ifCond .ne 6, 3) := by decide +kernel
theorem dX10_spoilers_59 : decode cX10_spoilers 59 = .ok (.goto 50, 3) := by decide +kernel
theorem dX10_spoilers_62 : decode cX10_spoilers 62 = .ok (.aload_n 0, 1) := by decide +kernel
theorem dX10_spoilers_63 : decode cX10_spoilers 63 = .ok (.aload_n 0, 1) := by decide +kernel
theorem dX10_spoilers_64 : decode cX10_spoilers 64 = .ok (.getfield 10, 3) := by decide +kernel
theorem dX10_spoilers_67 : decode cX10_spoilers 67 = .ok (.getfield 105, 3) := by decide +kernel
theorem dX10_spoilers_70 : decode cX10_spoilers 70 = .ok (.iload 4, 2) := by decide +kernel
theorem dX10_spoilers_72 : decode cX10_spoilers 72 = .ok (.invokestatic 112, 3) := by decide +kernel
theorem dX10_spoilers_75 : decode cX10_spoilers 75 = .ok (.iconst 0, 1) := by decide +kernel
theorem dX10_spoilers_76 : decode cX10_spoilers 76 = .ok (.aload_n 0, 1) := by decide +kernel
theorem dX10_spoilers_77 : decode cX10_spoilers 77 = .ok (.getfield 10, 3) := by decide +kernel
theorem dX10_spoilers_80 : decode cX10_spoilers 80 = .ok (.getfield 68, 3) := by decide +kernel
theorem dX10_spoilers_83 : decode cX10_spoilers 83 = .ok (.invokevirtual 251, 3) := by decide +kernel
theorem dX10_spoilers_86 : decode cX10_spoilers 86 = .ok (.aload_n 0, 1) := by decide +kernel
theorem dX10_spoilers_87 : decode cX10_spoilers 87 = .ok (.getfield 37, 3) := by decide +kernel
theorem dX10_spoilers_90 : decode cX10_spoilers 90 = .ok (.iload_n 1, 1) := by decide +kernel
theorem dX10_spoilers_91 : decode cX10_spoilers 91 = .ok (.aload_n 0, 1) := by decide +kernel
theorem dX10_spoilers_92 : decode cX10_spoilers 92 = .ok (.getfield 30, 3) := by decide +kernel
theorem dX10_spoilers_95 : decode cX10_spoilers 95 = .ok (.invokevirtual 135, 3) := by decide +kernel
theorem dX10_spoilers_98 : decode cX10_spoilers 98 = .ok (.iload_n 2, 1) := by decide +kernel
theorem dX10_spoilers_99 : decode cX10_spoilers 99 = .ok (.if_icmp .eq 10, 3) := by decide +kernel
theorem dX10_spoilers_102 : decode cX10_spoilers 102 = .ok (.iload_n 3, 1) := by decide +kernel
theorem dX10_spoilers_103 : decode cX10_spoilers 103 = .ok (.iconst 1, 1) := by decide +kernel
theorem dX10_spoilers_104 : decode cX10_spoilers 104 = .ok (.iload 4, 2) := by decide +kernel
theorem dX10_spoilers_106 : decode cX10_spoilers 106 = .ok (.ishl, 1) := by decide +kernel
theorem dX10_spoilers_107 : decode cX10_spoilers 107 = .ok (.ior, 1) := by decide +kernel
theorem dX10_spoilers_108 : decode cX10_spoilers 108 = .ok (.istore_n 3, 1) := by decide +kernel
theorem dX10_spoilers_109 : decode cX10_spoilers 109 = .ok (.iinc 4 1, 3) := by decide +kernel
theorem dX10_spoilers_112 : decode cX10_spoilers 112 = .ok (.goto (-80), 3) := by decide +kernel
theorem dX10_spoilers_115 : decode cX10_spoilers 115 = .ok (.iload_n 3, 1) := by decide +kernel
theorem dX10_spoilers_116 : decode cX10_spoilers 116 = .ok (.ireturn, 1) := by decide +kernel
theorem dX10_split_0 : decode cX10_split 0 = .ok (.iload_n 1, 1) := by decide +kernel
theorem dX10_split_1 : decode cX10_split 1 = .ok (.invokestatic 128, 3) := by decide +kernel
theorem dX10_split_4 : decode cX10_split 4 = .ok (.ifCond .ne 6, 3) := by decide +kernel
theorem dX10_split_7 : decode cX10_split 7 = .ok (.ldc 75, 2) := by decide +kernel
theorem dX10_split_9 : decode cX10_split 9 = .ok (.ireturn, 1) := by decide +kernel
theorem dX10_split_10 : decode cX10_split 10 = .ok (.aload_n 0, 1) := by decide +kernel
theorem dX10_split_11 : decode cX10_split 11 = .ok (.invokevirtual 122, 3) := by decide +kernel
theorem dX10_split_14 : decode cX10_split 14 = .ok (.aload_n 0, 1) := by decide +kernel
theorem dX10_split_15 : decode cX10_split 15 = .ok (.getfield 37, 3) := by decide +kernel
theorem dX10_split_18 : decode cX10_split 18 = .ok (.iload_n 1, 1) := by decide +kernel
theorem dX10_split_19 : decode cX10_split 19 = .ok (.aload_n 0, 1) := by decide +kernel
theorem dX10_split_20 : decode cX10_split 20 = .ok (.getfield 30, 3) := by decide +kernel
theorem dX10_split_23 : decode cX10_split 23 = .ok (.invokevirtual 135, 3) := by decide +kernel
theorem dX10_split_26 : decode cX10_split 26 = .ok (.istore_n 2, 1) := by decide +kernel
theorem dX10_split_27 : decode cX10_split 27 = .ok (.iconst 1, 1) := by decide +kernel
theorem dX10_split_28 : decode cX10_split 28 = .ok (.istore_n 3, 1) := by decide +kernel
theorem dX10_split_29 : decode cX10_split 29 = .ok (.iload_n 3, 1) := by decide +kernel
theorem dX10_split_30 : decode cX10_split 30 = .ok (.aload_n 0, 1) := by decide +kernel
theorem dX10_split_31 : decode cX10_split 31 = .ok (.getfield 10, 3) := by decide +kernel
theorem dX10_split_34 : decode cX10_split 34 = .ok (.getfield 68, 3) := by decide +kernel
theorem dX10_split_37 : decode cX10_split 37 = .ok (.if_icmp .ge 83, 3) := by decide +kernel
theorem dX10_split_40 : decode cX10_split 40 = .ok (.aload_n 0, 1) := by decide +kernel
theorem dX10_split_41 : decode cX10_split 41 = .ok (.aload_n 0, 1) := by decide +kernel
theorem dX10_split_42 : decode cX10_split 42 = .ok (.getfield 10, 3) := by decide +kernel
theorem dX10_split_45 : decode cX10_split 45 = .ok (.getfield 105, 3) := by decide +kernel
theorem dX10_split_48 : decode cX10_split 48 = .ok (.iconst 0, 1) := by decide +kernel
theorem dX10_split_49 : decode cX10_split 49 = .ok (.iload_n 3, 1) := by decide +kernel
theorem dX10_split_50 : decode cX10_split 50 = .ok (.invokevirtual 251, 3) := by decide +kernel
theorem dX10_split_53 : decode cX10_split 53 = .ok (.aload_n 0, 1) := by decide +kernel
theorem dX10_split_54 : decode cX10_split 54 = .ok (.getfield 37, 3) := by decide +kernel
theorem dX10_split_57 : decode cX10_split 57 = .ok (.iload_n 1, 1) := by decide +kernel
theorem dX10_split_58 : decode cX10_split 58 = .ok (.aload_n 0, 1) := by decide +kernel
theorem dX10_split_59 : decode cX10_split 59 = .ok (.getfield 30, 3) := by decide +kernel
theorem dX10_split_62 : decode cX10_split 62 = .ok (.invokevirtual 135, 3) := by decide +kernel
theorem dX10_split_65 : decode cX10_split 65 = .ok (.istore 4, 2) := by decide +kernel
theorem dX10_split_67 : decode cX10_split 67 = .ok (.iload 4, 2) := by decide +kernel
theorem dX10_split_69 : decode cX10_split 69 = .ok (.iload_n 2, 1) := by decide +kernel
theorem dX10_split_70 : decode cX10_split 70 = .ok (.if_icmp .ne 6, 3) := by decide +kernel
theorem dX10_split_73 : decode cX10_split 73 = .ok (.goto 41, 3) := by decide +kernel
theorem dX10_split_76 : decode cX10_split 76 = .ok (.aload_n 0, 1) := by decide +kernel
theorem dX10_split_77 : decode cX10_split 77 = .ok (.aload_n 0, 1) := by decide +kernel
theorem dX10_split_78 : decode cX10_split 78 = .ok (.getfield 10, 3) := by decide +kernel
theorem dX10_split_81 : decode cX10_split 81 = .ok (.getfield 105, 3) := by decide +kernel
theorem dX10_split_84 : decode cX10_split 84 = .ok (.iload_n 3, 1) := by decide +kernel
theorem dX10_split_85 : decode cX10_split 85 = .ok (.aload_n 0, 1) := by decide +kernel
theorem dX10_split_86 : decode cX10_split 86 = .ok (.getfield 10, 3) := by decide +kernel
theorem dX10_split_89 : decode cX10_split 89 = .ok (.getfield 68, 3) := by decide +kernel
theorem dX10_split_92 : decode cX10_split 92 = .ok (.invokevirtual 251, 3) := by decide +kernel
theorem dX10_split_95 : decode cX10_split 95 = .ok (.aload_n 0, 1) := by decide +kernel
theorem dX10_split_96 : decode cX10_split 96 = .ok (.getfield 37, 3) := by decide +kernel
theorem dX10_split_99 : decode cX10_split 99 = .ok (.iload_n 1, 1) := by decide +kernel
theorem dX10_split_100 : decode cX10_split 100 = .ok (.aload_n 0, 1) := by decide +kernel
