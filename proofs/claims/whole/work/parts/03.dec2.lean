theorem dX10_split_101 : decode cX10_split 101 = .ok (.getfield 30, 3) := by decide +kernel
theorem dX10_split_104 : decode cX10_split 104 = .ok (.invokevirtual 135, 3) := by decide +kernel
theorem dX10_split_107 : decode cX10_split 107 = .ok (.iload 4, 2) := by decide +kernel
theorem dX10_split_109 : decode cX10_split 109 = .ok (.if_icmp .ne 5, 3) := by decide +kernel
theorem dX10_split_112 : decode cX10_split 112 = .ok (.iload_n 3, 1) := by decide +kernel
theorem dX10_split_113 : decode cX10_split 113 = .ok (.ireturn, 1) := by decide +kernel
theorem dX10_split_114 : decode cX10_split 114 = .ok (.iinc 3 1, 3) := by decide +kernel
theorem dX10_split_117 : decode cX10_split 117 = .ok (.goto (-88), 3) := by decide +kernel
theorem dX10_split_120 : decode cX10_split 120 = .ok (.ldc 227, 2) := by decide +kernel
theorem dX10_split_122 : decode cX10_split 122 = .ok (.ireturn, 1) := by decide +kernel
theorem dX10_removals_0 : decode cX10_removals 0 = .ok (.iload_n 1, 1) := by decide +kernel
theorem dX10_removals_1 : decode cX10_removals 1 = .ok (.invokestatic 128, 3) := by decide +kernel
theorem dX10_removals_4 : decode cX10_removals 4 = .ok (.ifCond .ne 6, 3) := by decide +kernel
theorem dX10_removals_7 : decode cX10_removals 7 = .ok (.ldc 75, 2) := by decide +kernel
theorem dX10_removals_9 : decode cX10_removals 9 = .ok (.ireturn, 1) := by decide +kernel
theorem dX10_removals_10 : decode cX10_removals 10 = .ok (.aload_n 0, 1) := by decide +kernel
theorem dX10_removals_11 : decode cX10_removals 11 = .ok (.invokevirtual 122, 3) := by decide +kernel
theorem dX10_removals_14 : decode cX10_removals 14 = .ok (.aload_n 0, 1) := by decide +kernel
theorem dX10_removals_15 : decode cX10_removals 15 = .ok (.getfield 37, 3) := by decide +kernel
theorem dX10_removals_18 : decode cX10_removals 18 = .ok (.iload_n 1, 1) := by decide +kernel
theorem dX10_removals_19 : decode cX10_removals 19 = .ok (.aload_n 0, 1) := by decide +kernel
theorem dX10_removals_20 : decode cX10_removals 20 = .ok (.getfield 30, 3) := by decide +kernel
theorem dX10_removals_23 : decode cX10_removals 23 = .ok (.invokevirtual 135, 3) := by decide +kernel
theorem dX10_removals_26 : decode cX10_removals 26 = .ok (.istore_n 2, 1) := by decide +kernel
theorem dX10_removals_27 : decode cX10_removals 27 = .ok (.iconst 1, 1) := by decide +kernel
theorem dX10_removals_28 : decode cX10_removals 28 = .ok (.istore_n 3, 1) := by decide +kernel
theorem dX10_removals_29 : decode cX10_removals 29 = .ok (.iload_n 3, 1) := by decide +kernel
theorem dX10_removals_30 : decode cX10_removals 30 = .ok (.bipush 100, 2) := by decide +kernel
theorem dX10_removals_32 : decode cX10_removals 32 = .ok (.if_icmp .gt 72, 3) := by decide +kernel
theorem dX10_removals_35 : decode cX10_removals 35 = .ok (.iconst 0, 1) := by decide +kernel
theorem dX10_removals_36 : decode cX10_removals 36 = .ok (.istore 4, 2) := by decide +kernel
theorem dX10_removals_38 : decode cX10_removals 38 = .ok (.iload 4, 2) := by decide +kernel
theorem dX10_removals_40 : decode cX10_removals 40 = .ok (.aload_n 0, 1) := by decide +kernel
theorem dX10_removals_41 : decode cX10_removals 41 = .ok (.getfield 10, 3) := by decide +kernel
theorem dX10_removals_44 : decode cX10_removals 44 = .ok (.getfield 68, 3) := by decide +kernel
theorem dX10_removals_47 : decode cX10_removals 47 = .ok (.if_icmp .ge 51, 3) := by decide +kernel
theorem dX10_removals_50 : decode cX10_removals 50 = .ok (.aload_n 0, 1) := by decide +kernel
theorem dX10_removals_51 : decode cX10_removals 51 = .ok (.getfield 10, 3) := by decide +kernel
theorem dX10_removals_54 : decode cX10_removals 54 = .ok (.iload 4, 2) := by decide +kernel
theorem dX10_removals_56 : decode cX10_removals 56 = .ok (.invokevirtual 80, 3) := by decide +kernel
theorem dX10_removals_59 : decode cX10_removals 59 = .ok (.iload_n 3, 1) := by decide +kernel
theorem dX10_removals_60 : decode cX10_removals 60 = .ok (.isub, 1) := by decide +kernel
theorem dX10_removals_61 : decode cX10_removals 61 = .ok (.istore 5, 2) := by decide +kernel
theorem dX10_removals_63 : decode cX10_removals 63 = .ok (.iload 5, 2) := by decide +kernel
theorem dX10_removals_65 : decode cX10_removals 65 = .ok (.ifCond .lt 27, 3) := by decide +kernel
theorem dX10_removals_68 : decode cX10_removals 68 = .ok (.aload_n 0, 1) := by decide +kernel
theorem dX10_removals_69 : decode cX10_removals 69 = .ok (.iload_n 1, 1) := by decide +kernel
theorem dX10_removals_70 : decode cX10_removals 70 = .ok (.iload 4, 2) := by decide +kernel
theorem dX10_removals_72 : decode cX10_removals 72 = .ok (.iload 5, 2) := by decide +kernel
theorem dX10_removals_74 : decode cX10_removals 74 = .ok (.aload_n 0, 1) := by decide +kernel
theorem dX10_removals_75 : decode cX10_removals 75 = .ok (.getfield 10, 3) := by decide +kernel
theorem dX10_removals_78 : decode cX10_removals 78 = .ok (.iload 4, 2) := by decide +kernel
theorem dX10_removals_80 : decode cX10_removals 80 = .ok (.invokevirtual 83, 3) := by decide +kernel
theorem dX10_removals_83 : decode cX10_removals 83 = .ok (.invokevirtual 237, 3) := by decide +kernel
theorem dX10_removals_86 : decode cX10_removals 86 = .ok (.iload_n 2, 1) := by decide +kernel
theorem dX10_removals_87 : decode cX10_removals 87 = .ok (.if_icmp .eq 5, 3) := by decide +kernel
theorem dX10_removals_90 : decode cX10_removals 90 = .ok (.iload_n 3, 1) := by decide +kernel
theorem dX10_removals_91 : decode cX10_removals 91 = .ok (.ireturn, 1) := by decide +kernel
theorem dX10_removals_92 : decode cX10_removals 92 = .ok (.iinc 4 1, 3) := by decide +kernel
theorem dX10_removals_95 : decode cX10_removals 95 = .ok (.goto (-57), 3) := by decide +kernel
theorem dX10_removals_98 : decode cX10_removals 98 = .ok (.iinc 3 1, 3) := by decide +kernel
theorem dX10_removals_101 : decode cX10_removals 101 = .ok (.goto (-72), 3) := by decide +kernel
theorem dX10_removals_104 : decode cX10_removals 104 = .ok (.ldc 227, 2) := by decide +kernel
theorem dX10_removals_106 : decode cX10_removals 106 = .ok (.ireturn, 1) := by decide +kernel
theorem dX10_sample_0 : decode cX10_sample 0 = .ok (.iload_n 1, 1) := by decide +kernel
theorem dX10_sample_1 : decode cX10_sample 1 = .ok (.invokestatic 128, 3) := by decide +kernel
theorem dX10_sample_4 : decode cX10_sample 4 = .ok (.ifCond .ne 6, 3) := by decide +kernel
theorem dX10_sample_7 : decode cX10_sample 7 = .ok (.ldc 75, 2) := by decide +kernel
theorem dX10_sample_9 : decode cX10_sample 9 = .ok (.ireturn, 1) := by decide +kernel
theorem dX10_sample_10 : decode cX10_sample 10 = .ok (.iload_n 3, 1) := by decide +kernel
theorem dX10_sample_11 : decode cX10_sample 11 = .ok (.invokestatic 254, 3) := by decide +kernel
theorem dX10_sample_14 : decode cX10_sample 14 = .ok (.ifCond .ne 6, 3) := by decide +kernel
theorem dX10_sample_17 : decode cX10_sample 17 = .ok (.ldc 55, 2) := by decide +kernel
theorem dX10_sample_19 : decode cX10_sample 19 = .ok (.ireturn, 1) := by decide +kernel
theorem dX10_sample_20 : decode cX10_sample 20 = .ok (.aload_n 0, 1) := by decide +kernel
theorem dX10_sample_21 : decode cX10_sample 21 = .ok (.getfield 10, 3) := by decide +kernel
theorem dX10_sample_24 : decode cX10_sample 24 = .ok (.getfield 68, 3) := by decide +kernel
theorem dX10_sample_27 : decode cX10_sample 27 = .ok (.ifCond .ne 6, 3) := by decide +kernel
theorem dX10_sample_30 : decode cX10_sample 30 = .ok (.ldc 121, 2) := by decide +kernel
theorem dX10_sample_32 : decode cX10_sample 32 = .ok (.ireturn, 1) := by decide +kernel
theorem dX10_sample_33 : decode cX10_sample 33 = .ok (.aload_n 0, 1) := by decide +kernel
theorem dX10_sample_34 : decode cX10_sample 34 = .ok (.iload_n 2, 1) := by decide +kernel
theorem dX10_sample_35 : decode cX10_sample 35 = .ok (.iload_n 3, 1) := by decide +kernel
theorem dX10_sample_36 : decode cX10_sample 36 = .ok (.invokevirtual 257, 3) := by decide +kernel
theorem dX10_sample_39 : decode cX10_sample 39 = .ok (.pop, 1) := by decide +kernel
theorem dX10_sample_40 : decode cX10_sample 40 = .ok (.aload_n 0, 1) := by decide +kernel
theorem dX10_sample_41 : decode cX10_sample 41 = .ok (.getfield 37, 3) := by decide +kernel
theorem dX10_sample_44 : decode cX10_sample 44 = .ok (.iload_n 1, 1) := by decide +kernel
theorem dX10_sample_45 : decode cX10_sample 45 = .ok (.aload_n 0, 1) := by decide +kernel
theorem dX10_sample_46 : decode cX10_sample 46 = .ok (.getfield 30, 3) := by decide +kernel
theorem dX10_sample_49 : decode cX10_sample 49 = .ok (.invokevirtual 135, 3) := by decide +kernel
theorem dX10_sample_52 : decode cX10_sample 52 = .ok (.ireturn, 1) := by decide +kernel
theorem dX10_agreeing_0 : decode cX10_agreeing 0 = .ok (.iload_n 1, 1) := by decide +kernel
theorem dX10_agreeing_1 : decode cX10_agreeing 1 = .ok (.invokestatic 128, 3) := by decide +kernel
theorem dX10_agreeing_4 : decode cX10_agreeing 4 = .ok (.ifCond .ne 6, 3) := by decide +kernel
theorem dX10_agreeing_7 : decode cX10_agreeing 7 = .ok (.ldc 75, 2) := by decide +kernel
theorem dX10_agreeing_9 : decode cX10_agreeing 9 = .ok (.ireturn, 1) := by decide +kernel
theorem dX10_agreeing_10 : decode cX10_agreeing 10 = .ok (.iload_n 3, 1) := by decide +kernel
theorem dX10_agreeing_11 : decode cX10_agreeing 11 = .ok (.invokestatic 254, 3) := by decide +kernel
theorem dX10_agreeing_14 : decode cX10_agreeing 14 = .ok (.ifCond .eq 16, 3) := by decide +kernel
theorem dX10_agreeing_17 : decode cX10_agreeing 17 = .ok (.iload 4, 2) := by decide +kernel
theorem dX10_agreeing_19 : decode cX10_agreeing 19 = .ok (.iconst 1, 1) := by decide +kernel
theorem dX10_agreeing_20 : decode cX10_agreeing 20 = .ok (.if_icmp .lt 10, 3) := by decide +kernel
theorem dX10_agreeing_23 : decode cX10_agreeing 23 = .ok (.iload 4, 2) := by decide +kernel
theorem dX10_agreeing_25 : decode cX10_agreeing 25 = .ok (.bipush 20, 2) := by decide +kernel
theorem dX10_agreeing_27 : decode cX10_agreeing 27 = .ok (.if_icmp .le 6, 3) := by decide +kernel
theorem dX10_agreeing_30 : decode cX10_agreeing 30 = .ok (.ldc 55, 2) := by decide +kernel
theorem dX10_agreeing_32 : decode cX10_agreeing 32 = .ok (.ireturn, 1) := by decide +kernel
theorem dX10_agreeing_33 : decode cX10_agreeing 33 = .ok (.aload_n 0, 1) := by decide +kernel
theorem dX10_agreeing_34 : decode cX10_agreeing 34 = .ok (.getfield 10, 3) := by decide +kernel
theorem dX10_agreeing_37 : decode cX10_agreeing 37 = .ok (.getfield 68, 3) := by decide +kernel
theorem dX10_agreeing_40 : decode cX10_agreeing 40 = .ok (.ifCond .eq 13, 3) := by decide +kernel
theorem dX10_agreeing_43 : decode cX10_agreeing 43 = .ok (.aload_n 0, 1) := by decide +kernel
theorem dX10_agreeing_44 : decode cX10_agreeing 44 = .ok (.getfield 10, 3) := by decide +kernel
theorem dX10_agreeing_47 : decode cX10_agreeing 47 = .ok (.getfield 105, 3) := by decide +kernel
theorem dX10_agreeing_50 : decode cX10_agreeing 50 = .ok (.ifCond .ne 6, 3) := by decide +kernel
theorem dX10_agreeing_53 : decode cX10_agreeing 53 = .ok (.ldc 121, 2) := by decide +kernel
theorem dX10_agreeing_55 : decode cX10_agreeing 55 = .ok (.ireturn, 1) := by decide +kernel
theorem dX10_agreeing_56 : decode cX10_agreeing 56 = .ok (.aload_n 0, 1) := by decide +kernel
theorem dX10_agreeing_57 : decode cX10_agreeing 57 = .ok (.invokevirtual 122, 3) := by decide +kernel
theorem dX10_agreeing_60 : decode cX10_agreeing 60 = .ok (.aload_n 0, 1) := by decide +kernel
theorem dX10_agreeing_61 : decode cX10_agreeing 61 = .ok (.getfield 37, 3) := by decide +kernel
theorem dX10_agreeing_64 : decode cX10_agreeing 64 = .ok (.iload_n 1, 1) := by decide +kernel
theorem dX10_agreeing_65 : decode cX10_agreeing 65 = .ok (.aload_n 0, 1) := by decide +kernel
theorem dX10_agreeing_66 : decode cX10_agreeing 66 = .ok (.getfield 30, 3) := by decide +kernel
theorem dX10_agreeing_69 : decode cX10_agreeing 69 = .ok (.invokevirtual 135, 3) := by decide +kernel
theorem dX10_agreeing_72 : decode cX10_agreeing 72 = .ok (.istore 5, 2) := by decide +kernel
theorem dX10_agreeing_74 : decode cX10_agreeing 74 = .ok (.iconst 0, 1) := by decide +kernel
theorem dX10_agreeing_75 : decode cX10_agreeing 75 = .ok (.istore 6, 2) := by decide +kernel
theorem dX10_agreeing_77 : decode cX10_agreeing 77 = .ok (.iload_n 2, 1) := by decide +kernel
theorem dX10_agreeing_78 : decode cX10_agreeing 78 = .ok (.istore 7, 2) := by decide +kernel
theorem dX10_agreeing_80 : decode cX10_agreeing 80 = .ok (.iconst 0, 1) := by decide +kernel
theorem dX10_agreeing_81 : decode cX10_agreeing 81 = .ok (.istore 8, 2) := by decide +kernel
theorem dX10_agreeing_83 : decode cX10_agreeing 83 = .ok (.iload 8, 2) := by decide +kernel
theorem dX10_agreeing_85 : decode cX10_agreeing 85 = .ok (.iload 4, 2) := by decide +kernel
theorem dX10_agreeing_87 : decode cX10_agreeing 87 = .ok (.if_icmp .ge 38, 3) := by decide +kernel
theorem dX10_agreeing_90 : decode cX10_agreeing 90 = .ok (.aload_n 0, 1) := by decide +kernel
theorem dX10_agreeing_91 : decode cX10_agreeing 91 = .ok (.iload 7, 2) := by decide +kernel
theorem dX10_agreeing_93 : decode cX10_agreeing 93 = .ok (.iload_n 3, 1) := by decide +kernel
theorem dX10_agreeing_94 : decode cX10_agreeing 94 = .ok (.invokevirtual 257, 3) := by decide +kernel
theorem dX10_agreeing_97 : decode cX10_agreeing 97 = .ok (.istore 7, 2) := by decide +kernel
theorem dX10_agreeing_99 : decode cX10_agreeing 99 = .ok (.aload_n 0, 1) := by decide +kernel
theorem dX10_agreeing_100 : decode cX10_agreeing 100 = .ok (.getfield 37, 3) := by decide +kernel
theorem dX10_agreeing_103 : decode cX10_agreeing 103 = .ok (.iload_n 1, 1) := by decide +kernel
theorem dX10_agreeing_104 : decode cX10_agreeing 104 = .ok (.aload_n 0, 1) := by decide +kernel
theorem dX10_agreeing_105 : decode cX10_agreeing 105 = .ok (.getfield 30, 3) := by decide +kernel
theorem dX10_agreeing_108 : decode cX10_agreeing 108 = .ok (.invokevirtual 135, 3) := by decide +kernel
theorem dX10_agreeing_111 : decode cX10_agreeing 111 = .ok (.iload 5, 2) := by decide +kernel
theorem dX10_agreeing_113 : decode cX10_agreeing 113 = .ok (.if_icmp .ne 6, 3) := by decide +kernel
theorem dX10_agreeing_116 : decode cX10_agreeing 116 = .ok (.iinc 6 1, 3) := by decide +kernel
theorem dX10_agreeing_119 : decode cX10_agreeing 119 = .ok (.iinc 8 1, 3) := by decide +kernel
theorem dX10_agreeing_122 : decode cX10_agreeing 122 = .ok (.goto (-39), 3) := by decide +kernel
theorem dX10_agreeing_125 : decode cX10_agreeing 125 = .ok (.iload 6, 2) := by decide +kernel
theorem dX10_agreeing_127 : decode cX10_agreeing 127 = .ok (.ireturn, 1) := by decide +kernel
theorem dX10_undo_0 : decode cX10_undo 0 = .ok (.aload_n 0, 1) := by decide +kernel
theorem dX10_undo_1 : decode cX10_undo 1 = .ok (.getfield 260, 3) := by decide +kernel
theorem dX10_undo_4 : decode cX10_undo 4 = .ok (.iconst 1, 1) := by decide +kernel
theorem dX10_undo_5 : decode cX10_undo 5 = .ok (.if_icmp .lt 15, 3) := by decide +kernel
theorem dX10_undo_8 : decode cX10_undo 8 = .ok (.aload_n 0, 1) := by decide +kernel
theorem dX10_undo_9 : decode cX10_undo 9 = .ok (.getfield 260, 3) := by decide +kernel
theorem dX10_undo_12 : decode cX10_undo 12 = .ok (.aload_n 0, 1) := by decide +kernel
theorem dX10_undo_13 : decode cX10_undo 13 = .ok (.getfield 16, 3) := by decide +kernel
theorem dX10_undo_16 : decode cX10_undo 16 = .ok (.arraylength, 1) := by decide +kernel
theorem dX10_undo_17 : decode cX10_undo 17 = .ok (.if_icmp .le 6, 3) := by decide +kernel
theorem dX10_undo_20 : decode cX10_undo 20 = .ok (.ldc 121, 2) := by decide +kernel
theorem dX10_undo_22 : decode cX10_undo 22 = .ok (.ireturn, 1) := by decide +kernel
theorem dX10_undo_23 : decode cX10_undo 23 = .ok (.aload_n 0, 1) := by decide +kernel
theorem dX10_undo_24 : decode cX10_undo 24 = .ok (.dup, 1) := by decide +kernel
theorem dX10_undo_25 : decode cX10_undo 25 = .ok (.getfield 260, 3) := by decide +kernel
theorem dX10_undo_28 : decode cX10_undo 28 = .ok (.iconst 1, 1) := by decide +kernel
theorem dX10_undo_29 : decode cX10_undo 29 = .ok (.isub, 1) := by decide +kernel
theorem dX10_undo_30 : decode cX10_undo 30 = .ok (.putfield 260, 3) := by decide +kernel
theorem dX10_undo_33 : decode cX10_undo 33 = .ok (.aload_n 0, 1) := by decide +kernel
theorem dX10_undo_34 : decode cX10_undo 34 = .ok (.getfield 16, 3) := by decide +kernel
theorem dX10_undo_37 : decode cX10_undo 37 = .ok (.aload_n 0, 1) := by decide +kernel
theorem dX10_undo_38 : decode cX10_undo 38 = .ok (.getfield 260, 3) := by decide +kernel
theorem dX10_undo_41 : decode cX10_undo 41 = .ok (.aaload, 1) := by decide +kernel
theorem dX10_undo_42 : decode cX10_undo 42 = .ok (.astore_n 1, 1) := by decide +kernel
theorem dX10_undo_43 : decode cX10_undo 43 = .ok (.aload_n 1, 1) := by decide +kernel
theorem dX10_undo_44 : decode cX10_undo 44 = .ok (.ifnull 11, 3) := by decide +kernel
theorem dX10_undo_47 : decode cX10_undo 47 = .ok (.aload_n 0, 1) := by decide +kernel
theorem dX10_undo_48 : decode cX10_undo 48 = .ok (.getfield 10, 3) := by decide +kernel
theorem dX10_undo_51 : decode cX10_undo 51 = .ok (.aload_n 1, 1) := by decide +kernel
theorem dX10_undo_52 : decode cX10_undo 52 = .ok (.invokevirtual 263, 3) := by decide +kernel
theorem dX10_undo_55 : decode cX10_undo 55 = .ok (.aload_n 0, 1) := by decide +kernel
theorem dX10_undo_56 : decode cX10_undo 56 = .ok (.getfield 260, 3) := by decide +kernel
theorem dX10_undo_59 : decode cX10_undo 59 = .ok (.ireturn, 1) := by decide +kernel
theorem dX10_type_0 : decode cX10_type 0 = .ok (.iload_n 1, 1) := by decide +kernel
theorem dX10_type_1 : decode cX10_type 1 = .ok (.ifCond .lt 10, 3) := by decide +kernel
theorem dX10_type_4 : decode cX10_type 4 = .ok (.iload_n 1, 1) := by decide +kernel
theorem dX10_type_5 : decode cX10_type 5 = .ok (.sipush 255, 3) := by decide +kernel
theorem dX10_type_8 : decode cX10_type 8 = .ok (.if_icmp .le 6, 3) := by decide +kernel
theorem dX10_type_11 : decode cX10_type 11 = .ok (.ldc 55, 2) := by decide +kernel
theorem dX10_type_13 : decode cX10_type 13 = .ok (.ireturn, 1) := by decide +kernel
theorem dX10_type_14 : decode cX10_type 14 = .ok (.aload_n 0, 1) := by decide +kernel
theorem dX10_type_15 : decode cX10_type 15 = .ok (.getfield 23, 3) := by decide +kernel
theorem dX10_type_18 : decode cX10_type 18 = .ok (.iload_n 1, 1) := by decide +kernel
theorem dX10_type_19 : decode cX10_type 19 = .ok (.invokevirtual 267, 3) := by decide +kernel
theorem dX10_type_22 : decode cX10_type 22 = .ok (.ifCond .eq 13, 3) := by decide +kernel
theorem dX10_type_25 : decode cX10_type 25 = .ok (.aload_n 0, 1) := by decide +kernel
theorem dX10_type_26 : decode cX10_type 26 = .ok (.getfield 23, 3) := by decide +kernel
theorem dX10_type_29 : decode cX10_type 29 = .ok (.getfield 270, 3) := by decide +kernel
theorem dX10_type_32 : decode cX10_type 32 = .ok (.goto 5, 3) := by decide +kernel
theorem dX10_type_35 : decode cX10_type 35 = .ok (.ldc 60, 2) := by decide +kernel
theorem dX10_type_37 : decode cX10_type 37 = .ok (.ireturn, 1) := by decide +kernel
theorem dX10_clearText_0 : decode cX10_clearText 0 = .ok (.aload_n 0, 1) := by decide +kernel
theorem dX10_clearText_1 : decode cX10_clearText 1 = .ok (.getfield 23, 3) := by decide +kernel
theorem dX10_clearText_4 : decode cX10_clearText 4 = .ok (.getfield 270, 3) := by decide +kernel
theorem dX10_clearText_7 : decode cX10_clearText 7 = .ok (.istore_n 1, 1) := by decide +kernel
theorem dX10_clearText_8 : decode cX10_clearText 8 = .ok (.aload_n 0, 1) := by decide +kernel
theorem dX10_clearText_9 : decode cX10_clearText 9 = .ok (.getfield 23, 3) := by decide +kernel
theorem dX10_clearText_12 : decode cX10_clearText 12 = .ok (.iconst 0, 1) := by decide +kernel
theorem dX10_clearText_13 : decode cX10_clearText 13 = .ok (.putfield 270, 3) := by decide +kernel
theorem dX10_clearText_16 : decode cX10_clearText 16 = .ok (.iload_n 1, 1) := by decide +kernel
theorem dX10_clearText_17 : decode cX10_clearText 17 = .ok (.ireturn, 1) := by decide +kernel
theorem dX10_textFault_0 : decode cX10_textFault 0 = .ok (.aload_n 0, 1) := by decide +kernel
theorem dX10_textFault_1 : decode cX10_textFault 1 = .ok (.getfield 23, 3) := by decide +kernel
theorem dX10_textFault_4 : decode cX10_textFault 4 = .ok (.aload_n 0, 1) := by decide +kernel
theorem dX10_textFault_5 : decode cX10_textFault 5 = .ok (.getfield 10, 3) := by decide +kernel
theorem dX10_textFault_8 : decode cX10_textFault 8 = .ok (.invokevirtual 56, 3) := by decide +kernel
theorem dX10_textFault_11 : decode cX10_textFault 11 = .ok (.invokevirtual 272, 3) := by decide +kernel
theorem dX10_textFault_14 : decode cX10_textFault 14 = .ok (.ireturn, 1) := by decide +kernel
theorem dX10_load_0 : decode cX10_load 0 = .ok (.aload_n 0, 1) := by decide +kernel
theorem dX10_load_1 : decode cX10_load 1 = .ok (.getfield 23, 3) := by decide +kernel
theorem dX10_load_4 : decode cX10_load 4 = .ok (.aload_n 0, 1) := by decide +kernel
theorem dX10_load_5 : decode cX10_load 5 = .ok (.getfield 10, 3) := by decide +kernel
theorem dX10_load_8 : decode cX10_load 8 = .ok (.invokevirtual 56, 3) := by decide +kernel
theorem dX10_load_11 : decode cX10_load 11 = .ok (.invokevirtual 272, 3) := by decide +kernel
theorem dX10_load_14 : decode cX10_load 14 = .ok (.ldc 227, 2) := by decide +kernel
theorem dX10_load_16 : decode cX10_load 16 = .ok (.if_icmp .eq 6, 3) := by decide +kernel
theorem dX10_load_19 : decode cX10_load 19 = .ok (.ldc 121, 2) := by decide +kernel
theorem dX10_load_21 : decode cX10_load 21 = .ok (.ireturn, 1) := by decide +kernel
theorem dX10_load_22 : decode cX10_load 22 = .ok (.aload_n 0, 1) := by decide +kernel
theorem dX10_load_23 : decode cX10_load 23 = .ok (.invokevirtual 61, 3) := by decide +kernel
theorem dX10_load_26 : decode cX10_load 26 = .ok (.iconst 0, 1) := by decide +kernel
theorem dX10_load_27 : decode cX10_load 27 = .ok (.istore_n 1, 1) := by decide +kernel
theorem dX10_load_28 : decode cX10_load 28 = .ok (.iload_n 1, 1) := by decide +kernel
theorem dX10_load_29 : decode cX10_load 29 = .ok (.aload_n 0, 1) := by decide +kernel
theorem dX10_load_30 : decode cX10_load 30 = .ok (.getfield 23, 3) := by decide +kernel
theorem dX10_load_33 : decode cX10_load 33 = .ok (.getfield 275, 3) := by decide +kernel
theorem dX10_load_36 : decode cX10_load 36 = .ok (.if_icmp .ge 32, 3) := by decide +kernel
theorem dX10_load_39 : decode cX10_load 39 = .ok (.aload_n 0, 1) := by decide +kernel
theorem dX10_load_40 : decode cX10_load 40 = .ok (.getfield 10, 3) := by decide +kernel
theorem dX10_load_43 : decode cX10_load 43 = .ok (.aload_n 0, 1) := by decide +kernel
theorem dX10_load_44 : decode cX10_load 44 = .ok (.getfield 23, 3) := by decide +kernel
theorem dX10_load_47 : decode cX10_load 47 = .ok (.iload_n 1, 1) := by decide +kernel
theorem dX10_load_48 : decode cX10_load 48 = .ok (.invokevirtual 276, 3) := by decide +kernel
theorem dX10_load_51 : decode cX10_load 51 = .ok (.aload_n 0, 1) := by decide +kernel
theorem dX10_load_52 : decode cX10_load 52 = .ok (.getfield 23, 3) := by decide +kernel
theorem dX10_load_55 : decode cX10_load 55 = .ok (.iload_n 1, 1) := by decide +kernel
theorem dX10_load_56 : decode cX10_load 56 = .ok (.invokevirtual 277, 3) := by decide +kernel
theorem dX10_load_59 : decode cX10_load 59 = .ok (.invokevirtual 64, 3) := by decide +kernel
theorem dX10_load_62 : decode cX10_load 62 = .ok (.iinc 1 1, 3) := by decide +kernel
theorem dX10_load_65 : decode cX10_load 65 = .ok (.goto (-37), 3) := by decide +kernel
theorem dX10_load_68 : decode cX10_load 68 = .ok (.aload_n 0, 1) := by decide +kernel
theorem dX10_load_69 : decode cX10_load 69 = .ok (.getfield 10, 3) := by decide +kernel
theorem dX10_load_72 : decode cX10_load 72 = .ok (.getfield 68, 3) := by decide +kernel
theorem dX10_load_75 : decode cX10_load 75 = .ok (.ireturn, 1) := by decide +kernel
theorem dX10_isRule_0 : decode cX10_isRule 0 = .ok (.iload_n 0, 1) := by decide +kernel
theorem dX10_isRule_1 : decode cX10_isRule 1 = .ok (.ifCond .lt 13, 3) := by decide +kernel
theorem dX10_isRule_4 : decode cX10_isRule 4 = .ok (.iload_n 0, 1) := by decide +kernel
theorem dX10_isRule_5 : decode cX10_isRule 5 = .ok (.bipush 12, 2) := by decide +kernel
theorem dX10_isRule_7 : decode cX10_isRule 7 = .ok (.if_icmp .ge 7, 3) := by decide +kernel
theorem dX10_isRule_10 : decode cX10_isRule 10 = .ok (.iconst 1, 1) := by decide +kernel
theorem dX10_isRule_11 : decode cX10_isRule 11 = .ok (.goto 4, 3) := by decide +kernel
theorem dX10_isRule_14 : decode cX10_isRule 14 = .ok (.iconst 0, 1) := by decide +kernel
theorem dX10_isRule_15 : decode cX10_isRule 15 = .ok (.ireturn, 1) := by decide +kernel
theorem dX10_goesByPoints_0 : decode cX10_goesByPoints 0 = .ok (.iload_n 0, 1) := by decide +kernel
theorem dX10_goesByPoints_1 : decode cX10_goesByPoints 1 = .ok (.ifCond .eq 24, 3) := by decide +kernel
theorem dX10_goesByPoints_4 : decode cX10_goesByPoints 4 = .ok (.iload_n 0, 1) := by decide +kernel
theorem dX10_goesByPoints_5 : decode cX10_goesByPoints 5 = .ok (.iconst 1, 1) := by decide +kernel
theorem dX10_goesByPoints_6 : decode cX10_goesByPoints 6 = .ok (.if_icmp .eq 19, 3) := by decide +kernel
theorem dX10_goesByPoints_9 : decode cX10_goesByPoints 9 = .ok (.iload_n 0, 1) := by decide +kernel
theorem dX10_goesByPoints_10 : decode cX10_goesByPoints 10 = .ok (.iconst 2, 1) := by decide +kernel
theorem dX10_goesByPoints_11 : decode cX10_goesByPoints 11 = .ok (.if_icmp .eq 14, 3) := by decide +kernel
theorem dX10_goesByPoints_14 : decode cX10_goesByPoints 14 = .ok (.iload_n 0, 1) := by decide +kernel
theorem dX10_goesByPoints_15 : decode cX10_goesByPoints 15 = .ok (.iconst 3, 1) := by decide +kernel
theorem dX10_goesByPoints_16 : decode cX10_goesByPoints 16 = .ok (.if_icmp .eq 9, 3) := by decide +kernel
theorem dX10_goesByPoints_19 : decode cX10_goesByPoints 19 = .ok (.iload_n 0, 1) := by decide +kernel
theorem dX10_goesByPoints_20 : decode cX10_goesByPoints 20 = .ok (.bipush 8, 2) := by decide +kernel
theorem dX10_goesByPoints_22 : decode cX10_goesByPoints 22 = .ok (.if_icmp .ne 7, 3) := by decide +kernel
theorem dX10_goesByPoints_25 : decode cX10_goesByPoints 25 = .ok (.iconst 1, 1) := by decide +kernel
theorem dX10_goesByPoints_26 : decode cX10_goesByPoints 26 = .ok (.goto 4, 3) := by decide +kernel
theorem dX10_goesByPoints_29 : decode cX10_goesByPoints 29 = .ok (.iconst 0, 1) := by decide +kernel
theorem dX10_goesByPoints_30 : decode cX10_goesByPoints 30 = .ok (.ireturn, 1) := by decide +kernel
theorem dX10_goesByRounds_0 : decode cX10_goesByRounds 0 = .ok (.iload_n 0, 1) := by decide +kernel
theorem dX10_goesByRounds_1 : decode cX10_goesByRounds 1 = .ok (.bipush 6, 2) := by decide +kernel
theorem dX10_goesByRounds_3 : decode cX10_goesByRounds 3 = .ok (.if_icmp .eq 9, 3) := by decide +kernel
theorem dX10_goesByRounds_6 : decode cX10_goesByRounds 6 = .ok (.iload_n 0, 1) := by decide +kernel
theorem dX10_goesByRounds_7 : decode cX10_goesByRounds 7 = .ok (.bipush 7, 2) := by decide +kernel
theorem dX10_goesByRounds_9 : decode cX10_goesByRounds 9 = .ok (.if_icmp .ne 7, 3) := by decide +kernel
theorem dX10_goesByRounds_12 : decode cX10_goesByRounds 12 = .ok (.iconst 1, 1) := by decide +kernel
theorem dX10_goesByRounds_13 : decode cX10_goesByRounds 13 = .ok (.goto 4, 3) := by decide +kernel
theorem dX10_goesByRounds_16 : decode cX10_goesByRounds 16 = .ok (.iconst 0, 1) := by decide +kernel
theorem dX10_goesByRounds_17 : decode cX10_goesByRounds 17 = .ok (.ireturn, 1) := by decide +kernel
theorem dX10_isGroupSize_0 : decode cX10_isGroupSize 0 = .ok (.iload_n 0, 1) := by decide +kernel
theorem dX10_isGroupSize_1 : decode cX10_isGroupSize 1 = .ok (.iconst 1, 1) := by decide +kernel
theorem dX10_isGroupSize_2 : decode cX10_isGroupSize 2 = .ok (.if_icmp .lt 13, 3) := by decide +kernel
theorem dX10_isGroupSize_5 : decode cX10_isGroupSize 5 = .ok (.iload_n 0, 1) := by decide +kernel
theorem dX10_isGroupSize_6 : decode cX10_isGroupSize 6 = .ok (.bipush 100, 2) := by decide +kernel
theorem dX10_isGroupSize_8 : decode cX10_isGroupSize 8 = .ok (.if_icmp .gt 7, 3) := by decide +kernel
theorem dX10_isGroupSize_11 : decode cX10_isGroupSize 11 = .ok (.iconst 1, 1) := by decide +kernel
theorem dX10_isGroupSize_12 : decode cX10_isGroupSize 12 = .ok (.goto 4, 3) := by decide +kernel
theorem dX10_isGroupSize_15 : decode cX10_isGroupSize 15 = .ok (.iconst 0, 1) := by decide +kernel
theorem dX10_isGroupSize_16 : decode cX10_isGroupSize 16 = .ok (.ireturn, 1) := by decide +kernel
theorem dX10_isSampleSize_0 : decode cX10_isSampleSize 0 = .ok (.iload_n 0, 1) := by decide +kernel
theorem dX10_isSampleSize_1 : decode cX10_isSampleSize 1 = .ok (.iconst 1, 1) := by decide +kernel
theorem dX10_isSampleSize_2 : decode cX10_isSampleSize 2 = .ok (.if_icmp .lt 13, 3) := by decide +kernel
theorem dX10_isSampleSize_5 : decode cX10_isSampleSize 5 = .ok (.iload_n 0, 1) := by decide +kernel
theorem dX10_isSampleSize_6 : decode cX10_isSampleSize 6 = .ok (.bipush 50, 2) := by decide +kernel
theorem dX10_isSampleSize_8 : decode cX10_isSampleSize 8 = .ok (.if_icmp .gt 7, 3) := by decide +kernel
theorem dX10_isSampleSize_11 : decode cX10_isSampleSize 11 = .ok (.iconst 1, 1) := by decide +kernel
theorem dX10_isSampleSize_12 : decode cX10_isSampleSize 12 = .ok (.goto 4, 3) := by decide +kernel
theorem dX10_isSampleSize_15 : decode cX10_isSampleSize 15 = .ok (.iconst 0, 1) := by decide +kernel
theorem dX10_isSampleSize_16 : decode cX10_isSampleSize 16 = .ok (.ireturn, 1) := by decide +kernel
theorem dX10_orNone_0 : decode cX10_orNone 0 = .ok (.iload_n 0, 1) := by decide +kernel
theorem dX10_orNone_1 : decode cX10_orNone 1 = .ok (.iconst (-1), 1) := by decide +kernel
theorem dX10_orNone_2 : decode cX10_orNone 2 = .ok (.if_icmp .ne 8, 3) := by decide +kernel
theorem dX10_orNone_5 : decode cX10_orNone 5 = .ok (.ldc 227, 2) := by decide +kernel
theorem dX10_orNone_7 : decode cX10_orNone 7 = .ok (.goto 4, 3) := by decide +kernel
theorem dX10_orNone_10 : decode cX10_orNone 10 = .ok (.iload_n 0, 1) := by decide +kernel
theorem dX10_orNone_11 : decode cX10_orNone 11 = .ok (.ireturn, 1) := by decide +kernel
theorem dX10_bothStand_0 : decode cX10_bothStand 0 = .ok (.aload_n 0, 1) := by decide +kernel
theorem dX10_bothStand_1 : decode cX10_bothStand 1 = .ok (.getfield 10, 3) := by decide +kernel
theorem dX10_bothStand_4 : decode cX10_bothStand 4 = .ok (.getfield 105, 3) := by decide +kernel
theorem dX10_bothStand_7 : decode cX10_bothStand 7 = .ok (.iload_n 1, 1) := by decide +kernel
theorem dX10_bothStand_8 : decode cX10_bothStand 8 = .ok (.invokestatic 108, 3) := by decide +kernel
theorem dX10_bothStand_11 : decode cX10_bothStand 11 = .ok (.ifCond .eq 21, 3) := by decide +kernel
theorem dX10_bothStand_14 : decode cX10_bothStand 14 = .ok (.aload_n 0, 1) := by decide +kernel
theorem dX10_bothStand_15 : decode cX10_bothStand 15 = .ok (.getfield 10, 3) := by decide +kernel
theorem dX10_bothStand_18 : decode cX10_bothStand 18 = .ok (.getfield 105, 3) := by decide +kernel
theorem dX10_bothStand_21 : decode cX10_bothStand 21 = .ok (.iload_n 2, 1) := by decide +kernel
theorem dX10_bothStand_22 : decode cX10_bothStand 22 = .ok (.invokestatic 108, 3) := by decide +kernel
theorem dX10_bothStand_25 : decode cX10_bothStand 25 = .ok (.ifCond .eq 7, 3) := by decide +kernel
theorem dX10_bothStand_28 : decode cX10_bothStand 28 = .ok (.iconst 1, 1) := by decide +kernel
theorem dX10_bothStand_29 : decode cX10_bothStand 29 = .ok (.goto 4, 3) := by decide +kernel
theorem dX10_bothStand_32 : decode cX10_bothStand 32 = .ok (.iconst 0, 1) := by decide +kernel
theorem dX10_bothStand_33 : decode cX10_bothStand 33 = .ok (.ireturn, 1) := by decide +kernel
theorem dX10_isPlace_0 : decode cX10_isPlace 0 = .ok (.iload_n 1, 1) := by decide +kernel
theorem dX10_isPlace_1 : decode cX10_isPlace 1 = .ok (.ifCond .lt 21, 3) := by decide +kernel
theorem dX10_isPlace_4 : decode cX10_isPlace 4 = .ok (.iload_n 1, 1) := by decide +kernel
theorem dX10_isPlace_5 : decode cX10_isPlace 5 = .ok (.aload_n 0, 1) := by decide +kernel
theorem dX10_isPlace_6 : decode cX10_isPlace 6 = .ok (.getfield 10, 3) := by decide +kernel
theorem dX10_isPlace_9 : decode cX10_isPlace 9 = .ok (.getfield 105, 3) := by decide +kernel
theorem dX10_isPlace_12 : decode cX10_isPlace 12 = .ok (.invokestatic 278, 3) := by decide +kernel
theorem dX10_isPlace_15 : decode cX10_isPlace 15 = .ok (.if_icmp .ge 7, 3) := by decide +kernel
theorem dX10_isPlace_18 : decode cX10_isPlace 18 = .ok (.iconst 1, 1) := by decide +kernel
theorem dX10_isPlace_19 : decode cX10_isPlace 19 = .ok (.goto 4, 3) := by decide +kernel
theorem dX10_isPlace_22 : decode cX10_isPlace 22 = .ok (.iconst 0, 1) := by decide +kernel
theorem dX10_isPlace_23 : decode cX10_isPlace 23 = .ok (.ireturn, 1) := by decide +kernel
theorem dX10_castAll_0 : decode cX10_castAll 0 = .ok (.aload_n 0, 1) := by decide +kernel
theorem dX10_castAll_1 : decode cX10_castAll 1 = .ok (.aload_n 0, 1) := by decide +kernel
theorem dX10_castAll_2 : decode cX10_castAll 2 = .ok (.getfield 10, 3) := by decide +kernel
theorem dX10_castAll_5 : decode cX10_castAll 5 = .ok (.getfield 105, 3) := by decide +kernel
theorem dX10_castAll_8 : decode cX10_castAll 8 = .ok (.iconst 0, 1) := by decide +kernel
theorem dX10_castAll_9 : decode cX10_castAll 9 = .ok (.aload_n 0, 1) := by decide +kernel
theorem dX10_castAll_10 : decode cX10_castAll 10 = .ok (.getfield 10, 3) := by decide +kernel
theorem dX10_castAll_13 : decode cX10_castAll 13 = .ok (.getfield 68, 3) := by decide +kernel
theorem dX10_castAll_16 : decode cX10_castAll 16 = .ok (.invokevirtual 251, 3) := by decide +kernel
theorem dX10_castAll_19 : decode cX10_castAll 19 = .ok (.return_, 1) := by decide +kernel
theorem dX10_castGroups_0 : decode cX10_castGroups 0 = .ok (.aload_n 0, 1) := by decide +kernel
theorem dX10_castGroups_1 : decode cX10_castGroups 1 = .ok (.getfield 30, 3) := by decide +kernel
theorem dX10_castGroups_4 : decode cX10_castGroups 4 = .ok (.iload_n 1, 1) := by decide +kernel
theorem dX10_castGroups_5 : decode cX10_castGroups 5 = .ok (.invokevirtual 283, 3) := by decide +kernel
theorem dX10_castGroups_8 : decode cX10_castGroups 8 = .ok (.iload_n 2, 1) := by decide +kernel
theorem dX10_castGroups_9 : decode cX10_castGroups 9 = .ok (.istore 4, 2) := by decide +kernel
theorem dX10_castGroups_11 : decode cX10_castGroups 11 = .ok (.iload 4, 2) := by decide +kernel
theorem dX10_castGroups_13 : decode cX10_castGroups 13 = .ok (.iload_n 3, 1) := by decide +kernel
theorem dX10_castGroups_14 : decode cX10_castGroups 14 = .ok (.if_icmp .ge 36, 3) := by decide +kernel
theorem dX10_castGroups_17 : decode cX10_castGroups 17 = .ok (.aload_n 0, 1) := by decide +kernel
theorem dX10_castGroups_18 : decode cX10_castGroups 18 = .ok (.getfield 30, 3) := by decide +kernel
theorem dX10_castGroups_21 : decode cX10_castGroups 21 = .ok (.iload 4, 2) := by decide +kernel
theorem dX10_castGroups_23 : decode cX10_castGroups 23 = .ok (.aload_n 0, 1) := by decide +kernel
theorem dX10_castGroups_24 : decode cX10_castGroups 24 = .ok (.getfield 10, 3) := by decide +kernel
theorem dX10_castGroups_27 : decode cX10_castGroups 27 = .ok (.iload 4, 2) := by decide +kernel
theorem dX10_castGroups_29 : decode cX10_castGroups 29 = .ok (.invokevirtual 80, 3) := by decide +kernel
theorem dX10_castGroups_32 : decode cX10_castGroups 32 = .ok (.aload_n 0, 1) := by decide +kernel
theorem dX10_castGroups_33 : decode cX10_castGroups 33 = .ok (.getfield 10, 3) := by decide +kernel
theorem dX10_castGroups_36 : decode cX10_castGroups 36 = .ok (.iload 4, 2) := by decide +kernel
theorem dX10_castGroups_38 : decode cX10_castGroups 38 = .ok (.invokevirtual 83, 3) := by decide +kernel
theorem dX10_castGroups_41 : decode cX10_castGroups 41 = .ok (.invokevirtual 231, 3) := by decide +kernel
theorem dX10_castGroups_44 : decode cX10_castGroups 44 = .ok (.iinc 4 1, 3) := by decide +kernel
theorem dX10_castGroups_47 : decode cX10_castGroups 47 = .ok (.goto (-36), 3) := by decide +kernel
theorem dX10_castGroups_50 : decode cX10_castGroups 50 = .ok (.return_, 1) := by decide +kernel
theorem dX10_winnerWith_0 : decode cX10_winnerWith 0 = .ok (.aload_n 0, 1) := by decide +kernel
theorem dX10_winnerWith_1 : decode cX10_winnerWith 1 = .ok (.getfield 30, 3) := by decide +kernel
theorem dX10_winnerWith_4 : decode cX10_winnerWith 4 = .ok (.iload_n 2, 1) := by decide +kernel
theorem dX10_winnerWith_5 : decode cX10_winnerWith 5 = .ok (.iload_n 3, 1) := by decide +kernel
theorem dX10_winnerWith_6 : decode cX10_winnerWith 6 = .ok (.iload 4, 2) := by decide +kernel
theorem dX10_winnerWith_8 : decode cX10_winnerWith 8 = .ok (.invokevirtual 231, 3) := by decide +kernel
theorem dX10_winnerWith_11 : decode cX10_winnerWith 11 = .ok (.aload_n 0, 1) := by decide +kernel
theorem dX10_winnerWith_12 : decode cX10_winnerWith 12 = .ok (.getfield 37, 3) := by decide +kernel
theorem dX10_winnerWith_15 : decode cX10_winnerWith 15 = .ok (.iload_n 1, 1) := by decide +kernel
theorem dX10_winnerWith_16 : decode cX10_winnerWith 16 = .ok (.aload_n 0, 1) := by decide +kernel
theorem dX10_winnerWith_17 : decode cX10_winnerWith 17 = .ok (.getfield 30, 3) := by decide +kernel
theorem dX10_winnerWith_20 : decode cX10_winnerWith 20 = .ok (.invokevirtual 135, 3) := by decide +kernel
theorem dX10_winnerWith_23 : decode cX10_winnerWith 23 = .ok (.istore 5, 2) := by decide +kernel
theorem dX10_winnerWith_25 : decode cX10_winnerWith 25 = .ok (.aload_n 0, 1) := by decide +kernel
theorem dX10_winnerWith_26 : decode cX10_winnerWith 26 = .ok (.getfield 30, 3) := by decide +kernel
theorem dX10_winnerWith_29 : decode cX10_winnerWith 29 = .ok (.iload_n 2, 1) := by decide +kernel
theorem dX10_winnerWith_30 : decode cX10_winnerWith 30 = .ok (.aload_n 0, 1) := by decide +kernel
theorem dX10_winnerWith_31 : decode cX10_winnerWith 31 = .ok (.getfield 10, 3) := by decide +kernel
theorem dX10_winnerWith_34 : decode cX10_winnerWith 34 = .ok (.iload_n 2, 1) := by decide +kernel
theorem dX10_winnerWith_35 : decode cX10_winnerWith 35 = .ok (.invokevirtual 80, 3) := by decide +kernel
theorem dX10_winnerWith_38 : decode cX10_winnerWith 38 = .ok (.aload_n 0, 1) := by decide +kernel
theorem dX10_winnerWith_39 : decode cX10_winnerWith 39 = .ok (.getfield 10, 3) := by decide +kernel
theorem dX10_winnerWith_42 : decode cX10_winnerWith 42 = .ok (.iload_n 2, 1) := by decide +kernel
theorem dX10_winnerWith_43 : decode cX10_winnerWith 43 = .ok (.invokevirtual 83, 3) := by decide +kernel
theorem dX10_winnerWith_46 : decode cX10_winnerWith 46 = .ok (.invokevirtual 231, 3) := by decide +kernel
theorem dX10_winnerWith_49 : decode cX10_winnerWith 49 = .ok (.iload 5, 2) := by decide +kernel
theorem dX10_winnerWith_51 : decode cX10_winnerWith 51 = .ok (.ireturn, 1) := by decide +kernel
theorem dX10_bestStrategy_0 : decode cX10_bestStrategy 0 = .ok (.aload_n 0, 1) := by decide +kernel
theorem dX10_bestStrategy_1 : decode cX10_bestStrategy 1 = .ok (.invokevirtual 122, 3) := by decide +kernel
theorem dX10_bestStrategy_4 : decode cX10_bestStrategy 4 = .ok (.aload_n 0, 1) := by decide +kernel
theorem dX10_bestStrategy_5 : decode cX10_bestStrategy 5 = .ok (.getfield 10, 3) := by decide +kernel
theorem dX10_bestStrategy_8 : decode cX10_bestStrategy 8 = .ok (.iload_n 2, 1) := by decide +kernel
theorem dX10_bestStrategy_9 : decode cX10_bestStrategy 9 = .ok (.invokevirtual 80, 3) := by decide +kernel
theorem dX10_bestStrategy_12 : decode cX10_bestStrategy 12 = .ok (.istore_n 3, 1) := by decide +kernel
theorem dX10_bestStrategy_13 : decode cX10_bestStrategy 13 = .ok (.aload_n 0, 1) := by decide +kernel
theorem dX10_bestStrategy_14 : decode cX10_bestStrategy 14 = .ok (.getfield 10, 3) := by decide +kernel
theorem dX10_bestStrategy_17 : decode cX10_bestStrategy 17 = .ok (.iload_n 2, 1) := by decide +kernel
theorem dX10_bestStrategy_18 : decode cX10_bestStrategy 18 = .ok (.invokevirtual 83, 3) := by decide +kernel
theorem dX10_bestStrategy_21 : decode cX10_bestStrategy 21 = .ok (.aload_n 0, 1) := by decide +kernel
theorem dX10_bestStrategy_22 : decode cX10_bestStrategy 22 = .ok (.getfield 10, 3) := by decide +kernel
theorem dX10_bestStrategy_25 : decode cX10_bestStrategy 25 = .ok (.getfield 105, 3) := by decide +kernel
theorem dX10_bestStrategy_28 : decode cX10_bestStrategy 28 = .ok (.invokestatic 245, 3) := by decide +kernel
theorem dX10_bestStrategy_31 : decode cX10_bestStrategy 31 = .ok (.istore 4, 2) := by decide +kernel
theorem dX10_bestStrategy_33 : decode cX10_bestStrategy 33 = .ok (.iload 4, 2) := by decide +kernel
theorem dX10_bestStrategy_35 : decode cX10_bestStrategy 35 = .ok (.iconst 0, 1) := by decide +kernel
theorem dX10_bestStrategy_36 : decode cX10_bestStrategy 36 = .ok (.invokestatic 234, 3) := by decide +kernel
theorem dX10_bestStrategy_39 : decode cX10_bestStrategy 39 = .ok (.istore 5, 2) := by decide +kernel
theorem dX10_bestStrategy_41 : decode cX10_bestStrategy 41 = .ok (.aload_n 0, 1) := by decide +kernel
theorem dX10_bestStrategy_42 : decode cX10_bestStrategy 42 = .ok (.getfield 37, 3) := by decide +kernel
theorem dX10_bestStrategy_45 : decode cX10_bestStrategy 45 = .ok (.iload_n 1, 1) := by decide +kernel
theorem dX10_bestStrategy_46 : decode cX10_bestStrategy 46 = .ok (.aload_n 0, 1) := by decide +kernel
theorem dX10_bestStrategy_47 : decode cX10_bestStrategy 47 = .ok (.getfield 30, 3) := by decide +kernel
theorem dX10_bestStrategy_50 : decode cX10_bestStrategy 50 = .ok (.invokevirtual 135, 3) := by decide +kernel
theorem dX10_bestStrategy_53 : decode cX10_bestStrategy 53 = .ok (.istore 6, 2) := by decide +kernel
theorem dX10_bestStrategy_55 : decode cX10_bestStrategy 55 = .ok (.iconst 0, 1) := by decide +kernel
theorem dX10_bestStrategy_56 : decode cX10_bestStrategy 56 = .ok (.istore 7, 2) := by decide +kernel
theorem dX10_bestStrategy_58 : decode cX10_bestStrategy 58 = .ok (.aload_n 0, 1) := by decide +kernel
theorem dX10_bestStrategy_59 : decode cX10_bestStrategy 59 = .ok (.getfield 10, 3) := by decide +kernel
theorem dX10_bestStrategy_62 : decode cX10_bestStrategy 62 = .ok (.getfield 105, 3) := by decide +kernel
theorem dX10_bestStrategy_65 : decode cX10_bestStrategy 65 = .ok (.invokestatic 278, 3) := by decide +kernel
theorem dX10_bestStrategy_68 : decode cX10_bestStrategy 68 = .ok (.invokestatic 286, 3) := by decide +kernel
theorem dX10_bestStrategy_71 : decode cX10_bestStrategy 71 = .ok (.istore 8, 2) := by decide +kernel
theorem dX10_bestStrategy_73 : decode cX10_bestStrategy 73 = .ok (.iconst 0, 1) := by decide +kernel
theorem dX10_bestStrategy_74 : decode cX10_bestStrategy 74 = .ok (.istore 9, 2) := by decide +kernel
theorem dX10_bestStrategy_76 : decode cX10_bestStrategy 76 = .ok (.iload 9, 2) := by decide +kernel
theorem dX10_bestStrategy_78 : decode cX10_bestStrategy 78 = .ok (.iload 8, 2) := by decide +kernel
theorem dX10_bestStrategy_80 : decode cX10_bestStrategy 80 = .ok (.if_icmp .ge 75, 3) := by decide +kernel
theorem dX10_bestStrategy_83 : decode cX10_bestStrategy 83 = .ok (.iload 6, 2) := by decide +kernel
theorem dX10_bestStrategy_85 : decode cX10_bestStrategy 85 = .ok (.iload 5, 2) := by decide +kernel
theorem dX10_bestStrategy_87 : decode cX10_bestStrategy 87 = .ok (.if_icmp .eq 68, 3) := by decide +kernel
theorem dX10_bestStrategy_90 : decode cX10_bestStrategy 90 = .ok (.aload_n 0, 1) := by decide +kernel
theorem dX10_bestStrategy_91 : decode cX10_bestStrategy 91 = .ok (.getfield 10, 3) := by decide +kernel
theorem dX10_bestStrategy_94 : decode cX10_bestStrategy 94 = .ok (.getfield 105, 3) := by decide +kernel
theorem dX10_bestStrategy_97 : decode cX10_bestStrategy 97 = .ok (.iload 9, 2) := by decide +kernel
theorem dX10_bestStrategy_99 : decode cX10_bestStrategy 99 = .ok (.invokestatic 289, 3) := by decide +kernel
theorem dX10_bestStrategy_102 : decode cX10_bestStrategy 102 = .ok (.istore 10, 2) := by decide +kernel
theorem dX10_bestStrategy_104 : decode cX10_bestStrategy 104 = .ok (.aload_n 0, 1) := by decide +kernel
theorem dX10_bestStrategy_105 : decode cX10_bestStrategy 105 = .ok (.getfield 30, 3) := by decide +kernel
theorem dX10_bestStrategy_108 : decode cX10_bestStrategy 108 = .ok (.iload_n 2, 1) := by decide +kernel
theorem dX10_bestStrategy_109 : decode cX10_bestStrategy 109 = .ok (.iload_n 3, 1) := by decide +kernel
theorem dX10_bestStrategy_110 : decode cX10_bestStrategy 110 = .ok (.iload 10, 2) := by decide +kernel
theorem dX10_bestStrategy_112 : decode cX10_bestStrategy 112 = .ok (.invokevirtual 231, 3) := by decide +kernel
theorem dX10_bestStrategy_115 : decode cX10_bestStrategy 115 = .ok (.aload_n 0, 1) := by decide +kernel
theorem dX10_bestStrategy_116 : decode cX10_bestStrategy 116 = .ok (.getfield 37, 3) := by decide +kernel
theorem dX10_bestStrategy_119 : decode cX10_bestStrategy 119 = .ok (.iload_n 1, 1) := by decide +kernel
theorem dX10_bestStrategy_120 : decode cX10_bestStrategy 120 = .ok (.aload_n 0, 1) := by decide +kernel
theorem dX10_bestStrategy_121 : decode cX10_bestStrategy 121 = .ok (.getfield 30, 3) := by decide +kernel
theorem dX10_bestStrategy_124 : decode cX10_bestStrategy 124 = .ok (.invokevirtual 135, 3) := by decide +kernel
theorem dX10_bestStrategy_127 : decode cX10_bestStrategy 127 = .ok (.istore 11, 2) := by decide +kernel
theorem dX10_bestStrategy_129 : decode cX10_bestStrategy 129 = .ok (.iload 4, 2) := by decide +kernel
theorem dX10_bestStrategy_131 : decode cX10_bestStrategy 131 = .ok (.iload 11, 2) := by decide +kernel
theorem dX10_bestStrategy_133 : decode cX10_bestStrategy 133 = .ok (.iload 6, 2) := by decide +kernel
theorem dX10_bestStrategy_135 : decode cX10_bestStrategy 135 = .ok (.invokestatic 241, 3) := by decide +kernel
theorem dX10_bestStrategy_138 : decode cX10_bestStrategy 138 = .ok (.ifCond .eq 11, 3) := by decide +kernel
theorem dX10_bestStrategy_141 : decode cX10_bestStrategy 141 = .ok (.iload 11, 2) := by decide +kernel
theorem dX10_bestStrategy_143 : decode cX10_bestStrategy 143 = .ok (.istore 6, 2) := by decide +kernel
theorem dX10_bestStrategy_145 : decode cX10_bestStrategy 145 = .ok (.iload 10, 2) := by decide +kernel
theorem dX10_bestStrategy_147 : decode cX10_bestStrategy 147 = .ok (.istore 7, 2) := by decide +kernel
theorem dX10_bestStrategy_149 : decode cX10_bestStrategy 149 = .ok (.iinc 9 1, 3) := by decide +kernel
theorem dX10_bestStrategy_152 : decode cX10_bestStrategy 152 = .ok (.goto (-76), 3) := by decide +kernel
theorem dX10_bestStrategy_155 : decode cX10_bestStrategy 155 = .ok (.iload 7, 2) := by decide +kernel
theorem dX10_bestStrategy_157 : decode cX10_bestStrategy 157 = .ok (.ireturn, 1) := by decide +kernel
theorem dX10_castSample_0 : decode cX10_castSample 0 = .ok (.aload_n 0, 1) := by decide +kernel
theorem dX10_castSample_1 : decode cX10_castSample 1 = .ok (.getfield 30, 3) := by decide +kernel
theorem dX10_castSample_4 : decode cX10_castSample 4 = .ok (.aload_n 0, 1) := by decide +kernel
theorem dX10_castSample_5 : decode cX10_castSample 5 = .ok (.getfield 10, 3) := by decide +kernel
theorem dX10_castSample_8 : decode cX10_castSample 8 = .ok (.getfield 105, 3) := by decide +kernel
theorem dX10_castSample_11 : decode cX10_castSample 11 = .ok (.invokevirtual 283, 3) := by decide +kernel
theorem dX10_castSample_14 : decode cX10_castSample 14 = .ok (.aload_n 0, 1) := by decide +kernel
theorem dX10_castSample_15 : decode cX10_castSample 15 = .ok (.getfield 10, 3) := by decide +kernel
theorem dX10_castSample_18 : decode cX10_castSample 18 = .ok (.invokevirtual 115, 3) := by decide +kernel
theorem dX10_castSample_21 : decode cX10_castSample 21 = .ok (.istore_n 3, 1) := by decide +kernel
theorem dX10_castSample_22 : decode cX10_castSample 22 = .ok (.iload_n 1, 1) := by decide +kernel
theorem dX10_castSample_23 : decode cX10_castSample 23 = .ok (.istore 4, 2) := by decide +kernel
theorem dX10_castSample_25 : decode cX10_castSample 25 = .ok (.iconst 0, 1) := by decide +kernel
theorem dX10_castSample_26 : decode cX10_castSample 26 = .ok (.istore 5, 2) := by decide +kernel
theorem dX10_castSample_28 : decode cX10_castSample 28 = .ok (.iload 5, 2) := by decide +kernel
theorem dX10_castSample_30 : decode cX10_castSample 30 = .ok (.iload_n 2, 1) := by decide +kernel
theorem dX10_castSample_31 : decode cX10_castSample 31 = .ok (.if_icmp .ge 78, 3) := by decide +kernel
theorem dX10_castSample_34 : decode cX10_castSample 34 = .ok (.iload 4, 2) := by decide +kernel
theorem dX10_castSample_36 : decode cX10_castSample 36 = .ok (.ldc_w 292, 3) := by decide +kernel
theorem dX10_castSample_39 : decode cX10_castSample 39 = .ok (.imul, 1) := by decide +kernel
theorem dX10_castSample_40 : decode cX10_castSample 40 = .ok (.sipush 12345, 3) := by decide +kernel
theorem dX10_castSample_43 : decode cX10_castSample 43 = .ok (.iadd, 1) := by decide +kernel
theorem dX10_castSample_44 : decode cX10_castSample 44 = .ok (.istore 4, 2) := by decide +kernel
theorem dX10_castSample_46 : decode cX10_castSample 46 = .ok (.iload_n 3, 1) := by decide +kernel
theorem dX10_castSample_47 : decode cX10_castSample 47 = .ok (.ifCond .le 13, 3) := by decide +kernel
theorem dX10_castSample_50 : decode cX10_castSample 50 = .ok (.iload 4, 2) := by decide +kernel
theorem dX10_castSample_52 : decode cX10_castSample 52 = .ok (.bipush 8, 2) := by decide +kernel
theorem dX10_castSample_54 : decode cX10_castSample 54 = .ok (.iushr, 1) := by decide +kernel
theorem dX10_castSample_55 : decode cX10_castSample 55 = .ok (.iload_n 3, 1) := by decide +kernel
theorem dX10_castSample_56 : decode cX10_castSample 56 = .ok (.irem, 1) := by decide +kernel
theorem dX10_castSample_57 : decode cX10_castSample 57 = .ok (.goto 4, 3) := by decide +kernel
theorem dX10_castSample_60 : decode cX10_castSample 60 = .ok (.iconst 0, 1) := by decide +kernel
theorem dX10_castSample_61 : decode cX10_castSample 61 = .ok (.istore 6, 2) := by decide +kernel
theorem dX10_castSample_63 : decode cX10_castSample 63 = .ok (.aload_n 0, 1) := by decide +kernel
theorem dX10_castSample_64 : decode cX10_castSample 64 = .ok (.getfield 10, 3) := by decide +kernel
theorem dX10_castSample_67 : decode cX10_castSample 67 = .ok (.iload 6, 2) := by decide +kernel
theorem dX10_castSample_69 : decode cX10_castSample 69 = .ok (.invokevirtual 293, 3) := by decide +kernel
theorem dX10_castSample_72 : decode cX10_castSample 72 = .ok (.istore 7, 2) := by decide +kernel
theorem dX10_castSample_74 : decode cX10_castSample 74 = .ok (.aload_n 0, 1) := by decide +kernel
theorem dX10_castSample_75 : decode cX10_castSample 75 = .ok (.getfield 30, 3) := by decide +kernel
theorem dX10_castSample_78 : decode cX10_castSample 78 = .ok (.iload 7, 2) := by decide +kernel
theorem dX10_castSample_80 : decode cX10_castSample 80 = .ok (.aload_n 0, 1) := by decide +kernel
theorem dX10_castSample_81 : decode cX10_castSample 81 = .ok (.getfield 30, 3) := by decide +kernel
theorem dX10_castSample_84 : decode cX10_castSample 84 = .ok (.iload 7, 2) := by decide +kernel
theorem dX10_castSample_86 : decode cX10_castSample 86 = .ok (.invokevirtual 296, 3) := by decide +kernel
theorem dX10_castSample_89 : decode cX10_castSample 89 = .ok (.iconst 1, 1) := by decide +kernel
theorem dX10_castSample_90 : decode cX10_castSample 90 = .ok (.iadd, 1) := by decide +kernel
theorem dX10_castSample_91 : decode cX10_castSample 91 = .ok (.aload_n 0, 1) := by decide +kernel
theorem dX10_castSample_92 : decode cX10_castSample 92 = .ok (.getfield 10, 3) := by decide +kernel
theorem dX10_castSample_95 : decode cX10_castSample 95 = .ok (.iload 7, 2) := by decide +kernel
theorem dX10_castSample_97 : decode cX10_castSample 97 = .ok (.invokevirtual 83, 3) := by decide +kernel
theorem dX10_castSample_100 : decode cX10_castSample 100 = .ok (.invokevirtual 231, 3) := by decide +kernel
theorem dX10_castSample_103 : decode cX10_castSample 103 = .ok (.iinc 5 1, 3) := by decide +kernel
theorem dX10_castSample_106 : decode cX10_castSample 106 = .ok (.goto (-78), 3) := by decide +kernel
theorem dX10_castSample_109 : decode cX10_castSample 109 = .ok (.iload 4, 2) := by decide +kernel
theorem dX10_castSample_111 : decode cX10_castSample 111 = .ok (.ireturn, 1) := by decide +kernel
theorem dX10_remember_0 : decode cX10_remember 0 = .ok (.aload_n 0, 1) := by decide +kernel
theorem dX10_remember_1 : decode cX10_remember 1 = .ok (.getfield 260, 3) := by decide +kernel
theorem dX10_remember_4 : decode cX10_remember 4 = .ok (.aload_n 0, 1) := by decide +kernel
theorem dX10_remember_5 : decode cX10_remember 5 = .ok (.getfield 16, 3) := by decide +kernel
theorem dX10_remember_8 : decode cX10_remember 8 = .ok (.arraylength, 1) := by decide +kernel
theorem dX10_remember_9 : decode cX10_remember 9 = .ok (.if_icmp .lt 7, 3) := by decide +kernel
theorem dX10_remember_12 : decode cX10_remember 12 = .ok (.aload_n 0, 1) := by decide +kernel
theorem dX10_remember_13 : decode cX10_remember 13 = .ok (.invokevirtual 297, 3) := by decide +kernel
theorem dX10_remember_16 : decode cX10_remember 16 = .ok (.aload_n 0, 1) := by decide +kernel
theorem dX10_remember_17 : decode cX10_remember 17 = .ok (.getfield 260, 3) := by decide +kernel
theorem dX10_remember_20 : decode cX10_remember 20 = .ok (.ifCond .lt 15, 3) := by decide +kernel
theorem dX10_remember_23 : decode cX10_remember 23 = .ok (.aload_n 0, 1) := by decide +kernel
theorem dX10_remember_24 : decode cX10_remember 24 = .ok (.getfield 260, 3) := by decide +kernel
theorem dX10_remember_27 : decode cX10_remember 27 = .ok (.aload_n 0, 1) := by decide +kernel
theorem dX10_remember_28 : decode cX10_remember 28 = .ok (.getfield 16, 3) := by decide +kernel
theorem dX10_remember_31 : decode cX10_remember 31 = .ok (.arraylength, 1) := by decide +kernel
theorem dX10_remember_32 : decode cX10_remember 32 = .ok (.if_icmp .lt 4, 3) := by decide +kernel
theorem dX10_remember_35 : decode cX10_remember 35 = .ok (.return_, 1) := by decide +kernel
theorem dX10_remember_36 : decode cX10_remember 36 = .ok (.aload_n 0, 1) := by decide +kernel
theorem dX10_remember_37 : decode cX10_remember 37 = .ok (.getfield 16, 3) := by decide +kernel
theorem dX10_remember_40 : decode cX10_remember 40 = .ok (.aload_n 0, 1) := by decide +kernel
theorem dX10_remember_41 : decode cX10_remember 41 = .ok (.getfield 260, 3) := by decide +kernel
theorem dX10_remember_44 : decode cX10_remember 44 = .ok (.aaload, 1) := by decide +kernel
theorem dX10_remember_45 : decode cX10_remember 45 = .ok (.astore_n 1, 1) := by decide +kernel
theorem dX10_remember_46 : decode cX10_remember 46 = .ok (.aload_n 1, 1) := by decide +kernel
theorem dX10_remember_47 : decode cX10_remember 47 = .ok (.ifnull 21, 3) := by decide +kernel
theorem dX10_remember_50 : decode cX10_remember 50 = .ok (.aload_n 1, 1) := by decide +kernel
theorem dX10_remember_51 : decode cX10_remember 51 = .ok (.aload_n 0, 1) := by decide +kernel
theorem dX10_remember_52 : decode cX10_remember 52 = .ok (.getfield 10, 3) := by decide +kernel
theorem dX10_remember_55 : decode cX10_remember 55 = .ok (.invokevirtual 263, 3) := by decide +kernel
theorem dX10_remember_58 : decode cX10_remember 58 = .ok (.aload_n 0, 1) := by decide +kernel
theorem dX10_remember_59 : decode cX10_remember 59 = .ok (.dup, 1) := by decide +kernel
theorem dX10_remember_60 : decode cX10_remember 60 = .ok (.getfield 260, 3) := by decide +kernel
theorem dX10_remember_63 : decode cX10_remember 63 = .ok (.iconst 1, 1) := by decide +kernel
theorem dX10_remember_64 : decode cX10_remember 64 = .ok (.iadd, 1) := by decide +kernel
theorem dX10_remember_65 : decode cX10_remember 65 = .ok (.putfield 260, 3) := by decide +kernel
theorem dX10_remember_68 : decode cX10_remember 68 = .ok (.return_, 1) := by decide +kernel
theorem dX10_dropOldest_0 : decode cX10_dropOldest 0 = .ok (.aload_n 0, 1) := by decide +kernel
theorem dX10_dropOldest_1 : decode cX10_dropOldest 1 = .ok (.getfield 16, 3) := by decide +kernel
theorem dX10_dropOldest_4 : decode cX10_dropOldest 4 = .ok (.iconst 0, 1) := by decide +kernel
theorem dX10_dropOldest_5 : decode cX10_dropOldest 5 = .ok (.aaload, 1) := by decide +kernel
theorem dX10_dropOldest_6 : decode cX10_dropOldest 6 = .ok (.astore_n 1, 1) := by decide +kernel
theorem dX10_dropOldest_7 : decode cX10_dropOldest 7 = .ok (.iconst 1, 1) := by decide +kernel
theorem dX10_dropOldest_8 : decode cX10_dropOldest 8 = .ok (.istore_n 2, 1) := by decide +kernel
theorem dX10_dropOldest_9 : decode cX10_dropOldest 9 = .ok (.iload_n 2, 1) := by decide +kernel
theorem dX10_dropOldest_10 : decode cX10_dropOldest 10 = .ok (.aload_n 0, 1) := by decide +kernel
theorem dX10_dropOldest_11 : decode cX10_dropOldest 11 = .ok (.getfield 16, 3) := by decide +kernel
theorem dX10_dropOldest_14 : decode cX10_dropOldest 14 = .ok (.arraylength, 1) := by decide +kernel
theorem dX10_dropOldest_15 : decode cX10_dropOldest 15 = .ok (.if_icmp .ge 23, 3) := by decide +kernel
theorem dX10_dropOldest_18 : decode cX10_dropOldest 18 = .ok (.aload_n 0, 1) := by decide +kernel
theorem dX10_dropOldest_19 : decode cX10_dropOldest 19 = .ok (.getfield 16, 3) := by decide +kernel
theorem dX10_dropOldest_22 : decode cX10_dropOldest 22 = .ok (.iload_n 2, 1) := by decide +kernel
theorem dX10_dropOldest_23 : decode cX10_dropOldest 23 = .ok (.iconst 1, 1) := by decide +kernel
theorem dX10_dropOldest_24 : decode cX10_dropOldest 24 = .ok (.isub, 1) := by decide +kernel
theorem dX10_dropOldest_25 : decode cX10_dropOldest 25 = .ok (.aload_n 0, 1) := by decide +kernel
theorem dX10_dropOldest_26 : decode cX10_dropOldest 26 = .ok (.getfield 16, 3) := by decide +kernel
theorem dX10_dropOldest_29 : decode cX10_dropOldest 29 = .ok (.iload_n 2, 1) := by decide +kernel
theorem dX10_dropOldest_30 : decode cX10_dropOldest 30 = .ok (.aaload, 1) := by decide +kernel
theorem dX10_dropOldest_31 : decode cX10_dropOldest 31 = .ok (.aastore, 1) := by decide +kernel
theorem dX10_dropOldest_32 : decode cX10_dropOldest 32 = .ok (.iinc 2 1, 3) := by decide +kernel
theorem dX10_dropOldest_35 : decode cX10_dropOldest 35 = .ok (.goto (-26), 3) := by decide +kernel
theorem dX10_dropOldest_38 : decode cX10_dropOldest 38 = .ok (.aload_n 0, 1) := by decide +kernel
theorem dX10_dropOldest_39 : decode cX10_dropOldest 39 = .ok (.getfield 16, 3) := by decide +kernel
theorem dX10_dropOldest_42 : decode cX10_dropOldest 42 = .ok (.aload_n 0, 1) := by decide +kernel
theorem dX10_dropOldest_43 : decode cX10_dropOldest 43 = .ok (.getfield 16, 3) := by decide +kernel
theorem dX10_dropOldest_46 : decode cX10_dropOldest 46 = .ok (.arraylength, 1) := by decide +kernel
theorem dX10_dropOldest_47 : decode cX10_dropOldest 47 = .ok (.iconst 1, 1) := by decide +kernel
theorem dX10_dropOldest_48 : decode cX10_dropOldest 48 = .ok (.isub, 1) := by decide +kernel
theorem dX10_dropOldest_49 : decode cX10_dropOldest 49 = .ok (.aload_n 1, 1) := by decide +kernel
theorem dX10_dropOldest_50 : decode cX10_dropOldest 50 = .ok (.aastore, 1) := by decide +kernel
theorem dX10_dropOldest_51 : decode cX10_dropOldest 51 = .ok (.aload_n 0, 1) := by decide +kernel
theorem dX10_dropOldest_52 : decode cX10_dropOldest 52 = .ok (.aload_n 0, 1) := by decide +kernel
theorem dX10_dropOldest_53 : decode cX10_dropOldest 53 = .ok (.getfield 16, 3) := by decide +kernel
theorem dX10_dropOldest_56 : decode cX10_dropOldest 56 = .ok (.arraylength, 1) := by decide +kernel
theorem dX10_dropOldest_57 : decode cX10_dropOldest 57 = .ok (.iconst 1, 1) := by decide +kernel
theorem dX10_dropOldest_58 : decode cX10_dropOldest 58 = .ok (.isub, 1) := by decide +kernel
theorem dX10_dropOldest_59 : decode cX10_dropOldest 59 = .ok (.putfield 260, 3) := by decide +kernel
theorem dX10_dropOldest_62 : decode cX10_dropOldest 62 = .ok (.return_, 1) := by decide +kernel
theorem dX11_init_0 : decode cX11_init 0 = .ok (.aload_n 0, 1) := by decide +kernel
theorem dX11_init_1 : decode cX11_init 1 = .ok (.invokespecial 1, 3) := by decide +kernel
theorem dX11_init_4 : decode cX11_init 4 = .ok (.aload_n 0, 1) := by decide +kernel
theorem dX11_init_5 : decode cX11_init 5 = .ok (.sipush 852, 3) := by decide +kernel
theorem dX11_init_8 : decode cX11_init 8 = .ok (.newarray .int, 2) := by decide +kernel
theorem dX11_init_10 : decode cX11_init 10 = .ok (.putfield 7, 3) := by decide +kernel
theorem dX11_init_13 : decode cX11_init 13 = .ok (.aload_n 0, 1) := by decide +kernel
theorem dX11_init_14 : decode cX11_init 14 = .ok (.bipush 100, 2) := by decide +kernel
theorem dX11_init_16 : decode cX11_init 16 = .ok (.newarray .int, 2) := by decide +kernel
theorem dX11_init_18 : decode cX11_init 18 = .ok (.putfield 13, 3) := by decide +kernel
theorem dX11_init_21 : decode cX11_init 21 = .ok (.aload_n 0, 1) := by decide +kernel
theorem dX11_init_22 : decode cX11_init 22 = .ok (.bipush 20, 2) := by decide +kernel
theorem dX11_init_24 : decode cX11_init 24 = .ok (.newarray .int, 2) := by decide +kernel
theorem dX11_init_26 : decode cX11_init 26 = .ok (.putfield 16, 3) := by decide +kernel
theorem dX11_init_29 : decode cX11_init 29 = .ok (.aload_n 0, 1) := by decide +kernel
theorem dX11_init_30 : decode cX11_init 30 = .ok (.bipush 100, 2) := by decide +kernel
theorem dX11_init_32 : decode cX11_init 32 = .ok (.newarray .int, 2) := by decide +kernel
theorem dX11_init_34 : decode cX11_init 34 = .ok (.putfield 19, 3) := by decide +kernel
theorem dX11_init_37 : decode cX11_init 37 = .ok (.aload_n 0, 1) := by decide +kernel
theorem dX11_init_38 : decode cX11_init 38 = .ok (.bipush 25, 2) := by decide +kernel
theorem dX11_init_40 : decode cX11_init 40 = .ok (.newarray .int, 2) := by decide +kernel
theorem dX11_init_42 : decode cX11_init 42 = .ok (.putfield 22, 3) := by decide +kernel
theorem dX11_init_45 : decode cX11_init 45 = .ok (.aload_n 0, 1) := by decide +kernel
theorem dX11_init_46 : decode cX11_init 46 = .ok (.iconst 5, 1) := by decide +kernel
theorem dX11_init_47 : decode cX11_init 47 = .ok (.newarray .int, 2) := by decide +kernel
theorem dX11_init_49 : decode cX11_init 49 = .ok (.putfield 25, 3) := by decide +kernel
theorem dX11_init_52 : decode cX11_init 52 = .ok (.aload_n 0, 1) := by decide +kernel
theorem dX11_init_53 : decode cX11_init 53 = .ok (.bipush 25, 2) := by decide +kernel
theorem dX11_init_55 : decode cX11_init 55 = .ok (.newarray .int, 2) := by decide +kernel
theorem dX11_init_57 : decode cX11_init 57 = .ok (.putfield 28, 3) := by decide +kernel
theorem dX11_init_60 : decode cX11_init 60 = .ok (.aload_n 0, 1) := by decide +kernel
theorem dX11_init_61 : decode cX11_init 61 = .ok (.bipush 25, 2) := by decide +kernel
theorem dX11_init_63 : decode cX11_init 63 = .ok (.newarray .boolean, 2) := by decide +kernel
theorem dX11_init_65 : decode cX11_init 65 = .ok (.putfield 31, 3) := by decide +kernel
theorem dX11_init_68 : decode cX11_init 68 = .ok (.aload_n 0, 1) := by decide +kernel
theorem dX11_init_69 : decode cX11_init 69 = .ok (.bipush 25, 2) := by decide +kernel
theorem dX11_init_71 : decode cX11_init 71 = .ok (.newarray .boolean, 2) := by decide +kernel
theorem dX11_init_73 : decode cX11_init 73 = .ok (.putfield 35, 3) := by decide +kernel
theorem dX11_init_76 : decode cX11_init 76 = .ok (.aload_n 0, 1) := by decide +kernel
theorem dX11_init_77 : decode cX11_init 77 = .ok (.iconst 5, 1) := by decide +kernel
theorem dX11_init_78 : decode cX11_init 78 = .ok (.newarray .int, 2) := by decide +kernel
theorem dX11_init_80 : decode cX11_init 80 = .ok (.putfield 38, 3) := by decide +kernel
theorem dX11_init_83 : decode cX11_init 83 = .ok (.aload_n 0, 1) := by decide +kernel
theorem dX11_init_84 : decode cX11_init 84 = .ok (.bipush 25, 2) := by decide +kernel
theorem dX11_init_86 : decode cX11_init 86 = .ok (.newarray .int, 2) := by decide +kernel
theorem dX11_init_88 : decode cX11_init 88 = .ok (.putfield 41, 3) := by decide +kernel
theorem dX11_init_91 : decode cX11_init 91 = .ok (.aload_n 0, 1) := by decide +kernel
theorem dX11_init_92 : decode cX11_init 92 = .ok (.iconst 5, 1) := by decide +kernel
theorem dX11_init_93 : decode cX11_init 93 = .ok (.newarray .int, 2) := by decide +kernel
theorem dX11_init_95 : decode cX11_init 95 = .ok (.putfield 44, 3) := by decide +kernel
theorem dX11_init_98 : decode cX11_init 98 = .ok (.aload_n 0, 1) := by decide +kernel
theorem dX11_init_99 : decode cX11_init 99 = .ok (.iconst 5, 1) := by decide +kernel
theorem dX11_init_100 : decode cX11_init 100 = .ok (.newarray .int, 2) := by decide +kernel
theorem dX11_init_102 : decode cX11_init 102 = .ok (.putfield 47, 3) := by decide +kernel
theorem dX11_init_105 : decode cX11_init 105 = .ok (.aload_n 0, 1) := by decide +kernel
theorem dX11_init_106 : decode cX11_init 106 = .ok (.iconst 5, 1) := by decide +kernel
theorem dX11_init_107 : decode cX11_init 107 = .ok (.newarray .int, 2) := by decide +kernel
theorem dX11_init_109 : decode cX11_init 109 = .ok (.putfield 50, 3) := by decide +kernel
theorem dX11_init_112 : decode cX11_init 112 = .ok (.aload_n 0, 1) := by decide +kernel
theorem dX11_init_113 : decode cX11_init 113 = .ok (.iconst 5, 1) := by decide +kernel
theorem dX11_init_114 : decode cX11_init 114 = .ok (.newarray .int, 2) := by decide +kernel
theorem dX11_init_116 : decode cX11_init 116 = .ok (.putfield 53, 3) := by decide +kernel
theorem dX11_init_119 : decode cX11_init 119 = .ok (.aload_n 0, 1) := by decide +kernel
theorem dX11_init_120 : decode cX11_init 120 = .ok (.iconst 5, 1) := by decide +kernel
theorem dX11_init_121 : decode cX11_init 121 = .ok (.newarray .int, 2) := by decide +kernel
theorem dX11_init_123 : decode cX11_init 123 = .ok (.putfield 56, 3) := by decide +kernel
theorem dX11_init_126 : decode cX11_init 126 = .ok (.aload_n 0, 1) := by decide +kernel
theorem dX11_init_127 : decode cX11_init 127 = .ok (.iconst 5, 1) := by decide +kernel
theorem dX11_init_128 : decode cX11_init 128 = .ok (.newarray .int, 2) := by decide +kernel
theorem dX11_init_130 : decode cX11_init 130 = .ok (.putfield 59, 3) := by decide +kernel
theorem dX11_init_133 : decode cX11_init 133 = .ok (.aload_n 0, 1) := by decide +kernel
theorem dX11_init_134 : decode cX11_init 134 = .ok (.getfield 7, 3) := by decide +kernel
theorem dX11_init_137 : decode cX11_init 137 = .ok (.iconst 1, 1) := by decide +kernel
theorem dX11_init_138 : decode cX11_init 138 = .ok (.bipush 31, 2) := by decide +kernel
theorem dX11_init_140 : decode cX11_init 140 = .ok (.iastore, 1) := by decide +kernel
theorem dX11_init_141 : decode cX11_init 141 = .ok (.return_, 1) := by decide +kernel
theorem dX11_in_0 : decode cX11_in 0 = .ok (.iload_n 0, 1) := by decide +kernel
theorem dX11_in_1 : decode cX11_in 1 = .ok (.iload_n 1, 1) := by decide +kernel
theorem dX11_in_2 : decode cX11_in 2 = .ok (.if_icmp .lt 12, 3) := by decide +kernel
theorem dX11_in_5 : decode cX11_in 5 = .ok (.iload_n 0, 1) := by decide +kernel
theorem dX11_in_6 : decode cX11_in 6 = .ok (.iload_n 2, 1) := by decide +kernel
theorem dX11_in_7 : decode cX11_in 7 = .ok (.if_icmp .gt 7, 3) := by decide +kernel
theorem dX11_in_10 : decode cX11_in 10 = .ok (.iconst 1, 1) := by decide +kernel
theorem dX11_in_11 : decode cX11_in 11 = .ok (.goto 4, 3) := by decide +kernel
theorem dX11_in_14 : decode cX11_in 14 = .ok (.iconst 0, 1) := by decide +kernel
theorem dX11_in_15 : decode cX11_in 15 = .ok (.ireturn, 1) := by decide +kernel
theorem dX11_copies_0 : decode cX11_copies 0 = .ok (.iconst 0, 1) := by decide +kernel
theorem dX11_copies_1 : decode cX11_copies 1 = .ok (.istore_n 3, 1) := by decide +kernel
theorem dX11_copies_2 : decode cX11_copies 2 = .ok (.iload_n 3, 1) := by decide +kernel
theorem dX11_copies_3 : decode cX11_copies 3 = .ok (.sipush 142, 3) := by decide +kernel
theorem dX11_copies_6 : decode cX11_copies 6 = .ok (.if_icmp .ge 33, 3) := by decide +kernel
theorem dX11_copies_9 : decode cX11_copies 9 = .ok (.aload_n 0, 1) := by decide +kernel
theorem dX11_copies_10 : decode cX11_copies 10 = .ok (.getfield 7, 3) := by decide +kernel
theorem dX11_copies_13 : decode cX11_copies 13 = .ok (.sipush 142, 3) := by decide +kernel
theorem dX11_copies_16 : decode cX11_copies 16 = .ok (.iload_n 2, 1) := by decide +kernel
theorem dX11_copies_17 : decode cX11_copies 17 = .ok (.imul, 1) := by decide +kernel
theorem dX11_copies_18 : decode cX11_copies 18 = .ok (.iload_n 3, 1) := by decide +kernel
theorem dX11_copies_19 : decode cX11_copies 19 = .ok (.iadd, 1) := by decide +kernel
theorem dX11_copies_20 : decode cX11_copies 20 = .ok (.aload_n 0, 1) := by decide +kernel
theorem dX11_copies_21 : decode cX11_copies 21 = .ok (.getfield 7, 3) := by decide +kernel
theorem dX11_copies_24 : decode cX11_copies 24 = .ok (.sipush 142, 3) := by decide +kernel
theorem dX11_copies_27 : decode cX11_copies 27 = .ok (.iload_n 1, 1) := by decide +kernel
theorem dX11_copies_28 : decode cX11_copies 28 = .ok (.imul, 1) := by decide +kernel
theorem dX11_copies_29 : decode cX11_copies 29 = .ok (.iload_n 3, 1) := by decide +kernel
theorem dX11_copies_30 : decode cX11_copies 30 = .ok (.iadd, 1) := by decide +kernel
theorem dX11_copies_31 : decode cX11_copies 31 = .ok (.iaload, 1) := by decide +kernel
theorem dX11_copies_32 : decode cX11_copies 32 = .ok (.iastore, 1) := by decide +kernel
theorem dX11_copies_33 : decode cX11_copies 33 = .ok (.iinc 3 1, 3) := by decide +kernel
theorem dX11_copies_36 : decode cX11_copies 36 = .ok (.goto (-34), 3) := by decide +kernel
theorem dX11_copies_39 : decode cX11_copies 39 = .ok (.return_, 1) := by decide +kernel
theorem dX11_saves_0 : decode cX11_saves 0 = .ok (.iconst 1, 1) := by decide +kernel
theorem dX11_saves_1 : decode cX11_saves 1 = .ok (.istore_n 1, 1) := by decide +kernel
theorem dX11_saves_2 : decode cX11_saves 2 = .ok (.iload_n 1, 1) := by decide +kernel
theorem dX11_saves_3 : decode cX11_saves 3 = .ok (.iconst 5, 1) := by decide +kernel
theorem dX11_saves_4 : decode cX11_saves 4 = .ok (.if_icmp .ge 25, 3) := by decide +kernel
theorem dX11_saves_7 : decode cX11_saves 7 = .ok (.aload_n 0, 1) := by decide +kernel
theorem dX11_saves_8 : decode cX11_saves 8 = .ok (.getfield 62, 3) := by decide +kernel
theorem dX11_saves_11 : decode cX11_saves 11 = .ok (.iconst 5, 1) := by decide +kernel
theorem dX11_saves_12 : decode cX11_saves 12 = .ok (.if_icmp .ne 17, 3) := by decide +kernel
theorem dX11_saves_15 : decode cX11_saves 15 = .ok (.aload_n 0, 1) := by decide +kernel
theorem dX11_saves_16 : decode cX11_saves 16 = .ok (.iload_n 1, 1) := by decide +kernel
theorem dX11_saves_17 : decode cX11_saves 17 = .ok (.iconst 1, 1) := by decide +kernel
theorem dX11_saves_18 : decode cX11_saves 18 = .ok (.iadd, 1) := by decide +kernel
theorem dX11_saves_19 : decode cX11_saves 19 = .ok (.iload_n 1, 1) := by decide +kernel
theorem dX11_saves_20 : decode cX11_saves 20 = .ok (.invokevirtual 66, 3) := by decide +kernel
theorem dX11_saves_23 : decode cX11_saves 23 = .ok (.iinc 1 1, 3) := by decide +kernel
theorem dX11_saves_26 : decode cX11_saves 26 = .ok (.goto (-24), 3) := by decide +kernel
theorem dX11_saves_29 : decode cX11_saves 29 = .ok (.aload_n 0, 1) := by decide +kernel
theorem dX11_saves_30 : decode cX11_saves 30 = .ok (.dup, 1) := by decide +kernel
theorem dX11_saves_31 : decode cX11_saves 31 = .ok (.getfield 62, 3) := by decide +kernel
theorem dX11_saves_34 : decode cX11_saves 34 = .ok (.aload_n 0, 1) := by decide +kernel
theorem dX11_saves_35 : decode cX11_saves 35 = .ok (.getfield 62, 3) := by decide +kernel
theorem dX11_saves_38 : decode cX11_saves 38 = .ok (.iconst 5, 1) := by decide +kernel
theorem dX11_saves_39 : decode cX11_saves 39 = .ok (.if_icmp .ne 7, 3) := by decide +kernel
theorem dX11_saves_42 : decode cX11_saves 42 = .ok (.iconst 1, 1) := by decide +kernel
theorem dX11_saves_43 : decode cX11_saves 43 = .ok (.goto 4, 3) := by decide +kernel
theorem dX11_saves_46 : decode cX11_saves 46 = .ok (.iconst 0, 1) := by decide +kernel
theorem dX11_saves_47 : decode cX11_saves 47 = .ok (.isub, 1) := by decide +kernel
theorem dX11_saves_48 : decode cX11_saves 48 = .ok (.putfield 62, 3) := by decide +kernel
theorem dX11_saves_51 : decode cX11_saves 51 = .ok (.aload_n 0, 1) := by decide +kernel
theorem dX11_saves_52 : decode cX11_saves 52 = .ok (.dup, 1) := by decide +kernel
theorem dX11_saves_53 : decode cX11_saves 53 = .ok (.getfield 62, 3) := by decide +kernel
theorem dX11_saves_56 : decode cX11_saves 56 = .ok (.iconst 1, 1) := by decide +kernel
theorem dX11_saves_57 : decode cX11_saves 57 = .ok (.iadd, 1) := by decide +kernel
theorem dX11_saves_58 : decode cX11_saves 58 = .ok (.putfield 62, 3) := by decide +kernel
theorem dX11_saves_61 : decode cX11_saves 61 = .ok (.aload_n 0, 1) := by decide +kernel
theorem dX11_saves_62 : decode cX11_saves 62 = .ok (.iconst 0, 1) := by decide +kernel
theorem dX11_saves_63 : decode cX11_saves 63 = .ok (.aload_n 0, 1) := by decide +kernel
theorem dX11_saves_64 : decode cX11_saves 64 = .ok (.getfield 62, 3) := by decide +kernel
theorem dX11_saves_67 : decode cX11_saves 67 = .ok (.invokevirtual 66, 3) := by decide +kernel
theorem dX11_saves_70 : decode cX11_saves 70 = .ok (.return_, 1) := by decide +kernel
theorem dX11_of_0 : decode cX11_of 0 = .ok (.aload_n 0, 1) := by decide +kernel
theorem dX11_of_1 : decode cX11_of 1 = .ok (.getfield 7, 3) := by decide +kernel
theorem dX11_of_4 : decode cX11_of 4 = .ok (.iconst 2, 1) := by decide +kernel
theorem dX11_of_5 : decode cX11_of 5 = .ok (.bipush 7, 2) := by decide +kernel
theorem dX11_of_7 : decode cX11_of 7 = .ok (.iload_n 1, 1) := by decide +kernel
theorem dX11_of_8 : decode cX11_of 8 = .ok (.imul, 1) := by decide +kernel
theorem dX11_of_9 : decode cX11_of 9 = .ok (.iadd, 1) := by decide +kernel
theorem dX11_of_10 : decode cX11_of 10 = .ok (.iload_n 2, 1) := by decide +kernel
theorem dX11_of_11 : decode cX11_of 11 = .ok (.iadd, 1) := by decide +kernel
theorem dX11_of_12 : decode cX11_of 12 = .ok (.iaload, 1) := by decide +kernel
theorem dX11_of_13 : decode cX11_of 13 = .ok (.ireturn, 1) := by decide +kernel
theorem dX11_sets_0 : decode cX11_sets 0 = .ok (.aload_n 0, 1) := by decide +kernel
theorem dX11_sets_1 : decode cX11_sets 1 = .ok (.getfield 7, 3) := by decide +kernel
theorem dX11_sets_4 : decode cX11_sets 4 = .ok (.iconst 2, 1) := by decide +kernel
theorem dX11_sets_5 : decode cX11_sets 5 = .ok (.bipush 7, 2) := by decide +kernel
theorem dX11_sets_7 : decode cX11_sets 7 = .ok (.iload_n 1, 1) := by decide +kernel
theorem dX11_sets_8 : decode cX11_sets 8 = .ok (.imul, 1) := by decide +kernel
theorem dX11_sets_9 : decode cX11_sets 9 = .ok (.iadd, 1) := by decide +kernel
theorem dX11_sets_10 : decode cX11_sets 10 = .ok (.iload_n 2, 1) := by decide +kernel
theorem dX11_sets_11 : decode cX11_sets 11 = .ok (.iadd, 1) := by decide +kernel
theorem dX11_sets_12 : decode cX11_sets 12 = .ok (.iload_n 3, 1) := by decide +kernel
theorem dX11_sets_13 : decode cX11_sets 13 = .ok (.iastore, 1) := by decide +kernel
theorem dX11_sets_14 : decode cX11_sets 14 = .ok (.return_, 1) := by decide +kernel
theorem dX11_isGroup_0 : decode cX11_isGroup 0 = .ok (.iload_n 1, 1) := by decide +kernel
theorem dX11_isGroup_1 : decode cX11_isGroup 1 = .ok (.iconst 0, 1) := by decide +kernel
theorem dX11_isGroup_2 : decode cX11_isGroup 2 = .ok (.aload_n 0, 1) := by decide +kernel
theorem dX11_isGroup_3 : decode cX11_isGroup 3 = .ok (.getfield 7, 3) := by decide +kernel
theorem dX11_isGroup_6 : decode cX11_isGroup 6 = .ok (.iconst 0, 1) := by decide +kernel
theorem dX11_isGroup_7 : decode cX11_isGroup 7 = .ok (.iaload, 1) := by decide +kernel
theorem dX11_isGroup_8 : decode cX11_isGroup 8 = .ok (.iconst 1, 1) := by decide +kernel
theorem dX11_isGroup_9 : decode cX11_isGroup 9 = .ok (.isub, 1) := by decide +kernel
theorem dX11_isGroup_10 : decode cX11_isGroup 10 = .ok (.invokestatic 70, 3) := by decide +kernel
theorem dX11_isGroup_13 : decode cX11_isGroup 13 = .ok (.ireturn, 1) := by decide +kernel
theorem dX11_isCandidate_0 : decode cX11_isCandidate 0 = .ok (.iload_n 0, 1) := by decide +kernel
theorem dX11_isCandidate_1 : decode cX11_isCandidate 1 = .ok (.iconst 0, 1) := by decide +kernel
theorem dX11_isCandidate_2 : decode cX11_isCandidate 2 = .ok (.iconst 4, 1) := by decide +kernel
theorem dX11_isCandidate_3 : decode cX11_isCandidate 3 = .ok (.invokestatic 70, 3) := by decide +kernel
theorem dX11_isCandidate_6 : decode cX11_isCandidate 6 = .ok (.ireturn, 1) := by decide +kernel
theorem dX11_isRule_0 : decode cX11_isRule 0 = .ok (.iload_n 0, 1) := by decide +kernel
theorem dX11_isRule_1 : decode cX11_isRule 1 = .ok (.iconst 0, 1) := by decide +kernel
theorem dX11_isRule_2 : decode cX11_isRule 2 = .ok (.bipush 11, 2) := by decide +kernel
theorem dX11_isRule_4 : decode cX11_isRule 4 = .ok (.invokestatic 70, 3) := by decide +kernel
theorem dX11_isRule_7 : decode cX11_isRule 7 = .ok (.ireturn, 1) := by decide +kernel
theorem dX11_has_0 : decode cX11_has 0 = .ok (.iload_n 0, 1) := by decide +kernel
theorem dX11_has_1 : decode cX11_has 1 = .ok (.iload_n 1, 1) := by decide +kernel
theorem dX11_has_2 : decode cX11_has 2 = .ok (.ishr, 1) := by decide +kernel
theorem dX11_has_3 : decode cX11_has 3 = .ok (.iconst 1, 1) := by decide +kernel
theorem dX11_has_4 : decode cX11_has 4 = .ok (.iand, 1) := by decide +kernel
theorem dX11_has_5 : decode cX11_has 5 = .ok (.iconst 1, 1) := by decide +kernel
theorem dX11_has_6 : decode cX11_has 6 = .ok (.if_icmp .ne 7, 3) := by decide +kernel
theorem dX11_has_9 : decode cX11_has 9 = .ok (.iconst 1, 1) := by decide +kernel
theorem dX11_has_10 : decode cX11_has 10 = .ok (.goto 4, 3) := by decide +kernel
theorem dX11_has_13 : decode cX11_has 13 = .ok (.iconst 0, 1) := by decide +kernel
theorem dX11_has_14 : decode cX11_has 14 = .ok (.ireturn, 1) := by decide +kernel
theorem dX11_many_0 : decode cX11_many 0 = .ok (.iconst 0, 1) := by decide +kernel
theorem dX11_many_1 : decode cX11_many 1 = .ok (.istore_n 1, 1) := by decide +kernel
theorem dX11_many_2 : decode cX11_many 2 = .ok (.iconst 0, 1) := by decide +kernel
theorem dX11_many_3 : decode cX11_many 3 = .ok (.istore_n 2, 1) := by decide +kernel
theorem dX11_many_4 : decode cX11_many 4 = .ok (.iload_n 2, 1) := by decide +kernel
theorem dX11_many_5 : decode cX11_many 5 = .ok (.iconst 5, 1) := by decide +kernel
theorem dX11_many_6 : decode cX11_many 6 = .ok (.if_icmp .ge 17, 3) := by decide +kernel
theorem dX11_many_9 : decode cX11_many 9 = .ok (.iload_n 1, 1) := by decide +kernel
theorem dX11_many_10 : decode cX11_many 10 = .ok (.iload_n 0, 1) := by decide +kernel
theorem dX11_many_11 : decode cX11_many 11 = .ok (.iload_n 2, 1) := by decide +kernel
theorem dX11_many_12 : decode cX11_many 12 = .ok (.ishr, 1) := by decide +kernel
theorem dX11_many_13 : decode cX11_many 13 = .ok (.iconst 1, 1) := by decide +kernel
theorem dX11_many_14 : decode cX11_many 14 = .ok (.iand, 1) := by decide +kernel
theorem dX11_many_15 : decode cX11_many 15 = .ok (.iadd, 1) := by decide +kernel
theorem dX11_many_16 : decode cX11_many 16 = .ok (.istore_n 1, 1) := by decide +kernel
theorem dX11_many_17 : decode cX11_many 17 = .ok (.iinc 2 1, 3) := by decide +kernel
theorem dX11_many_20 : decode cX11_many 20 = .ok (.goto (-16), 3) := by decide +kernel
theorem dX11_many_23 : decode cX11_many 23 = .ok (.iload_n 1, 1) := by decide +kernel
theorem dX11_many_24 : decode cX11_many 24 = .ok (.ireturn, 1) := by decide +kernel
theorem dX11_lowest_0 : decode cX11_lowest 0 = .ok (.iconst 0, 1) := by decide +kernel
theorem dX11_lowest_1 : decode cX11_lowest 1 = .ok (.istore_n 1, 1) := by decide +kernel
theorem dX11_lowest_2 : decode cX11_lowest 2 = .ok (.iload_n 0, 1) := by decide +kernel
theorem dX11_lowest_3 : decode cX11_lowest 3 = .ok (.iload_n 1, 1) := by decide +kernel
theorem dX11_lowest_4 : decode cX11_lowest 4 = .ok (.invokestatic 74, 3) := by decide +kernel
theorem dX11_lowest_7 : decode cX11_lowest 7 = .ok (.ifCond .ne 9, 3) := by decide +kernel
theorem dX11_lowest_10 : decode cX11_lowest 10 = .ok (.iinc 1 1, 3) := by decide +kernel
theorem dX11_lowest_13 : decode cX11_lowest 13 = .ok (.goto (-11), 3) := by decide +kernel
theorem dX11_lowest_16 : decode cX11_lowest 16 = .ok (.iload_n 1, 1) := by decide +kernel
theorem dX11_lowest_17 : decode cX11_lowest 17 = .ok (.ireturn, 1) := by decide +kernel
theorem dX11_loads_0 : decode cX11_loads 0 = .ok (.aload_n 0, 1) := by decide +kernel
theorem dX11_loads_1 : decode cX11_loads 1 = .ok (.aload_n 0, 1) := by decide +kernel
theorem dX11_loads_2 : decode cX11_loads 2 = .ok (.getfield 7, 3) := by decide +kernel
theorem dX11_loads_5 : decode cX11_loads 5 = .ok (.iconst 0, 1) := by decide +kernel
theorem dX11_loads_6 : decode cX11_loads 6 = .ok (.iaload, 1) := by decide +kernel
theorem dX11_loads_7 : decode cX11_loads 7 = .ok (.putfield 78, 3) := by decide +kernel
theorem dX11_loads_10 : decode cX11_loads 10 = .ok (.iconst 0, 1) := by decide +kernel
theorem dX11_loads_11 : decode cX11_loads 11 = .ok (.istore_n 1, 1) := by decide +kernel
theorem dX11_loads_12 : decode cX11_loads 12 = .ok (.iload_n 1, 1) := by decide +kernel
theorem dX11_loads_13 : decode cX11_loads 13 = .ok (.aload_n 0, 1) := by decide +kernel
theorem dX11_loads_14 : decode cX11_loads 14 = .ok (.getfield 78, 3) := by decide +kernel
theorem dX11_loads_17 : decode cX11_loads 17 = .ok (.if_icmp .ge 26, 3) := by decide +kernel
theorem dX11_loads_20 : decode cX11_loads 20 = .ok (.aload_n 0, 1) := by decide +kernel
theorem dX11_loads_21 : decode cX11_loads 21 = .ok (.getfield 16, 3) := by decide +kernel
theorem dX11_loads_24 : decode cX11_loads 24 = .ok (.iload_n 1, 1) := by decide +kernel
theorem dX11_loads_25 : decode cX11_loads 25 = .ok (.aload_n 0, 1) := by decide +kernel
theorem dX11_loads_26 : decode cX11_loads 26 = .ok (.iload_n 1, 1) := by decide +kernel
theorem dX11_loads_27 : decode cX11_loads 27 = .ok (.iconst 0, 1) := by decide +kernel
theorem dX11_loads_28 : decode cX11_loads 28 = .ok (.invokevirtual 81, 3) := by decide +kernel
theorem dX11_loads_31 : decode cX11_loads 31 = .ok (.iastore, 1) := by decide +kernel
theorem dX11_loads_32 : decode cX11_loads 32 = .ok (.aload_n 0, 1) := by decide +kernel
theorem dX11_loads_33 : decode cX11_loads 33 = .ok (.iload_n 1, 1) := by decide +kernel
theorem dX11_loads_34 : decode cX11_loads 34 = .ok (.invokevirtual 85, 3) := by decide +kernel
theorem dX11_loads_37 : decode cX11_loads 37 = .ok (.iinc 1 1, 3) := by decide +kernel
theorem dX11_loads_40 : decode cX11_loads 40 = .ok (.goto (-28), 3) := by decide +kernel
theorem dX11_loads_43 : decode cX11_loads 43 = .ok (.return_, 1) := by decide +kernel
theorem dX11_loadsBallot_0 : decode cX11_loadsBallot 0 = .ok (.iconst 0, 1) := by decide +kernel
theorem dX11_loadsBallot_1 : decode cX11_loadsBallot 1 = .ok (.istore_n 2, 1) := by decide +kernel
theorem dX11_loadsBallot_2 : decode cX11_loadsBallot 2 = .ok (.iload_n 2, 1) := by decide +kernel
theorem dX11_loadsBallot_3 : decode cX11_loadsBallot 3 = .ok (.iconst 5, 1) := by decide +kernel
theorem dX11_loadsBallot_4 : decode cX11_loadsBallot 4 = .ok (.if_icmp .ge 21, 3) := by decide +kernel
theorem dX11_loadsBallot_7 : decode cX11_loadsBallot 7 = .ok (.aload_n 0, 1) := by decide +kernel
theorem dX11_loadsBallot_8 : decode cX11_loadsBallot 8 = .ok (.getfield 19, 3) := by decide +kernel
theorem dX11_loadsBallot_11 : decode cX11_loadsBallot 11 = .ok (.iconst 5, 1) := by decide +kernel
theorem dX11_loadsBallot_12 : decode cX11_loadsBallot 12 = .ok (.iload_n 1, 1) := by decide +kernel
theorem dX11_loadsBallot_13 : decode cX11_loadsBallot 13 = .ok (.imul, 1) := by decide +kernel
theorem dX11_loadsBallot_14 : decode cX11_loadsBallot 14 = .ok (.iload_n 2, 1) := by decide +kernel
theorem dX11_loadsBallot_15 : decode cX11_loadsBallot 15 = .ok (.iadd, 1) := by decide +kernel
theorem dX11_loadsBallot_16 : decode cX11_loadsBallot 16 = .ok (.bipush 9, 2) := by decide +kernel
theorem dX11_loadsBallot_18 : decode cX11_loadsBallot 18 = .ok (.iastore, 1) := by decide +kernel
theorem dX11_loadsBallot_19 : decode cX11_loadsBallot 19 = .ok (.iinc 2 1, 3) := by decide +kernel
theorem dX11_loadsBallot_22 : decode cX11_loadsBallot 22 = .ok (.goto (-20), 3) := by decide +kernel
theorem dX11_loadsBallot_25 : decode cX11_loadsBallot 25 = .ok (.iconst 0, 1) := by decide +kernel
theorem dX11_loadsBallot_26 : decode cX11_loadsBallot 26 = .ok (.istore_n 2, 1) := by decide +kernel
theorem dX11_loadsBallot_27 : decode cX11_loadsBallot 27 = .ok (.iload_n 2, 1) := by decide +kernel
theorem dX11_loadsBallot_28 : decode cX11_loadsBallot 28 = .ok (.aload_n 0, 1) := by decide +kernel
theorem dX11_loadsBallot_29 : decode cX11_loadsBallot 29 = .ok (.iload_n 1, 1) := by decide +kernel
theorem dX11_loadsBallot_30 : decode cX11_loadsBallot 30 = .ok (.iconst 1, 1) := by decide +kernel
theorem dX11_loadsBallot_31 : decode cX11_loadsBallot 31 = .ok (.invokevirtual 81, 3) := by decide +kernel
theorem dX11_loadsBallot_34 : decode cX11_loadsBallot 34 = .ok (.if_icmp .ge 27, 3) := by decide +kernel
theorem dX11_loadsBallot_37 : decode cX11_loadsBallot 37 = .ok (.aload_n 0, 1) := by decide +kernel
theorem dX11_loadsBallot_38 : decode cX11_loadsBallot 38 = .ok (.getfield 19, 3) := by decide +kernel
theorem dX11_loadsBallot_41 : decode cX11_loadsBallot 41 = .ok (.iconst 5, 1) := by decide +kernel
theorem dX11_loadsBallot_42 : decode cX11_loadsBallot 42 = .ok (.iload_n 1, 1) := by decide +kernel
theorem dX11_loadsBallot_43 : decode cX11_loadsBallot 43 = .ok (.imul, 1) := by decide +kernel
theorem dX11_loadsBallot_44 : decode cX11_loadsBallot 44 = .ok (.aload_n 0, 1) := by decide +kernel
theorem dX11_loadsBallot_45 : decode cX11_loadsBallot 45 = .ok (.iload_n 1, 1) := by decide +kernel
theorem dX11_loadsBallot_46 : decode cX11_loadsBallot 46 = .ok (.iconst 2, 1) := by decide +kernel
theorem dX11_loadsBallot_47 : decode cX11_loadsBallot 47 = .ok (.iload_n 2, 1) := by decide +kernel
theorem dX11_loadsBallot_48 : decode cX11_loadsBallot 48 = .ok (.iadd, 1) := by decide +kernel
theorem dX11_loadsBallot_49 : decode cX11_loadsBallot 49 = .ok (.invokevirtual 81, 3) := by decide +kernel
theorem dX11_loadsBallot_52 : decode cX11_loadsBallot 52 = .ok (.iadd, 1) := by decide +kernel
theorem dX11_loadsBallot_53 : decode cX11_loadsBallot 53 = .ok (.iload_n 2, 1) := by decide +kernel
theorem dX11_loadsBallot_54 : decode cX11_loadsBallot 54 = .ok (.iastore, 1) := by decide +kernel
theorem dX11_loadsBallot_55 : decode cX11_loadsBallot 55 = .ok (.iinc 2 1, 3) := by decide +kernel
theorem dX11_loadsBallot_58 : decode cX11_loadsBallot 58 = .ok (.goto (-31), 3) := by decide +kernel
theorem dX11_loadsBallot_61 : decode cX11_loadsBallot 61 = .ok (.return_, 1) := by decide +kernel
theorem dX11_isOn_0 : decode cX11_isOn 0 = .ok (.aload_n 0, 1) := by decide +kernel
theorem dX11_isOn_1 : decode cX11_isOn 1 = .ok (.getfield 19, 3) := by decide +kernel
theorem dX11_isOn_4 : decode cX11_isOn 4 = .ok (.iconst 5, 1) := by decide +kernel
theorem dX11_isOn_5 : decode cX11_isOn 5 = .ok (.iload_n 1, 1) := by decide +kernel
theorem dX11_isOn_6 : decode cX11_isOn 6 = .ok (.imul, 1) := by decide +kernel
theorem dX11_isOn_7 : decode cX11_isOn 7 = .ok (.iload_n 2, 1) := by decide +kernel
theorem dX11_isOn_8 : decode cX11_isOn 8 = .ok (.iadd, 1) := by decide +kernel
theorem dX11_isOn_9 : decode cX11_isOn 9 = .ok (.iaload, 1) := by decide +kernel
theorem dX11_isOn_10 : decode cX11_isOn 10 = .ok (.bipush 9, 2) := by decide +kernel
theorem dX11_isOn_12 : decode cX11_isOn 12 = .ok (.if_icmp .ge 7, 3) := by decide +kernel
theorem dX11_isOn_15 : decode cX11_isOn 15 = .ok (.iconst 1, 1) := by decide +kernel
theorem dX11_isOn_16 : decode cX11_isOn 16 = .ok (.goto 4, 3) := by decide +kernel
theorem dX11_isOn_19 : decode cX11_isOn 19 = .ok (.iconst 0, 1) := by decide +kernel
theorem dX11_isOn_20 : decode cX11_isOn 20 = .ok (.ireturn, 1) := by decide +kernel
theorem dX11_isAbove_0 : decode cX11_isAbove 0 = .ok (.aload_n 0, 1) := by decide +kernel
theorem dX11_isAbove_1 : decode cX11_isAbove 1 = .ok (.getfield 19, 3) := by decide +kernel
theorem dX11_isAbove_4 : decode cX11_isAbove 4 = .ok (.iconst 5, 1) := by decide +kernel
theorem dX11_isAbove_5 : decode cX11_isAbove 5 = .ok (.iload_n 1, 1) := by decide +kernel
theorem dX11_isAbove_6 : decode cX11_isAbove 6 = .ok (.imul, 1) := by decide +kernel
theorem dX11_isAbove_7 : decode cX11_isAbove 7 = .ok (.iload_n 2, 1) := by decide +kernel
theorem dX11_isAbove_8 : decode cX11_isAbove 8 = .ok (.iadd, 1) := by decide +kernel
theorem dX11_isAbove_9 : decode cX11_isAbove 9 = .ok (.iaload, 1) := by decide +kernel
theorem dX11_isAbove_10 : decode cX11_isAbove 10 = .ok (.aload_n 0, 1) := by decide +kernel
theorem dX11_isAbove_11 : decode cX11_isAbove 11 = .ok (.getfield 19, 3) := by decide +kernel
theorem dX11_isAbove_14 : decode cX11_isAbove 14 = .ok (.iconst 5, 1) := by decide +kernel
theorem dX11_isAbove_15 : decode cX11_isAbove 15 = .ok (.iload_n 1, 1) := by decide +kernel
theorem dX11_isAbove_16 : decode cX11_isAbove 16 = .ok (.imul, 1) := by decide +kernel
theorem dX11_isAbove_17 : decode cX11_isAbove 17 = .ok (.iload_n 3, 1) := by decide +kernel
theorem dX11_isAbove_18 : decode cX11_isAbove 18 = .ok (.iadd, 1) := by decide +kernel
theorem dX11_isAbove_19 : decode cX11_isAbove 19 = .ok (.iaload, 1) := by decide +kernel
theorem dX11_isAbove_20 : decode cX11_isAbove 20 = .ok (.if_icmp .ge 7, 3) := by decide +kernel
theorem dX11_isAbove_23 : decode cX11_isAbove 23 = .ok (.iconst 1, 1) := by decide +kernel
theorem dX11_isAbove_24 : decode cX11_isAbove 24 = .ok (.goto 4, 3) := by decide +kernel
theorem dX11_isAbove_27 : decode cX11_isAbove 27 = .ok (.iconst 0, 1) := by decide +kernel
theorem dX11_isAbove_28 : decode cX11_isAbove 28 = .ok (.ireturn, 1) := by decide +kernel
theorem dX11_above_0 : decode cX11_above 0 = .ok (.iconst 0, 1) := by decide +kernel
theorem dX11_above_1 : decode cX11_above 1 = .ok (.istore 4, 2) := by decide +kernel
theorem dX11_above_3 : decode cX11_above 3 = .ok (.iconst 0, 1) := by decide +kernel
theorem dX11_above_4 : decode cX11_above 4 = .ok (.istore 5, 2) := by decide +kernel
theorem dX11_above_6 : decode cX11_above 6 = .ok (.iload 5, 2) := by decide +kernel
theorem dX11_above_8 : decode cX11_above 8 = .ok (.iconst 5, 1) := by decide +kernel
theorem dX11_above_9 : decode cX11_above 9 = .ok (.if_icmp .ge 39, 3) := by decide +kernel
theorem dX11_above_12 : decode cX11_above 12 = .ok (.iload 4, 2) := by decide +kernel
theorem dX11_above_14 : decode cX11_above 14 = .ok (.iload_n 3, 1) := by decide +kernel
theorem dX11_above_15 : decode cX11_above 15 = .ok (.iload 5, 2) := by decide +kernel
theorem dX11_above_17 : decode cX11_above 17 = .ok (.invokestatic 74, 3) := by decide +kernel
theorem dX11_above_20 : decode cX11_above 20 = .ok (.ifCond .eq 18, 3) := by decide +kernel
theorem dX11_above_23 : decode cX11_above 23 = .ok (.aload_n 0, 1) := by decide +kernel
theorem dX11_above_24 : decode cX11_above 24 = .ok (.iload_n 1, 1) := by decide +kernel
theorem dX11_above_25 : decode cX11_above 25 = .ok (.iload 5, 2) := by decide +kernel
theorem dX11_above_27 : decode cX11_above 27 = .ok (.iload_n 2, 1) := by decide +kernel
theorem dX11_above_28 : decode cX11_above 28 = .ok (.invokevirtual 89, 3) := by decide +kernel
theorem dX11_above_31 : decode cX11_above 31 = .ok (.ifCond .eq 7, 3) := by decide +kernel
theorem dX11_above_34 : decode cX11_above 34 = .ok (.iconst 1, 1) := by decide +kernel
theorem dX11_above_35 : decode cX11_above 35 = .ok (.goto 4, 3) := by decide +kernel
theorem dX11_above_38 : decode cX11_above 38 = .ok (.iconst 0, 1) := by decide +kernel
theorem dX11_above_39 : decode cX11_above 39 = .ok (.iadd, 1) := by decide +kernel
theorem dX11_above_40 : decode cX11_above 40 = .ok (.istore 4, 2) := by decide +kernel
theorem dX11_above_42 : decode cX11_above 42 = .ok (.iinc 5 1, 3) := by decide +kernel
theorem dX11_above_45 : decode cX11_above 45 = .ok (.goto (-39), 3) := by decide +kernel
theorem dX11_above_48 : decode cX11_above 48 = .ok (.iload 4, 2) := by decide +kernel
theorem dX11_above_50 : decode cX11_above 50 = .ok (.ireturn, 1) := by decide +kernel
theorem dX11_allVotes_0 : decode cX11_allVotes 0 = .ok (.iconst 0, 1) := by decide +kernel
theorem dX11_allVotes_1 : decode cX11_allVotes 1 = .ok (.istore_n 1, 1) := by decide +kernel
theorem dX11_allVotes_2 : decode cX11_allVotes 2 = .ok (.iconst 0, 1) := by decide +kernel
theorem dX11_allVotes_3 : decode cX11_allVotes 3 = .ok (.istore_n 2, 1) := by decide +kernel
theorem dX11_allVotes_4 : decode cX11_allVotes 4 = .ok (.iload_n 2, 1) := by decide +kernel
theorem dX11_allVotes_5 : decode cX11_allVotes 5 = .ok (.aload_n 0, 1) := by decide +kernel
theorem dX11_allVotes_6 : decode cX11_allVotes 6 = .ok (.getfield 78, 3) := by decide +kernel
theorem dX11_allVotes_9 : decode cX11_allVotes 9 = .ok (.if_icmp .ge 18, 3) := by decide +kernel
theorem dX11_allVotes_12 : decode cX11_allVotes 12 = .ok (.iload_n 1, 1) := by decide +kernel
theorem dX11_allVotes_13 : decode cX11_allVotes 13 = .ok (.aload_n 0, 1) := by decide +kernel
theorem dX11_allVotes_14 : decode cX11_allVotes 14 = .ok (.getfield 16, 3) := by decide +kernel
theorem dX11_allVotes_17 : decode cX11_allVotes 17 = .ok (.iload_n 2, 1) := by decide +kernel
theorem dX11_allVotes_18 : decode cX11_allVotes 18 = .ok (.iaload, 1) := by decide +kernel
theorem dX11_allVotes_19 : decode cX11_allVotes 19 = .ok (.iadd, 1) := by decide +kernel
theorem dX11_allVotes_20 : decode cX11_allVotes 20 = .ok (.istore_n 1, 1) := by decide +kernel
theorem dX11_allVotes_21 : decode cX11_allVotes 21 = .ok (.iinc 2 1, 3) := by decide +kernel
theorem dX11_allVotes_24 : decode cX11_allVotes 24 = .ok (.goto (-20), 3) := by decide +kernel
theorem dX11_allVotes_27 : decode cX11_allVotes 27 = .ok (.iload_n 1, 1) := by decide +kernel
theorem dX11_allVotes_28 : decode cX11_allVotes 28 = .ok (.ireturn, 1) := by decide +kernel
theorem dX11_counts_0 : decode cX11_counts 0 = .ok (.iconst 0, 1) := by decide +kernel
theorem dX11_counts_1 : decode cX11_counts 1 = .ok (.istore_n 1, 1) := by decide +kernel
theorem dX11_counts_2 : decode cX11_counts 2 = .ok (.iload_n 1, 1) := by decide +kernel
theorem dX11_counts_3 : decode cX11_counts 3 = .ok (.bipush 25, 2) := by decide +kernel
theorem dX11_counts_5 : decode cX11_counts 5 = .ok (.if_icmp .ge 65, 3) := by decide +kernel
theorem dX11_counts_8 : decode cX11_counts 8 = .ok (.aload_n 0, 1) := by decide +kernel
theorem dX11_counts_9 : decode cX11_counts 9 = .ok (.getfield 22, 3) := by decide +kernel
theorem dX11_counts_12 : decode cX11_counts 12 = .ok (.iload_n 1, 1) := by decide +kernel
theorem dX11_counts_13 : decode cX11_counts 13 = .ok (.iconst 0, 1) := by decide +kernel
theorem dX11_counts_14 : decode cX11_counts 14 = .ok (.iastore, 1) := by decide +kernel
theorem dX11_counts_15 : decode cX11_counts 15 = .ok (.iconst 0, 1) := by decide +kernel
theorem dX11_counts_16 : decode cX11_counts 16 = .ok (.istore_n 2, 1) := by decide +kernel
theorem dX11_counts_17 : decode cX11_counts 17 = .ok (.iload_n 2, 1) := by decide +kernel
theorem dX11_counts_18 : decode cX11_counts 18 = .ok (.aload_n 0, 1) := by decide +kernel
theorem dX11_counts_19 : decode cX11_counts 19 = .ok (.getfield 78, 3) := by decide +kernel
theorem dX11_counts_22 : decode cX11_counts 22 = .ok (.if_icmp .ge 42, 3) := by decide +kernel
theorem dX11_counts_25 : decode cX11_counts 25 = .ok (.aload_n 0, 1) := by decide +kernel
theorem dX11_counts_26 : decode cX11_counts 26 = .ok (.getfield 22, 3) := by decide +kernel
theorem dX11_counts_29 : decode cX11_counts 29 = .ok (.iload_n 1, 1) := by decide +kernel
theorem dX11_counts_30 : decode cX11_counts 30 = .ok (.dup2, 1) := by decide +kernel
theorem dX11_counts_31 : decode cX11_counts 31 = .ok (.iaload, 1) := by decide +kernel
theorem dX11_counts_32 : decode cX11_counts 32 = .ok (.aload_n 0, 1) := by decide +kernel
theorem dX11_counts_33 : decode cX11_counts 33 = .ok (.iload_n 2, 1) := by decide +kernel
theorem dX11_counts_34 : decode cX11_counts 34 = .ok (.iload_n 1, 1) := by decide +kernel
theorem dX11_counts_35 : decode cX11_counts 35 = .ok (.iconst 5, 1) := by decide +kernel
theorem dX11_counts_36 : decode cX11_counts 36 = .ok (.idiv, 1) := by decide +kernel
theorem dX11_counts_37 : decode cX11_counts 37 = .ok (.iload_n 1, 1) := by decide +kernel
theorem dX11_counts_38 : decode cX11_counts 38 = .ok (.iconst 5, 1) := by decide +kernel
theorem dX11_counts_39 : decode cX11_counts 39 = .ok (.irem, 1) := by decide +kernel
theorem dX11_counts_40 : decode cX11_counts 40 = .ok (.invokevirtual 89, 3) := by decide +kernel
theorem dX11_counts_43 : decode cX11_counts 43 = .ok (.ifCond .eq 12, 3) := by decide +kernel
theorem dX11_counts_46 : decode cX11_counts 46 = .ok (.aload_n 0, 1) := by decide +kernel
theorem dX11_counts_47 : decode cX11_counts 47 = .ok (.getfield 16, 3) := by decide +kernel
theorem dX11_counts_50 : decode cX11_counts 50 = .ok (.iload_n 2, 1) := by decide +kernel
theorem dX11_counts_51 : decode cX11_counts 51 = .ok (.iaload, 1) := by decide +kernel
theorem dX11_counts_52 : decode cX11_counts 52 = .ok (.goto 4, 3) := by decide +kernel
theorem dX11_counts_55 : decode cX11_counts 55 = .ok (.iconst 0, 1) := by decide +kernel
theorem dX11_counts_56 : decode cX11_counts 56 = .ok (.iadd, 1) := by decide +kernel
theorem dX11_counts_57 : decode cX11_counts 57 = .ok (.iastore, 1) := by decide +kernel
theorem dX11_counts_58 : decode cX11_counts 58 = .ok (.iinc 2 1, 3) := by decide +kernel
theorem dX11_counts_61 : decode cX11_counts 61 = .ok (.goto (-44), 3) := by decide +kernel
theorem dX11_counts_64 : decode cX11_counts 64 = .ok (.iinc 1 1, 3) := by decide +kernel
theorem dX11_counts_67 : decode cX11_counts 67 = .ok (.goto (-65), 3) := by decide +kernel
theorem dX11_counts_70 : decode cX11_counts 70 = .ok (.return_, 1) := by decide +kernel
theorem dX11_p_0 : decode cX11_p 0 = .ok (.aload_n 0, 1) := by decide +kernel
theorem dX11_p_1 : decode cX11_p 1 = .ok (.getfield 22, 3) := by decide +kernel
theorem dX11_p_4 : decode cX11_p 4 = .ok (.iconst 5, 1) := by decide +kernel
theorem dX11_p_5 : decode cX11_p 5 = .ok (.iload_n 1, 1) := by decide +kernel
theorem dX11_p_6 : decode cX11_p 6 = .ok (.imul, 1) := by decide +kernel
theorem dX11_p_7 : decode cX11_p 7 = .ok (.iload_n 2, 1) := by decide +kernel
theorem dX11_p_8 : decode cX11_p 8 = .ok (.iadd, 1) := by decide +kernel
theorem dX11_p_9 : decode cX11_p 9 = .ok (.iaload, 1) := by decide +kernel
theorem dX11_p_10 : decode cX11_p 10 = .ok (.ireturn, 1) := by decide +kernel
theorem dX11_beats_0 : decode cX11_beats 0 = .ok (.aload_n 0, 1) := by decide +kernel
theorem dX11_beats_1 : decode cX11_beats 1 = .ok (.iload_n 1, 1) := by decide +kernel
theorem dX11_beats_2 : decode cX11_beats 2 = .ok (.iload_n 2, 1) := by decide +kernel
theorem dX11_beats_3 : decode cX11_beats 3 = .ok (.invokevirtual 92, 3) := by decide +kernel
theorem dX11_beats_6 : decode cX11_beats 6 = .ok (.aload_n 0, 1) := by decide +kernel
theorem dX11_beats_7 : decode cX11_beats 7 = .ok (.iload_n 2, 1) := by decide +kernel
theorem dX11_beats_8 : decode cX11_beats 8 = .ok (.iload_n 1, 1) := by decide +kernel
theorem dX11_beats_9 : decode cX11_beats 9 = .ok (.invokevirtual 92, 3) := by decide +kernel
theorem dX11_beats_12 : decode cX11_beats 12 = .ok (.if_icmp .le 7, 3) := by decide +kernel
theorem dX11_beats_15 : decode cX11_beats 15 = .ok (.iconst 1, 1) := by decide +kernel
theorem dX11_beats_16 : decode cX11_beats 16 = .ok (.goto 4, 3) := by decide +kernel
theorem dX11_beats_19 : decode cX11_beats 19 = .ok (.iconst 0, 1) := by decide +kernel
theorem dX11_beats_20 : decode cX11_beats 20 = .ok (.ireturn, 1) := by decide +kernel
theorem dX11_firstOf_0 : decode cX11_firstOf 0 = .ok (.iconst (-1), 1) := by decide +kernel
theorem dX11_firstOf_1 : decode cX11_firstOf 1 = .ok (.istore_n 2, 1) := by decide +kernel
theorem dX11_firstOf_2 : decode cX11_firstOf 2 = .ok (.iconst 0, 1) := by decide +kernel
theorem dX11_firstOf_3 : decode cX11_firstOf 3 = .ok (.istore_n 3, 1) := by decide +kernel
theorem dX11_firstOf_4 : decode cX11_firstOf 4 = .ok (.iload_n 3, 1) := by decide +kernel
theorem dX11_firstOf_5 : decode cX11_firstOf 5 = .ok (.iconst 5, 1) := by decide +kernel
theorem dX11_firstOf_6 : decode cX11_firstOf 6 = .ok (.if_icmp .ge 79, 3) := by decide +kernel
theorem dX11_firstOf_9 : decode cX11_firstOf 9 = .ok (.iload_n 1, 1) := by decide +kernel
theorem dX11_firstOf_10 : decode cX11_firstOf 10 = .ok (.iload_n 3, 1) := by decide +kernel
theorem dX11_firstOf_11 : decode cX11_firstOf 11 = .ok (.invokestatic 74, 3) := by decide +kernel
theorem dX11_firstOf_14 : decode cX11_firstOf 14 = .ok (.istore 4, 2) := by decide +kernel
theorem dX11_firstOf_16 : decode cX11_firstOf 16 = .ok (.iconst 0, 1) := by decide +kernel
theorem dX11_firstOf_17 : decode cX11_firstOf 17 = .ok (.istore 5, 2) := by decide +kernel
theorem dX11_firstOf_19 : decode cX11_firstOf 19 = .ok (.iload 5, 2) := by decide +kernel
theorem dX11_firstOf_21 : decode cX11_firstOf 21 = .ok (.iconst 5, 1) := by decide +kernel
theorem dX11_firstOf_22 : decode cX11_firstOf 22 = .ok (.if_icmp .ge 46, 3) := by decide +kernel
theorem dX11_firstOf_25 : decode cX11_firstOf 25 = .ok (.iload 4, 2) := by decide +kernel
theorem dX11_firstOf_27 : decode cX11_firstOf 27 = .ok (.ifCond .eq 32, 3) := by decide +kernel
theorem dX11_firstOf_30 : decode cX11_firstOf 30 = .ok (.iload 5, 2) := by decide +kernel
theorem dX11_firstOf_32 : decode cX11_firstOf 32 = .ok (.iload_n 3, 1) := by decide +kernel
theorem dX11_firstOf_33 : decode cX11_firstOf 33 = .ok (.if_icmp .eq 22, 3) := by decide +kernel
theorem dX11_firstOf_36 : decode cX11_firstOf 36 = .ok (.iload_n 1, 1) := by decide +kernel
theorem dX11_firstOf_37 : decode cX11_firstOf 37 = .ok (.iload 5, 2) := by decide +kernel
theorem dX11_firstOf_39 : decode cX11_firstOf 39 = .ok (.invokestatic 74, 3) := by decide +kernel
theorem dX11_firstOf_42 : decode cX11_firstOf 42 = .ok (.ifCond .eq 13, 3) := by decide +kernel
theorem dX11_firstOf_45 : decode cX11_firstOf 45 = .ok (.aload_n 0, 1) := by decide +kernel
theorem dX11_firstOf_46 : decode cX11_firstOf 46 = .ok (.iload_n 3, 1) := by decide +kernel
theorem dX11_firstOf_47 : decode cX11_firstOf 47 = .ok (.iload 5, 2) := by decide +kernel
theorem dX11_firstOf_49 : decode cX11_firstOf 49 = .ok (.invokevirtual 95, 3) := by decide +kernel
theorem dX11_firstOf_52 : decode cX11_firstOf 52 = .ok (.ifCond .eq 7, 3) := by decide +kernel
theorem dX11_firstOf_55 : decode cX11_firstOf 55 = .ok (.iconst 1, 1) := by decide +kernel
theorem dX11_firstOf_56 : decode cX11_firstOf 56 = .ok (.goto 4, 3) := by decide +kernel
theorem dX11_firstOf_59 : decode cX11_firstOf 59 = .ok (.iconst 0, 1) := by decide +kernel
theorem dX11_firstOf_60 : decode cX11_firstOf 60 = .ok (.istore 4, 2) := by decide +kernel
theorem dX11_firstOf_62 : decode cX11_firstOf 62 = .ok (.iinc 5 1, 3) := by decide +kernel
theorem dX11_firstOf_65 : decode cX11_firstOf 65 = .ok (.goto (-46), 3) := by decide +kernel
theorem dX11_firstOf_68 : decode cX11_firstOf 68 = .ok (.iload 4, 2) := by decide +kernel
theorem dX11_firstOf_70 : decode cX11_firstOf 70 = .ok (.ifCond .eq 7, 3) := by decide +kernel
theorem dX11_firstOf_73 : decode cX11_firstOf 73 = .ok (.iload_n 3, 1) := by decide +kernel
theorem dX11_firstOf_74 : decode cX11_firstOf 74 = .ok (.goto 4, 3) := by decide +kernel
theorem dX11_firstOf_77 : decode cX11_firstOf 77 = .ok (.iload_n 2, 1) := by decide +kernel
theorem dX11_firstOf_78 : decode cX11_firstOf 78 = .ok (.istore_n 2, 1) := by decide +kernel
theorem dX11_firstOf_79 : decode cX11_firstOf 79 = .ok (.iinc 3 1, 3) := by decide +kernel
theorem dX11_firstOf_82 : decode cX11_firstOf 82 = .ok (.goto (-78), 3) := by decide +kernel
theorem dX11_firstOf_85 : decode cX11_firstOf 85 = .ok (.iload_n 2, 1) := by decide +kernel
theorem dX11_firstOf_86 : decode cX11_firstOf 86 = .ok (.ireturn, 1) := by decide +kernel
theorem dX11_most_0 : decode cX11_most 0 = .ok (.iconst 0, 1) := by decide +kernel
theorem dX11_most_1 : decode cX11_most 1 = .ok (.istore_n 2, 1) := by decide +kernel
theorem dX11_most_2 : decode cX11_most 2 = .ok (.iconst 0, 1) := by decide +kernel
theorem dX11_most_3 : decode cX11_most 3 = .ok (.istore_n 3, 1) := by decide +kernel
theorem dX11_most_4 : decode cX11_most 4 = .ok (.iload_n 3, 1) := by decide +kernel
theorem dX11_most_5 : decode cX11_most 5 = .ok (.iconst 5, 1) := by decide +kernel
theorem dX11_most_6 : decode cX11_most 6 = .ok (.if_icmp .ge 83, 3) := by decide +kernel
theorem dX11_most_9 : decode cX11_most 9 = .ok (.iload_n 1, 1) := by decide +kernel
theorem dX11_most_10 : decode cX11_most 10 = .ok (.iload_n 3, 1) := by decide +kernel
theorem dX11_most_11 : decode cX11_most 11 = .ok (.invokestatic 74, 3) := by decide +kernel
theorem dX11_most_14 : decode cX11_most 14 = .ok (.istore 4, 2) := by decide +kernel
theorem dX11_most_16 : decode cX11_most 16 = .ok (.iconst 0, 1) := by decide +kernel
theorem dX11_most_17 : decode cX11_most 17 = .ok (.istore 5, 2) := by decide +kernel
theorem dX11_most_19 : decode cX11_most 19 = .ok (.iload 5, 2) := by decide +kernel
theorem dX11_most_21 : decode cX11_most 21 = .ok (.iconst 5, 1) := by decide +kernel
theorem dX11_most_22 : decode cX11_most 22 = .ok (.if_icmp .ge 46, 3) := by decide +kernel
theorem dX11_most_25 : decode cX11_most 25 = .ok (.iload 4, 2) := by decide +kernel
theorem dX11_most_27 : decode cX11_most 27 = .ok (.ifCond .eq 32, 3) := by decide +kernel
theorem dX11_most_30 : decode cX11_most 30 = .ok (.iload_n 1, 1) := by decide +kernel
theorem dX11_most_31 : decode cX11_most 31 = .ok (.iload 5, 2) := by decide +kernel
theorem dX11_most_33 : decode cX11_most 33 = .ok (.invokestatic 74, 3) := by decide +kernel
theorem dX11_most_36 : decode cX11_most 36 = .ok (.ifCond .eq 19, 3) := by decide +kernel
theorem dX11_most_39 : decode cX11_most 39 = .ok (.aload_n 0, 1) := by decide +kernel
theorem dX11_most_40 : decode cX11_most 40 = .ok (.getfield 25, 3) := by decide +kernel
theorem dX11_most_43 : decode cX11_most 43 = .ok (.iload_n 3, 1) := by decide +kernel
theorem dX11_most_44 : decode cX11_most 44 = .ok (.iaload, 1) := by decide +kernel
theorem dX11_most_45 : decode cX11_most 45 = .ok (.aload_n 0, 1) := by decide +kernel
theorem dX11_most_46 : decode cX11_most 46 = .ok (.getfield 25, 3) := by decide +kernel
theorem dX11_most_49 : decode cX11_most 49 = .ok (.iload 5, 2) := by decide +kernel
theorem dX11_most_51 : decode cX11_most 51 = .ok (.iaload, 1) := by decide +kernel
theorem dX11_most_52 : decode cX11_most 52 = .ok (.if_icmp .lt 7, 3) := by decide +kernel
theorem dX11_most_55 : decode cX11_most 55 = .ok (.iconst 1, 1) := by decide +kernel
theorem dX11_most_56 : decode cX11_most 56 = .ok (.goto 4, 3) := by decide +kernel
theorem dX11_most_59 : decode cX11_most 59 = .ok (.iconst 0, 1) := by decide +kernel
theorem dX11_most_60 : decode cX11_most 60 = .ok (.istore 4, 2) := by decide +kernel
theorem dX11_most_62 : decode cX11_most 62 = .ok (.iinc 5 1, 3) := by decide +kernel
theorem dX11_most_65 : decode cX11_most 65 = .ok (.goto (-46), 3) := by decide +kernel
theorem dX11_most_68 : decode cX11_most 68 = .ok (.iload_n 2, 1) := by decide +kernel
theorem dX11_most_69 : decode cX11_most 69 = .ok (.iload 4, 2) := by decide +kernel
theorem dX11_most_71 : decode cX11_most 71 = .ok (.ifCond .eq 9, 3) := by decide +kernel
theorem dX11_most_74 : decode cX11_most 74 = .ok (.iconst 1, 1) := by decide +kernel
theorem dX11_most_75 : decode cX11_most 75 = .ok (.iload_n 3, 1) := by decide +kernel
theorem dX11_most_76 : decode cX11_most 76 = .ok (.ishl, 1) := by decide +kernel
theorem dX11_most_77 : decode cX11_most 77 = .ok (.goto 4, 3) := by decide +kernel
theorem dX11_most_80 : decode cX11_most 80 = .ok (.iconst 0, 1) := by decide +kernel
theorem dX11_most_81 : decode cX11_most 81 = .ok (.ior, 1) := by decide +kernel
theorem dX11_most_82 : decode cX11_most 82 = .ok (.istore_n 2, 1) := by decide +kernel
theorem dX11_most_83 : decode cX11_most 83 = .ok (.iinc 3 1, 3) := by decide +kernel
theorem dX11_most_86 : decode cX11_most 86 = .ok (.goto (-82), 3) := by decide +kernel
theorem dX11_most_89 : decode cX11_most 89 = .ok (.iload_n 2, 1) := by decide +kernel
theorem dX11_most_90 : decode cX11_most 90 = .ok (.ireturn, 1) := by decide +kernel
theorem dX11_pointsOfFirst_0 : decode cX11_pointsOfFirst 0 = .ok (.iconst 0, 1) := by decide +kernel
theorem dX11_pointsOfFirst_1 : decode cX11_pointsOfFirst 1 = .ok (.istore_n 3, 1) := by decide +kernel
theorem dX11_pointsOfFirst_2 : decode cX11_pointsOfFirst 2 = .ok (.iload_n 3, 1) := by decide +kernel
theorem dX11_pointsOfFirst_3 : decode cX11_pointsOfFirst 3 = .ok (.iconst 5, 1) := by decide +kernel
theorem dX11_pointsOfFirst_4 : decode cX11_pointsOfFirst 4 = .ok (.if_icmp .ge 84, 3) := by decide +kernel
theorem dX11_pointsOfFirst_7 : decode cX11_pointsOfFirst 7 = .ok (.aload_n 0, 1) := by decide +kernel
theorem dX11_pointsOfFirst_8 : decode cX11_pointsOfFirst 8 = .ok (.getfield 25, 3) := by decide +kernel
theorem dX11_pointsOfFirst_11 : decode cX11_pointsOfFirst 11 = .ok (.iload_n 3, 1) := by decide +kernel
theorem dX11_pointsOfFirst_12 : decode cX11_pointsOfFirst 12 = .ok (.iconst 0, 1) := by decide +kernel
theorem dX11_pointsOfFirst_13 : decode cX11_pointsOfFirst 13 = .ok (.iastore, 1) := by decide +kernel
theorem dX11_pointsOfFirst_14 : decode cX11_pointsOfFirst 14 = .ok (.iconst 0, 1) := by decide +kernel
theorem dX11_pointsOfFirst_15 : decode cX11_pointsOfFirst 15 = .ok (.istore 4, 2) := by decide +kernel
theorem dX11_pointsOfFirst_17 : decode cX11_pointsOfFirst 17 = .ok (.iload 4, 2) := by decide +kernel
theorem dX11_pointsOfFirst_19 : decode cX11_pointsOfFirst 19 = .ok (.aload_n 0, 1) := by decide +kernel
theorem dX11_pointsOfFirst_20 : decode cX11_pointsOfFirst 20 = .ok (.getfield 78, 3) := by decide +kernel
theorem dX11_pointsOfFirst_23 : decode cX11_pointsOfFirst 23 = .ok (.if_icmp .ge 59, 3) := by decide +kernel
theorem dX11_pointsOfFirst_26 : decode cX11_pointsOfFirst 26 = .ok (.iload_n 1, 1) := by decide +kernel
theorem dX11_pointsOfFirst_27 : decode cX11_pointsOfFirst 27 = .ok (.iload_n 3, 1) := by decide +kernel
theorem dX11_pointsOfFirst_28 : decode cX11_pointsOfFirst 28 = .ok (.invokestatic 74, 3) := by decide +kernel
theorem dX11_pointsOfFirst_31 : decode cX11_pointsOfFirst 31 = .ok (.ifCond .eq 51, 3) := by decide +kernel
theorem dX11_pointsOfFirst_34 : decode cX11_pointsOfFirst 34 = .ok (.aload_n 0, 1) := by decide +kernel
theorem dX11_pointsOfFirst_35 : decode cX11_pointsOfFirst 35 = .ok (.getfield 25, 3) := by decide +kernel
theorem dX11_pointsOfFirst_38 : decode cX11_pointsOfFirst 38 = .ok (.iload_n 3, 1) := by decide +kernel
theorem dX11_pointsOfFirst_39 : decode cX11_pointsOfFirst 39 = .ok (.dup2, 1) := by decide +kernel
theorem dX11_pointsOfFirst_40 : decode cX11_pointsOfFirst 40 = .ok (.iaload, 1) := by decide +kernel
theorem dX11_pointsOfFirst_41 : decode cX11_pointsOfFirst 41 = .ok (.aload_n 0, 1) := by decide +kernel
theorem dX11_pointsOfFirst_42 : decode cX11_pointsOfFirst 42 = .ok (.iload 4, 2) := by decide +kernel
theorem dX11_pointsOfFirst_44 : decode cX11_pointsOfFirst 44 = .ok (.iload_n 3, 1) := by decide +kernel
theorem dX11_pointsOfFirst_45 : decode cX11_pointsOfFirst 45 = .ok (.invokevirtual 98, 3) := by decide +kernel
theorem dX11_pointsOfFirst_48 : decode cX11_pointsOfFirst 48 = .ok (.ifCond .eq 25, 3) := by decide +kernel
theorem dX11_pointsOfFirst_51 : decode cX11_pointsOfFirst 51 = .ok (.aload_n 0, 1) := by decide +kernel
theorem dX11_pointsOfFirst_52 : decode cX11_pointsOfFirst 52 = .ok (.iload 4, 2) := by decide +kernel
theorem dX11_pointsOfFirst_54 : decode cX11_pointsOfFirst 54 = .ok (.iload_n 3, 1) := by decide +kernel
theorem dX11_pointsOfFirst_55 : decode cX11_pointsOfFirst 55 = .ok (.iload_n 1, 1) := by decide +kernel
theorem dX11_pointsOfFirst_56 : decode cX11_pointsOfFirst 56 = .ok (.invokevirtual 101, 3) := by decide +kernel
theorem dX11_pointsOfFirst_59 : decode cX11_pointsOfFirst 59 = .ok (.iload_n 2, 1) := by decide +kernel
theorem dX11_pointsOfFirst_60 : decode cX11_pointsOfFirst 60 = .ok (.if_icmp .ge 13, 3) := by decide +kernel
theorem dX11_pointsOfFirst_63 : decode cX11_pointsOfFirst 63 = .ok (.aload_n 0, 1) := by decide +kernel
theorem dX11_pointsOfFirst_64 : decode cX11_pointsOfFirst 64 = .ok (.getfield 16, 3) := by decide +kernel
theorem dX11_pointsOfFirst_67 : decode cX11_pointsOfFirst 67 = .ok (.iload 4, 2) := by decide +kernel
theorem dX11_pointsOfFirst_69 : decode cX11_pointsOfFirst 69 = .ok (.iaload, 1) := by decide +kernel
theorem dX11_pointsOfFirst_70 : decode cX11_pointsOfFirst 70 = .ok (.goto 4, 3) := by decide +kernel
theorem dX11_pointsOfFirst_73 : decode cX11_pointsOfFirst 73 = .ok (.iconst 0, 1) := by decide +kernel
theorem dX11_pointsOfFirst_74 : decode cX11_pointsOfFirst 74 = .ok (.iadd, 1) := by decide +kernel
theorem dX11_pointsOfFirst_75 : decode cX11_pointsOfFirst 75 = .ok (.iastore, 1) := by decide +kernel
theorem dX11_pointsOfFirst_76 : decode cX11_pointsOfFirst 76 = .ok (.iinc 4 1, 3) := by decide +kernel
theorem dX11_pointsOfFirst_79 : decode cX11_pointsOfFirst 79 = .ok (.goto (-62), 3) := by decide +kernel
theorem dX11_pointsOfFirst_82 : decode cX11_pointsOfFirst 82 = .ok (.iinc 3 1, 3) := by decide +kernel
theorem dX11_pointsOfFirst_85 : decode cX11_pointsOfFirst 85 = .ok (.goto (-83), 3) := by decide +kernel
theorem dX11_pointsOfFirst_88 : decode cX11_pointsOfFirst 88 = .ok (.return_, 1) := by decide +kernel
theorem dX11_offBallot_0 : decode cX11_offBallot 0 = .ok (.iconst 0, 1) := by decide +kernel
theorem dX11_offBallot_1 : decode cX11_offBallot 1 = .ok (.istore_n 3, 1) := by decide +kernel
theorem dX11_offBallot_2 : decode cX11_offBallot 2 = .ok (.iconst 0, 1) := by decide +kernel
theorem dX11_offBallot_3 : decode cX11_offBallot 3 = .ok (.istore 4, 2) := by decide +kernel
theorem dX11_offBallot_5 : decode cX11_offBallot 5 = .ok (.iload 4, 2) := by decide +kernel
theorem dX11_offBallot_7 : decode cX11_offBallot 7 = .ok (.iconst 5, 1) := by decide +kernel
theorem dX11_offBallot_8 : decode cX11_offBallot 8 = .ok (.if_icmp .ge 36, 3) := by decide +kernel
theorem dX11_offBallot_11 : decode cX11_offBallot 11 = .ok (.iload_n 3, 1) := by decide +kernel
theorem dX11_offBallot_12 : decode cX11_offBallot 12 = .ok (.iload_n 2, 1) := by decide +kernel
theorem dX11_offBallot_13 : decode cX11_offBallot 13 = .ok (.iload 4, 2) := by decide +kernel
theorem dX11_offBallot_15 : decode cX11_offBallot 15 = .ok (.invokestatic 74, 3) := by decide +kernel
theorem dX11_offBallot_18 : decode cX11_offBallot 18 = .ok (.ifCond .eq 17, 3) := by decide +kernel
theorem dX11_offBallot_21 : decode cX11_offBallot 21 = .ok (.aload_n 0, 1) := by decide +kernel
theorem dX11_offBallot_22 : decode cX11_offBallot 22 = .ok (.iload_n 1, 1) := by decide +kernel
theorem dX11_offBallot_23 : decode cX11_offBallot 23 = .ok (.iload 4, 2) := by decide +kernel
theorem dX11_offBallot_25 : decode cX11_offBallot 25 = .ok (.invokevirtual 98, 3) := by decide +kernel
theorem dX11_offBallot_28 : decode cX11_offBallot 28 = .ok (.ifCond .ne 7, 3) := by decide +kernel
theorem dX11_offBallot_31 : decode cX11_offBallot 31 = .ok (.iconst 1, 1) := by decide +kernel
theorem dX11_offBallot_32 : decode cX11_offBallot 32 = .ok (.goto 4, 3) := by decide +kernel
theorem dX11_offBallot_35 : decode cX11_offBallot 35 = .ok (.iconst 0, 1) := by decide +kernel
theorem dX11_offBallot_36 : decode cX11_offBallot 36 = .ok (.iadd, 1) := by decide +kernel
theorem dX11_offBallot_37 : decode cX11_offBallot 37 = .ok (.istore_n 3, 1) := by decide +kernel
theorem dX11_offBallot_38 : decode cX11_offBallot 38 = .ok (.iinc 4 1, 3) := by decide +kernel
theorem dX11_offBallot_41 : decode cX11_offBallot 41 = .ok (.goto (-36), 3) := by decide +kernel
theorem dX11_offBallot_44 : decode cX11_offBallot 44 = .ok (.iload_n 3, 1) := by decide +kernel
theorem dX11_offBallot_45 : decode cX11_offBallot 45 = .ok (.ireturn, 1) := by decide +kernel
theorem dX11_borda_0 : decode cX11_borda 0 = .ok (.iload_n 1, 1) := by decide +kernel
theorem dX11_borda_1 : decode cX11_borda 1 = .ok (.invokestatic 105, 3) := by decide +kernel
theorem dX11_borda_4 : decode cX11_borda 4 = .ok (.istore_n 2, 1) := by decide +kernel
theorem dX11_borda_5 : decode cX11_borda 5 = .ok (.iconst 0, 1) := by decide +kernel
theorem dX11_borda_6 : decode cX11_borda 6 = .ok (.istore_n 3, 1) := by decide +kernel
theorem dX11_borda_7 : decode cX11_borda 7 = .ok (.iload_n 3, 1) := by decide +kernel
theorem dX11_borda_8 : decode cX11_borda 8 = .ok (.iconst 5, 1) := by decide +kernel
theorem dX11_borda_9 : decode cX11_borda 9 = .ok (.if_icmp .ge 99, 3) := by decide +kernel
theorem dX11_borda_12 : decode cX11_borda 12 = .ok (.aload_n 0, 1) := by decide +kernel
theorem dX11_borda_13 : decode cX11_borda 13 = .ok (.getfield 25, 3) := by decide +kernel
theorem dX11_borda_16 : decode cX11_borda 16 = .ok (.iload_n 3, 1) := by decide +kernel
theorem dX11_borda_17 : decode cX11_borda 17 = .ok (.iconst 0, 1) := by decide +kernel
theorem dX11_borda_18 : decode cX11_borda 18 = .ok (.iastore, 1) := by decide +kernel
theorem dX11_borda_19 : decode cX11_borda 19 = .ok (.iconst 0, 1) := by decide +kernel
theorem dX11_borda_20 : decode cX11_borda 20 = .ok (.istore 4, 2) := by decide +kernel
theorem dX11_borda_22 : decode cX11_borda 22 = .ok (.iload 4, 2) := by decide +kernel
theorem dX11_borda_24 : decode cX11_borda 24 = .ok (.aload_n 0, 1) := by decide +kernel
theorem dX11_borda_25 : decode cX11_borda 25 = .ok (.getfield 78, 3) := by decide +kernel
theorem dX11_borda_28 : decode cX11_borda 28 = .ok (.if_icmp .ge 74, 3) := by decide +kernel
theorem dX11_borda_31 : decode cX11_borda 31 = .ok (.iload_n 1, 1) := by decide +kernel
theorem dX11_borda_32 : decode cX11_borda 32 = .ok (.iload_n 3, 1) := by decide +kernel
theorem dX11_borda_33 : decode cX11_borda 33 = .ok (.invokestatic 74, 3) := by decide +kernel
theorem dX11_borda_36 : decode cX11_borda 36 = .ok (.ifCond .eq 66, 3) := by decide +kernel
theorem dX11_borda_39 : decode cX11_borda 39 = .ok (.aload_n 0, 1) := by decide +kernel
theorem dX11_borda_40 : decode cX11_borda 40 = .ok (.iload 4, 2) := by decide +kernel
theorem dX11_borda_42 : decode cX11_borda 42 = .ok (.iload_n 3, 1) := by decide +kernel
theorem dX11_borda_43 : decode cX11_borda 43 = .ok (.invokevirtual 98, 3) := by decide +kernel
theorem dX11_borda_46 : decode cX11_borda 46 = .ok (.ifCond .eq 20, 3) := by decide +kernel
theorem dX11_borda_49 : decode cX11_borda 49 = .ok (.iconst 2, 1) := by decide +kernel
theorem dX11_borda_50 : decode cX11_borda 50 = .ok (.iload_n 2, 1) := by decide +kernel
theorem dX11_borda_51 : decode cX11_borda 51 = .ok (.iconst 1, 1) := by decide +kernel
theorem dX11_borda_52 : decode cX11_borda 52 = .ok (.isub, 1) := by decide +kernel
theorem dX11_borda_53 : decode cX11_borda 53 = .ok (.aload_n 0, 1) := by decide +kernel
theorem dX11_borda_54 : decode cX11_borda 54 = .ok (.iload 4, 2) := by decide +kernel
theorem dX11_borda_56 : decode cX11_borda 56 = .ok (.iload_n 3, 1) := by decide +kernel
theorem dX11_borda_57 : decode cX11_borda 57 = .ok (.iload_n 1, 1) := by decide +kernel
theorem dX11_borda_58 : decode cX11_borda 58 = .ok (.invokevirtual 101, 3) := by decide +kernel
theorem dX11_borda_61 : decode cX11_borda 61 = .ok (.isub, 1) := by decide +kernel
theorem dX11_borda_62 : decode cX11_borda 62 = .ok (.imul, 1) := by decide +kernel
theorem dX11_borda_63 : decode cX11_borda 63 = .ok (.goto 12, 3) := by decide +kernel
theorem dX11_borda_66 : decode cX11_borda 66 = .ok (.aload_n 0, 1) := by decide +kernel
theorem dX11_borda_67 : decode cX11_borda 67 = .ok (.iload 4, 2) := by decide +kernel
theorem dX11_borda_69 : decode cX11_borda 69 = .ok (.iload_n 1, 1) := by decide +kernel
theorem dX11_borda_70 : decode cX11_borda 70 = .ok (.invokevirtual 109, 3) := by decide +kernel
theorem dX11_borda_73 : decode cX11_borda 73 = .ok (.iconst 1, 1) := by decide +kernel
theorem dX11_borda_74 : decode cX11_borda 74 = .ok (.isub, 1) := by decide +kernel
theorem dX11_borda_75 : decode cX11_borda 75 = .ok (.istore 5, 2) := by decide +kernel
theorem dX11_borda_77 : decode cX11_borda 77 = .ok (.aload_n 0, 1) := by decide +kernel
theorem dX11_borda_78 : decode cX11_borda 78 = .ok (.getfield 25, 3) := by decide +kernel
theorem dX11_borda_81 : decode cX11_borda 81 = .ok (.iload_n 3, 1) := by decide +kernel
theorem dX11_borda_82 : decode cX11_borda 82 = .ok (.dup2, 1) := by decide +kernel
theorem dX11_borda_83 : decode cX11_borda 83 = .ok (.iaload, 1) := by decide +kernel
theorem dX11_borda_84 : decode cX11_borda 84 = .ok (.aload_n 0, 1) := by decide +kernel
theorem dX11_borda_85 : decode cX11_borda 85 = .ok (.getfield 16, 3) := by decide +kernel
theorem dX11_borda_88 : decode cX11_borda 88 = .ok (.iload 4, 2) := by decide +kernel
theorem dX11_borda_90 : decode cX11_borda 90 = .ok (.iaload, 1) := by decide +kernel
theorem dX11_borda_91 : decode cX11_borda 91 = .ok (.iload 5, 2) := by decide +kernel
theorem dX11_borda_93 : decode cX11_borda 93 = .ok (.imul, 1) := by decide +kernel
theorem dX11_borda_94 : decode cX11_borda 94 = .ok (.iadd, 1) := by decide +kernel
theorem dX11_borda_95 : decode cX11_borda 95 = .ok (.iastore, 1) := by decide +kernel
theorem dX11_borda_96 : decode cX11_borda 96 = .ok (.iinc 4 1, 3) := by decide +kernel
theorem dX11_borda_99 : decode cX11_borda 99 = .ok (.goto (-77), 3) := by decide +kernel
theorem dX11_borda_102 : decode cX11_borda 102 = .ok (.iinc 3 1, 3) := by decide +kernel
theorem dX11_borda_105 : decode cX11_borda 105 = .ok (.goto (-98), 3) := by decide +kernel
theorem dX11_borda_108 : decode cX11_borda 108 = .ok (.return_, 1) := by decide +kernel
theorem dX11_copeland_0 : decode cX11_copeland 0 = .ok (.iconst 0, 1) := by decide +kernel
theorem dX11_copeland_1 : decode cX11_copeland 1 = .ok (.istore_n 2, 1) := by decide +kernel
theorem dX11_copeland_2 : decode cX11_copeland 2 = .ok (.iload_n 2, 1) := by decide +kernel
theorem dX11_copeland_3 : decode cX11_copeland 3 = .ok (.iconst 5, 1) := by decide +kernel
theorem dX11_copeland_4 : decode cX11_copeland 4 = .ok (.if_icmp .ge 86, 3) := by decide +kernel
theorem dX11_copeland_7 : decode cX11_copeland 7 = .ok (.aload_n 0, 1) := by decide +kernel
theorem dX11_copeland_8 : decode cX11_copeland 8 = .ok (.getfield 25, 3) := by decide +kernel
theorem dX11_copeland_11 : decode cX11_copeland 11 = .ok (.iload_n 2, 1) := by decide +kernel
theorem dX11_copeland_12 : decode cX11_copeland 12 = .ok (.iconst 0, 1) := by decide +kernel
theorem dX11_copeland_13 : decode cX11_copeland 13 = .ok (.iastore, 1) := by decide +kernel
theorem dX11_copeland_14 : decode cX11_copeland 14 = .ok (.iconst 0, 1) := by decide +kernel
theorem dX11_copeland_15 : decode cX11_copeland 15 = .ok (.istore_n 3, 1) := by decide +kernel
theorem dX11_copeland_16 : decode cX11_copeland 16 = .ok (.iload_n 3, 1) := by decide +kernel
theorem dX11_copeland_17 : decode cX11_copeland 17 = .ok (.iconst 5, 1) := by decide +kernel
theorem dX11_copeland_18 : decode cX11_copeland 18 = .ok (.if_icmp .ge 66, 3) := by decide +kernel
theorem dX11_copeland_21 : decode cX11_copeland 21 = .ok (.iload_n 1, 1) := by decide +kernel
theorem dX11_copeland_22 : decode cX11_copeland 22 = .ok (.iload_n 2, 1) := by decide +kernel
theorem dX11_copeland_23 : decode cX11_copeland 23 = .ok (.invokestatic 74, 3) := by decide +kernel
theorem dX11_copeland_26 : decode cX11_copeland 26 = .ok (.ifCond .eq 58, 3) := by decide +kernel
theorem dX11_copeland_29 : decode cX11_copeland 29 = .ok (.iload_n 3, 1) := by decide +kernel
theorem dX11_copeland_30 : decode cX11_copeland 30 = .ok (.iload_n 2, 1) := by decide +kernel
theorem dX11_copeland_31 : decode cX11_copeland 31 = .ok (.if_icmp .eq 47, 3) := by decide +kernel
theorem dX11_copeland_34 : decode cX11_copeland 34 = .ok (.iload_n 1, 1) := by decide +kernel
theorem dX11_copeland_35 : decode cX11_copeland 35 = .ok (.iload_n 3, 1) := by decide +kernel
theorem dX11_copeland_36 : decode cX11_copeland 36 = .ok (.invokestatic 74, 3) := by decide +kernel
theorem dX11_copeland_39 : decode cX11_copeland 39 = .ok (.ifCond .eq 39, 3) := by decide +kernel
theorem dX11_copeland_42 : decode cX11_copeland 42 = .ok (.aload_n 0, 1) := by decide +kernel
theorem dX11_copeland_43 : decode cX11_copeland 43 = .ok (.getfield 25, 3) := by decide +kernel
theorem dX11_copeland_46 : decode cX11_copeland 46 = .ok (.iload_n 2, 1) := by decide +kernel
theorem dX11_copeland_47 : decode cX11_copeland 47 = .ok (.dup2, 1) := by decide +kernel
theorem dX11_copeland_48 : decode cX11_copeland 48 = .ok (.iaload, 1) := by decide +kernel
theorem dX11_copeland_49 : decode cX11_copeland 49 = .ok (.aload_n 0, 1) := by decide +kernel
theorem dX11_copeland_50 : decode cX11_copeland 50 = .ok (.iload_n 2, 1) := by decide +kernel
theorem dX11_copeland_51 : decode cX11_copeland 51 = .ok (.iload_n 3, 1) := by decide +kernel
theorem dX11_copeland_52 : decode cX11_copeland 52 = .ok (.invokevirtual 95, 3) := by decide +kernel
theorem dX11_copeland_55 : decode cX11_copeland 55 = .ok (.ifCond .eq 7, 3) := by decide +kernel
theorem dX11_copeland_58 : decode cX11_copeland 58 = .ok (.iconst 2, 1) := by decide +kernel
theorem dX11_copeland_59 : decode cX11_copeland 59 = .ok (.goto 17, 3) := by decide +kernel
theorem dX11_copeland_62 : decode cX11_copeland 62 = .ok (.aload_n 0, 1) := by decide +kernel
theorem dX11_copeland_63 : decode cX11_copeland 63 = .ok (.iload_n 3, 1) := by decide +kernel
theorem dX11_copeland_64 : decode cX11_copeland 64 = .ok (.iload_n 2, 1) := by decide +kernel
theorem dX11_copeland_65 : decode cX11_copeland 65 = .ok (.invokevirtual 95, 3) := by decide +kernel
theorem dX11_copeland_68 : decode cX11_copeland 68 = .ok (.ifCond .eq 7, 3) := by decide +kernel
theorem dX11_copeland_71 : decode cX11_copeland 71 = .ok (.iconst 0, 1) := by decide +kernel
theorem dX11_copeland_72 : decode cX11_copeland 72 = .ok (.goto 4, 3) := by decide +kernel
theorem dX11_copeland_75 : decode cX11_copeland 75 = .ok (.iconst 1, 1) := by decide +kernel
theorem dX11_copeland_76 : decode cX11_copeland 76 = .ok (.iadd, 1) := by decide +kernel
theorem dX11_copeland_77 : decode cX11_copeland 77 = .ok (.iastore, 1) := by decide +kernel
theorem dX11_copeland_78 : decode cX11_copeland 78 = .ok (.iinc 3 1, 3) := by decide +kernel
theorem dX11_copeland_81 : decode cX11_copeland 81 = .ok (.goto (-65), 3) := by decide +kernel
theorem dX11_copeland_84 : decode cX11_copeland 84 = .ok (.iinc 2 1, 3) := by decide +kernel
theorem dX11_copeland_87 : decode cX11_copeland 87 = .ok (.goto (-85), 3) := by decide +kernel
theorem dX11_copeland_90 : decode cX11_copeland 90 = .ok (.return_, 1) := by decide +kernel
theorem dX11_minimax_0 : decode cX11_minimax 0 = .ok (.iconst 0, 1) := by decide +kernel
theorem dX11_minimax_1 : decode cX11_minimax 1 = .ok (.istore_n 2, 1) := by decide +kernel
theorem dX11_minimax_2 : decode cX11_minimax 2 = .ok (.iload_n 2, 1) := by decide +kernel
theorem dX11_minimax_3 : decode cX11_minimax 3 = .ok (.iconst 5, 1) := by decide +kernel
theorem dX11_minimax_4 : decode cX11_minimax 4 = .ok (.if_icmp .ge 107, 3) := by decide +kernel
theorem dX11_minimax_7 : decode cX11_minimax 7 = .ok (.iconst 1, 1) := by decide +kernel
theorem dX11_minimax_8 : decode cX11_minimax 8 = .ok (.istore_n 3, 1) := by decide +kernel
theorem dX11_minimax_9 : decode cX11_minimax 9 = .ok (.aload_n 0, 1) := by decide +kernel
theorem dX11_minimax_10 : decode cX11_minimax 10 = .ok (.getfield 25, 3) := by decide +kernel
theorem dX11_minimax_13 : decode cX11_minimax 13 = .ok (.iload_n 2, 1) := by decide +kernel
theorem dX11_minimax_14 : decode cX11_minimax 14 = .ok (.iconst 0, 1) := by decide +kernel
theorem dX11_minimax_15 : decode cX11_minimax 15 = .ok (.iastore, 1) := by decide +kernel
theorem dX11_minimax_16 : decode cX11_minimax 16 = .ok (.iconst 0, 1) := by decide +kernel
theorem dX11_minimax_17 : decode cX11_minimax 17 = .ok (.istore 4, 2) := by decide +kernel
theorem dX11_minimax_19 : decode cX11_minimax 19 = .ok (.iload 4, 2) := by decide +kernel
theorem dX11_minimax_21 : decode cX11_minimax 21 = .ok (.iconst 5, 1) := by decide +kernel
theorem dX11_minimax_22 : decode cX11_minimax 22 = .ok (.if_icmp .ge 83, 3) := by decide +kernel
theorem dX11_minimax_25 : decode cX11_minimax 25 = .ok (.iload_n 1, 1) := by decide +kernel
theorem dX11_minimax_26 : decode cX11_minimax 26 = .ok (.iload_n 2, 1) := by decide +kernel
theorem dX11_minimax_27 : decode cX11_minimax 27 = .ok (.invokestatic 74, 3) := by decide +kernel
theorem dX11_minimax_30 : decode cX11_minimax 30 = .ok (.ifCond .eq 75, 3) := by decide +kernel
theorem dX11_minimax_33 : decode cX11_minimax 33 = .ok (.iload 4, 2) := by decide +kernel
theorem dX11_minimax_35 : decode cX11_minimax 35 = .ok (.iload_n 2, 1) := by decide +kernel
theorem dX11_minimax_36 : decode cX11_minimax 36 = .ok (.if_icmp .eq 63, 3) := by decide +kernel
theorem dX11_minimax_39 : decode cX11_minimax 39 = .ok (.iload_n 1, 1) := by decide +kernel
theorem dX11_minimax_40 : decode cX11_minimax 40 = .ok (.iload 4, 2) := by decide +kernel
theorem dX11_minimax_42 : decode cX11_minimax 42 = .ok (.invokestatic 74, 3) := by decide +kernel
theorem dX11_minimax_45 : decode cX11_minimax 45 = .ok (.ifCond .eq 54, 3) := by decide +kernel
theorem dX11_minimax_48 : decode cX11_minimax 48 = .ok (.aload_n 0, 1) := by decide +kernel
theorem dX11_minimax_49 : decode cX11_minimax 49 = .ok (.iload 4, 2) := by decide +kernel
theorem dX11_minimax_51 : decode cX11_minimax 51 = .ok (.iload_n 2, 1) := by decide +kernel
theorem dX11_minimax_52 : decode cX11_minimax 52 = .ok (.invokevirtual 92, 3) := by decide +kernel
theorem dX11_minimax_55 : decode cX11_minimax 55 = .ok (.aload_n 0, 1) := by decide +kernel
theorem dX11_minimax_56 : decode cX11_minimax 56 = .ok (.iload_n 2, 1) := by decide +kernel
theorem dX11_minimax_57 : decode cX11_minimax 57 = .ok (.iload 4, 2) := by decide +kernel
theorem dX11_minimax_59 : decode cX11_minimax 59 = .ok (.invokevirtual 92, 3) := by decide +kernel
theorem dX11_minimax_62 : decode cX11_minimax 62 = .ok (.isub, 1) := by decide +kernel
theorem dX11_minimax_63 : decode cX11_minimax 63 = .ok (.istore 5, 2) := by decide +kernel
theorem dX11_minimax_65 : decode cX11_minimax 65 = .ok (.aload_n 0, 1) := by decide +kernel
theorem dX11_minimax_66 : decode cX11_minimax 66 = .ok (.getfield 25, 3) := by decide +kernel
theorem dX11_minimax_69 : decode cX11_minimax 69 = .ok (.iload_n 2, 1) := by decide +kernel
theorem dX11_minimax_70 : decode cX11_minimax 70 = .ok (.iload_n 3, 1) := by decide +kernel
theorem dX11_minimax_71 : decode cX11_minimax 71 = .ok (.ifCond .ne 14, 3) := by decide +kernel
theorem dX11_minimax_74 : decode cX11_minimax 74 = .ok (.iload 5, 2) := by decide +kernel
theorem dX11_minimax_76 : decode cX11_minimax 76 = .ok (.aload_n 0, 1) := by decide +kernel
theorem dX11_minimax_77 : decode cX11_minimax 77 = .ok (.getfield 25, 3) := by decide +kernel
theorem dX11_minimax_80 : decode cX11_minimax 80 = .ok (.iload_n 2, 1) := by decide +kernel
theorem dX11_minimax_81 : decode cX11_minimax 81 = .ok (.iaload, 1) := by decide +kernel
theorem dX11_minimax_82 : decode cX11_minimax 82 = .ok (.if_icmp .le 8, 3) := by decide +kernel
theorem dX11_minimax_85 : decode cX11_minimax 85 = .ok (.iload 5, 2) := by decide +kernel
theorem dX11_minimax_87 : decode cX11_minimax 87 = .ok (.goto 9, 3) := by decide +kernel
theorem dX11_minimax_90 : decode cX11_minimax 90 = .ok (.aload_n 0, 1) := by decide +kernel
theorem dX11_minimax_91 : decode cX11_minimax 91 = .ok (.getfield 25, 3) := by decide +kernel
theorem dX11_minimax_94 : decode cX11_minimax 94 = .ok (.iload_n 2, 1) := by decide +kernel
theorem dX11_minimax_95 : decode cX11_minimax 95 = .ok (.iaload, 1) := by decide +kernel
theorem dX11_minimax_96 : decode cX11_minimax 96 = .ok (.iastore, 1) := by decide +kernel
theorem dX11_minimax_97 : decode cX11_minimax 97 = .ok (.iconst 0, 1) := by decide +kernel
theorem dX11_minimax_98 : decode cX11_minimax 98 = .ok (.istore_n 3, 1) := by decide +kernel
theorem dX11_minimax_99 : decode cX11_minimax 99 = .ok (.iinc 4 1, 3) := by decide +kernel
theorem dX11_minimax_102 : decode cX11_minimax 102 = .ok (.goto (-83), 3) := by decide +kernel
theorem dX11_minimax_105 : decode cX11_minimax 105 = .ok (.iinc 2 1, 3) := by decide +kernel
theorem dX11_minimax_108 : decode cX11_minimax 108 = .ok (.goto (-106), 3) := by decide +kernel
theorem dX11_minimax_111 : decode cX11_minimax 111 = .ok (.return_, 1) := by decide +kernel
theorem dX11_fewest_0 : decode cX11_fewest 0 = .ok (.iconst 0, 1) := by decide +kernel
theorem dX11_fewest_1 : decode cX11_fewest 1 = .ok (.istore_n 2, 1) := by decide +kernel
theorem dX11_fewest_2 : decode cX11_fewest 2 = .ok (.iload_n 2, 1) := by decide +kernel
theorem dX11_fewest_3 : decode cX11_fewest 3 = .ok (.iconst 5, 1) := by decide +kernel
theorem dX11_fewest_4 : decode cX11_fewest 4 = .ok (.if_icmp .ge 22, 3) := by decide +kernel
theorem dX11_fewest_7 : decode cX11_fewest 7 = .ok (.aload_n 0, 1) := by decide +kernel
theorem dX11_fewest_8 : decode cX11_fewest 8 = .ok (.getfield 25, 3) := by decide +kernel
theorem dX11_fewest_11 : decode cX11_fewest 11 = .ok (.iload_n 2, 1) := by decide +kernel
theorem dX11_fewest_12 : decode cX11_fewest 12 = .ok (.aload_n 0, 1) := by decide +kernel
theorem dX11_fewest_13 : decode cX11_fewest 13 = .ok (.getfield 25, 3) := by decide +kernel
theorem dX11_fewest_16 : decode cX11_fewest 16 = .ok (.iload_n 2, 1) := by decide +kernel
theorem dX11_fewest_17 : decode cX11_fewest 17 = .ok (.iaload, 1) := by decide +kernel
theorem dX11_fewest_18 : decode cX11_fewest 18 = .ok (.ineg, 1) := by decide +kernel
theorem dX11_fewest_19 : decode cX11_fewest 19 = .ok (.iastore, 1) := by decide +kernel
theorem dX11_fewest_20 : decode cX11_fewest 20 = .ok (.iinc 2 1, 3) := by decide +kernel
theorem dX11_fewest_23 : decode cX11_fewest 23 = .ok (.goto (-21), 3) := by decide +kernel
theorem dX11_fewest_26 : decode cX11_fewest 26 = .ok (.aload_n 0, 1) := by decide +kernel
theorem dX11_fewest_27 : decode cX11_fewest 27 = .ok (.iload_n 1, 1) := by decide +kernel
theorem dX11_fewest_28 : decode cX11_fewest 28 = .ok (.invokevirtual 112, 3) := by decide +kernel
theorem dX11_fewest_31 : decode cX11_fewest 31 = .ok (.istore_n 2, 1) := by decide +kernel
theorem dX11_fewest_32 : decode cX11_fewest 32 = .ok (.iconst 0, 1) := by decide +kernel
theorem dX11_fewest_33 : decode cX11_fewest 33 = .ok (.istore_n 3, 1) := by decide +kernel
theorem dX11_fewest_34 : decode cX11_fewest 34 = .ok (.iload_n 3, 1) := by decide +kernel
theorem dX11_fewest_35 : decode cX11_fewest 35 = .ok (.iconst 5, 1) := by decide +kernel
theorem dX11_fewest_36 : decode cX11_fewest 36 = .ok (.if_icmp .ge 22, 3) := by decide +kernel
theorem dX11_fewest_39 : decode cX11_fewest 39 = .ok (.aload_n 0, 1) := by decide +kernel
theorem dX11_fewest_40 : decode cX11_fewest 40 = .ok (.getfield 25, 3) := by decide +kernel
theorem dX11_fewest_43 : decode cX11_fewest 43 = .ok (.iload_n 3, 1) := by decide +kernel
theorem dX11_fewest_44 : decode cX11_fewest 44 = .ok (.aload_n 0, 1) := by decide +kernel
theorem dX11_fewest_45 : decode cX11_fewest 45 = .ok (.getfield 25, 3) := by decide +kernel
theorem dX11_fewest_48 : decode cX11_fewest 48 = .ok (.iload_n 3, 1) := by decide +kernel
theorem dX11_fewest_49 : decode cX11_fewest 49 = .ok (.iaload, 1) := by decide +kernel
theorem dX11_fewest_50 : decode cX11_fewest 50 = .ok (.ineg, 1) := by decide +kernel
theorem dX11_fewest_51 : decode cX11_fewest 51 = .ok (.iastore, 1) := by decide +kernel
theorem dX11_fewest_52 : decode cX11_fewest 52 = .ok (.iinc 3 1, 3) := by decide +kernel
theorem dX11_fewest_55 : decode cX11_fewest 55 = .ok (.goto (-21), 3) := by decide +kernel
theorem dX11_fewest_58 : decode cX11_fewest 58 = .ok (.iload_n 2, 1) := by decide +kernel
theorem dX11_fewest_59 : decode cX11_fewest 59 = .ok (.ireturn, 1) := by decide +kernel
theorem dX11_bucklin_0 : decode cX11_bucklin 0 = .ok (.aload_n 0, 1) := by decide +kernel
theorem dX11_bucklin_1 : decode cX11_bucklin 1 = .ok (.invokevirtual 115, 3) := by decide +kernel
theorem dX11_bucklin_4 : decode cX11_bucklin 4 = .ok (.istore_n 2, 1) := by decide +kernel
theorem dX11_bucklin_5 : decode cX11_bucklin 5 = .ok (.iconst 0, 1) := by decide +kernel
theorem dX11_bucklin_6 : decode cX11_bucklin 6 = .ok (.istore_n 3, 1) := by decide +kernel
theorem dX11_bucklin_7 : decode cX11_bucklin 7 = .ok (.iconst 1, 1) := by decide +kernel
theorem dX11_bucklin_8 : decode cX11_bucklin 8 = .ok (.istore 4, 2) := by decide +kernel
theorem dX11_bucklin_10 : decode cX11_bucklin 10 = .ok (.iload 4, 2) := by decide +kernel
theorem dX11_bucklin_12 : decode cX11_bucklin 12 = .ok (.ifCond .eq 70, 3) := by decide +kernel
theorem dX11_bucklin_15 : decode cX11_bucklin 15 = .ok (.iinc 3 1, 3) := by decide +kernel
theorem dX11_bucklin_18 : decode cX11_bucklin 18 = .ok (.aload_n 0, 1) := by decide +kernel
theorem dX11_bucklin_19 : decode cX11_bucklin 19 = .ok (.iload_n 1, 1) := by decide +kernel
theorem dX11_bucklin_20 : decode cX11_bucklin 20 = .ok (.iload_n 3, 1) := by decide +kernel
theorem dX11_bucklin_21 : decode cX11_bucklin 21 = .ok (.invokevirtual 119, 3) := by decide +kernel
theorem dX11_bucklin_24 : decode cX11_bucklin 24 = .ok (.iload_n 3, 1) := by decide +kernel
theorem dX11_bucklin_25 : decode cX11_bucklin 25 = .ok (.iload_n 1, 1) := by decide +kernel
theorem dX11_bucklin_26 : decode cX11_bucklin 26 = .ok (.invokestatic 105, 3) := by decide +kernel
theorem dX11_bucklin_29 : decode cX11_bucklin 29 = .ok (.if_icmp .ge 7, 3) := by decide +kernel
theorem dX11_bucklin_32 : decode cX11_bucklin 32 = .ok (.iconst 1, 1) := by decide +kernel
theorem dX11_bucklin_33 : decode cX11_bucklin 33 = .ok (.goto 4, 3) := by decide +kernel
theorem dX11_bucklin_36 : decode cX11_bucklin 36 = .ok (.iconst 0, 1) := by decide +kernel
theorem dX11_bucklin_37 : decode cX11_bucklin 37 = .ok (.istore 4, 2) := by decide +kernel
theorem dX11_bucklin_39 : decode cX11_bucklin 39 = .ok (.iconst 0, 1) := by decide +kernel
theorem dX11_bucklin_40 : decode cX11_bucklin 40 = .ok (.istore 5, 2) := by decide +kernel
theorem dX11_bucklin_42 : decode cX11_bucklin 42 = .ok (.iload 5, 2) := by decide +kernel
theorem dX11_bucklin_44 : decode cX11_bucklin 44 = .ok (.iconst 5, 1) := by decide +kernel
theorem dX11_bucklin_45 : decode cX11_bucklin 45 = .ok (.if_icmp .ge 34, 3) := by decide +kernel
theorem dX11_bucklin_48 : decode cX11_bucklin 48 = .ok (.iload 4, 2) := by decide +kernel
theorem dX11_bucklin_50 : decode cX11_bucklin 50 = .ok (.ifCond .eq 20, 3) := by decide +kernel
theorem dX11_bucklin_53 : decode cX11_bucklin 53 = .ok (.iconst 2, 1) := by decide +kernel
theorem dX11_bucklin_54 : decode cX11_bucklin 54 = .ok (.aload_n 0, 1) := by decide +kernel
theorem dX11_bucklin_55 : decode cX11_bucklin 55 = .ok (.getfield 25, 3) := by decide +kernel
theorem dX11_bucklin_58 : decode cX11_bucklin 58 = .ok (.iload 5, 2) := by decide +kernel
theorem dX11_bucklin_60 : decode cX11_bucklin 60 = .ok (.iaload, 1) := by decide +kernel
theorem dX11_bucklin_61 : decode cX11_bucklin 61 = .ok (.imul, 1) := by decide +kernel
theorem dX11_bucklin_62 : decode cX11_bucklin 62 = .ok (.iload_n 2, 1) := by decide +kernel
theorem dX11_bucklin_63 : decode cX11_bucklin 63 = .ok (.if_icmp .gt 7, 3) := by decide +kernel
theorem dX11_bucklin_66 : decode cX11_bucklin 66 = .ok (.iconst 1, 1) := by decide +kernel
theorem dX11_bucklin_67 : decode cX11_bucklin 67 = .ok (.goto 4, 3) := by decide +kernel
theorem dX11_bucklin_70 : decode cX11_bucklin 70 = .ok (.iconst 0, 1) := by decide +kernel
theorem dX11_bucklin_71 : decode cX11_bucklin 71 = .ok (.istore 4, 2) := by decide +kernel
theorem dX11_bucklin_73 : decode cX11_bucklin 73 = .ok (.iinc 5 1, 3) := by decide +kernel
theorem dX11_bucklin_76 : decode cX11_bucklin 76 = .ok (.goto (-34), 3) := by decide +kernel
theorem dX11_bucklin_79 : decode cX11_bucklin 79 = .ok (.goto (-69), 3) := by decide +kernel
theorem dX11_bucklin_82 : decode cX11_bucklin 82 = .ok (.return_, 1) := by decide +kernel
theorem dX11_strengths_0 : decode cX11_strengths 0 = .ok (.iconst 0, 1) := by decide +kernel
theorem dX11_strengths_1 : decode cX11_strengths 1 = .ok (.istore_n 2, 1) := by decide +kernel
theorem dX11_strengths_2 : decode cX11_strengths 2 = .ok (.iload_n 2, 1) := by decide +kernel
theorem dX11_strengths_3 : decode cX11_strengths 3 = .ok (.bipush 25, 2) := by decide +kernel
theorem dX11_strengths_5 : decode cX11_strengths 5 = .ok (.if_icmp .ge 38, 3) := by decide +kernel
theorem dX11_strengths_8 : decode cX11_strengths 8 = .ok (.aload_n 0, 1) := by decide +kernel
theorem dX11_strengths_9 : decode cX11_strengths 9 = .ok (.getfield 28, 3) := by decide +kernel
theorem dX11_strengths_12 : decode cX11_strengths 12 = .ok (.iload_n 2, 1) := by decide +kernel
theorem dX11_strengths_13 : decode cX11_strengths 13 = .ok (.aload_n 0, 1) := by decide +kernel
theorem dX11_strengths_14 : decode cX11_strengths 14 = .ok (.iload_n 2, 1) := by decide +kernel
theorem dX11_strengths_15 : decode cX11_strengths 15 = .ok (.iconst 5, 1) := by decide +kernel
theorem dX11_strengths_16 : decode cX11_strengths 16 = .ok (.idiv, 1) := by decide +kernel
theorem dX11_strengths_17 : decode cX11_strengths 17 = .ok (.iload_n 2, 1) := by decide +kernel
theorem dX11_strengths_18 : decode cX11_strengths 18 = .ok (.iconst 5, 1) := by decide +kernel
theorem dX11_strengths_19 : decode cX11_strengths 19 = .ok (.irem, 1) := by decide +kernel
theorem dX11_strengths_20 : decode cX11_strengths 20 = .ok (.invokevirtual 95, 3) := by decide +kernel
theorem dX11_strengths_23 : decode cX11_strengths 23 = .ok (.ifCond .eq 12, 3) := by decide +kernel
theorem dX11_strengths_26 : decode cX11_strengths 26 = .ok (.aload_n 0, 1) := by decide +kernel
theorem dX11_strengths_27 : decode cX11_strengths 27 = .ok (.getfield 22, 3) := by decide +kernel
theorem dX11_strengths_30 : decode cX11_strengths 30 = .ok (.iload_n 2, 1) := by decide +kernel
theorem dX11_strengths_31 : decode cX11_strengths 31 = .ok (.iaload, 1) := by decide +kernel
theorem dX11_strengths_32 : decode cX11_strengths 32 = .ok (.goto 4, 3) := by decide +kernel
theorem dX11_strengths_35 : decode cX11_strengths 35 = .ok (.iconst 0, 1) := by decide +kernel
theorem dX11_strengths_36 : decode cX11_strengths 36 = .ok (.iastore, 1) := by decide +kernel
theorem dX11_strengths_37 : decode cX11_strengths 37 = .ok (.iinc 2 1, 3) := by decide +kernel
theorem dX11_strengths_40 : decode cX11_strengths 40 = .ok (.goto (-38), 3) := by decide +kernel
theorem dX11_strengths_43 : decode cX11_strengths 43 = .ok (.iconst 0, 1) := by decide +kernel
theorem dX11_strengths_44 : decode cX11_strengths 44 = .ok (.istore_n 2, 1) := by decide +kernel
theorem dX11_strengths_45 : decode cX11_strengths 45 = .ok (.iload_n 2, 1) := by decide +kernel
theorem dX11_strengths_46 : decode cX11_strengths 46 = .ok (.iconst 5, 1) := by decide +kernel
theorem dX11_strengths_47 : decode cX11_strengths 47 = .ok (.if_icmp .ge 103, 3) := by decide +kernel
theorem dX11_strengths_50 : decode cX11_strengths 50 = .ok (.iconst 0, 1) := by decide +kernel
theorem dX11_strengths_51 : decode cX11_strengths 51 = .ok (.istore_n 3, 1) := by decide +kernel
theorem dX11_strengths_52 : decode cX11_strengths 52 = .ok (.iload_n 3, 1) := by decide +kernel
theorem dX11_strengths_53 : decode cX11_strengths 53 = .ok (.bipush 25, 2) := by decide +kernel
theorem dX11_strengths_55 : decode cX11_strengths 55 = .ok (.if_icmp .ge 89, 3) := by decide +kernel
theorem dX11_strengths_58 : decode cX11_strengths 58 = .ok (.iload_n 1, 1) := by decide +kernel
theorem dX11_strengths_59 : decode cX11_strengths 59 = .ok (.iload_n 2, 1) := by decide +kernel
theorem dX11_strengths_60 : decode cX11_strengths 60 = .ok (.invokestatic 74, 3) := by decide +kernel
theorem dX11_strengths_63 : decode cX11_strengths 63 = .ok (.ifCond .eq 81, 3) := by decide +kernel
theorem dX11_strengths_66 : decode cX11_strengths 66 = .ok (.aload_n 0, 1) := by decide +kernel
theorem dX11_strengths_67 : decode cX11_strengths 67 = .ok (.getfield 28, 3) := by decide +kernel
theorem dX11_strengths_70 : decode cX11_strengths 70 = .ok (.iconst 5, 1) := by decide +kernel
theorem dX11_strengths_71 : decode cX11_strengths 71 = .ok (.iload_n 3, 1) := by decide +kernel
theorem dX11_strengths_72 : decode cX11_strengths 72 = .ok (.iconst 5, 1) := by decide +kernel
theorem dX11_strengths_73 : decode cX11_strengths 73 = .ok (.idiv, 1) := by decide +kernel
theorem dX11_strengths_74 : decode cX11_strengths 74 = .ok (.imul, 1) := by decide +kernel
theorem dX11_strengths_75 : decode cX11_strengths 75 = .ok (.iload_n 2, 1) := by decide +kernel
theorem dX11_strengths_76 : decode cX11_strengths 76 = .ok (.iadd, 1) := by decide +kernel
theorem dX11_strengths_77 : decode cX11_strengths 77 = .ok (.iaload, 1) := by decide +kernel
theorem dX11_strengths_78 : decode cX11_strengths 78 = .ok (.istore 4, 2) := by decide +kernel
theorem dX11_strengths_80 : decode cX11_strengths 80 = .ok (.aload_n 0, 1) := by decide +kernel
theorem dX11_strengths_81 : decode cX11_strengths 81 = .ok (.getfield 28, 3) := by decide +kernel
theorem dX11_strengths_84 : decode cX11_strengths 84 = .ok (.iconst 5, 1) := by decide +kernel
theorem dX11_strengths_85 : decode cX11_strengths 85 = .ok (.iload_n 2, 1) := by decide +kernel
theorem dX11_strengths_86 : decode cX11_strengths 86 = .ok (.imul, 1) := by decide +kernel
theorem dX11_strengths_87 : decode cX11_strengths 87 = .ok (.iload_n 3, 1) := by decide +kernel
theorem dX11_strengths_88 : decode cX11_strengths 88 = .ok (.iconst 5, 1) := by decide +kernel
theorem dX11_strengths_89 : decode cX11_strengths 89 = .ok (.irem, 1) := by decide +kernel
theorem dX11_strengths_90 : decode cX11_strengths 90 = .ok (.iadd, 1) := by decide +kernel
theorem dX11_strengths_91 : decode cX11_strengths 91 = .ok (.iaload, 1) := by decide +kernel
theorem dX11_strengths_92 : decode cX11_strengths 92 = .ok (.istore 5, 2) := by decide +kernel
theorem dX11_strengths_94 : decode cX11_strengths 94 = .ok (.iload 4, 2) := by decide +kernel
theorem dX11_strengths_96 : decode cX11_strengths 96 = .ok (.iload 5, 2) := by decide +kernel
theorem dX11_strengths_98 : decode cX11_strengths 98 = .ok (.if_icmp .ge 8, 3) := by decide +kernel
theorem dX11_strengths_101 : decode cX11_strengths 101 = .ok (.iload 4, 2) := by decide +kernel
theorem dX11_strengths_103 : decode cX11_strengths 103 = .ok (.goto 5, 3) := by decide +kernel
theorem dX11_strengths_106 : decode cX11_strengths 106 = .ok (.iload 5, 2) := by decide +kernel
theorem dX11_strengths_108 : decode cX11_strengths 108 = .ok (.istore 6, 2) := by decide +kernel
theorem dX11_strengths_110 : decode cX11_strengths 110 = .ok (.aload_n 0, 1) := by decide +kernel
theorem dX11_strengths_111 : decode cX11_strengths 111 = .ok (.getfield 28, 3) := by decide +kernel
theorem dX11_strengths_114 : decode cX11_strengths 114 = .ok (.iload_n 3, 1) := by decide +kernel
theorem dX11_strengths_115 : decode cX11_strengths 115 = .ok (.iload 6, 2) := by decide +kernel
theorem dX11_strengths_117 : decode cX11_strengths 117 = .ok (.aload_n 0, 1) := by decide +kernel
theorem dX11_strengths_118 : decode cX11_strengths 118 = .ok (.getfield 28, 3) := by decide +kernel
theorem dX11_strengths_121 : decode cX11_strengths 121 = .ok (.iload_n 3, 1) := by decide +kernel
theorem dX11_strengths_122 : decode cX11_strengths 122 = .ok (.iaload, 1) := by decide +kernel
theorem dX11_strengths_123 : decode cX11_strengths 123 = .ok (.if_icmp .le 8, 3) := by decide +kernel
theorem dX11_strengths_126 : decode cX11_strengths 126 = .ok (.iload 6, 2) := by decide +kernel
theorem dX11_strengths_128 : decode cX11_strengths 128 = .ok (.goto 9, 3) := by decide +kernel
theorem dX11_strengths_131 : decode cX11_strengths 131 = .ok (.aload_n 0, 1) := by decide +kernel
theorem dX11_strengths_132 : decode cX11_strengths 132 = .ok (.getfield 28, 3) := by decide +kernel
theorem dX11_strengths_135 : decode cX11_strengths 135 = .ok (.iload_n 3, 1) := by decide +kernel
theorem dX11_strengths_136 : decode cX11_strengths 136 = .ok (.iaload, 1) := by decide +kernel
theorem dX11_strengths_137 : decode cX11_strengths 137 = .ok (.iastore, 1) := by decide +kernel
theorem dX11_strengths_138 : decode cX11_strengths 138 = .ok (.iinc 3 1, 3) := by decide +kernel
theorem dX11_strengths_141 : decode cX11_strengths 141 = .ok (.goto (-89), 3) := by decide +kernel
theorem dX11_strengths_144 : decode cX11_strengths 144 = .ok (.iinc 2 1, 3) := by decide +kernel
theorem dX11_strengths_147 : decode cX11_strengths 147 = .ok (.goto (-102), 3) := by decide +kernel
theorem dX11_strengths_150 : decode cX11_strengths 150 = .ok (.return_, 1) := by decide +kernel
theorem dX11_schulze_0 : decode cX11_schulze 0 = .ok (.aload_n 0, 1) := by decide +kernel
theorem dX11_schulze_1 : decode cX11_schulze 1 = .ok (.iload_n 1, 1) := by decide +kernel
theorem dX11_schulze_2 : decode cX11_schulze 2 = .ok (.invokevirtual 122, 3) := by decide +kernel
theorem dX11_schulze_5 : decode cX11_schulze 5 = .ok (.iconst 0, 1) := by decide +kernel
theorem dX11_schulze_6 : decode cX11_schulze 6 = .ok (.istore_n 2, 1) := by decide +kernel
theorem dX11_schulze_7 : decode cX11_schulze 7 = .ok (.iconst 0, 1) := by decide +kernel
theorem dX11_schulze_8 : decode cX11_schulze 8 = .ok (.istore_n 3, 1) := by decide +kernel
theorem dX11_schulze_9 : decode cX11_schulze 9 = .ok (.iload_n 3, 1) := by decide +kernel
theorem dX11_schulze_10 : decode cX11_schulze 10 = .ok (.iconst 5, 1) := by decide +kernel
theorem dX11_schulze_11 : decode cX11_schulze 11 = .ok (.if_icmp .ge 98, 3) := by decide +kernel
theorem dX11_schulze_14 : decode cX11_schulze 14 = .ok (.iload_n 1, 1) := by decide +kernel
theorem dX11_schulze_15 : decode cX11_schulze 15 = .ok (.iload_n 3, 1) := by decide +kernel
theorem dX11_schulze_16 : decode cX11_schulze 16 = .ok (.invokestatic 74, 3) := by decide +kernel
theorem dX11_schulze_19 : decode cX11_schulze 19 = .ok (.istore 4, 2) := by decide +kernel
theorem dX11_schulze_21 : decode cX11_schulze 21 = .ok (.iconst 0, 1) := by decide +kernel
theorem dX11_schulze_22 : decode cX11_schulze 22 = .ok (.istore 5, 2) := by decide +kernel
theorem dX11_schulze_24 : decode cX11_schulze 24 = .ok (.iload 5, 2) := by decide +kernel
theorem dX11_schulze_26 : decode cX11_schulze 26 = .ok (.iconst 5, 1) := by decide +kernel
theorem dX11_schulze_27 : decode cX11_schulze 27 = .ok (.if_icmp .ge 61, 3) := by decide +kernel
theorem dX11_schulze_30 : decode cX11_schulze 30 = .ok (.iload 4, 2) := by decide +kernel
theorem dX11_schulze_32 : decode cX11_schulze 32 = .ok (.ifCond .eq 47, 3) := by decide +kernel
theorem dX11_schulze_35 : decode cX11_schulze 35 = .ok (.iload 5, 2) := by decide +kernel
theorem dX11_schulze_37 : decode cX11_schulze 37 = .ok (.iload_n 3, 1) := by decide +kernel
theorem dX11_schulze_38 : decode cX11_schulze 38 = .ok (.if_icmp .eq 37, 3) := by decide +kernel
theorem dX11_schulze_41 : decode cX11_schulze 41 = .ok (.iload_n 1, 1) := by decide +kernel
theorem dX11_schulze_42 : decode cX11_schulze 42 = .ok (.iload 5, 2) := by decide +kernel
theorem dX11_schulze_44 : decode cX11_schulze 44 = .ok (.invokestatic 74, 3) := by decide +kernel
theorem dX11_schulze_47 : decode cX11_schulze 47 = .ok (.ifCond .eq 28, 3) := by decide +kernel
theorem dX11_schulze_50 : decode cX11_schulze 50 = .ok (.aload_n 0, 1) := by decide +kernel
theorem dX11_schulze_51 : decode cX11_schulze 51 = .ok (.getfield 28, 3) := by decide +kernel
theorem dX11_schulze_54 : decode cX11_schulze 54 = .ok (.iconst 5, 1) := by decide +kernel
theorem dX11_schulze_55 : decode cX11_schulze 55 = .ok (.iload_n 3, 1) := by decide +kernel
theorem dX11_schulze_56 : decode cX11_schulze 56 = .ok (.imul, 1) := by decide +kernel
theorem dX11_schulze_57 : decode cX11_schulze 57 = .ok (.iload 5, 2) := by decide +kernel
theorem dX11_schulze_59 : decode cX11_schulze 59 = .ok (.iadd, 1) := by decide +kernel
theorem dX11_schulze_60 : decode cX11_schulze 60 = .ok (.iaload, 1) := by decide +kernel
theorem dX11_schulze_61 : decode cX11_schulze 61 = .ok (.aload_n 0, 1) := by decide +kernel
theorem dX11_schulze_62 : decode cX11_schulze 62 = .ok (.getfield 28, 3) := by decide +kernel
theorem dX11_schulze_65 : decode cX11_schulze 65 = .ok (.iconst 5, 1) := by decide +kernel
theorem dX11_schulze_66 : decode cX11_schulze 66 = .ok (.iload 5, 2) := by decide +kernel
theorem dX11_schulze_68 : decode cX11_schulze 68 = .ok (.imul, 1) := by decide +kernel
theorem dX11_schulze_69 : decode cX11_schulze 69 = .ok (.iload_n 3, 1) := by decide +kernel
theorem dX11_schulze_70 : decode cX11_schulze 70 = .ok (.iadd, 1) := by decide +kernel
theorem dX11_schulze_71 : decode cX11_schulze 71 = .ok (.iaload, 1) := by decide +kernel
theorem dX11_schulze_72 : decode cX11_schulze 72 = .ok (.if_icmp .lt 7, 3) := by decide +kernel
theorem dX11_schulze_75 : decode cX11_schulze 75 = .ok (.iconst 1, 1) := by decide +kernel
theorem dX11_schulze_76 : decode cX11_schulze 76 = .ok (.goto 4, 3) := by decide +kernel
theorem dX11_schulze_79 : decode cX11_schulze 79 = .ok (.iconst 0, 1) := by decide +kernel
theorem dX11_schulze_80 : decode cX11_schulze 80 = .ok (.istore 4, 2) := by decide +kernel
theorem dX11_schulze_82 : decode cX11_schulze 82 = .ok (.iinc 5 1, 3) := by decide +kernel
theorem dX11_schulze_85 : decode cX11_schulze 85 = .ok (.goto (-61), 3) := by decide +kernel
theorem dX11_schulze_88 : decode cX11_schulze 88 = .ok (.iload_n 2, 1) := by decide +kernel
theorem dX11_schulze_89 : decode cX11_schulze 89 = .ok (.iload 4, 2) := by decide +kernel
theorem dX11_schulze_91 : decode cX11_schulze 91 = .ok (.ifCond .eq 9, 3) := by decide +kernel
theorem dX11_schulze_94 : decode cX11_schulze 94 = .ok (.iconst 1, 1) := by decide +kernel
theorem dX11_schulze_95 : decode cX11_schulze 95 = .ok (.iload_n 3, 1) := by decide +kernel
theorem dX11_schulze_96 : decode cX11_schulze 96 = .ok (.ishl, 1) := by decide +kernel
theorem dX11_schulze_97 : decode cX11_schulze 97 = .ok (.goto 4, 3) := by decide +kernel
theorem dX11_schulze_100 : decode cX11_schulze 100 = .ok (.iconst 0, 1) := by decide +kernel
theorem dX11_schulze_101 : decode cX11_schulze 101 = .ok (.ior, 1) := by decide +kernel
theorem dX11_schulze_102 : decode cX11_schulze 102 = .ok (.istore_n 2, 1) := by decide +kernel
theorem dX11_schulze_103 : decode cX11_schulze 103 = .ok (.iinc 3 1, 3) := by decide +kernel
theorem dX11_schulze_106 : decode cX11_schulze 106 = .ok (.goto (-97), 3) := by decide +kernel
theorem dX11_schulze_109 : decode cX11_schulze 109 = .ok (.iload_n 2, 1) := by decide +kernel
theorem dX11_schulze_110 : decode cX11_schulze 110 = .ok (.ireturn, 1) := by decide +kernel
theorem dX11_locks_0 : decode cX11_locks 0 = .ok (.aload_n 0, 1) := by decide +kernel
theorem dX11_locks_1 : decode cX11_locks 1 = .ok (.getfield 31, 3) := by decide +kernel
theorem dX11_locks_4 : decode cX11_locks 4 = .ok (.iconst 5, 1) := by decide +kernel
theorem dX11_locks_5 : decode cX11_locks 5 = .ok (.iload_n 1, 1) := by decide +kernel
theorem dX11_locks_6 : decode cX11_locks 6 = .ok (.imul, 1) := by decide +kernel
theorem dX11_locks_7 : decode cX11_locks 7 = .ok (.iload_n 2, 1) := by decide +kernel
theorem dX11_locks_8 : decode cX11_locks 8 = .ok (.iadd, 1) := by decide +kernel
theorem dX11_locks_9 : decode cX11_locks 9 = .ok (.iconst 1, 1) := by decide +kernel
theorem dX11_locks_10 : decode cX11_locks 10 = .ok (.bastore, 1) := by decide +kernel
theorem dX11_locks_11 : decode cX11_locks 11 = .ok (.iconst 0, 1) := by decide +kernel
theorem dX11_locks_12 : decode cX11_locks 12 = .ok (.istore_n 3, 1) := by decide +kernel
theorem dX11_locks_13 : decode cX11_locks 13 = .ok (.iload_n 3, 1) := by decide +kernel
theorem dX11_locks_14 : decode cX11_locks 14 = .ok (.bipush 25, 2) := by decide +kernel
theorem dX11_locks_16 : decode cX11_locks 16 = .ok (.if_icmp .ge 91, 3) := by decide +kernel
theorem dX11_locks_19 : decode cX11_locks 19 = .ok (.iload_n 3, 1) := by decide +kernel
theorem dX11_locks_20 : decode cX11_locks 20 = .ok (.iconst 5, 1) := by decide +kernel
theorem dX11_locks_21 : decode cX11_locks 21 = .ok (.idiv, 1) := by decide +kernel
theorem dX11_locks_22 : decode cX11_locks 22 = .ok (.istore 4, 2) := by decide +kernel
theorem dX11_locks_24 : decode cX11_locks 24 = .ok (.iload_n 3, 1) := by decide +kernel
theorem dX11_locks_25 : decode cX11_locks 25 = .ok (.iconst 5, 1) := by decide +kernel
theorem dX11_locks_26 : decode cX11_locks 26 = .ok (.irem, 1) := by decide +kernel
theorem dX11_locks_27 : decode cX11_locks 27 = .ok (.istore 5, 2) := by decide +kernel
theorem dX11_locks_29 : decode cX11_locks 29 = .ok (.iload 4, 2) := by decide +kernel
theorem dX11_locks_31 : decode cX11_locks 31 = .ok (.iload_n 1, 1) := by decide +kernel
theorem dX11_locks_32 : decode cX11_locks 32 = .ok (.if_icmp .eq 17, 3) := by decide +kernel
theorem dX11_locks_35 : decode cX11_locks 35 = .ok (.aload_n 0, 1) := by decide +kernel
theorem dX11_locks_36 : decode cX11_locks 36 = .ok (.getfield 35, 3) := by decide +kernel
theorem dX11_locks_39 : decode cX11_locks 39 = .ok (.iconst 5, 1) := by decide +kernel
theorem dX11_locks_40 : decode cX11_locks 40 = .ok (.iload 4, 2) := by decide +kernel
theorem dX11_locks_42 : decode cX11_locks 42 = .ok (.imul, 1) := by decide +kernel
theorem dX11_locks_43 : decode cX11_locks 43 = .ok (.iload_n 1, 1) := by decide +kernel
theorem dX11_locks_44 : decode cX11_locks 44 = .ok (.iadd, 1) := by decide +kernel
theorem dX11_locks_45 : decode cX11_locks 45 = .ok (.baload, 1) := by decide +kernel
theorem dX11_locks_46 : decode cX11_locks 46 = .ok (.ifCond .eq 27, 3) := by decide +kernel
theorem dX11_locks_49 : decode cX11_locks 49 = .ok (.iload 5, 2) := by decide +kernel
theorem dX11_locks_51 : decode cX11_locks 51 = .ok (.iload_n 2, 1) := by decide +kernel
theorem dX11_locks_52 : decode cX11_locks 52 = .ok (.if_icmp .eq 17, 3) := by decide +kernel
theorem dX11_locks_55 : decode cX11_locks 55 = .ok (.aload_n 0, 1) := by decide +kernel
theorem dX11_locks_56 : decode cX11_locks 56 = .ok (.getfield 35, 3) := by decide +kernel
theorem dX11_locks_59 : decode cX11_locks 59 = .ok (.iconst 5, 1) := by decide +kernel
theorem dX11_locks_60 : decode cX11_locks 60 = .ok (.iload_n 2, 1) := by decide +kernel
theorem dX11_locks_61 : decode cX11_locks 61 = .ok (.imul, 1) := by decide +kernel
theorem dX11_locks_62 : decode cX11_locks 62 = .ok (.iload 5, 2) := by decide +kernel
theorem dX11_locks_64 : decode cX11_locks 64 = .ok (.iadd, 1) := by decide +kernel
theorem dX11_locks_65 : decode cX11_locks 65 = .ok (.baload, 1) := by decide +kernel
theorem dX11_locks_66 : decode cX11_locks 66 = .ok (.ifCond .eq 7, 3) := by decide +kernel
theorem dX11_locks_69 : decode cX11_locks 69 = .ok (.iconst 1, 1) := by decide +kernel
theorem dX11_locks_70 : decode cX11_locks 70 = .ok (.goto 4, 3) := by decide +kernel
theorem dX11_locks_73 : decode cX11_locks 73 = .ok (.iconst 0, 1) := by decide +kernel
theorem dX11_locks_74 : decode cX11_locks 74 = .ok (.istore 6, 2) := by decide +kernel
theorem dX11_locks_76 : decode cX11_locks 76 = .ok (.aload_n 0, 1) := by decide +kernel
theorem dX11_locks_77 : decode cX11_locks 77 = .ok (.getfield 35, 3) := by decide +kernel
theorem dX11_locks_80 : decode cX11_locks 80 = .ok (.iload_n 3, 1) := by decide +kernel
theorem dX11_locks_81 : decode cX11_locks 81 = .ok (.aload_n 0, 1) := by decide +kernel
theorem dX11_locks_82 : decode cX11_locks 82 = .ok (.getfield 35, 3) := by decide +kernel
theorem dX11_locks_85 : decode cX11_locks 85 = .ok (.iload_n 3, 1) := by decide +kernel
theorem dX11_locks_86 : decode cX11_locks 86 = .ok (.baload, 1) := by decide +kernel
theorem dX11_locks_87 : decode cX11_locks 87 = .ok (.ifCond .ne 8, 3) := by decide +kernel
theorem dX11_locks_90 : decode cX11_locks 90 = .ok (.iload 6, 2) := by decide +kernel
theorem dX11_locks_92 : decode cX11_locks 92 = .ok (.ifCond .eq 7, 3) := by decide +kernel
theorem dX11_locks_95 : decode cX11_locks 95 = .ok (.iconst 1, 1) := by decide +kernel
theorem dX11_locks_96 : decode cX11_locks 96 = .ok (.goto 4, 3) := by decide +kernel
theorem dX11_locks_99 : decode cX11_locks 99 = .ok (.iconst 0, 1) := by decide +kernel
theorem dX11_locks_100 : decode cX11_locks 100 = .ok (.bastore, 1) := by decide +kernel
theorem dX11_locks_101 : decode cX11_locks 101 = .ok (.iinc 3 1, 3) := by decide +kernel
theorem dX11_locks_104 : decode cX11_locks 104 = .ok (.goto (-91), 3) := by decide +kernel
theorem dX11_locks_107 : decode cX11_locks 107 = .ok (.return_, 1) := by decide +kernel
theorem dX11_locksAll_0 : decode cX11_locksAll 0 = .ok (.iconst 0, 1) := by decide +kernel
theorem dX11_locksAll_1 : decode cX11_locksAll 1 = .ok (.istore_n 2, 1) := by decide +kernel
theorem dX11_locksAll_2 : decode cX11_locksAll 2 = .ok (.iload_n 2, 1) := by decide +kernel
theorem dX11_locksAll_3 : decode cX11_locksAll 3 = .ok (.bipush 25, 2) := by decide +kernel
theorem dX11_locksAll_5 : decode cX11_locksAll 5 = .ok (.if_icmp .ge 23, 3) := by decide +kernel
theorem dX11_locksAll_8 : decode cX11_locksAll 8 = .ok (.aload_n 0, 1) := by decide +kernel
theorem dX11_locksAll_9 : decode cX11_locksAll 9 = .ok (.getfield 31, 3) := by decide +kernel
theorem dX11_locksAll_12 : decode cX11_locksAll 12 = .ok (.iload_n 2, 1) := by decide +kernel
theorem dX11_locksAll_13 : decode cX11_locksAll 13 = .ok (.iconst 0, 1) := by decide +kernel
theorem dX11_locksAll_14 : decode cX11_locksAll 14 = .ok (.bastore, 1) := by decide +kernel
theorem dX11_locksAll_15 : decode cX11_locksAll 15 = .ok (.aload_n 0, 1) := by decide +kernel
theorem dX11_locksAll_16 : decode cX11_locksAll 16 = .ok (.getfield 35, 3) := by decide +kernel
theorem dX11_locksAll_19 : decode cX11_locksAll 19 = .ok (.iload_n 2, 1) := by decide +kernel
theorem dX11_locksAll_20 : decode cX11_locksAll 20 = .ok (.iconst 0, 1) := by decide +kernel
theorem dX11_locksAll_21 : decode cX11_locksAll 21 = .ok (.bastore, 1) := by decide +kernel
theorem dX11_locksAll_22 : decode cX11_locksAll 22 = .ok (.iinc 2 1, 3) := by decide +kernel
theorem dX11_locksAll_25 : decode cX11_locksAll 25 = .ok (.goto (-23), 3) := by decide +kernel
theorem dX11_locksAll_28 : decode cX11_locksAll 28 = .ok (.aload_n 0, 1) := by decide +kernel
theorem dX11_locksAll_29 : decode cX11_locksAll 29 = .ok (.invokevirtual 115, 3) := by decide +kernel
theorem dX11_locksAll_32 : decode cX11_locksAll 32 = .ok (.istore_n 2, 1) := by decide +kernel
theorem dX11_locksAll_33 : decode cX11_locksAll 33 = .ok (.iload_n 2, 1) := by decide +kernel
theorem dX11_locksAll_34 : decode cX11_locksAll 34 = .ok (.ifCond .le 107, 3) := by decide +kernel
theorem dX11_locksAll_37 : decode cX11_locksAll 37 = .ok (.iconst 0, 1) := by decide +kernel
theorem dX11_locksAll_38 : decode cX11_locksAll 38 = .ok (.istore_n 3, 1) := by decide +kernel
theorem dX11_locksAll_39 : decode cX11_locksAll 39 = .ok (.iload_n 3, 1) := by decide +kernel
theorem dX11_locksAll_40 : decode cX11_locksAll 40 = .ok (.bipush 25, 2) := by decide +kernel
theorem dX11_locksAll_42 : decode cX11_locksAll 42 = .ok (.if_icmp .ge 93, 3) := by decide +kernel
theorem dX11_locksAll_45 : decode cX11_locksAll 45 = .ok (.iload_n 3, 1) := by decide +kernel
theorem dX11_locksAll_46 : decode cX11_locksAll 46 = .ok (.iconst 5, 1) := by decide +kernel
theorem dX11_locksAll_47 : decode cX11_locksAll 47 = .ok (.idiv, 1) := by decide +kernel
theorem dX11_locksAll_48 : decode cX11_locksAll 48 = .ok (.istore 4, 2) := by decide +kernel
theorem dX11_locksAll_50 : decode cX11_locksAll 50 = .ok (.iload_n 3, 1) := by decide +kernel
theorem dX11_locksAll_51 : decode cX11_locksAll 51 = .ok (.iconst 5, 1) := by decide +kernel
theorem dX11_locksAll_52 : decode cX11_locksAll 52 = .ok (.irem, 1) := by decide +kernel
theorem dX11_locksAll_53 : decode cX11_locksAll 53 = .ok (.istore 5, 2) := by decide +kernel
theorem dX11_locksAll_55 : decode cX11_locksAll 55 = .ok (.iload_n 1, 1) := by decide +kernel
theorem dX11_locksAll_56 : decode cX11_locksAll 56 = .ok (.iload 4, 2) := by decide +kernel
theorem dX11_locksAll_58 : decode cX11_locksAll 58 = .ok (.invokestatic 74, 3) := by decide +kernel
theorem dX11_locksAll_61 : decode cX11_locksAll 61 = .ok (.ifCond .eq 37, 3) := by decide +kernel
theorem dX11_locksAll_64 : decode cX11_locksAll 64 = .ok (.iload_n 1, 1) := by decide +kernel
theorem dX11_locksAll_65 : decode cX11_locksAll 65 = .ok (.iload 5, 2) := by decide +kernel
theorem dX11_locksAll_67 : decode cX11_locksAll 67 = .ok (.invokestatic 74, 3) := by decide +kernel
theorem dX11_locksAll_70 : decode cX11_locksAll 70 = .ok (.ifCond .eq 28, 3) := by decide +kernel
theorem dX11_locksAll_73 : decode cX11_locksAll 73 = .ok (.aload_n 0, 1) := by decide +kernel
theorem dX11_locksAll_74 : decode cX11_locksAll 74 = .ok (.iload 4, 2) := by decide +kernel
theorem dX11_locksAll_76 : decode cX11_locksAll 76 = .ok (.iload 5, 2) := by decide +kernel
theorem dX11_locksAll_78 : decode cX11_locksAll 78 = .ok (.invokevirtual 92, 3) := by decide +kernel
theorem dX11_locksAll_81 : decode cX11_locksAll 81 = .ok (.aload_n 0, 1) := by decide +kernel
theorem dX11_locksAll_82 : decode cX11_locksAll 82 = .ok (.iload 5, 2) := by decide +kernel
theorem dX11_locksAll_84 : decode cX11_locksAll 84 = .ok (.iload 4, 2) := by decide +kernel
theorem dX11_locksAll_86 : decode cX11_locksAll 86 = .ok (.invokevirtual 92, 3) := by decide +kernel
theorem dX11_locksAll_89 : decode cX11_locksAll 89 = .ok (.isub, 1) := by decide +kernel
theorem dX11_locksAll_90 : decode cX11_locksAll 90 = .ok (.iload_n 2, 1) := by decide +kernel
theorem dX11_locksAll_91 : decode cX11_locksAll 91 = .ok (.if_icmp .ne 7, 3) := by decide +kernel
theorem dX11_locksAll_94 : decode cX11_locksAll 94 = .ok (.iconst 1, 1) := by decide +kernel
theorem dX11_locksAll_95 : decode cX11_locksAll 95 = .ok (.goto 4, 3) := by decide +kernel
theorem dX11_locksAll_98 : decode cX11_locksAll 98 = .ok (.iconst 0, 1) := by decide +kernel
theorem dX11_locksAll_99 : decode cX11_locksAll 99 = .ok (.istore 6, 2) := by decide +kernel
theorem dX11_locksAll_101 : decode cX11_locksAll 101 = .ok (.iload 6, 2) := by decide +kernel
theorem dX11_locksAll_103 : decode cX11_locksAll 103 = .ok (.ifCond .eq 26, 3) := by decide +kernel
theorem dX11_locksAll_106 : decode cX11_locksAll 106 = .ok (.aload_n 0, 1) := by decide +kernel
theorem dX11_locksAll_107 : decode cX11_locksAll 107 = .ok (.getfield 35, 3) := by decide +kernel
theorem dX11_locksAll_110 : decode cX11_locksAll 110 = .ok (.iconst 5, 1) := by decide +kernel
theorem dX11_locksAll_111 : decode cX11_locksAll 111 = .ok (.iload 5, 2) := by decide +kernel
theorem dX11_locksAll_113 : decode cX11_locksAll 113 = .ok (.imul, 1) := by decide +kernel
theorem dX11_locksAll_114 : decode cX11_locksAll 114 = .ok (.iload 4, 2) := by decide +kernel
theorem dX11_locksAll_116 : decode cX11_locksAll 116 = .ok (.iadd, 1) := by decide +kernel
theorem dX11_locksAll_117 : decode cX11_locksAll 117 = .ok (.baload, 1) := by decide +kernel
theorem dX11_locksAll_118 : decode cX11_locksAll 118 = .ok (.ifCond .ne 11, 3) := by decide +kernel
theorem dX11_locksAll_121 : decode cX11_locksAll 121 = .ok (.aload_n 0, 1) := by decide +kernel
theorem dX11_locksAll_122 : decode cX11_locksAll 122 = .ok (.iload 4, 2) := by decide +kernel
theorem dX11_locksAll_124 : decode cX11_locksAll 124 = .ok (.iload 5, 2) := by decide +kernel
theorem dX11_locksAll_126 : decode cX11_locksAll 126 = .ok (.invokevirtual 125, 3) := by decide +kernel
