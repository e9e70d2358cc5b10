theorem dX11_locksAll_129 : decode cX11_locksAll 129 = .ok (.iinc 3 1, 3) := by decide +kernel
theorem dX11_locksAll_132 : decode cX11_locksAll 132 = .ok (.goto (-93), 3) := by decide +kernel
theorem dX11_locksAll_135 : decode cX11_locksAll 135 = .ok (.iinc 2 (-1), 3) := by decide +kernel
theorem dX11_locksAll_138 : decode cX11_locksAll 138 = .ok (.goto (-105), 3) := by decide +kernel
theorem dX11_locksAll_141 : decode cX11_locksAll 141 = .ok (.return_, 1) := by decide +kernel
theorem dX11_rankedPairs_0 : decode cX11_rankedPairs 0 = .ok (.aload_n 0, 1) := by decide +kernel
theorem dX11_rankedPairs_1 : decode cX11_rankedPairs 1 = .ok (.iload_n 1, 1) := by decide +kernel
theorem dX11_rankedPairs_2 : decode cX11_rankedPairs 2 = .ok (.invokevirtual 128, 3) := by decide +kernel
theorem dX11_rankedPairs_5 : decode cX11_rankedPairs 5 = .ok (.iconst 0, 1) := by decide +kernel
theorem dX11_rankedPairs_6 : decode cX11_rankedPairs 6 = .ok (.istore_n 2, 1) := by decide +kernel
theorem dX11_rankedPairs_7 : decode cX11_rankedPairs 7 = .ok (.iconst 0, 1) := by decide +kernel
theorem dX11_rankedPairs_8 : decode cX11_rankedPairs 8 = .ok (.istore_n 3, 1) := by decide +kernel
theorem dX11_rankedPairs_9 : decode cX11_rankedPairs 9 = .ok (.iload_n 3, 1) := by decide +kernel
theorem dX11_rankedPairs_10 : decode cX11_rankedPairs 10 = .ok (.iconst 5, 1) := by decide +kernel
theorem dX11_rankedPairs_11 : decode cX11_rankedPairs 11 = .ok (.if_icmp .ge 72, 3) := by decide +kernel
theorem dX11_rankedPairs_14 : decode cX11_rankedPairs 14 = .ok (.iload_n 1, 1) := by decide +kernel
theorem dX11_rankedPairs_15 : decode cX11_rankedPairs 15 = .ok (.iload_n 3, 1) := by decide +kernel
theorem dX11_rankedPairs_16 : decode cX11_rankedPairs 16 = .ok (.invokestatic 74, 3) := by decide +kernel
theorem dX11_rankedPairs_19 : decode cX11_rankedPairs 19 = .ok (.istore 4, 2) := by decide +kernel
theorem dX11_rankedPairs_21 : decode cX11_rankedPairs 21 = .ok (.iconst 0, 1) := by decide +kernel
theorem dX11_rankedPairs_22 : decode cX11_rankedPairs 22 = .ok (.istore 5, 2) := by decide +kernel
theorem dX11_rankedPairs_24 : decode cX11_rankedPairs 24 = .ok (.iload 5, 2) := by decide +kernel
theorem dX11_rankedPairs_26 : decode cX11_rankedPairs 26 = .ok (.iconst 5, 1) := by decide +kernel
theorem dX11_rankedPairs_27 : decode cX11_rankedPairs 27 = .ok (.if_icmp .ge 35, 3) := by decide +kernel
theorem dX11_rankedPairs_30 : decode cX11_rankedPairs 30 = .ok (.iload 4, 2) := by decide +kernel
theorem dX11_rankedPairs_32 : decode cX11_rankedPairs 32 = .ok (.ifCond .eq 21, 3) := by decide +kernel
theorem dX11_rankedPairs_35 : decode cX11_rankedPairs 35 = .ok (.aload_n 0, 1) := by decide +kernel
theorem dX11_rankedPairs_36 : decode cX11_rankedPairs 36 = .ok (.getfield 31, 3) := by decide +kernel
theorem dX11_rankedPairs_39 : decode cX11_rankedPairs 39 = .ok (.iconst 5, 1) := by decide +kernel
theorem dX11_rankedPairs_40 : decode cX11_rankedPairs 40 = .ok (.iload 5, 2) := by decide +kernel
theorem dX11_rankedPairs_42 : decode cX11_rankedPairs 42 = .ok (.imul, 1) := by decide +kernel
theorem dX11_rankedPairs_43 : decode cX11_rankedPairs 43 = .ok (.iload_n 3, 1) := by decide +kernel
theorem dX11_rankedPairs_44 : decode cX11_rankedPairs 44 = .ok (.iadd, 1) := by decide +kernel
theorem dX11_rankedPairs_45 : decode cX11_rankedPairs 45 = .ok (.baload, 1) := by decide +kernel
theorem dX11_rankedPairs_46 : decode cX11_rankedPairs 46 = .ok (.ifCond .ne 7, 3) := by decide +kernel
theorem dX11_rankedPairs_49 : decode cX11_rankedPairs 49 = .ok (.iconst 1, 1) := by decide +kernel
theorem dX11_rankedPairs_50 : decode cX11_rankedPairs 50 = .ok (.goto 4, 3) := by decide +kernel
theorem dX11_rankedPairs_53 : decode cX11_rankedPairs 53 = .ok (.iconst 0, 1) := by decide +kernel
theorem dX11_rankedPairs_54 : decode cX11_rankedPairs 54 = .ok (.istore 4, 2) := by decide +kernel
theorem dX11_rankedPairs_56 : decode cX11_rankedPairs 56 = .ok (.iinc 5 1, 3) := by decide +kernel
theorem dX11_rankedPairs_59 : decode cX11_rankedPairs 59 = .ok (.goto (-35), 3) := by decide +kernel
theorem dX11_rankedPairs_62 : decode cX11_rankedPairs 62 = .ok (.iload_n 2, 1) := by decide +kernel
theorem dX11_rankedPairs_63 : decode cX11_rankedPairs 63 = .ok (.iload 4, 2) := by decide +kernel
theorem dX11_rankedPairs_65 : decode cX11_rankedPairs 65 = .ok (.ifCond .eq 9, 3) := by decide +kernel
theorem dX11_rankedPairs_68 : decode cX11_rankedPairs 68 = .ok (.iconst 1, 1) := by decide +kernel
theorem dX11_rankedPairs_69 : decode cX11_rankedPairs 69 = .ok (.iload_n 3, 1) := by decide +kernel
theorem dX11_rankedPairs_70 : decode cX11_rankedPairs 70 = .ok (.ishl, 1) := by decide +kernel
theorem dX11_rankedPairs_71 : decode cX11_rankedPairs 71 = .ok (.goto 4, 3) := by decide +kernel
theorem dX11_rankedPairs_74 : decode cX11_rankedPairs 74 = .ok (.iconst 0, 1) := by decide +kernel
theorem dX11_rankedPairs_75 : decode cX11_rankedPairs 75 = .ok (.ior, 1) := by decide +kernel
theorem dX11_rankedPairs_76 : decode cX11_rankedPairs 76 = .ok (.istore_n 2, 1) := by decide +kernel
theorem dX11_rankedPairs_77 : decode cX11_rankedPairs 77 = .ok (.iinc 3 1, 3) := by decide +kernel
theorem dX11_rankedPairs_80 : decode cX11_rankedPairs 80 = .ok (.goto (-71), 3) := by decide +kernel
theorem dX11_rankedPairs_83 : decode cX11_rankedPairs 83 = .ok (.iload_n 2, 1) := by decide +kernel
theorem dX11_rankedPairs_84 : decode cX11_rankedPairs 84 = .ok (.ireturn, 1) := by decide +kernel
theorem dX11_leave_0 : decode cX11_leave 0 = .ok (.aload_n 0, 1) := by decide +kernel
theorem dX11_leave_1 : decode cX11_leave 1 = .ok (.getfield 44, 3) := by decide +kernel
theorem dX11_leave_4 : decode cX11_leave 4 = .ok (.aload_n 0, 1) := by decide +kernel
theorem dX11_leave_5 : decode cX11_leave 5 = .ok (.getfield 131, 3) := by decide +kernel
theorem dX11_leave_8 : decode cX11_leave 8 = .ok (.iload_n 1, 1) := by decide +kernel
theorem dX11_leave_9 : decode cX11_leave 9 = .ok (.iastore, 1) := by decide +kernel
theorem dX11_leave_10 : decode cX11_leave 10 = .ok (.aload_n 0, 1) := by decide +kernel
theorem dX11_leave_11 : decode cX11_leave 11 = .ok (.getfield 38, 3) := by decide +kernel
theorem dX11_leave_14 : decode cX11_leave 14 = .ok (.aload_n 0, 1) := by decide +kernel
theorem dX11_leave_15 : decode cX11_leave 15 = .ok (.getfield 131, 3) := by decide +kernel
theorem dX11_leave_18 : decode cX11_leave 18 = .ok (.iload_n 2, 1) := by decide +kernel
theorem dX11_leave_19 : decode cX11_leave 19 = .ok (.iastore, 1) := by decide +kernel
theorem dX11_leave_20 : decode cX11_leave 20 = .ok (.iconst 0, 1) := by decide +kernel
theorem dX11_leave_21 : decode cX11_leave 21 = .ok (.istore_n 3, 1) := by decide +kernel
theorem dX11_leave_22 : decode cX11_leave 22 = .ok (.iload_n 3, 1) := by decide +kernel
theorem dX11_leave_23 : decode cX11_leave 23 = .ok (.iconst 5, 1) := by decide +kernel
theorem dX11_leave_24 : decode cX11_leave 24 = .ok (.if_icmp .ge 28, 3) := by decide +kernel
theorem dX11_leave_27 : decode cX11_leave 27 = .ok (.aload_n 0, 1) := by decide +kernel
theorem dX11_leave_28 : decode cX11_leave 28 = .ok (.getfield 41, 3) := by decide +kernel
theorem dX11_leave_31 : decode cX11_leave 31 = .ok (.iconst 5, 1) := by decide +kernel
theorem dX11_leave_32 : decode cX11_leave 32 = .ok (.aload_n 0, 1) := by decide +kernel
theorem dX11_leave_33 : decode cX11_leave 33 = .ok (.getfield 131, 3) := by decide +kernel
theorem dX11_leave_36 : decode cX11_leave 36 = .ok (.imul, 1) := by decide +kernel
theorem dX11_leave_37 : decode cX11_leave 37 = .ok (.iload_n 3, 1) := by decide +kernel
theorem dX11_leave_38 : decode cX11_leave 38 = .ok (.iadd, 1) := by decide +kernel
theorem dX11_leave_39 : decode cX11_leave 39 = .ok (.aload_n 0, 1) := by decide +kernel
theorem dX11_leave_40 : decode cX11_leave 40 = .ok (.getfield 25, 3) := by decide +kernel
theorem dX11_leave_43 : decode cX11_leave 43 = .ok (.iload_n 3, 1) := by decide +kernel
theorem dX11_leave_44 : decode cX11_leave 44 = .ok (.iaload, 1) := by decide +kernel
theorem dX11_leave_45 : decode cX11_leave 45 = .ok (.iastore, 1) := by decide +kernel
theorem dX11_leave_46 : decode cX11_leave 46 = .ok (.iinc 3 1, 3) := by decide +kernel
theorem dX11_leave_49 : decode cX11_leave 49 = .ok (.goto (-27), 3) := by decide +kernel
theorem dX11_leave_52 : decode cX11_leave 52 = .ok (.aload_n 0, 1) := by decide +kernel
theorem dX11_leave_53 : decode cX11_leave 53 = .ok (.dup, 1) := by decide +kernel
theorem dX11_leave_54 : decode cX11_leave 54 = .ok (.getfield 131, 3) := by decide +kernel
theorem dX11_leave_57 : decode cX11_leave 57 = .ok (.iconst 1, 1) := by decide +kernel
theorem dX11_leave_58 : decode cX11_leave 58 = .ok (.iadd, 1) := by decide +kernel
theorem dX11_leave_59 : decode cX11_leave 59 = .ok (.putfield 131, 3) := by decide +kernel
theorem dX11_leave_62 : decode cX11_leave 62 = .ok (.return_, 1) := by decide +kernel
theorem dX11_instant_0 : decode cX11_instant 0 = .ok (.iload_n 1, 1) := by decide +kernel
theorem dX11_instant_1 : decode cX11_instant 1 = .ok (.istore_n 2, 1) := by decide +kernel
theorem dX11_instant_2 : decode cX11_instant 2 = .ok (.aload_n 0, 1) := by decide +kernel
theorem dX11_instant_3 : decode cX11_instant 3 = .ok (.iconst 0, 1) := by decide +kernel
theorem dX11_instant_4 : decode cX11_instant 4 = .ok (.putfield 131, 3) := by decide +kernel
theorem dX11_instant_7 : decode cX11_instant 7 = .ok (.iload_n 2, 1) := by decide +kernel
theorem dX11_instant_8 : decode cX11_instant 8 = .ok (.invokestatic 105, 3) := by decide +kernel
theorem dX11_instant_11 : decode cX11_instant 11 = .ok (.iconst 1, 1) := by decide +kernel
theorem dX11_instant_12 : decode cX11_instant 12 = .ok (.if_icmp .le 77, 3) := by decide +kernel
theorem dX11_instant_15 : decode cX11_instant 15 = .ok (.aload_n 0, 1) := by decide +kernel
theorem dX11_instant_16 : decode cX11_instant 16 = .ok (.iload_n 2, 1) := by decide +kernel
theorem dX11_instant_17 : decode cX11_instant 17 = .ok (.iconst 1, 1) := by decide +kernel
theorem dX11_instant_18 : decode cX11_instant 18 = .ok (.invokevirtual 119, 3) := by decide +kernel
theorem dX11_instant_21 : decode cX11_instant 21 = .ok (.iconst (-1), 1) := by decide +kernel
theorem dX11_instant_22 : decode cX11_instant 22 = .ok (.istore_n 3, 1) := by decide +kernel
theorem dX11_instant_23 : decode cX11_instant 23 = .ok (.iconst 0, 1) := by decide +kernel
theorem dX11_instant_24 : decode cX11_instant 24 = .ok (.istore 4, 2) := by decide +kernel
theorem dX11_instant_26 : decode cX11_instant 26 = .ok (.iload 4, 2) := by decide +kernel
theorem dX11_instant_28 : decode cX11_instant 28 = .ok (.iconst 5, 1) := by decide +kernel
theorem dX11_instant_29 : decode cX11_instant 29 = .ok (.if_icmp .ge 45, 3) := by decide +kernel
theorem dX11_instant_32 : decode cX11_instant 32 = .ok (.iload_n 2, 1) := by decide +kernel
theorem dX11_instant_33 : decode cX11_instant 33 = .ok (.iload 4, 2) := by decide +kernel
theorem dX11_instant_35 : decode cX11_instant 35 = .ok (.invokestatic 74, 3) := by decide +kernel
theorem dX11_instant_38 : decode cX11_instant 38 = .ok (.ifCond .eq 28, 3) := by decide +kernel
theorem dX11_instant_41 : decode cX11_instant 41 = .ok (.iload_n 3, 1) := by decide +kernel
theorem dX11_instant_42 : decode cX11_instant 42 = .ok (.ifCond .lt 19, 3) := by decide +kernel
theorem dX11_instant_45 : decode cX11_instant 45 = .ok (.aload_n 0, 1) := by decide +kernel
theorem dX11_instant_46 : decode cX11_instant 46 = .ok (.getfield 25, 3) := by decide +kernel
theorem dX11_instant_49 : decode cX11_instant 49 = .ok (.iload 4, 2) := by decide +kernel
theorem dX11_instant_51 : decode cX11_instant 51 = .ok (.iaload, 1) := by decide +kernel
theorem dX11_instant_52 : decode cX11_instant 52 = .ok (.aload_n 0, 1) := by decide +kernel
theorem dX11_instant_53 : decode cX11_instant 53 = .ok (.getfield 25, 3) := by decide +kernel
theorem dX11_instant_56 : decode cX11_instant 56 = .ok (.iload_n 3, 1) := by decide +kernel
theorem dX11_instant_57 : decode cX11_instant 57 = .ok (.iaload, 1) := by decide +kernel
theorem dX11_instant_58 : decode cX11_instant 58 = .ok (.if_icmp .gt 8, 3) := by decide +kernel
theorem dX11_instant_61 : decode cX11_instant 61 = .ok (.iload 4, 2) := by decide +kernel
theorem dX11_instant_63 : decode cX11_instant 63 = .ok (.goto 4, 3) := by decide +kernel
theorem dX11_instant_66 : decode cX11_instant 66 = .ok (.iload_n 3, 1) := by decide +kernel
theorem dX11_instant_67 : decode cX11_instant 67 = .ok (.istore_n 3, 1) := by decide +kernel
theorem dX11_instant_68 : decode cX11_instant 68 = .ok (.iinc 4 1, 3) := by decide +kernel
theorem dX11_instant_71 : decode cX11_instant 71 = .ok (.goto (-45), 3) := by decide +kernel
theorem dX11_instant_74 : decode cX11_instant 74 = .ok (.aload_n 0, 1) := by decide +kernel
theorem dX11_instant_75 : decode cX11_instant 75 = .ok (.iload_n 2, 1) := by decide +kernel
theorem dX11_instant_76 : decode cX11_instant 76 = .ok (.iload_n 3, 1) := by decide +kernel
theorem dX11_instant_77 : decode cX11_instant 77 = .ok (.invokevirtual 134, 3) := by decide +kernel
theorem dX11_instant_80 : decode cX11_instant 80 = .ok (.iload_n 2, 1) := by decide +kernel
theorem dX11_instant_81 : decode cX11_instant 81 = .ok (.iconst 1, 1) := by decide +kernel
theorem dX11_instant_82 : decode cX11_instant 82 = .ok (.iload_n 3, 1) := by decide +kernel
theorem dX11_instant_83 : decode cX11_instant 83 = .ok (.ishl, 1) := by decide +kernel
theorem dX11_instant_84 : decode cX11_instant 84 = .ok (.ixor, 1) := by decide +kernel
theorem dX11_instant_85 : decode cX11_instant 85 = .ok (.istore_n 2, 1) := by decide +kernel
theorem dX11_instant_86 : decode cX11_instant 86 = .ok (.goto (-79), 3) := by decide +kernel
theorem dX11_instant_89 : decode cX11_instant 89 = .ok (.iload_n 2, 1) := by decide +kernel
theorem dX11_instant_90 : decode cX11_instant 90 = .ok (.ireturn, 1) := by decide +kernel
theorem dX11_isLast_0 : decode cX11_isLast 0 = .ok (.iload_n 3, 1) := by decide +kernel
theorem dX11_isLast_1 : decode cX11_isLast 1 = .ok (.iload_n 2, 1) := by decide +kernel
theorem dX11_isLast_2 : decode cX11_isLast 2 = .ok (.invokestatic 74, 3) := by decide +kernel
theorem dX11_isLast_5 : decode cX11_isLast 5 = .ok (.istore 4, 2) := by decide +kernel
theorem dX11_isLast_7 : decode cX11_isLast 7 = .ok (.aload_n 0, 1) := by decide +kernel
theorem dX11_isLast_8 : decode cX11_isLast 8 = .ok (.iload_n 1, 1) := by decide +kernel
theorem dX11_isLast_9 : decode cX11_isLast 9 = .ok (.iload_n 3, 1) := by decide +kernel
theorem dX11_isLast_10 : decode cX11_isLast 10 = .ok (.invokevirtual 109, 3) := by decide +kernel
theorem dX11_isLast_13 : decode cX11_isLast 13 = .ok (.ifCond .le 7, 3) := by decide +kernel
theorem dX11_isLast_16 : decode cX11_isLast 16 = .ok (.iconst 1, 1) := by decide +kernel
theorem dX11_isLast_17 : decode cX11_isLast 17 = .ok (.goto 4, 3) := by decide +kernel
theorem dX11_isLast_20 : decode cX11_isLast 20 = .ok (.iconst 0, 1) := by decide +kernel
theorem dX11_isLast_21 : decode cX11_isLast 21 = .ok (.istore 5, 2) := by decide +kernel
theorem dX11_isLast_23 : decode cX11_isLast 23 = .ok (.iconst 0, 1) := by decide +kernel
theorem dX11_isLast_24 : decode cX11_isLast 24 = .ok (.istore 6, 2) := by decide +kernel
theorem dX11_isLast_26 : decode cX11_isLast 26 = .ok (.iload 6, 2) := by decide +kernel
theorem dX11_isLast_28 : decode cX11_isLast 28 = .ok (.iconst 5, 1) := by decide +kernel
theorem dX11_isLast_29 : decode cX11_isLast 29 = .ok (.if_icmp .ge 74, 3) := by decide +kernel
theorem dX11_isLast_32 : decode cX11_isLast 32 = .ok (.iload 5, 2) := by decide +kernel
theorem dX11_isLast_34 : decode cX11_isLast 34 = .ok (.ifCond .eq 27, 3) := by decide +kernel
theorem dX11_isLast_37 : decode cX11_isLast 37 = .ok (.aload_n 0, 1) := by decide +kernel
theorem dX11_isLast_38 : decode cX11_isLast 38 = .ok (.iload_n 1, 1) := by decide +kernel
theorem dX11_isLast_39 : decode cX11_isLast 39 = .ok (.iload 6, 2) := by decide +kernel
theorem dX11_isLast_41 : decode cX11_isLast 41 = .ok (.invokevirtual 98, 3) := by decide +kernel
theorem dX11_isLast_44 : decode cX11_isLast 44 = .ok (.ifCond .ne 13, 3) := by decide +kernel
theorem dX11_isLast_47 : decode cX11_isLast 47 = .ok (.iload 6, 2) := by decide +kernel
theorem dX11_isLast_49 : decode cX11_isLast 49 = .ok (.iload_n 2, 1) := by decide +kernel
theorem dX11_isLast_50 : decode cX11_isLast 50 = .ok (.if_icmp .le 7, 3) := by decide +kernel
theorem dX11_isLast_53 : decode cX11_isLast 53 = .ok (.iconst 1, 1) := by decide +kernel
theorem dX11_isLast_54 : decode cX11_isLast 54 = .ok (.goto 15, 3) := by decide +kernel
theorem dX11_isLast_57 : decode cX11_isLast 57 = .ok (.iconst 0, 1) := by decide +kernel
theorem dX11_isLast_58 : decode cX11_isLast 58 = .ok (.goto 11, 3) := by decide +kernel
theorem dX11_isLast_61 : decode cX11_isLast 61 = .ok (.aload_n 0, 1) := by decide +kernel
theorem dX11_isLast_62 : decode cX11_isLast 62 = .ok (.iload_n 1, 1) := by decide +kernel
theorem dX11_isLast_63 : decode cX11_isLast 63 = .ok (.iload_n 2, 1) := by decide +kernel
theorem dX11_isLast_64 : decode cX11_isLast 64 = .ok (.iload 6, 2) := by decide +kernel
theorem dX11_isLast_66 : decode cX11_isLast 66 = .ok (.invokevirtual 89, 3) := by decide +kernel
theorem dX11_isLast_69 : decode cX11_isLast 69 = .ok (.istore 7, 2) := by decide +kernel
theorem dX11_isLast_71 : decode cX11_isLast 71 = .ok (.iload 4, 2) := by decide +kernel
theorem dX11_isLast_73 : decode cX11_isLast 73 = .ok (.ifCond .eq 21, 3) := by decide +kernel
theorem dX11_isLast_76 : decode cX11_isLast 76 = .ok (.iload_n 3, 1) := by decide +kernel
theorem dX11_isLast_77 : decode cX11_isLast 77 = .ok (.iload 6, 2) := by decide +kernel
theorem dX11_isLast_79 : decode cX11_isLast 79 = .ok (.invokestatic 74, 3) := by decide +kernel
theorem dX11_isLast_82 : decode cX11_isLast 82 = .ok (.ifCond .eq 8, 3) := by decide +kernel
theorem dX11_isLast_85 : decode cX11_isLast 85 = .ok (.iload 7, 2) := by decide +kernel
theorem dX11_isLast_87 : decode cX11_isLast 87 = .ok (.ifCond .ne 7, 3) := by decide +kernel
theorem dX11_isLast_90 : decode cX11_isLast 90 = .ok (.iconst 1, 1) := by decide +kernel
theorem dX11_isLast_91 : decode cX11_isLast 91 = .ok (.goto 4, 3) := by decide +kernel
theorem dX11_isLast_94 : decode cX11_isLast 94 = .ok (.iconst 0, 1) := by decide +kernel
theorem dX11_isLast_95 : decode cX11_isLast 95 = .ok (.istore 4, 2) := by decide +kernel
theorem dX11_isLast_97 : decode cX11_isLast 97 = .ok (.iinc 6 1, 3) := by decide +kernel
theorem dX11_isLast_100 : decode cX11_isLast 100 = .ok (.goto (-74), 3) := by decide +kernel
theorem dX11_isLast_103 : decode cX11_isLast 103 = .ok (.iload 4, 2) := by decide +kernel
theorem dX11_isLast_105 : decode cX11_isLast 105 = .ok (.ifCond .eq 21, 3) := by decide +kernel
theorem dX11_isLast_108 : decode cX11_isLast 108 = .ok (.iload 5, 2) := by decide +kernel
theorem dX11_isLast_110 : decode cX11_isLast 110 = .ok (.ifCond .eq 12, 3) := by decide +kernel
theorem dX11_isLast_113 : decode cX11_isLast 113 = .ok (.aload_n 0, 1) := by decide +kernel
theorem dX11_isLast_114 : decode cX11_isLast 114 = .ok (.iload_n 1, 1) := by decide +kernel
theorem dX11_isLast_115 : decode cX11_isLast 115 = .ok (.iload_n 2, 1) := by decide +kernel
theorem dX11_isLast_116 : decode cX11_isLast 116 = .ok (.invokevirtual 98, 3) := by decide +kernel
theorem dX11_isLast_119 : decode cX11_isLast 119 = .ok (.ifCond .ne 7, 3) := by decide +kernel
theorem dX11_isLast_122 : decode cX11_isLast 122 = .ok (.iconst 1, 1) := by decide +kernel
theorem dX11_isLast_123 : decode cX11_isLast 123 = .ok (.goto 4, 3) := by decide +kernel
theorem dX11_isLast_126 : decode cX11_isLast 126 = .ok (.iconst 0, 1) := by decide +kernel
theorem dX11_isLast_127 : decode cX11_isLast 127 = .ok (.ireturn, 1) := by decide +kernel
theorem dX11_majority_0 : decode cX11_majority 0 = .ok (.iconst 0, 1) := by decide +kernel
theorem dX11_majority_1 : decode cX11_majority 1 = .ok (.istore_n 2, 1) := by decide +kernel
theorem dX11_majority_2 : decode cX11_majority 2 = .ok (.iconst 0, 1) := by decide +kernel
theorem dX11_majority_3 : decode cX11_majority 3 = .ok (.istore_n 3, 1) := by decide +kernel
theorem dX11_majority_4 : decode cX11_majority 4 = .ok (.iload_n 3, 1) := by decide +kernel
theorem dX11_majority_5 : decode cX11_majority 5 = .ok (.aload_n 0, 1) := by decide +kernel
theorem dX11_majority_6 : decode cX11_majority 6 = .ok (.getfield 78, 3) := by decide +kernel
theorem dX11_majority_9 : decode cX11_majority 9 = .ok (.if_icmp .ge 35, 3) := by decide +kernel
theorem dX11_majority_12 : decode cX11_majority 12 = .ok (.iload_n 2, 1) := by decide +kernel
theorem dX11_majority_13 : decode cX11_majority 13 = .ok (.aload_n 0, 1) := by decide +kernel
theorem dX11_majority_14 : decode cX11_majority 14 = .ok (.iload_n 3, 1) := by decide +kernel
theorem dX11_majority_15 : decode cX11_majority 15 = .ok (.iload_n 1, 1) := by decide +kernel
theorem dX11_majority_16 : decode cX11_majority 16 = .ok (.invokevirtual 109, 3) := by decide +kernel
theorem dX11_majority_19 : decode cX11_majority 19 = .ok (.iload_n 1, 1) := by decide +kernel
theorem dX11_majority_20 : decode cX11_majority 20 = .ok (.invokestatic 105, 3) := by decide +kernel
theorem dX11_majority_23 : decode cX11_majority 23 = .ok (.if_icmp .ge 12, 3) := by decide +kernel
theorem dX11_majority_26 : decode cX11_majority 26 = .ok (.aload_n 0, 1) := by decide +kernel
theorem dX11_majority_27 : decode cX11_majority 27 = .ok (.getfield 16, 3) := by decide +kernel
theorem dX11_majority_30 : decode cX11_majority 30 = .ok (.iload_n 3, 1) := by decide +kernel
theorem dX11_majority_31 : decode cX11_majority 31 = .ok (.iaload, 1) := by decide +kernel
theorem dX11_majority_32 : decode cX11_majority 32 = .ok (.goto 4, 3) := by decide +kernel
theorem dX11_majority_35 : decode cX11_majority 35 = .ok (.iconst 0, 1) := by decide +kernel
theorem dX11_majority_36 : decode cX11_majority 36 = .ok (.iadd, 1) := by decide +kernel
theorem dX11_majority_37 : decode cX11_majority 37 = .ok (.istore_n 2, 1) := by decide +kernel
theorem dX11_majority_38 : decode cX11_majority 38 = .ok (.iinc 3 1, 3) := by decide +kernel
theorem dX11_majority_41 : decode cX11_majority 41 = .ok (.goto (-37), 3) := by decide +kernel
theorem dX11_majority_44 : decode cX11_majority 44 = .ok (.aload_n 0, 1) := by decide +kernel
theorem dX11_majority_45 : decode cX11_majority 45 = .ok (.iload_n 1, 1) := by decide +kernel
theorem dX11_majority_46 : decode cX11_majority 46 = .ok (.iconst 1, 1) := by decide +kernel
theorem dX11_majority_47 : decode cX11_majority 47 = .ok (.invokevirtual 119, 3) := by decide +kernel
theorem dX11_majority_50 : decode cX11_majority 50 = .ok (.iconst (-1), 1) := by decide +kernel
theorem dX11_majority_51 : decode cX11_majority 51 = .ok (.istore_n 3, 1) := by decide +kernel
theorem dX11_majority_52 : decode cX11_majority 52 = .ok (.iconst 0, 1) := by decide +kernel
theorem dX11_majority_53 : decode cX11_majority 53 = .ok (.istore 4, 2) := by decide +kernel
theorem dX11_majority_55 : decode cX11_majority 55 = .ok (.iload 4, 2) := by decide +kernel
theorem dX11_majority_57 : decode cX11_majority 57 = .ok (.iconst 5, 1) := by decide +kernel
theorem dX11_majority_58 : decode cX11_majority 58 = .ok (.if_icmp .ge 38, 3) := by decide +kernel
theorem dX11_majority_61 : decode cX11_majority 61 = .ok (.iload_n 1, 1) := by decide +kernel
theorem dX11_majority_62 : decode cX11_majority 62 = .ok (.iload 4, 2) := by decide +kernel
theorem dX11_majority_64 : decode cX11_majority 64 = .ok (.invokestatic 74, 3) := by decide +kernel
theorem dX11_majority_67 : decode cX11_majority 67 = .ok (.ifCond .eq 21, 3) := by decide +kernel
theorem dX11_majority_70 : decode cX11_majority 70 = .ok (.iconst 2, 1) := by decide +kernel
theorem dX11_majority_71 : decode cX11_majority 71 = .ok (.aload_n 0, 1) := by decide +kernel
theorem dX11_majority_72 : decode cX11_majority 72 = .ok (.getfield 25, 3) := by decide +kernel
theorem dX11_majority_75 : decode cX11_majority 75 = .ok (.iload 4, 2) := by decide +kernel
theorem dX11_majority_77 : decode cX11_majority 77 = .ok (.iaload, 1) := by decide +kernel
theorem dX11_majority_78 : decode cX11_majority 78 = .ok (.imul, 1) := by decide +kernel
theorem dX11_majority_79 : decode cX11_majority 79 = .ok (.iload_n 2, 1) := by decide +kernel
theorem dX11_majority_80 : decode cX11_majority 80 = .ok (.if_icmp .le 8, 3) := by decide +kernel
theorem dX11_majority_83 : decode cX11_majority 83 = .ok (.iload 4, 2) := by decide +kernel
theorem dX11_majority_85 : decode cX11_majority 85 = .ok (.goto 4, 3) := by decide +kernel
theorem dX11_majority_88 : decode cX11_majority 88 = .ok (.iload_n 3, 1) := by decide +kernel
theorem dX11_majority_89 : decode cX11_majority 89 = .ok (.istore_n 3, 1) := by decide +kernel
theorem dX11_majority_90 : decode cX11_majority 90 = .ok (.iinc 4 1, 3) := by decide +kernel
theorem dX11_majority_93 : decode cX11_majority 93 = .ok (.goto (-38), 3) := by decide +kernel
theorem dX11_majority_96 : decode cX11_majority 96 = .ok (.iload_n 3, 1) := by decide +kernel
theorem dX11_majority_97 : decode cX11_majority 97 = .ok (.ireturn, 1) := by decide +kernel
theorem dX11_coombs_0 : decode cX11_coombs 0 = .ok (.iload_n 1, 1) := by decide +kernel
theorem dX11_coombs_1 : decode cX11_coombs 1 = .ok (.istore_n 2, 1) := by decide +kernel
theorem dX11_coombs_2 : decode cX11_coombs 2 = .ok (.aload_n 0, 1) := by decide +kernel
theorem dX11_coombs_3 : decode cX11_coombs 3 = .ok (.iconst 0, 1) := by decide +kernel
theorem dX11_coombs_4 : decode cX11_coombs 4 = .ok (.putfield 131, 3) := by decide +kernel
theorem dX11_coombs_7 : decode cX11_coombs 7 = .ok (.iload_n 2, 1) := by decide +kernel
theorem dX11_coombs_8 : decode cX11_coombs 8 = .ok (.invokestatic 105, 3) := by decide +kernel
theorem dX11_coombs_11 : decode cX11_coombs 11 = .ok (.iconst 1, 1) := by decide +kernel
theorem dX11_coombs_12 : decode cX11_coombs 12 = .ok (.if_icmp .le 151, 3) := by decide +kernel
theorem dX11_coombs_15 : decode cX11_coombs 15 = .ok (.aload_n 0, 1) := by decide +kernel
theorem dX11_coombs_16 : decode cX11_coombs 16 = .ok (.iload_n 2, 1) := by decide +kernel
theorem dX11_coombs_17 : decode cX11_coombs 17 = .ok (.invokevirtual 137, 3) := by decide +kernel
theorem dX11_coombs_20 : decode cX11_coombs 20 = .ok (.istore_n 3, 1) := by decide +kernel
theorem dX11_coombs_21 : decode cX11_coombs 21 = .ok (.iload_n 3, 1) := by decide +kernel
theorem dX11_coombs_22 : decode cX11_coombs 22 = .ok (.ifCond .lt 7, 3) := by decide +kernel
theorem dX11_coombs_25 : decode cX11_coombs 25 = .ok (.iconst 1, 1) := by decide +kernel
theorem dX11_coombs_26 : decode cX11_coombs 26 = .ok (.iload_n 3, 1) := by decide +kernel
theorem dX11_coombs_27 : decode cX11_coombs 27 = .ok (.ishl, 1) := by decide +kernel
theorem dX11_coombs_28 : decode cX11_coombs 28 = .ok (.ireturn, 1) := by decide +kernel
theorem dX11_coombs_29 : decode cX11_coombs 29 = .ok (.iconst (-1), 1) := by decide +kernel
theorem dX11_coombs_30 : decode cX11_coombs 30 = .ok (.istore 4, 2) := by decide +kernel
theorem dX11_coombs_32 : decode cX11_coombs 32 = .ok (.iconst 0, 1) := by decide +kernel
theorem dX11_coombs_33 : decode cX11_coombs 33 = .ok (.istore 5, 2) := by decide +kernel
theorem dX11_coombs_35 : decode cX11_coombs 35 = .ok (.iload 5, 2) := by decide +kernel
theorem dX11_coombs_37 : decode cX11_coombs 37 = .ok (.iconst 5, 1) := by decide +kernel
theorem dX11_coombs_38 : decode cX11_coombs 38 = .ok (.if_icmp .ge 108, 3) := by decide +kernel
theorem dX11_coombs_41 : decode cX11_coombs 41 = .ok (.aload_n 0, 1) := by decide +kernel
theorem dX11_coombs_42 : decode cX11_coombs 42 = .ok (.getfield 25, 3) := by decide +kernel
theorem dX11_coombs_45 : decode cX11_coombs 45 = .ok (.iload 5, 2) := by decide +kernel
theorem dX11_coombs_47 : decode cX11_coombs 47 = .ok (.iconst 0, 1) := by decide +kernel
theorem dX11_coombs_48 : decode cX11_coombs 48 = .ok (.iastore, 1) := by decide +kernel
theorem dX11_coombs_49 : decode cX11_coombs 49 = .ok (.iconst 0, 1) := by decide +kernel
theorem dX11_coombs_50 : decode cX11_coombs 50 = .ok (.istore 6, 2) := by decide +kernel
theorem dX11_coombs_52 : decode cX11_coombs 52 = .ok (.iload 6, 2) := by decide +kernel
theorem dX11_coombs_54 : decode cX11_coombs 54 = .ok (.aload_n 0, 1) := by decide +kernel
theorem dX11_coombs_55 : decode cX11_coombs 55 = .ok (.getfield 78, 3) := by decide +kernel
theorem dX11_coombs_58 : decode cX11_coombs 58 = .ok (.if_icmp .ge 42, 3) := by decide +kernel
theorem dX11_coombs_61 : decode cX11_coombs 61 = .ok (.aload_n 0, 1) := by decide +kernel
theorem dX11_coombs_62 : decode cX11_coombs 62 = .ok (.getfield 25, 3) := by decide +kernel
theorem dX11_coombs_65 : decode cX11_coombs 65 = .ok (.iload 5, 2) := by decide +kernel
theorem dX11_coombs_67 : decode cX11_coombs 67 = .ok (.dup2, 1) := by decide +kernel
theorem dX11_coombs_68 : decode cX11_coombs 68 = .ok (.iaload, 1) := by decide +kernel
theorem dX11_coombs_69 : decode cX11_coombs 69 = .ok (.aload_n 0, 1) := by decide +kernel
theorem dX11_coombs_70 : decode cX11_coombs 70 = .ok (.iload 6, 2) := by decide +kernel
theorem dX11_coombs_72 : decode cX11_coombs 72 = .ok (.iload 5, 2) := by decide +kernel
theorem dX11_coombs_74 : decode cX11_coombs 74 = .ok (.iload_n 2, 1) := by decide +kernel
theorem dX11_coombs_75 : decode cX11_coombs 75 = .ok (.invokevirtual 140, 3) := by decide +kernel
theorem dX11_coombs_78 : decode cX11_coombs 78 = .ok (.ifCond .eq 13, 3) := by decide +kernel
theorem dX11_coombs_81 : decode cX11_coombs 81 = .ok (.aload_n 0, 1) := by decide +kernel
theorem dX11_coombs_82 : decode cX11_coombs 82 = .ok (.getfield 16, 3) := by decide +kernel
theorem dX11_coombs_85 : decode cX11_coombs 85 = .ok (.iload 6, 2) := by decide +kernel
theorem dX11_coombs_87 : decode cX11_coombs 87 = .ok (.iaload, 1) := by decide +kernel
theorem dX11_coombs_88 : decode cX11_coombs 88 = .ok (.goto 4, 3) := by decide +kernel
theorem dX11_coombs_91 : decode cX11_coombs 91 = .ok (.iconst 0, 1) := by decide +kernel
theorem dX11_coombs_92 : decode cX11_coombs 92 = .ok (.iadd, 1) := by decide +kernel
theorem dX11_coombs_93 : decode cX11_coombs 93 = .ok (.iastore, 1) := by decide +kernel
theorem dX11_coombs_94 : decode cX11_coombs 94 = .ok (.iinc 6 1, 3) := by decide +kernel
theorem dX11_coombs_97 : decode cX11_coombs 97 = .ok (.goto (-45), 3) := by decide +kernel
theorem dX11_coombs_100 : decode cX11_coombs 100 = .ok (.iload_n 2, 1) := by decide +kernel
theorem dX11_coombs_101 : decode cX11_coombs 101 = .ok (.iload 5, 2) := by decide +kernel
theorem dX11_coombs_103 : decode cX11_coombs 103 = .ok (.invokestatic 74, 3) := by decide +kernel
theorem dX11_coombs_106 : decode cX11_coombs 106 = .ok (.ifCond .eq 30, 3) := by decide +kernel
theorem dX11_coombs_109 : decode cX11_coombs 109 = .ok (.iload 4, 2) := by decide +kernel
theorem dX11_coombs_111 : decode cX11_coombs 111 = .ok (.ifCond .lt 20, 3) := by decide +kernel
theorem dX11_coombs_114 : decode cX11_coombs 114 = .ok (.aload_n 0, 1) := by decide +kernel
theorem dX11_coombs_115 : decode cX11_coombs 115 = .ok (.getfield 25, 3) := by decide +kernel
theorem dX11_coombs_118 : decode cX11_coombs 118 = .ok (.iload 5, 2) := by decide +kernel
theorem dX11_coombs_120 : decode cX11_coombs 120 = .ok (.iaload, 1) := by decide +kernel
theorem dX11_coombs_121 : decode cX11_coombs 121 = .ok (.aload_n 0, 1) := by decide +kernel
theorem dX11_coombs_122 : decode cX11_coombs 122 = .ok (.getfield 25, 3) := by decide +kernel
theorem dX11_coombs_125 : decode cX11_coombs 125 = .ok (.iload 4, 2) := by decide +kernel
theorem dX11_coombs_127 : decode cX11_coombs 127 = .ok (.iaload, 1) := by decide +kernel
theorem dX11_coombs_128 : decode cX11_coombs 128 = .ok (.if_icmp .lt 8, 3) := by decide +kernel
theorem dX11_coombs_131 : decode cX11_coombs 131 = .ok (.iload 5, 2) := by decide +kernel
theorem dX11_coombs_133 : decode cX11_coombs 133 = .ok (.goto 5, 3) := by decide +kernel
theorem dX11_coombs_136 : decode cX11_coombs 136 = .ok (.iload 4, 2) := by decide +kernel
theorem dX11_coombs_138 : decode cX11_coombs 138 = .ok (.istore 4, 2) := by decide +kernel
theorem dX11_coombs_140 : decode cX11_coombs 140 = .ok (.iinc 5 1, 3) := by decide +kernel
theorem dX11_coombs_143 : decode cX11_coombs 143 = .ok (.goto (-108), 3) := by decide +kernel
theorem dX11_coombs_146 : decode cX11_coombs 146 = .ok (.aload_n 0, 1) := by decide +kernel
theorem dX11_coombs_147 : decode cX11_coombs 147 = .ok (.iload_n 2, 1) := by decide +kernel
theorem dX11_coombs_148 : decode cX11_coombs 148 = .ok (.iload 4, 2) := by decide +kernel
theorem dX11_coombs_150 : decode cX11_coombs 150 = .ok (.invokevirtual 134, 3) := by decide +kernel
theorem dX11_coombs_153 : decode cX11_coombs 153 = .ok (.iload_n 2, 1) := by decide +kernel
theorem dX11_coombs_154 : decode cX11_coombs 154 = .ok (.iconst 1, 1) := by decide +kernel
theorem dX11_coombs_155 : decode cX11_coombs 155 = .ok (.iload 4, 2) := by decide +kernel
theorem dX11_coombs_157 : decode cX11_coombs 157 = .ok (.ishl, 1) := by decide +kernel
theorem dX11_coombs_158 : decode cX11_coombs 158 = .ok (.ixor, 1) := by decide +kernel
theorem dX11_coombs_159 : decode cX11_coombs 159 = .ok (.istore_n 2, 1) := by decide +kernel
theorem dX11_coombs_160 : decode cX11_coombs 160 = .ok (.goto (-153), 3) := by decide +kernel
theorem dX11_coombs_163 : decode cX11_coombs 163 = .ok (.iload_n 2, 1) := by decide +kernel
theorem dX11_coombs_164 : decode cX11_coombs 164 = .ok (.ireturn, 1) := by decide +kernel
theorem dX11_nanson_0 : decode cX11_nanson 0 = .ok (.iload_n 1, 1) := by decide +kernel
theorem dX11_nanson_1 : decode cX11_nanson 1 = .ok (.istore_n 2, 1) := by decide +kernel
theorem dX11_nanson_2 : decode cX11_nanson 2 = .ok (.iconst 0, 1) := by decide +kernel
theorem dX11_nanson_3 : decode cX11_nanson 3 = .ok (.istore_n 3, 1) := by decide +kernel
theorem dX11_nanson_4 : decode cX11_nanson 4 = .ok (.iload_n 2, 1) := by decide +kernel
theorem dX11_nanson_5 : decode cX11_nanson 5 = .ok (.iload_n 3, 1) := by decide +kernel
theorem dX11_nanson_6 : decode cX11_nanson 6 = .ok (.if_icmp .eq 98, 3) := by decide +kernel
theorem dX11_nanson_9 : decode cX11_nanson 9 = .ok (.iload_n 2, 1) := by decide +kernel
theorem dX11_nanson_10 : decode cX11_nanson 10 = .ok (.istore_n 3, 1) := by decide +kernel
theorem dX11_nanson_11 : decode cX11_nanson 11 = .ok (.aload_n 0, 1) := by decide +kernel
theorem dX11_nanson_12 : decode cX11_nanson 12 = .ok (.iload_n 2, 1) := by decide +kernel
theorem dX11_nanson_13 : decode cX11_nanson 13 = .ok (.invokevirtual 143, 3) := by decide +kernel
theorem dX11_nanson_16 : decode cX11_nanson 16 = .ok (.iconst 0, 1) := by decide +kernel
theorem dX11_nanson_17 : decode cX11_nanson 17 = .ok (.istore 4, 2) := by decide +kernel
theorem dX11_nanson_19 : decode cX11_nanson 19 = .ok (.iconst 0, 1) := by decide +kernel
theorem dX11_nanson_20 : decode cX11_nanson 20 = .ok (.istore 5, 2) := by decide +kernel
theorem dX11_nanson_22 : decode cX11_nanson 22 = .ok (.iload 5, 2) := by decide +kernel
theorem dX11_nanson_24 : decode cX11_nanson 24 = .ok (.iconst 5, 1) := by decide +kernel
theorem dX11_nanson_25 : decode cX11_nanson 25 = .ok (.if_icmp .ge 21, 3) := by decide +kernel
theorem dX11_nanson_28 : decode cX11_nanson 28 = .ok (.iload 4, 2) := by decide +kernel
theorem dX11_nanson_30 : decode cX11_nanson 30 = .ok (.aload_n 0, 1) := by decide +kernel
theorem dX11_nanson_31 : decode cX11_nanson 31 = .ok (.getfield 25, 3) := by decide +kernel
theorem dX11_nanson_34 : decode cX11_nanson 34 = .ok (.iload 5, 2) := by decide +kernel
theorem dX11_nanson_36 : decode cX11_nanson 36 = .ok (.iaload, 1) := by decide +kernel
theorem dX11_nanson_37 : decode cX11_nanson 37 = .ok (.iadd, 1) := by decide +kernel
theorem dX11_nanson_38 : decode cX11_nanson 38 = .ok (.istore 4, 2) := by decide +kernel
theorem dX11_nanson_40 : decode cX11_nanson 40 = .ok (.iinc 5 1, 3) := by decide +kernel
theorem dX11_nanson_43 : decode cX11_nanson 43 = .ok (.goto (-21), 3) := by decide +kernel
theorem dX11_nanson_46 : decode cX11_nanson 46 = .ok (.iconst 0, 1) := by decide +kernel
theorem dX11_nanson_47 : decode cX11_nanson 47 = .ok (.istore 5, 2) := by decide +kernel
theorem dX11_nanson_49 : decode cX11_nanson 49 = .ok (.iload 5, 2) := by decide +kernel
theorem dX11_nanson_51 : decode cX11_nanson 51 = .ok (.iconst 5, 1) := by decide +kernel
theorem dX11_nanson_52 : decode cX11_nanson 52 = .ok (.if_icmp .ge 49, 3) := by decide +kernel
theorem dX11_nanson_55 : decode cX11_nanson 55 = .ok (.iload_n 2, 1) := by decide +kernel
theorem dX11_nanson_56 : decode cX11_nanson 56 = .ok (.iload_n 3, 1) := by decide +kernel
theorem dX11_nanson_57 : decode cX11_nanson 57 = .ok (.iload 5, 2) := by decide +kernel
theorem dX11_nanson_59 : decode cX11_nanson 59 = .ok (.invokestatic 74, 3) := by decide +kernel
theorem dX11_nanson_62 : decode cX11_nanson 62 = .ok (.ifCond .eq 29, 3) := by decide +kernel
theorem dX11_nanson_65 : decode cX11_nanson 65 = .ok (.aload_n 0, 1) := by decide +kernel
theorem dX11_nanson_66 : decode cX11_nanson 66 = .ok (.getfield 25, 3) := by decide +kernel
theorem dX11_nanson_69 : decode cX11_nanson 69 = .ok (.iload 5, 2) := by decide +kernel
theorem dX11_nanson_71 : decode cX11_nanson 71 = .ok (.iaload, 1) := by decide +kernel
theorem dX11_nanson_72 : decode cX11_nanson 72 = .ok (.iload_n 3, 1) := by decide +kernel
theorem dX11_nanson_73 : decode cX11_nanson 73 = .ok (.invokestatic 105, 3) := by decide +kernel
theorem dX11_nanson_76 : decode cX11_nanson 76 = .ok (.imul, 1) := by decide +kernel
theorem dX11_nanson_77 : decode cX11_nanson 77 = .ok (.iload 4, 2) := by decide +kernel
theorem dX11_nanson_79 : decode cX11_nanson 79 = .ok (.if_icmp .ge 12, 3) := by decide +kernel
theorem dX11_nanson_82 : decode cX11_nanson 82 = .ok (.iconst 1, 1) := by decide +kernel
theorem dX11_nanson_83 : decode cX11_nanson 83 = .ok (.iload 5, 2) := by decide +kernel
theorem dX11_nanson_85 : decode cX11_nanson 85 = .ok (.ishl, 1) := by decide +kernel
theorem dX11_nanson_86 : decode cX11_nanson 86 = .ok (.iconst (-1), 1) := by decide +kernel
theorem dX11_nanson_87 : decode cX11_nanson 87 = .ok (.ixor, 1) := by decide +kernel
theorem dX11_nanson_88 : decode cX11_nanson 88 = .ok (.goto 5, 3) := by decide +kernel
theorem dX11_nanson_91 : decode cX11_nanson 91 = .ok (.bipush 31, 2) := by decide +kernel
theorem dX11_nanson_93 : decode cX11_nanson 93 = .ok (.iand, 1) := by decide +kernel
theorem dX11_nanson_94 : decode cX11_nanson 94 = .ok (.istore_n 2, 1) := by decide +kernel
theorem dX11_nanson_95 : decode cX11_nanson 95 = .ok (.iinc 5 1, 3) := by decide +kernel
theorem dX11_nanson_98 : decode cX11_nanson 98 = .ok (.goto (-49), 3) := by decide +kernel
theorem dX11_nanson_101 : decode cX11_nanson 101 = .ok (.goto (-97), 3) := by decide +kernel
theorem dX11_nanson_104 : decode cX11_nanson 104 = .ok (.iload_n 2, 1) := by decide +kernel
theorem dX11_nanson_105 : decode cX11_nanson 105 = .ok (.ireturn, 1) := by decide +kernel
theorem dX11_firstOrder_0 : decode cX11_firstOrder 0 = .ok (.aload_n 0, 1) := by decide +kernel
theorem dX11_firstOrder_1 : decode cX11_firstOrder 1 = .ok (.iconst 0, 1) := by decide +kernel
theorem dX11_firstOrder_2 : decode cX11_firstOrder 2 = .ok (.putfield 146, 3) := by decide +kernel
theorem dX11_firstOrder_5 : decode cX11_firstOrder 5 = .ok (.iconst 0, 1) := by decide +kernel
theorem dX11_firstOrder_6 : decode cX11_firstOrder 6 = .ok (.istore_n 2, 1) := by decide +kernel
theorem dX11_firstOrder_7 : decode cX11_firstOrder 7 = .ok (.iload_n 2, 1) := by decide +kernel
theorem dX11_firstOrder_8 : decode cX11_firstOrder 8 = .ok (.iconst 5, 1) := by decide +kernel
theorem dX11_firstOrder_9 : decode cX11_firstOrder 9 = .ok (.if_icmp .ge 37, 3) := by decide +kernel
theorem dX11_firstOrder_12 : decode cX11_firstOrder 12 = .ok (.iload_n 1, 1) := by decide +kernel
theorem dX11_firstOrder_13 : decode cX11_firstOrder 13 = .ok (.iload_n 2, 1) := by decide +kernel
theorem dX11_firstOrder_14 : decode cX11_firstOrder 14 = .ok (.invokestatic 74, 3) := by decide +kernel
theorem dX11_firstOrder_17 : decode cX11_firstOrder 17 = .ok (.ifCond .eq 23, 3) := by decide +kernel
theorem dX11_firstOrder_20 : decode cX11_firstOrder 20 = .ok (.aload_n 0, 1) := by decide +kernel
theorem dX11_firstOrder_21 : decode cX11_firstOrder 21 = .ok (.getfield 47, 3) := by decide +kernel
theorem dX11_firstOrder_24 : decode cX11_firstOrder 24 = .ok (.aload_n 0, 1) := by decide +kernel
theorem dX11_firstOrder_25 : decode cX11_firstOrder 25 = .ok (.getfield 146, 3) := by decide +kernel
theorem dX11_firstOrder_28 : decode cX11_firstOrder 28 = .ok (.iload_n 2, 1) := by decide +kernel
theorem dX11_firstOrder_29 : decode cX11_firstOrder 29 = .ok (.iastore, 1) := by decide +kernel
theorem dX11_firstOrder_30 : decode cX11_firstOrder 30 = .ok (.aload_n 0, 1) := by decide +kernel
theorem dX11_firstOrder_31 : decode cX11_firstOrder 31 = .ok (.dup, 1) := by decide +kernel
theorem dX11_firstOrder_32 : decode cX11_firstOrder 32 = .ok (.getfield 146, 3) := by decide +kernel
theorem dX11_firstOrder_35 : decode cX11_firstOrder 35 = .ok (.iconst 1, 1) := by decide +kernel
theorem dX11_firstOrder_36 : decode cX11_firstOrder 36 = .ok (.iadd, 1) := by decide +kernel
theorem dX11_firstOrder_37 : decode cX11_firstOrder 37 = .ok (.putfield 146, 3) := by decide +kernel
theorem dX11_firstOrder_40 : decode cX11_firstOrder 40 = .ok (.iinc 2 1, 3) := by decide +kernel
theorem dX11_firstOrder_43 : decode cX11_firstOrder 43 = .ok (.goto (-36), 3) := by decide +kernel
theorem dX11_firstOrder_46 : decode cX11_firstOrder 46 = .ok (.return_, 1) := by decide +kernel
theorem dX11_swaps_0 : decode cX11_swaps 0 = .ok (.aload_n 0, 1) := by decide +kernel
theorem dX11_swaps_1 : decode cX11_swaps 1 = .ok (.iload_n 1, 1) := by decide +kernel
theorem dX11_swaps_2 : decode cX11_swaps 2 = .ok (.iaload, 1) := by decide +kernel
theorem dX11_swaps_3 : decode cX11_swaps 3 = .ok (.istore_n 3, 1) := by decide +kernel
theorem dX11_swaps_4 : decode cX11_swaps 4 = .ok (.aload_n 0, 1) := by decide +kernel
theorem dX11_swaps_5 : decode cX11_swaps 5 = .ok (.iload_n 1, 1) := by decide +kernel
theorem dX11_swaps_6 : decode cX11_swaps 6 = .ok (.aload_n 0, 1) := by decide +kernel
theorem dX11_swaps_7 : decode cX11_swaps 7 = .ok (.iload_n 2, 1) := by decide +kernel
theorem dX11_swaps_8 : decode cX11_swaps 8 = .ok (.iaload, 1) := by decide +kernel
theorem dX11_swaps_9 : decode cX11_swaps 9 = .ok (.iastore, 1) := by decide +kernel
theorem dX11_swaps_10 : decode cX11_swaps 10 = .ok (.aload_n 0, 1) := by decide +kernel
theorem dX11_swaps_11 : decode cX11_swaps 11 = .ok (.iload_n 2, 1) := by decide +kernel
theorem dX11_swaps_12 : decode cX11_swaps 12 = .ok (.iload_n 3, 1) := by decide +kernel
theorem dX11_swaps_13 : decode cX11_swaps 13 = .ok (.iastore, 1) := by decide +kernel
theorem dX11_swaps_14 : decode cX11_swaps 14 = .ok (.return_, 1) := by decide +kernel
theorem dX11_nextOf_0 : decode cX11_nextOf 0 = .ok (.iload_n 1, 1) := by decide +kernel
theorem dX11_nextOf_1 : decode cX11_nextOf 1 = .ok (.iconst 2, 1) := by decide +kernel
theorem dX11_nextOf_2 : decode cX11_nextOf 2 = .ok (.isub, 1) := by decide +kernel
theorem dX11_nextOf_3 : decode cX11_nextOf 3 = .ok (.istore_n 2, 1) := by decide +kernel
theorem dX11_nextOf_4 : decode cX11_nextOf 4 = .ok (.iload_n 2, 1) := by decide +kernel
theorem dX11_nextOf_5 : decode cX11_nextOf 5 = .ok (.ifCond .lt 20, 3) := by decide +kernel
theorem dX11_nextOf_8 : decode cX11_nextOf 8 = .ok (.aload_n 0, 1) := by decide +kernel
theorem dX11_nextOf_9 : decode cX11_nextOf 9 = .ok (.iload_n 2, 1) := by decide +kernel
theorem dX11_nextOf_10 : decode cX11_nextOf 10 = .ok (.iaload, 1) := by decide +kernel
theorem dX11_nextOf_11 : decode cX11_nextOf 11 = .ok (.aload_n 0, 1) := by decide +kernel
theorem dX11_nextOf_12 : decode cX11_nextOf 12 = .ok (.iload_n 2, 1) := by decide +kernel
theorem dX11_nextOf_13 : decode cX11_nextOf 13 = .ok (.iconst 1, 1) := by decide +kernel
theorem dX11_nextOf_14 : decode cX11_nextOf 14 = .ok (.iadd, 1) := by decide +kernel
theorem dX11_nextOf_15 : decode cX11_nextOf 15 = .ok (.iaload, 1) := by decide +kernel
theorem dX11_nextOf_16 : decode cX11_nextOf 16 = .ok (.if_icmp .le 9, 3) := by decide +kernel
theorem dX11_nextOf_19 : decode cX11_nextOf 19 = .ok (.iinc 2 (-1), 3) := by decide +kernel
theorem dX11_nextOf_22 : decode cX11_nextOf 22 = .ok (.goto (-18), 3) := by decide +kernel
theorem dX11_nextOf_25 : decode cX11_nextOf 25 = .ok (.iload_n 2, 1) := by decide +kernel
theorem dX11_nextOf_26 : decode cX11_nextOf 26 = .ok (.ifCond .ge 5, 3) := by decide +kernel
theorem dX11_nextOf_29 : decode cX11_nextOf 29 = .ok (.iconst 0, 1) := by decide +kernel
theorem dX11_nextOf_30 : decode cX11_nextOf 30 = .ok (.ireturn, 1) := by decide +kernel
theorem dX11_nextOf_31 : decode cX11_nextOf 31 = .ok (.iload_n 1, 1) := by decide +kernel
theorem dX11_nextOf_32 : decode cX11_nextOf 32 = .ok (.iconst 1, 1) := by decide +kernel
theorem dX11_nextOf_33 : decode cX11_nextOf 33 = .ok (.isub, 1) := by decide +kernel
theorem dX11_nextOf_34 : decode cX11_nextOf 34 = .ok (.istore_n 3, 1) := by decide +kernel
theorem dX11_nextOf_35 : decode cX11_nextOf 35 = .ok (.aload_n 0, 1) := by decide +kernel
theorem dX11_nextOf_36 : decode cX11_nextOf 36 = .ok (.iload_n 3, 1) := by decide +kernel
theorem dX11_nextOf_37 : decode cX11_nextOf 37 = .ok (.iaload, 1) := by decide +kernel
theorem dX11_nextOf_38 : decode cX11_nextOf 38 = .ok (.aload_n 0, 1) := by decide +kernel
theorem dX11_nextOf_39 : decode cX11_nextOf 39 = .ok (.iload_n 2, 1) := by decide +kernel
theorem dX11_nextOf_40 : decode cX11_nextOf 40 = .ok (.iaload, 1) := by decide +kernel
theorem dX11_nextOf_41 : decode cX11_nextOf 41 = .ok (.if_icmp .ge 9, 3) := by decide +kernel
theorem dX11_nextOf_44 : decode cX11_nextOf 44 = .ok (.iinc 3 (-1), 3) := by decide +kernel
theorem dX11_nextOf_47 : decode cX11_nextOf 47 = .ok (.goto (-12), 3) := by decide +kernel
theorem dX11_nextOf_50 : decode cX11_nextOf 50 = .ok (.aload_n 0, 1) := by decide +kernel
theorem dX11_nextOf_51 : decode cX11_nextOf 51 = .ok (.iload_n 2, 1) := by decide +kernel
theorem dX11_nextOf_52 : decode cX11_nextOf 52 = .ok (.iload_n 3, 1) := by decide +kernel
theorem dX11_nextOf_53 : decode cX11_nextOf 53 = .ok (.invokestatic 149, 3) := by decide +kernel
theorem dX11_nextOf_56 : decode cX11_nextOf 56 = .ok (.iload_n 2, 1) := by decide +kernel
theorem dX11_nextOf_57 : decode cX11_nextOf 57 = .ok (.iconst 1, 1) := by decide +kernel
theorem dX11_nextOf_58 : decode cX11_nextOf 58 = .ok (.iadd, 1) := by decide +kernel
theorem dX11_nextOf_59 : decode cX11_nextOf 59 = .ok (.istore 4, 2) := by decide +kernel
theorem dX11_nextOf_61 : decode cX11_nextOf 61 = .ok (.iload_n 1, 1) := by decide +kernel
theorem dX11_nextOf_62 : decode cX11_nextOf 62 = .ok (.iconst 1, 1) := by decide +kernel
theorem dX11_nextOf_63 : decode cX11_nextOf 63 = .ok (.isub, 1) := by decide +kernel
theorem dX11_nextOf_64 : decode cX11_nextOf 64 = .ok (.istore 5, 2) := by decide +kernel
theorem dX11_nextOf_66 : decode cX11_nextOf 66 = .ok (.iload 4, 2) := by decide +kernel
theorem dX11_nextOf_68 : decode cX11_nextOf 68 = .ok (.iload 5, 2) := by decide +kernel
theorem dX11_nextOf_70 : decode cX11_nextOf 70 = .ok (.if_icmp .ge 20, 3) := by decide +kernel
theorem dX11_nextOf_73 : decode cX11_nextOf 73 = .ok (.aload_n 0, 1) := by decide +kernel
theorem dX11_nextOf_74 : decode cX11_nextOf 74 = .ok (.iload 4, 2) := by decide +kernel
theorem dX11_nextOf_76 : decode cX11_nextOf 76 = .ok (.iload 5, 2) := by decide +kernel
theorem dX11_nextOf_78 : decode cX11_nextOf 78 = .ok (.invokestatic 149, 3) := by decide +kernel
theorem dX11_nextOf_81 : decode cX11_nextOf 81 = .ok (.iinc 4 1, 3) := by decide +kernel
theorem dX11_nextOf_84 : decode cX11_nextOf 84 = .ok (.iinc 5 (-1), 3) := by decide +kernel
theorem dX11_nextOf_87 : decode cX11_nextOf 87 = .ok (.goto (-21), 3) := by decide +kernel
theorem dX11_nextOf_90 : decode cX11_nextOf 90 = .ok (.iconst 1, 1) := by decide +kernel
theorem dX11_nextOf_91 : decode cX11_nextOf 91 = .ok (.ireturn, 1) := by decide +kernel
theorem dX11_orderValue_0 : decode cX11_orderValue 0 = .ok (.iconst 0, 1) := by decide +kernel
theorem dX11_orderValue_1 : decode cX11_orderValue 1 = .ok (.istore_n 1, 1) := by decide +kernel
theorem dX11_orderValue_2 : decode cX11_orderValue 2 = .ok (.iconst 0, 1) := by decide +kernel
theorem dX11_orderValue_3 : decode cX11_orderValue 3 = .ok (.istore_n 2, 1) := by decide +kernel
theorem dX11_orderValue_4 : decode cX11_orderValue 4 = .ok (.iload_n 2, 1) := by decide +kernel
theorem dX11_orderValue_5 : decode cX11_orderValue 5 = .ok (.aload_n 0, 1) := by decide +kernel
theorem dX11_orderValue_6 : decode cX11_orderValue 6 = .ok (.getfield 146, 3) := by decide +kernel
theorem dX11_orderValue_9 : decode cX11_orderValue 9 = .ok (.if_icmp .ge 46, 3) := by decide +kernel
theorem dX11_orderValue_12 : decode cX11_orderValue 12 = .ok (.iload_n 2, 1) := by decide +kernel
theorem dX11_orderValue_13 : decode cX11_orderValue 13 = .ok (.iconst 1, 1) := by decide +kernel
theorem dX11_orderValue_14 : decode cX11_orderValue 14 = .ok (.iadd, 1) := by decide +kernel
theorem dX11_orderValue_15 : decode cX11_orderValue 15 = .ok (.istore_n 3, 1) := by decide +kernel
theorem dX11_orderValue_16 : decode cX11_orderValue 16 = .ok (.iload_n 3, 1) := by decide +kernel
theorem dX11_orderValue_17 : decode cX11_orderValue 17 = .ok (.aload_n 0, 1) := by decide +kernel
theorem dX11_orderValue_18 : decode cX11_orderValue 18 = .ok (.getfield 146, 3) := by decide +kernel
theorem dX11_orderValue_21 : decode cX11_orderValue 21 = .ok (.if_icmp .ge 28, 3) := by decide +kernel
theorem dX11_orderValue_24 : decode cX11_orderValue 24 = .ok (.iload_n 1, 1) := by decide +kernel
theorem dX11_orderValue_25 : decode cX11_orderValue 25 = .ok (.aload_n 0, 1) := by decide +kernel
theorem dX11_orderValue_26 : decode cX11_orderValue 26 = .ok (.aload_n 0, 1) := by decide +kernel
theorem dX11_orderValue_27 : decode cX11_orderValue 27 = .ok (.getfield 47, 3) := by decide +kernel
theorem dX11_orderValue_30 : decode cX11_orderValue 30 = .ok (.iload_n 2, 1) := by decide +kernel
theorem dX11_orderValue_31 : decode cX11_orderValue 31 = .ok (.iaload, 1) := by decide +kernel
theorem dX11_orderValue_32 : decode cX11_orderValue 32 = .ok (.aload_n 0, 1) := by decide +kernel
theorem dX11_orderValue_33 : decode cX11_orderValue 33 = .ok (.getfield 47, 3) := by decide +kernel
theorem dX11_orderValue_36 : decode cX11_orderValue 36 = .ok (.iload_n 3, 1) := by decide +kernel
theorem dX11_orderValue_37 : decode cX11_orderValue 37 = .ok (.iaload, 1) := by decide +kernel
theorem dX11_orderValue_38 : decode cX11_orderValue 38 = .ok (.invokevirtual 92, 3) := by decide +kernel
theorem dX11_orderValue_41 : decode cX11_orderValue 41 = .ok (.iadd, 1) := by decide +kernel
theorem dX11_orderValue_42 : decode cX11_orderValue 42 = .ok (.istore_n 1, 1) := by decide +kernel
theorem dX11_orderValue_43 : decode cX11_orderValue 43 = .ok (.iinc 3 1, 3) := by decide +kernel
theorem dX11_orderValue_46 : decode cX11_orderValue 46 = .ok (.goto (-30), 3) := by decide +kernel
theorem dX11_orderValue_49 : decode cX11_orderValue 49 = .ok (.iinc 2 1, 3) := by decide +kernel
theorem dX11_orderValue_52 : decode cX11_orderValue 52 = .ok (.goto (-48), 3) := by decide +kernel
theorem dX11_orderValue_55 : decode cX11_orderValue 55 = .ok (.iload_n 1, 1) := by decide +kernel
theorem dX11_orderValue_56 : decode cX11_orderValue 56 = .ok (.ireturn, 1) := by decide +kernel
theorem dX11_kemenyOf_0 : decode cX11_kemenyOf 0 = .ok (.aload_n 0, 1) := by decide +kernel
theorem dX11_kemenyOf_1 : decode cX11_kemenyOf 1 = .ok (.iload_n 1, 1) := by decide +kernel
theorem dX11_kemenyOf_2 : decode cX11_kemenyOf 2 = .ok (.invokevirtual 153, 3) := by decide +kernel
theorem dX11_kemenyOf_5 : decode cX11_kemenyOf 5 = .ok (.iconst 0, 1) := by decide +kernel
theorem dX11_kemenyOf_6 : decode cX11_kemenyOf 6 = .ok (.istore_n 2, 1) := by decide +kernel
theorem dX11_kemenyOf_7 : decode cX11_kemenyOf 7 = .ok (.aload_n 0, 1) := by decide +kernel
theorem dX11_kemenyOf_8 : decode cX11_kemenyOf 8 = .ok (.iconst (-1), 1) := by decide +kernel
theorem dX11_kemenyOf_9 : decode cX11_kemenyOf 9 = .ok (.putfield 156, 3) := by decide +kernel
theorem dX11_kemenyOf_12 : decode cX11_kemenyOf 12 = .ok (.aload_n 0, 1) := by decide +kernel
theorem dX11_kemenyOf_13 : decode cX11_kemenyOf 13 = .ok (.getfield 146, 3) := by decide +kernel
theorem dX11_kemenyOf_16 : decode cX11_kemenyOf 16 = .ok (.ifCond .le 7, 3) := by decide +kernel
theorem dX11_kemenyOf_19 : decode cX11_kemenyOf 19 = .ok (.iconst 1, 1) := by decide +kernel
theorem dX11_kemenyOf_20 : decode cX11_kemenyOf 20 = .ok (.goto 4, 3) := by decide +kernel
theorem dX11_kemenyOf_23 : decode cX11_kemenyOf 23 = .ok (.iconst 0, 1) := by decide +kernel
theorem dX11_kemenyOf_24 : decode cX11_kemenyOf 24 = .ok (.istore_n 3, 1) := by decide +kernel
theorem dX11_kemenyOf_25 : decode cX11_kemenyOf 25 = .ok (.iload_n 3, 1) := by decide +kernel
theorem dX11_kemenyOf_26 : decode cX11_kemenyOf 26 = .ok (.ifCond .eq 97, 3) := by decide +kernel
theorem dX11_kemenyOf_29 : decode cX11_kemenyOf 29 = .ok (.aload_n 0, 1) := by decide +kernel
theorem dX11_kemenyOf_30 : decode cX11_kemenyOf 30 = .ok (.invokevirtual 159, 3) := by decide +kernel
theorem dX11_kemenyOf_33 : decode cX11_kemenyOf 33 = .ok (.istore 4, 2) := by decide +kernel
theorem dX11_kemenyOf_35 : decode cX11_kemenyOf 35 = .ok (.iload 4, 2) := by decide +kernel
theorem dX11_kemenyOf_37 : decode cX11_kemenyOf 37 = .ok (.aload_n 0, 1) := by decide +kernel
theorem dX11_kemenyOf_38 : decode cX11_kemenyOf 38 = .ok (.getfield 156, 3) := by decide +kernel
theorem dX11_kemenyOf_41 : decode cX11_kemenyOf 41 = .ok (.if_icmp .le 43, 3) := by decide +kernel
theorem dX11_kemenyOf_44 : decode cX11_kemenyOf 44 = .ok (.aload_n 0, 1) := by decide +kernel
theorem dX11_kemenyOf_45 : decode cX11_kemenyOf 45 = .ok (.iload 4, 2) := by decide +kernel
theorem dX11_kemenyOf_47 : decode cX11_kemenyOf 47 = .ok (.putfield 156, 3) := by decide +kernel
theorem dX11_kemenyOf_50 : decode cX11_kemenyOf 50 = .ok (.iconst 0, 1) := by decide +kernel
theorem dX11_kemenyOf_51 : decode cX11_kemenyOf 51 = .ok (.istore_n 2, 1) := by decide +kernel
theorem dX11_kemenyOf_52 : decode cX11_kemenyOf 52 = .ok (.iconst 0, 1) := by decide +kernel
theorem dX11_kemenyOf_53 : decode cX11_kemenyOf 53 = .ok (.istore 5, 2) := by decide +kernel
theorem dX11_kemenyOf_55 : decode cX11_kemenyOf 55 = .ok (.iload 5, 2) := by decide +kernel
theorem dX11_kemenyOf_57 : decode cX11_kemenyOf 57 = .ok (.aload_n 0, 1) := by decide +kernel
theorem dX11_kemenyOf_58 : decode cX11_kemenyOf 58 = .ok (.getfield 146, 3) := by decide +kernel
theorem dX11_kemenyOf_61 : decode cX11_kemenyOf 61 = .ok (.if_icmp .ge 23, 3) := by decide +kernel
theorem dX11_kemenyOf_64 : decode cX11_kemenyOf 64 = .ok (.aload_n 0, 1) := by decide +kernel
theorem dX11_kemenyOf_65 : decode cX11_kemenyOf 65 = .ok (.getfield 50, 3) := by decide +kernel
theorem dX11_kemenyOf_68 : decode cX11_kemenyOf 68 = .ok (.iload 5, 2) := by decide +kernel
theorem dX11_kemenyOf_70 : decode cX11_kemenyOf 70 = .ok (.aload_n 0, 1) := by decide +kernel
theorem dX11_kemenyOf_71 : decode cX11_kemenyOf 71 = .ok (.getfield 47, 3) := by decide +kernel
theorem dX11_kemenyOf_74 : decode cX11_kemenyOf 74 = .ok (.iload 5, 2) := by decide +kernel
theorem dX11_kemenyOf_76 : decode cX11_kemenyOf 76 = .ok (.iaload, 1) := by decide +kernel
theorem dX11_kemenyOf_77 : decode cX11_kemenyOf 77 = .ok (.iastore, 1) := by decide +kernel
theorem dX11_kemenyOf_78 : decode cX11_kemenyOf 78 = .ok (.iinc 5 1, 3) := by decide +kernel
theorem dX11_kemenyOf_81 : decode cX11_kemenyOf 81 = .ok (.goto (-26), 3) := by decide +kernel
theorem dX11_kemenyOf_84 : decode cX11_kemenyOf 84 = .ok (.iload_n 2, 1) := by decide +kernel
theorem dX11_kemenyOf_85 : decode cX11_kemenyOf 85 = .ok (.iload 4, 2) := by decide +kernel
theorem dX11_kemenyOf_87 : decode cX11_kemenyOf 87 = .ok (.aload_n 0, 1) := by decide +kernel
theorem dX11_kemenyOf_88 : decode cX11_kemenyOf 88 = .ok (.getfield 156, 3) := by decide +kernel
theorem dX11_kemenyOf_91 : decode cX11_kemenyOf 91 = .ok (.if_icmp .ne 14, 3) := by decide +kernel
theorem dX11_kemenyOf_94 : decode cX11_kemenyOf 94 = .ok (.iconst 1, 1) := by decide +kernel
theorem dX11_kemenyOf_95 : decode cX11_kemenyOf 95 = .ok (.aload_n 0, 1) := by decide +kernel
theorem dX11_kemenyOf_96 : decode cX11_kemenyOf 96 = .ok (.getfield 47, 3) := by decide +kernel
theorem dX11_kemenyOf_99 : decode cX11_kemenyOf 99 = .ok (.iconst 0, 1) := by decide +kernel
theorem dX11_kemenyOf_100 : decode cX11_kemenyOf 100 = .ok (.iaload, 1) := by decide +kernel
theorem dX11_kemenyOf_101 : decode cX11_kemenyOf 101 = .ok (.ishl, 1) := by decide +kernel
theorem dX11_kemenyOf_102 : decode cX11_kemenyOf 102 = .ok (.goto 4, 3) := by decide +kernel
theorem dX11_kemenyOf_105 : decode cX11_kemenyOf 105 = .ok (.iconst 0, 1) := by decide +kernel
theorem dX11_kemenyOf_106 : decode cX11_kemenyOf 106 = .ok (.ior, 1) := by decide +kernel
theorem dX11_kemenyOf_107 : decode cX11_kemenyOf 107 = .ok (.istore_n 2, 1) := by decide +kernel
theorem dX11_kemenyOf_108 : decode cX11_kemenyOf 108 = .ok (.aload_n 0, 1) := by decide +kernel
theorem dX11_kemenyOf_109 : decode cX11_kemenyOf 109 = .ok (.getfield 47, 3) := by decide +kernel
theorem dX11_kemenyOf_112 : decode cX11_kemenyOf 112 = .ok (.aload_n 0, 1) := by decide +kernel
theorem dX11_kemenyOf_113 : decode cX11_kemenyOf 113 = .ok (.getfield 146, 3) := by decide +kernel
theorem dX11_kemenyOf_116 : decode cX11_kemenyOf 116 = .ok (.invokestatic 162, 3) := by decide +kernel
theorem dX11_kemenyOf_119 : decode cX11_kemenyOf 119 = .ok (.istore_n 3, 1) := by decide +kernel
theorem dX11_kemenyOf_120 : decode cX11_kemenyOf 120 = .ok (.goto (-95), 3) := by decide +kernel
theorem dX11_kemenyOf_123 : decode cX11_kemenyOf 123 = .ok (.iload_n 2, 1) := by decide +kernel
theorem dX11_kemenyOf_124 : decode cX11_kemenyOf 124 = .ok (.ireturn, 1) := by decide +kernel
theorem dX11_applies_0 : decode cX11_applies 0 = .ok (.aload_n 0, 1) := by decide +kernel
theorem dX11_applies_1 : decode cX11_applies 1 = .ok (.invokevirtual 166, 3) := by decide +kernel
theorem dX11_applies_4 : decode cX11_applies 4 = .ok (.iload_n 1, 1) := by decide +kernel
theorem dX11_applies_5 : decode cX11_applies 5 = .ok (.tableswitch 174 0 10 #[59, 71, 82, 93, 104, 110, 116, 122, 128, 139, 168], 59) := by decide +kernel
theorem dX11_applies_64 : decode cX11_applies 64 = .ok (.aload_n 0, 1) := by decide +kernel
theorem dX11_applies_65 : decode cX11_applies 65 = .ok (.iload_n 2, 1) := by decide +kernel
theorem dX11_applies_66 : decode cX11_applies 66 = .ok (.iconst 1, 1) := by decide +kernel
theorem dX11_applies_67 : decode cX11_applies 67 = .ok (.invokevirtual 119, 3) := by decide +kernel
theorem dX11_applies_70 : decode cX11_applies 70 = .ok (.aload_n 0, 1) := by decide +kernel
theorem dX11_applies_71 : decode cX11_applies 71 = .ok (.iload_n 2, 1) := by decide +kernel
theorem dX11_applies_72 : decode cX11_applies 72 = .ok (.invokevirtual 112, 3) := by decide +kernel
theorem dX11_applies_75 : decode cX11_applies 75 = .ok (.ireturn, 1) := by decide +kernel
theorem dX11_applies_76 : decode cX11_applies 76 = .ok (.aload_n 0, 1) := by decide +kernel
theorem dX11_applies_77 : decode cX11_applies 77 = .ok (.iload_n 2, 1) := by decide +kernel
theorem dX11_applies_78 : decode cX11_applies 78 = .ok (.invokevirtual 143, 3) := by decide +kernel
theorem dX11_applies_81 : decode cX11_applies 81 = .ok (.aload_n 0, 1) := by decide +kernel
theorem dX11_applies_82 : decode cX11_applies 82 = .ok (.iload_n 2, 1) := by decide +kernel
theorem dX11_applies_83 : decode cX11_applies 83 = .ok (.invokevirtual 112, 3) := by decide +kernel
theorem dX11_applies_86 : decode cX11_applies 86 = .ok (.ireturn, 1) := by decide +kernel
theorem dX11_applies_87 : decode cX11_applies 87 = .ok (.aload_n 0, 1) := by decide +kernel
theorem dX11_applies_88 : decode cX11_applies 88 = .ok (.iload_n 2, 1) := by decide +kernel
theorem dX11_applies_89 : decode cX11_applies 89 = .ok (.invokevirtual 169, 3) := by decide +kernel
theorem dX11_applies_92 : decode cX11_applies 92 = .ok (.aload_n 0, 1) := by decide +kernel
theorem dX11_applies_93 : decode cX11_applies 93 = .ok (.iload_n 2, 1) := by decide +kernel
theorem dX11_applies_94 : decode cX11_applies 94 = .ok (.invokevirtual 112, 3) := by decide +kernel
theorem dX11_applies_97 : decode cX11_applies 97 = .ok (.ireturn, 1) := by decide +kernel
theorem dX11_applies_98 : decode cX11_applies 98 = .ok (.aload_n 0, 1) := by decide +kernel
theorem dX11_applies_99 : decode cX11_applies 99 = .ok (.iload_n 2, 1) := by decide +kernel
theorem dX11_applies_100 : decode cX11_applies 100 = .ok (.invokevirtual 172, 3) := by decide +kernel
theorem dX11_applies_103 : decode cX11_applies 103 = .ok (.aload_n 0, 1) := by decide +kernel
theorem dX11_applies_104 : decode cX11_applies 104 = .ok (.iload_n 2, 1) := by decide +kernel
theorem dX11_applies_105 : decode cX11_applies 105 = .ok (.invokevirtual 175, 3) := by decide +kernel
theorem dX11_applies_108 : decode cX11_applies 108 = .ok (.ireturn, 1) := by decide +kernel
theorem dX11_applies_109 : decode cX11_applies 109 = .ok (.aload_n 0, 1) := by decide +kernel
theorem dX11_applies_110 : decode cX11_applies 110 = .ok (.iload_n 2, 1) := by decide +kernel
theorem dX11_applies_111 : decode cX11_applies 111 = .ok (.invokevirtual 178, 3) := by decide +kernel
theorem dX11_applies_114 : decode cX11_applies 114 = .ok (.ireturn, 1) := by decide +kernel
theorem dX11_applies_115 : decode cX11_applies 115 = .ok (.aload_n 0, 1) := by decide +kernel
theorem dX11_applies_116 : decode cX11_applies 116 = .ok (.iload_n 2, 1) := by decide +kernel
theorem dX11_applies_117 : decode cX11_applies 117 = .ok (.invokevirtual 181, 3) := by decide +kernel
theorem dX11_applies_120 : decode cX11_applies 120 = .ok (.ireturn, 1) := by decide +kernel
theorem dX11_applies_121 : decode cX11_applies 121 = .ok (.aload_n 0, 1) := by decide +kernel
theorem dX11_applies_122 : decode cX11_applies 122 = .ok (.iload_n 2, 1) := by decide +kernel
theorem dX11_applies_123 : decode cX11_applies 123 = .ok (.invokevirtual 184, 3) := by decide +kernel
theorem dX11_applies_126 : decode cX11_applies 126 = .ok (.ireturn, 1) := by decide +kernel
theorem dX11_applies_127 : decode cX11_applies 127 = .ok (.aload_n 0, 1) := by decide +kernel
theorem dX11_applies_128 : decode cX11_applies 128 = .ok (.iload_n 2, 1) := by decide +kernel
theorem dX11_applies_129 : decode cX11_applies 129 = .ok (.invokevirtual 187, 3) := by decide +kernel
theorem dX11_applies_132 : decode cX11_applies 132 = .ok (.ireturn, 1) := by decide +kernel
theorem dX11_applies_133 : decode cX11_applies 133 = .ok (.aload_n 0, 1) := by decide +kernel
theorem dX11_applies_134 : decode cX11_applies 134 = .ok (.iload_n 2, 1) := by decide +kernel
theorem dX11_applies_135 : decode cX11_applies 135 = .ok (.invokevirtual 190, 3) := by decide +kernel
theorem dX11_applies_138 : decode cX11_applies 138 = .ok (.aload_n 0, 1) := by decide +kernel
theorem dX11_applies_139 : decode cX11_applies 139 = .ok (.iload_n 2, 1) := by decide +kernel
theorem dX11_applies_140 : decode cX11_applies 140 = .ok (.invokevirtual 112, 3) := by decide +kernel
theorem dX11_applies_143 : decode cX11_applies 143 = .ok (.ireturn, 1) := by decide +kernel
theorem dX11_applies_144 : decode cX11_applies 144 = .ok (.aload_n 0, 1) := by decide +kernel
theorem dX11_applies_145 : decode cX11_applies 145 = .ok (.iload_n 2, 1) := by decide +kernel
theorem dX11_applies_146 : decode cX11_applies 146 = .ok (.invokevirtual 143, 3) := by decide +kernel
theorem dX11_applies_149 : decode cX11_applies 149 = .ok (.aload_n 0, 1) := by decide +kernel
theorem dX11_applies_150 : decode cX11_applies 150 = .ok (.iload_n 2, 1) := by decide +kernel
theorem dX11_applies_151 : decode cX11_applies 151 = .ok (.invokevirtual 193, 3) := by decide +kernel
theorem dX11_applies_154 : decode cX11_applies 154 = .ok (.ifCond .lt 13, 3) := by decide +kernel
theorem dX11_applies_157 : decode cX11_applies 157 = .ok (.iconst 1, 1) := by decide +kernel
theorem dX11_applies_158 : decode cX11_applies 158 = .ok (.aload_n 0, 1) := by decide +kernel
theorem dX11_applies_159 : decode cX11_applies 159 = .ok (.iload_n 2, 1) := by decide +kernel
theorem dX11_applies_160 : decode cX11_applies 160 = .ok (.invokevirtual 193, 3) := by decide +kernel
theorem dX11_applies_163 : decode cX11_applies 163 = .ok (.ishl, 1) := by decide +kernel
theorem dX11_applies_164 : decode cX11_applies 164 = .ok (.goto 8, 3) := by decide +kernel
theorem dX11_applies_167 : decode cX11_applies 167 = .ok (.aload_n 0, 1) := by decide +kernel
theorem dX11_applies_168 : decode cX11_applies 168 = .ok (.iload_n 2, 1) := by decide +kernel
theorem dX11_applies_169 : decode cX11_applies 169 = .ok (.invokevirtual 112, 3) := by decide +kernel
theorem dX11_applies_172 : decode cX11_applies 172 = .ok (.ireturn, 1) := by decide +kernel
theorem dX11_applies_173 : decode cX11_applies 173 = .ok (.aload_n 0, 1) := by decide +kernel
theorem dX11_applies_174 : decode cX11_applies 174 = .ok (.iload_n 2, 1) := by decide +kernel
theorem dX11_applies_175 : decode cX11_applies 175 = .ok (.invokevirtual 196, 3) := by decide +kernel
theorem dX11_applies_178 : decode cX11_applies 178 = .ok (.ireturn, 1) := by decide +kernel
theorem dX11_applies_179 : decode cX11_applies 179 = .ok (.aload_n 0, 1) := by decide +kernel
theorem dX11_applies_180 : decode cX11_applies 180 = .ok (.iload_n 2, 1) := by decide +kernel
theorem dX11_applies_181 : decode cX11_applies 181 = .ok (.invokevirtual 199, 3) := by decide +kernel
theorem dX11_applies_184 : decode cX11_applies 184 = .ok (.ireturn, 1) := by decide +kernel
theorem dX11_wins_0 : decode cX11_wins 0 = .ok (.aload_n 0, 1) := by decide +kernel
theorem dX11_wins_1 : decode cX11_wins 1 = .ok (.iload_n 1, 1) := by decide +kernel
theorem dX11_wins_2 : decode cX11_wins 2 = .ok (.iload_n 2, 1) := by decide +kernel
theorem dX11_wins_3 : decode cX11_wins 3 = .ok (.invokevirtual 202, 3) := by decide +kernel
theorem dX11_wins_6 : decode cX11_wins 6 = .ok (.istore_n 3, 1) := by decide +kernel
theorem dX11_wins_7 : decode cX11_wins 7 = .ok (.iload_n 3, 1) := by decide +kernel
theorem dX11_wins_8 : decode cX11_wins 8 = .ok (.ifCond .ne 7, 3) := by decide +kernel
theorem dX11_wins_11 : decode cX11_wins 11 = .ok (.iconst (-1), 1) := by decide +kernel
theorem dX11_wins_12 : decode cX11_wins 12 = .ok (.goto 7, 3) := by decide +kernel
theorem dX11_wins_15 : decode cX11_wins 15 = .ok (.iload_n 3, 1) := by decide +kernel
theorem dX11_wins_16 : decode cX11_wins 16 = .ok (.invokestatic 205, 3) := by decide +kernel
theorem dX11_wins_19 : decode cX11_wins 19 = .ok (.ireturn, 1) := by decide +kernel
theorem dX11_now_0 : decode cX11_now 0 = .ok (.aload_n 0, 1) := by decide +kernel
theorem dX11_now_1 : decode cX11_now 1 = .ok (.invokevirtual 208, 3) := by decide +kernel
theorem dX11_now_4 : decode cX11_now 4 = .ok (.aload_n 0, 1) := by decide +kernel
theorem dX11_now_5 : decode cX11_now 5 = .ok (.iload_n 1, 1) := by decide +kernel
theorem dX11_now_6 : decode cX11_now 6 = .ok (.aload_n 0, 1) := by decide +kernel
theorem dX11_now_7 : decode cX11_now 7 = .ok (.getfield 7, 3) := by decide +kernel
theorem dX11_now_10 : decode cX11_now 10 = .ok (.iconst 1, 1) := by decide +kernel
theorem dX11_now_11 : decode cX11_now 11 = .ok (.iaload, 1) := by decide +kernel
theorem dX11_now_12 : decode cX11_now 12 = .ok (.invokevirtual 211, 3) := by decide +kernel
theorem dX11_now_15 : decode cX11_now 15 = .ok (.ireturn, 1) := by decide +kernel
theorem dX11_ballotOf_0 : decode cX11_ballotOf 0 = .ok (.iconst 0, 1) := by decide +kernel
theorem dX11_ballotOf_1 : decode cX11_ballotOf 1 = .ok (.istore_n 2, 1) := by decide +kernel
theorem dX11_ballotOf_2 : decode cX11_ballotOf 2 = .ok (.iconst 0, 1) := by decide +kernel
theorem dX11_ballotOf_3 : decode cX11_ballotOf 3 = .ok (.istore_n 3, 1) := by decide +kernel
theorem dX11_ballotOf_4 : decode cX11_ballotOf 4 = .ok (.iload_n 3, 1) := by decide +kernel
theorem dX11_ballotOf_5 : decode cX11_ballotOf 5 = .ok (.aload_n 0, 1) := by decide +kernel
theorem dX11_ballotOf_6 : decode cX11_ballotOf 6 = .ok (.iload_n 1, 1) := by decide +kernel
theorem dX11_ballotOf_7 : decode cX11_ballotOf 7 = .ok (.iconst 1, 1) := by decide +kernel
theorem dX11_ballotOf_8 : decode cX11_ballotOf 8 = .ok (.invokevirtual 81, 3) := by decide +kernel
theorem dX11_ballotOf_11 : decode cX11_ballotOf 11 = .ok (.if_icmp .ge 25, 3) := by decide +kernel
theorem dX11_ballotOf_14 : decode cX11_ballotOf 14 = .ok (.bipush 10, 2) := by decide +kernel
theorem dX11_ballotOf_16 : decode cX11_ballotOf 16 = .ok (.iload_n 2, 1) := by decide +kernel
theorem dX11_ballotOf_17 : decode cX11_ballotOf 17 = .ok (.imul, 1) := by decide +kernel
theorem dX11_ballotOf_18 : decode cX11_ballotOf 18 = .ok (.aload_n 0, 1) := by decide +kernel
theorem dX11_ballotOf_19 : decode cX11_ballotOf 19 = .ok (.iload_n 1, 1) := by decide +kernel
theorem dX11_ballotOf_20 : decode cX11_ballotOf 20 = .ok (.iconst 2, 1) := by decide +kernel
theorem dX11_ballotOf_21 : decode cX11_ballotOf 21 = .ok (.iload_n 3, 1) := by decide +kernel
theorem dX11_ballotOf_22 : decode cX11_ballotOf 22 = .ok (.iadd, 1) := by decide +kernel
theorem dX11_ballotOf_23 : decode cX11_ballotOf 23 = .ok (.invokevirtual 81, 3) := by decide +kernel
theorem dX11_ballotOf_26 : decode cX11_ballotOf 26 = .ok (.iadd, 1) := by decide +kernel
theorem dX11_ballotOf_27 : decode cX11_ballotOf 27 = .ok (.iconst 1, 1) := by decide +kernel
theorem dX11_ballotOf_28 : decode cX11_ballotOf 28 = .ok (.iadd, 1) := by decide +kernel
theorem dX11_ballotOf_29 : decode cX11_ballotOf 29 = .ok (.istore_n 2, 1) := by decide +kernel
theorem dX11_ballotOf_30 : decode cX11_ballotOf 30 = .ok (.iinc 3 1, 3) := by decide +kernel
theorem dX11_ballotOf_33 : decode cX11_ballotOf 33 = .ok (.goto (-29), 3) := by decide +kernel
theorem dX11_ballotOf_36 : decode cX11_ballotOf 36 = .ok (.iload_n 2, 1) := by decide +kernel
theorem dX11_ballotOf_37 : decode cX11_ballotOf 37 = .ok (.ireturn, 1) := by decide +kernel
theorem dX11_isBallot_0 : decode cX11_isBallot 0 = .ok (.iload_n 0, 1) := by decide +kernel
theorem dX11_isBallot_1 : decode cX11_isBallot 1 = .ok (.istore_n 1, 1) := by decide +kernel
theorem dX11_isBallot_2 : decode cX11_isBallot 2 = .ok (.iconst 0, 1) := by decide +kernel
theorem dX11_isBallot_3 : decode cX11_isBallot 3 = .ok (.istore_n 2, 1) := by decide +kernel
theorem dX11_isBallot_4 : decode cX11_isBallot 4 = .ok (.iload_n 1, 1) := by decide +kernel
theorem dX11_isBallot_5 : decode cX11_isBallot 5 = .ok (.ifCond .le 41, 3) := by decide +kernel
theorem dX11_isBallot_8 : decode cX11_isBallot 8 = .ok (.iload_n 1, 1) := by decide +kernel
theorem dX11_isBallot_9 : decode cX11_isBallot 9 = .ok (.bipush 10, 2) := by decide +kernel
theorem dX11_isBallot_11 : decode cX11_isBallot 11 = .ok (.irem, 1) := by decide +kernel
theorem dX11_isBallot_12 : decode cX11_isBallot 12 = .ok (.iconst 1, 1) := by decide +kernel
theorem dX11_isBallot_13 : decode cX11_isBallot 13 = .ok (.isub, 1) := by decide +kernel
theorem dX11_isBallot_14 : decode cX11_isBallot 14 = .ok (.istore_n 3, 1) := by decide +kernel
theorem dX11_isBallot_15 : decode cX11_isBallot 15 = .ok (.iload_n 3, 1) := by decide +kernel
theorem dX11_isBallot_16 : decode cX11_isBallot 16 = .ok (.invokestatic 214, 3) := by decide +kernel
theorem dX11_isBallot_19 : decode cX11_isBallot 19 = .ok (.ifCond .eq 11, 3) := by decide +kernel
theorem dX11_isBallot_22 : decode cX11_isBallot 22 = .ok (.iload_n 2, 1) := by decide +kernel
theorem dX11_isBallot_23 : decode cX11_isBallot 23 = .ok (.iload_n 3, 1) := by decide +kernel
theorem dX11_isBallot_24 : decode cX11_isBallot 24 = .ok (.invokestatic 74, 3) := by decide +kernel
theorem dX11_isBallot_27 : decode cX11_isBallot 27 = .ok (.ifCond .eq 5, 3) := by decide +kernel
theorem dX11_isBallot_30 : decode cX11_isBallot 30 = .ok (.iconst 0, 1) := by decide +kernel
theorem dX11_isBallot_31 : decode cX11_isBallot 31 = .ok (.ireturn, 1) := by decide +kernel
theorem dX11_isBallot_32 : decode cX11_isBallot 32 = .ok (.iload_n 2, 1) := by decide +kernel
theorem dX11_isBallot_33 : decode cX11_isBallot 33 = .ok (.iconst 1, 1) := by decide +kernel
theorem dX11_isBallot_34 : decode cX11_isBallot 34 = .ok (.iload_n 3, 1) := by decide +kernel
theorem dX11_isBallot_35 : decode cX11_isBallot 35 = .ok (.ishl, 1) := by decide +kernel
theorem dX11_isBallot_36 : decode cX11_isBallot 36 = .ok (.ior, 1) := by decide +kernel
theorem dX11_isBallot_37 : decode cX11_isBallot 37 = .ok (.istore_n 2, 1) := by decide +kernel
theorem dX11_isBallot_38 : decode cX11_isBallot 38 = .ok (.iload_n 1, 1) := by decide +kernel
theorem dX11_isBallot_39 : decode cX11_isBallot 39 = .ok (.bipush 10, 2) := by decide +kernel
theorem dX11_isBallot_41 : decode cX11_isBallot 41 = .ok (.idiv, 1) := by decide +kernel
theorem dX11_isBallot_42 : decode cX11_isBallot 42 = .ok (.istore_n 1, 1) := by decide +kernel
theorem dX11_isBallot_43 : decode cX11_isBallot 43 = .ok (.goto (-39), 3) := by decide +kernel
theorem dX11_isBallot_46 : decode cX11_isBallot 46 = .ok (.iload_n 0, 1) := by decide +kernel
theorem dX11_isBallot_47 : decode cX11_isBallot 47 = .ok (.ifCond .le 7, 3) := by decide +kernel
theorem dX11_isBallot_50 : decode cX11_isBallot 50 = .ok (.iconst 1, 1) := by decide +kernel
theorem dX11_isBallot_51 : decode cX11_isBallot 51 = .ok (.goto 4, 3) := by decide +kernel
theorem dX11_isBallot_54 : decode cX11_isBallot 54 = .ok (.iconst 0, 1) := by decide +kernel
theorem dX11_isBallot_55 : decode cX11_isBallot 55 = .ok (.ireturn, 1) := by decide +kernel
theorem dX11_adds_0 : decode cX11_adds 0 = .ok (.aload_n 0, 1) := by decide +kernel
theorem dX11_adds_1 : decode cX11_adds 1 = .ok (.getfield 7, 3) := by decide +kernel
theorem dX11_adds_4 : decode cX11_adds 4 = .ok (.iconst 0, 1) := by decide +kernel
theorem dX11_adds_5 : decode cX11_adds 5 = .ok (.iaload, 1) := by decide +kernel
theorem dX11_adds_6 : decode cX11_adds 6 = .ok (.istore_n 3, 1) := by decide +kernel
theorem dX11_adds_7 : decode cX11_adds 7 = .ok (.iconst 0, 1) := by decide +kernel
theorem dX11_adds_8 : decode cX11_adds 8 = .ok (.istore 4, 2) := by decide +kernel
theorem dX11_adds_10 : decode cX11_adds 10 = .ok (.iconst 1, 1) := by decide +kernel
theorem dX11_adds_11 : decode cX11_adds 11 = .ok (.istore 5, 2) := by decide +kernel
theorem dX11_adds_13 : decode cX11_adds 13 = .ok (.iload 5, 2) := by decide +kernel
theorem dX11_adds_15 : decode cX11_adds 15 = .ok (.iload_n 2, 1) := by decide +kernel
theorem dX11_adds_16 : decode cX11_adds 16 = .ok (.bipush 10, 2) := by decide +kernel
theorem dX11_adds_18 : decode cX11_adds 18 = .ok (.idiv, 1) := by decide +kernel
theorem dX11_adds_19 : decode cX11_adds 19 = .ok (.if_icmp .gt 13, 3) := by decide +kernel
theorem dX11_adds_22 : decode cX11_adds 22 = .ok (.iload 5, 2) := by decide +kernel
theorem dX11_adds_24 : decode cX11_adds 24 = .ok (.bipush 10, 2) := by decide +kernel
theorem dX11_adds_26 : decode cX11_adds 26 = .ok (.imul, 1) := by decide +kernel
theorem dX11_adds_27 : decode cX11_adds 27 = .ok (.istore 5, 2) := by decide +kernel
theorem dX11_adds_29 : decode cX11_adds 29 = .ok (.goto (-16), 3) := by decide +kernel
theorem dX11_adds_32 : decode cX11_adds 32 = .ok (.iload 5, 2) := by decide +kernel
theorem dX11_adds_34 : decode cX11_adds 34 = .ok (.istore 6, 2) := by decide +kernel
theorem dX11_adds_36 : decode cX11_adds 36 = .ok (.iload 6, 2) := by decide +kernel
theorem dX11_adds_38 : decode cX11_adds 38 = .ok (.ifCond .le 34, 3) := by decide +kernel
theorem dX11_adds_41 : decode cX11_adds 41 = .ok (.aload_n 0, 1) := by decide +kernel
theorem dX11_adds_42 : decode cX11_adds 42 = .ok (.iload_n 3, 1) := by decide +kernel
theorem dX11_adds_43 : decode cX11_adds 43 = .ok (.iconst 2, 1) := by decide +kernel
theorem dX11_adds_44 : decode cX11_adds 44 = .ok (.iload 4, 2) := by decide +kernel
theorem dX11_adds_46 : decode cX11_adds 46 = .ok (.iadd, 1) := by decide +kernel
theorem dX11_adds_47 : decode cX11_adds 47 = .ok (.iload_n 2, 1) := by decide +kernel
theorem dX11_adds_48 : decode cX11_adds 48 = .ok (.iload 6, 2) := by decide +kernel
theorem dX11_adds_50 : decode cX11_adds 50 = .ok (.idiv, 1) := by decide +kernel
theorem dX11_adds_51 : decode cX11_adds 51 = .ok (.bipush 10, 2) := by decide +kernel
theorem dX11_adds_53 : decode cX11_adds 53 = .ok (.irem, 1) := by decide +kernel
theorem dX11_adds_54 : decode cX11_adds 54 = .ok (.iconst 1, 1) := by decide +kernel
theorem dX11_adds_55 : decode cX11_adds 55 = .ok (.isub, 1) := by decide +kernel
theorem dX11_adds_56 : decode cX11_adds 56 = .ok (.invokevirtual 218, 3) := by decide +kernel
theorem dX11_adds_59 : decode cX11_adds 59 = .ok (.iinc 4 1, 3) := by decide +kernel
theorem dX11_adds_62 : decode cX11_adds 62 = .ok (.iload 6, 2) := by decide +kernel
theorem dX11_adds_64 : decode cX11_adds 64 = .ok (.bipush 10, 2) := by decide +kernel
theorem dX11_adds_66 : decode cX11_adds 66 = .ok (.idiv, 1) := by decide +kernel
theorem dX11_adds_67 : decode cX11_adds 67 = .ok (.istore 6, 2) := by decide +kernel
theorem dX11_adds_69 : decode cX11_adds 69 = .ok (.goto (-33), 3) := by decide +kernel
theorem dX11_adds_72 : decode cX11_adds 72 = .ok (.aload_n 0, 1) := by decide +kernel
theorem dX11_adds_73 : decode cX11_adds 73 = .ok (.iload_n 3, 1) := by decide +kernel
theorem dX11_adds_74 : decode cX11_adds 74 = .ok (.iconst 0, 1) := by decide +kernel
theorem dX11_adds_75 : decode cX11_adds 75 = .ok (.iload_n 1, 1) := by decide +kernel
theorem dX11_adds_76 : decode cX11_adds 76 = .ok (.invokevirtual 218, 3) := by decide +kernel
theorem dX11_adds_79 : decode cX11_adds 79 = .ok (.aload_n 0, 1) := by decide +kernel
theorem dX11_adds_80 : decode cX11_adds 80 = .ok (.iload_n 3, 1) := by decide +kernel
theorem dX11_adds_81 : decode cX11_adds 81 = .ok (.iconst 1, 1) := by decide +kernel
theorem dX11_adds_82 : decode cX11_adds 82 = .ok (.iload 4, 2) := by decide +kernel
theorem dX11_adds_84 : decode cX11_adds 84 = .ok (.invokevirtual 218, 3) := by decide +kernel
theorem dX11_adds_87 : decode cX11_adds 87 = .ok (.aload_n 0, 1) := by decide +kernel
theorem dX11_adds_88 : decode cX11_adds 88 = .ok (.getfield 7, 3) := by decide +kernel
theorem dX11_adds_91 : decode cX11_adds 91 = .ok (.iconst 0, 1) := by decide +kernel
theorem dX11_adds_92 : decode cX11_adds 92 = .ok (.dup2, 1) := by decide +kernel
theorem dX11_adds_93 : decode cX11_adds 93 = .ok (.iaload, 1) := by decide +kernel
theorem dX11_adds_94 : decode cX11_adds 94 = .ok (.iconst 1, 1) := by decide +kernel
theorem dX11_adds_95 : decode cX11_adds 95 = .ok (.iadd, 1) := by decide +kernel
theorem dX11_adds_96 : decode cX11_adds 96 = .ok (.iastore, 1) := by decide +kernel
theorem dX11_adds_97 : decode cX11_adds 97 = .ok (.return_, 1) := by decide +kernel
theorem dX11_addGroup_0 : decode cX11_addGroup 0 = .ok (.iload_n 1, 1) := by decide +kernel
theorem dX11_addGroup_1 : decode cX11_addGroup 1 = .ok (.iconst 1, 1) := by decide +kernel
theorem dX11_addGroup_2 : decode cX11_addGroup 2 = .ok (.bipush 100, 2) := by decide +kernel
theorem dX11_addGroup_4 : decode cX11_addGroup 4 = .ok (.invokestatic 70, 3) := by decide +kernel
theorem dX11_addGroup_7 : decode cX11_addGroup 7 = .ok (.ifCond .eq 10, 3) := by decide +kernel
theorem dX11_addGroup_10 : decode cX11_addGroup 10 = .ok (.iload_n 2, 1) := by decide +kernel
theorem dX11_addGroup_11 : decode cX11_addGroup 11 = .ok (.invokestatic 222, 3) := by decide +kernel
theorem dX11_addGroup_14 : decode cX11_addGroup 14 = .ok (.ifCond .ne 6, 3) := by decide +kernel
theorem dX11_addGroup_17 : decode cX11_addGroup 17 = .ok (.ldc 225, 2) := by decide +kernel
theorem dX11_addGroup_19 : decode cX11_addGroup 19 = .ok (.ireturn, 1) := by decide +kernel
theorem dX11_addGroup_20 : decode cX11_addGroup 20 = .ok (.aload_n 0, 1) := by decide +kernel
theorem dX11_addGroup_21 : decode cX11_addGroup 21 = .ok (.getfield 7, 3) := by decide +kernel
theorem dX11_addGroup_24 : decode cX11_addGroup 24 = .ok (.iconst 0, 1) := by decide +kernel
theorem dX11_addGroup_25 : decode cX11_addGroup 25 = .ok (.iaload, 1) := by decide +kernel
theorem dX11_addGroup_26 : decode cX11_addGroup 26 = .ok (.bipush 20, 2) := by decide +kernel
theorem dX11_addGroup_28 : decode cX11_addGroup 28 = .ok (.if_icmp .ne 6, 3) := by decide +kernel
theorem dX11_addGroup_31 : decode cX11_addGroup 31 = .ok (.ldc 226, 2) := by decide +kernel
theorem dX11_addGroup_33 : decode cX11_addGroup 33 = .ok (.ireturn, 1) := by decide +kernel
theorem dX11_addGroup_34 : decode cX11_addGroup 34 = .ok (.aload_n 0, 1) := by decide +kernel
theorem dX11_addGroup_35 : decode cX11_addGroup 35 = .ok (.invokevirtual 227, 3) := by decide +kernel
theorem dX11_addGroup_38 : decode cX11_addGroup 38 = .ok (.aload_n 0, 1) := by decide +kernel
theorem dX11_addGroup_39 : decode cX11_addGroup 39 = .ok (.iload_n 1, 1) := by decide +kernel
theorem dX11_addGroup_40 : decode cX11_addGroup 40 = .ok (.iload_n 2, 1) := by decide +kernel
theorem dX11_addGroup_41 : decode cX11_addGroup 41 = .ok (.invokevirtual 230, 3) := by decide +kernel
theorem dX11_addGroup_44 : decode cX11_addGroup 44 = .ok (.aload_n 0, 1) := by decide +kernel
theorem dX11_addGroup_45 : decode cX11_addGroup 45 = .ok (.getfield 7, 3) := by decide +kernel
theorem dX11_addGroup_48 : decode cX11_addGroup 48 = .ok (.iconst 0, 1) := by decide +kernel
theorem dX11_addGroup_49 : decode cX11_addGroup 49 = .ok (.iaload, 1) := by decide +kernel
theorem dX11_addGroup_50 : decode cX11_addGroup 50 = .ok (.iconst 1, 1) := by decide +kernel
theorem dX11_addGroup_51 : decode cX11_addGroup 51 = .ok (.isub, 1) := by decide +kernel
theorem dX11_addGroup_52 : decode cX11_addGroup 52 = .ok (.ireturn, 1) := by decide +kernel
theorem dX11_removeGroup_0 : decode cX11_removeGroup 0 = .ok (.aload_n 0, 1) := by decide +kernel
theorem dX11_removeGroup_1 : decode cX11_removeGroup 1 = .ok (.iload_n 1, 1) := by decide +kernel
theorem dX11_removeGroup_2 : decode cX11_removeGroup 2 = .ok (.invokevirtual 233, 3) := by decide +kernel
theorem dX11_removeGroup_5 : decode cX11_removeGroup 5 = .ok (.ifCond .ne 6, 3) := by decide +kernel
theorem dX11_removeGroup_8 : decode cX11_removeGroup 8 = .ok (.ldc 236, 2) := by decide +kernel
theorem dX11_removeGroup_10 : decode cX11_removeGroup 10 = .ok (.ireturn, 1) := by decide +kernel
theorem dX11_removeGroup_11 : decode cX11_removeGroup 11 = .ok (.aload_n 0, 1) := by decide +kernel
theorem dX11_removeGroup_12 : decode cX11_removeGroup 12 = .ok (.invokevirtual 227, 3) := by decide +kernel
theorem dX11_removeGroup_15 : decode cX11_removeGroup 15 = .ok (.iconst 2, 1) := by decide +kernel
theorem dX11_removeGroup_16 : decode cX11_removeGroup 16 = .ok (.bipush 7, 2) := by decide +kernel
theorem dX11_removeGroup_18 : decode cX11_removeGroup 18 = .ok (.iload_n 1, 1) := by decide +kernel
theorem dX11_removeGroup_19 : decode cX11_removeGroup 19 = .ok (.imul, 1) := by decide +kernel
theorem dX11_removeGroup_20 : decode cX11_removeGroup 20 = .ok (.iadd, 1) := by decide +kernel
theorem dX11_removeGroup_21 : decode cX11_removeGroup 21 = .ok (.istore_n 2, 1) := by decide +kernel
theorem dX11_removeGroup_22 : decode cX11_removeGroup 22 = .ok (.iload_n 2, 1) := by decide +kernel
theorem dX11_removeGroup_23 : decode cX11_removeGroup 23 = .ok (.iconst 2, 1) := by decide +kernel
theorem dX11_removeGroup_24 : decode cX11_removeGroup 24 = .ok (.bipush 7, 2) := by decide +kernel
theorem dX11_removeGroup_26 : decode cX11_removeGroup 26 = .ok (.aload_n 0, 1) := by decide +kernel
theorem dX11_removeGroup_27 : decode cX11_removeGroup 27 = .ok (.getfield 7, 3) := by decide +kernel
theorem dX11_removeGroup_30 : decode cX11_removeGroup 30 = .ok (.iconst 0, 1) := by decide +kernel
theorem dX11_removeGroup_31 : decode cX11_removeGroup 31 = .ok (.iaload, 1) := by decide +kernel
theorem dX11_removeGroup_32 : decode cX11_removeGroup 32 = .ok (.iconst 1, 1) := by decide +kernel
theorem dX11_removeGroup_33 : decode cX11_removeGroup 33 = .ok (.isub, 1) := by decide +kernel
theorem dX11_removeGroup_34 : decode cX11_removeGroup 34 = .ok (.imul, 1) := by decide +kernel
theorem dX11_removeGroup_35 : decode cX11_removeGroup 35 = .ok (.iadd, 1) := by decide +kernel
theorem dX11_removeGroup_36 : decode cX11_removeGroup 36 = .ok (.if_icmp .ge 24, 3) := by decide +kernel
theorem dX11_removeGroup_39 : decode cX11_removeGroup 39 = .ok (.aload_n 0, 1) := by decide +kernel
theorem dX11_removeGroup_40 : decode cX11_removeGroup 40 = .ok (.getfield 7, 3) := by decide +kernel
theorem dX11_removeGroup_43 : decode cX11_removeGroup 43 = .ok (.iload_n 2, 1) := by decide +kernel
theorem dX11_removeGroup_44 : decode cX11_removeGroup 44 = .ok (.aload_n 0, 1) := by decide +kernel
theorem dX11_removeGroup_45 : decode cX11_removeGroup 45 = .ok (.getfield 7, 3) := by decide +kernel
theorem dX11_removeGroup_48 : decode cX11_removeGroup 48 = .ok (.iload_n 2, 1) := by decide +kernel
theorem dX11_removeGroup_49 : decode cX11_removeGroup 49 = .ok (.bipush 7, 2) := by decide +kernel
theorem dX11_removeGroup_51 : decode cX11_removeGroup 51 = .ok (.iadd, 1) := by decide +kernel
theorem dX11_removeGroup_52 : decode cX11_removeGroup 52 = .ok (.iaload, 1) := by decide +kernel
theorem dX11_removeGroup_53 : decode cX11_removeGroup 53 = .ok (.iastore, 1) := by decide +kernel
theorem dX11_removeGroup_54 : decode cX11_removeGroup 54 = .ok (.iinc 2 1, 3) := by decide +kernel
theorem dX11_removeGroup_57 : decode cX11_removeGroup 57 = .ok (.goto (-35), 3) := by decide +kernel
theorem dX11_removeGroup_60 : decode cX11_removeGroup 60 = .ok (.aload_n 0, 1) := by decide +kernel
theorem dX11_removeGroup_61 : decode cX11_removeGroup 61 = .ok (.getfield 7, 3) := by decide +kernel
theorem dX11_removeGroup_64 : decode cX11_removeGroup 64 = .ok (.iconst 0, 1) := by decide +kernel
theorem dX11_removeGroup_65 : decode cX11_removeGroup 65 = .ok (.dup2, 1) := by decide +kernel
theorem dX11_removeGroup_66 : decode cX11_removeGroup 66 = .ok (.iaload, 1) := by decide +kernel
theorem dX11_removeGroup_67 : decode cX11_removeGroup 67 = .ok (.iconst 1, 1) := by decide +kernel
theorem dX11_removeGroup_68 : decode cX11_removeGroup 68 = .ok (.isub, 1) := by decide +kernel
theorem dX11_removeGroup_69 : decode cX11_removeGroup 69 = .ok (.iastore, 1) := by decide +kernel
theorem dX11_removeGroup_70 : decode cX11_removeGroup 70 = .ok (.aload_n 0, 1) := by decide +kernel
theorem dX11_removeGroup_71 : decode cX11_removeGroup 71 = .ok (.getfield 7, 3) := by decide +kernel
theorem dX11_removeGroup_74 : decode cX11_removeGroup 74 = .ok (.iconst 0, 1) := by decide +kernel
theorem dX11_removeGroup_75 : decode cX11_removeGroup 75 = .ok (.iaload, 1) := by decide +kernel
theorem dX11_removeGroup_76 : decode cX11_removeGroup 76 = .ok (.ireturn, 1) := by decide +kernel
theorem dX11_setVoters_0 : decode cX11_setVoters 0 = .ok (.aload_n 0, 1) := by decide +kernel
theorem dX11_setVoters_1 : decode cX11_setVoters 1 = .ok (.iload_n 1, 1) := by decide +kernel
theorem dX11_setVoters_2 : decode cX11_setVoters 2 = .ok (.invokevirtual 233, 3) := by decide +kernel
theorem dX11_setVoters_5 : decode cX11_setVoters 5 = .ok (.ifCond .ne 6, 3) := by decide +kernel
theorem dX11_setVoters_8 : decode cX11_setVoters 8 = .ok (.ldc 236, 2) := by decide +kernel
theorem dX11_setVoters_10 : decode cX11_setVoters 10 = .ok (.ireturn, 1) := by decide +kernel
theorem dX11_setVoters_11 : decode cX11_setVoters 11 = .ok (.iload_n 2, 1) := by decide +kernel
theorem dX11_setVoters_12 : decode cX11_setVoters 12 = .ok (.iconst 1, 1) := by decide +kernel
theorem dX11_setVoters_13 : decode cX11_setVoters 13 = .ok (.bipush 100, 2) := by decide +kernel
theorem dX11_setVoters_15 : decode cX11_setVoters 15 = .ok (.invokestatic 70, 3) := by decide +kernel
theorem dX11_setVoters_18 : decode cX11_setVoters 18 = .ok (.ifCond .ne 6, 3) := by decide +kernel
theorem dX11_setVoters_21 : decode cX11_setVoters 21 = .ok (.ldc 225, 2) := by decide +kernel
theorem dX11_setVoters_23 : decode cX11_setVoters 23 = .ok (.ireturn, 1) := by decide +kernel
theorem dX11_setVoters_24 : decode cX11_setVoters 24 = .ok (.aload_n 0, 1) := by decide +kernel
theorem dX11_setVoters_25 : decode cX11_setVoters 25 = .ok (.invokevirtual 227, 3) := by decide +kernel
theorem dX11_setVoters_28 : decode cX11_setVoters 28 = .ok (.aload_n 0, 1) := by decide +kernel
theorem dX11_setVoters_29 : decode cX11_setVoters 29 = .ok (.iload_n 1, 1) := by decide +kernel
theorem dX11_setVoters_30 : decode cX11_setVoters 30 = .ok (.iconst 0, 1) := by decide +kernel
theorem dX11_setVoters_31 : decode cX11_setVoters 31 = .ok (.invokevirtual 81, 3) := by decide +kernel
theorem dX11_setVoters_34 : decode cX11_setVoters 34 = .ok (.istore_n 3, 1) := by decide +kernel
theorem dX11_setVoters_35 : decode cX11_setVoters 35 = .ok (.aload_n 0, 1) := by decide +kernel
theorem dX11_setVoters_36 : decode cX11_setVoters 36 = .ok (.iload_n 1, 1) := by decide +kernel
theorem dX11_setVoters_37 : decode cX11_setVoters 37 = .ok (.iconst 0, 1) := by decide +kernel
theorem dX11_setVoters_38 : decode cX11_setVoters 38 = .ok (.iload_n 2, 1) := by decide +kernel
theorem dX11_setVoters_39 : decode cX11_setVoters 39 = .ok (.invokevirtual 218, 3) := by decide +kernel
theorem dX11_setVoters_42 : decode cX11_setVoters 42 = .ok (.iload_n 3, 1) := by decide +kernel
theorem dX11_setVoters_43 : decode cX11_setVoters 43 = .ok (.ireturn, 1) := by decide +kernel
theorem dX11_exchange_0 : decode cX11_exchange 0 = .ok (.aload_n 0, 1) := by decide +kernel
theorem dX11_exchange_1 : decode cX11_exchange 1 = .ok (.iload_n 1, 1) := by decide +kernel
theorem dX11_exchange_2 : decode cX11_exchange 2 = .ok (.invokevirtual 233, 3) := by decide +kernel
theorem dX11_exchange_5 : decode cX11_exchange 5 = .ok (.ifCond .eq 19, 3) := by decide +kernel
theorem dX11_exchange_8 : decode cX11_exchange 8 = .ok (.iload_n 2, 1) := by decide +kernel
theorem dX11_exchange_9 : decode cX11_exchange 9 = .ok (.iconst 0, 1) := by decide +kernel
theorem dX11_exchange_10 : decode cX11_exchange 10 = .ok (.aload_n 0, 1) := by decide +kernel
theorem dX11_exchange_11 : decode cX11_exchange 11 = .ok (.iload_n 1, 1) := by decide +kernel
theorem dX11_exchange_12 : decode cX11_exchange 12 = .ok (.iconst 1, 1) := by decide +kernel
theorem dX11_exchange_13 : decode cX11_exchange 13 = .ok (.invokevirtual 81, 3) := by decide +kernel
theorem dX11_exchange_16 : decode cX11_exchange 16 = .ok (.iconst 2, 1) := by decide +kernel
theorem dX11_exchange_17 : decode cX11_exchange 17 = .ok (.isub, 1) := by decide +kernel
theorem dX11_exchange_18 : decode cX11_exchange 18 = .ok (.invokestatic 70, 3) := by decide +kernel
theorem dX11_exchange_21 : decode cX11_exchange 21 = .ok (.ifCond .ne 6, 3) := by decide +kernel
theorem dX11_exchange_24 : decode cX11_exchange 24 = .ok (.ldc 236, 2) := by decide +kernel
theorem dX11_exchange_26 : decode cX11_exchange 26 = .ok (.ireturn, 1) := by decide +kernel
theorem dX11_exchange_27 : decode cX11_exchange 27 = .ok (.aload_n 0, 1) := by decide +kernel
theorem dX11_exchange_28 : decode cX11_exchange 28 = .ok (.invokevirtual 227, 3) := by decide +kernel
theorem dX11_exchange_31 : decode cX11_exchange 31 = .ok (.aload_n 0, 1) := by decide +kernel
theorem dX11_exchange_32 : decode cX11_exchange 32 = .ok (.iload_n 1, 1) := by decide +kernel
theorem dX11_exchange_33 : decode cX11_exchange 33 = .ok (.iconst 2, 1) := by decide +kernel
theorem dX11_exchange_34 : decode cX11_exchange 34 = .ok (.iload_n 2, 1) := by decide +kernel
theorem dX11_exchange_35 : decode cX11_exchange 35 = .ok (.iadd, 1) := by decide +kernel
theorem dX11_exchange_36 : decode cX11_exchange 36 = .ok (.invokevirtual 81, 3) := by decide +kernel
theorem dX11_exchange_39 : decode cX11_exchange 39 = .ok (.istore_n 3, 1) := by decide +kernel
theorem dX11_exchange_40 : decode cX11_exchange 40 = .ok (.aload_n 0, 1) := by decide +kernel
theorem dX11_exchange_41 : decode cX11_exchange 41 = .ok (.iload_n 1, 1) := by decide +kernel
theorem dX11_exchange_42 : decode cX11_exchange 42 = .ok (.iconst 2, 1) := by decide +kernel
theorem dX11_exchange_43 : decode cX11_exchange 43 = .ok (.iload_n 2, 1) := by decide +kernel
theorem dX11_exchange_44 : decode cX11_exchange 44 = .ok (.iadd, 1) := by decide +kernel
theorem dX11_exchange_45 : decode cX11_exchange 45 = .ok (.aload_n 0, 1) := by decide +kernel
theorem dX11_exchange_46 : decode cX11_exchange 46 = .ok (.iload_n 1, 1) := by decide +kernel
theorem dX11_exchange_47 : decode cX11_exchange 47 = .ok (.iconst 3, 1) := by decide +kernel
theorem dX11_exchange_48 : decode cX11_exchange 48 = .ok (.iload_n 2, 1) := by decide +kernel
theorem dX11_exchange_49 : decode cX11_exchange 49 = .ok (.iadd, 1) := by decide +kernel
theorem dX11_exchange_50 : decode cX11_exchange 50 = .ok (.invokevirtual 81, 3) := by decide +kernel
theorem dX11_exchange_53 : decode cX11_exchange 53 = .ok (.invokevirtual 218, 3) := by decide +kernel
theorem dX11_exchange_56 : decode cX11_exchange 56 = .ok (.aload_n 0, 1) := by decide +kernel
theorem dX11_exchange_57 : decode cX11_exchange 57 = .ok (.iload_n 1, 1) := by decide +kernel
theorem dX11_exchange_58 : decode cX11_exchange 58 = .ok (.iconst 3, 1) := by decide +kernel
theorem dX11_exchange_59 : decode cX11_exchange 59 = .ok (.iload_n 2, 1) := by decide +kernel
theorem dX11_exchange_60 : decode cX11_exchange 60 = .ok (.iadd, 1) := by decide +kernel
theorem dX11_exchange_61 : decode cX11_exchange 61 = .ok (.iload_n 3, 1) := by decide +kernel
theorem dX11_exchange_62 : decode cX11_exchange 62 = .ok (.invokevirtual 218, 3) := by decide +kernel
theorem dX11_exchange_65 : decode cX11_exchange 65 = .ok (.aload_n 0, 1) := by decide +kernel
theorem dX11_exchange_66 : decode cX11_exchange 66 = .ok (.iload_n 1, 1) := by decide +kernel
theorem dX11_exchange_67 : decode cX11_exchange 67 = .ok (.invokevirtual 237, 3) := by decide +kernel
theorem dX11_exchange_70 : decode cX11_exchange 70 = .ok (.ireturn, 1) := by decide +kernel
theorem dX11_setStanding_0 : decode cX11_setStanding 0 = .ok (.iload_n 1, 1) := by decide +kernel
theorem dX11_setStanding_1 : decode cX11_setStanding 1 = .ok (.invokestatic 214, 3) := by decide +kernel
theorem dX11_setStanding_4 : decode cX11_setStanding 4 = .ok (.ifCond .ne 6, 3) := by decide +kernel
theorem dX11_setStanding_7 : decode cX11_setStanding 7 = .ok (.ldc 236, 2) := by decide +kernel
theorem dX11_setStanding_9 : decode cX11_setStanding 9 = .ok (.ireturn, 1) := by decide +kernel
theorem dX11_setStanding_10 : decode cX11_setStanding 10 = .ok (.aload_n 0, 1) := by decide +kernel
theorem dX11_setStanding_11 : decode cX11_setStanding 11 = .ok (.invokevirtual 227, 3) := by decide +kernel
theorem dX11_setStanding_14 : decode cX11_setStanding 14 = .ok (.aload_n 0, 1) := by decide +kernel
theorem dX11_setStanding_15 : decode cX11_setStanding 15 = .ok (.getfield 7, 3) := by decide +kernel
theorem dX11_setStanding_18 : decode cX11_setStanding 18 = .ok (.iconst 1, 1) := by decide +kernel
theorem dX11_setStanding_19 : decode cX11_setStanding 19 = .ok (.iaload, 1) := by decide +kernel
theorem dX11_setStanding_20 : decode cX11_setStanding 20 = .ok (.iload_n 1, 1) := by decide +kernel
theorem dX11_setStanding_21 : decode cX11_setStanding 21 = .ok (.ishr, 1) := by decide +kernel
theorem dX11_setStanding_22 : decode cX11_setStanding 22 = .ok (.iconst 1, 1) := by decide +kernel
theorem dX11_setStanding_23 : decode cX11_setStanding 23 = .ok (.iand, 1) := by decide +kernel
theorem dX11_setStanding_24 : decode cX11_setStanding 24 = .ok (.istore_n 3, 1) := by decide +kernel
theorem dX11_setStanding_25 : decode cX11_setStanding 25 = .ok (.aload_n 0, 1) := by decide +kernel
theorem dX11_setStanding_26 : decode cX11_setStanding 26 = .ok (.getfield 7, 3) := by decide +kernel
theorem dX11_setStanding_29 : decode cX11_setStanding 29 = .ok (.iconst 1, 1) := by decide +kernel
theorem dX11_setStanding_30 : decode cX11_setStanding 30 = .ok (.aload_n 0, 1) := by decide +kernel
theorem dX11_setStanding_31 : decode cX11_setStanding 31 = .ok (.getfield 7, 3) := by decide +kernel
theorem dX11_setStanding_34 : decode cX11_setStanding 34 = .ok (.iconst 1, 1) := by decide +kernel
theorem dX11_setStanding_35 : decode cX11_setStanding 35 = .ok (.iaload, 1) := by decide +kernel
theorem dX11_setStanding_36 : decode cX11_setStanding 36 = .ok (.iconst 1, 1) := by decide +kernel
theorem dX11_setStanding_37 : decode cX11_setStanding 37 = .ok (.iload_n 1, 1) := by decide +kernel
theorem dX11_setStanding_38 : decode cX11_setStanding 38 = .ok (.ishl, 1) := by decide +kernel
theorem dX11_setStanding_39 : decode cX11_setStanding 39 = .ok (.iconst (-1), 1) := by decide +kernel
theorem dX11_setStanding_40 : decode cX11_setStanding 40 = .ok (.ixor, 1) := by decide +kernel
theorem dX11_setStanding_41 : decode cX11_setStanding 41 = .ok (.iand, 1) := by decide +kernel
theorem dX11_setStanding_42 : decode cX11_setStanding 42 = .ok (.iload_n 2, 1) := by decide +kernel
theorem dX11_setStanding_43 : decode cX11_setStanding 43 = .ok (.ifCond .eq 9, 3) := by decide +kernel
theorem dX11_setStanding_46 : decode cX11_setStanding 46 = .ok (.iconst 1, 1) := by decide +kernel
theorem dX11_setStanding_47 : decode cX11_setStanding 47 = .ok (.iload_n 1, 1) := by decide +kernel
theorem dX11_setStanding_48 : decode cX11_setStanding 48 = .ok (.ishl, 1) := by decide +kernel
theorem dX11_setStanding_49 : decode cX11_setStanding 49 = .ok (.goto 4, 3) := by decide +kernel
theorem dX11_setStanding_52 : decode cX11_setStanding 52 = .ok (.iconst 0, 1) := by decide +kernel
theorem dX11_setStanding_53 : decode cX11_setStanding 53 = .ok (.ior, 1) := by decide +kernel
theorem dX11_setStanding_54 : decode cX11_setStanding 54 = .ok (.iastore, 1) := by decide +kernel
theorem dX11_setStanding_55 : decode cX11_setStanding 55 = .ok (.iload_n 3, 1) := by decide +kernel
theorem dX11_setStanding_56 : decode cX11_setStanding 56 = .ok (.ireturn, 1) := by decide +kernel
theorem dX11_standing_0 : decode cX11_standing 0 = .ok (.aload_n 0, 1) := by decide +kernel
theorem dX11_standing_1 : decode cX11_standing 1 = .ok (.getfield 7, 3) := by decide +kernel
theorem dX11_standing_4 : decode cX11_standing 4 = .ok (.iconst 1, 1) := by decide +kernel
theorem dX11_standing_5 : decode cX11_standing 5 = .ok (.iaload, 1) := by decide +kernel
theorem dX11_standing_6 : decode cX11_standing 6 = .ok (.ireturn, 1) := by decide +kernel
theorem dX11_groupCount_0 : decode cX11_groupCount 0 = .ok (.aload_n 0, 1) := by decide +kernel
theorem dX11_groupCount_1 : decode cX11_groupCount 1 = .ok (.getfield 7, 3) := by decide +kernel
theorem dX11_groupCount_4 : decode cX11_groupCount 4 = .ok (.iconst 0, 1) := by decide +kernel
theorem dX11_groupCount_5 : decode cX11_groupCount 5 = .ok (.iaload, 1) := by decide +kernel
theorem dX11_groupCount_6 : decode cX11_groupCount 6 = .ok (.ireturn, 1) := by decide +kernel
theorem dX11_voters_0 : decode cX11_voters 0 = .ok (.aload_n 0, 1) := by decide +kernel
theorem dX11_voters_1 : decode cX11_voters 1 = .ok (.iload_n 1, 1) := by decide +kernel
theorem dX11_voters_2 : decode cX11_voters 2 = .ok (.invokevirtual 233, 3) := by decide +kernel
theorem dX11_voters_5 : decode cX11_voters 5 = .ok (.ifCond .eq 12, 3) := by decide +kernel
theorem dX11_voters_8 : decode cX11_voters 8 = .ok (.aload_n 0, 1) := by decide +kernel
theorem dX11_voters_9 : decode cX11_voters 9 = .ok (.iload_n 1, 1) := by decide +kernel
theorem dX11_voters_10 : decode cX11_voters 10 = .ok (.iconst 0, 1) := by decide +kernel
theorem dX11_voters_11 : decode cX11_voters 11 = .ok (.invokevirtual 81, 3) := by decide +kernel
theorem dX11_voters_14 : decode cX11_voters 14 = .ok (.goto 5, 3) := by decide +kernel
theorem dX11_voters_17 : decode cX11_voters 17 = .ok (.ldc 236, 2) := by decide +kernel
theorem dX11_voters_19 : decode cX11_voters 19 = .ok (.ireturn, 1) := by decide +kernel
theorem dX11_ballot_0 : decode cX11_ballot 0 = .ok (.aload_n 0, 1) := by decide +kernel
theorem dX11_ballot_1 : decode cX11_ballot 1 = .ok (.iload_n 1, 1) := by decide +kernel
theorem dX11_ballot_2 : decode cX11_ballot 2 = .ok (.invokevirtual 233, 3) := by decide +kernel
theorem dX11_ballot_5 : decode cX11_ballot 5 = .ok (.ifCond .eq 11, 3) := by decide +kernel
theorem dX11_ballot_8 : decode cX11_ballot 8 = .ok (.aload_n 0, 1) := by decide +kernel
theorem dX11_ballot_9 : decode cX11_ballot 9 = .ok (.iload_n 1, 1) := by decide +kernel
theorem dX11_ballot_10 : decode cX11_ballot 10 = .ok (.invokevirtual 237, 3) := by decide +kernel
theorem dX11_ballot_13 : decode cX11_ballot 13 = .ok (.goto 5, 3) := by decide +kernel
theorem dX11_ballot_16 : decode cX11_ballot 16 = .ok (.ldc 236, 2) := by decide +kernel
theorem dX11_ballot_18 : decode cX11_ballot 18 = .ok (.ireturn, 1) := by decide +kernel
theorem dX11_allVoters_0 : decode cX11_allVoters 0 = .ok (.aload_n 0, 1) := by decide +kernel
theorem dX11_allVoters_1 : decode cX11_allVoters 1 = .ok (.invokevirtual 208, 3) := by decide +kernel
theorem dX11_allVoters_4 : decode cX11_allVoters 4 = .ok (.aload_n 0, 1) := by decide +kernel
theorem dX11_allVoters_5 : decode cX11_allVoters 5 = .ok (.invokevirtual 115, 3) := by decide +kernel
theorem dX11_allVoters_8 : decode cX11_allVoters 8 = .ok (.ireturn, 1) := by decide +kernel
theorem dX11_noPair_0 : decode cX11_noPair 0 = .ok (.iload_n 1, 1) := by decide +kernel
theorem dX11_noPair_1 : decode cX11_noPair 1 = .ok (.invokestatic 214, 3) := by decide +kernel
theorem dX11_noPair_4 : decode cX11_noPair 4 = .ok (.ifCond .eq 10, 3) := by decide +kernel
theorem dX11_noPair_7 : decode cX11_noPair 7 = .ok (.iload_n 2, 1) := by decide +kernel
theorem dX11_noPair_8 : decode cX11_noPair 8 = .ok (.invokestatic 214, 3) := by decide +kernel
theorem dX11_noPair_11 : decode cX11_noPair 11 = .ok (.ifCond .ne 6, 3) := by decide +kernel
theorem dX11_noPair_14 : decode cX11_noPair 14 = .ok (.ldc 236, 2) := by decide +kernel
theorem dX11_noPair_16 : decode cX11_noPair 16 = .ok (.ireturn, 1) := by decide +kernel
theorem dX11_noPair_17 : decode cX11_noPair 17 = .ok (.aload_n 0, 1) := by decide +kernel
theorem dX11_noPair_18 : decode cX11_noPair 18 = .ok (.getfield 7, 3) := by decide +kernel
theorem dX11_noPair_21 : decode cX11_noPair 21 = .ok (.iconst 1, 1) := by decide +kernel
theorem dX11_noPair_22 : decode cX11_noPair 22 = .ok (.iaload, 1) := by decide +kernel
theorem dX11_noPair_23 : decode cX11_noPair 23 = .ok (.iload_n 1, 1) := by decide +kernel
theorem dX11_noPair_24 : decode cX11_noPair 24 = .ok (.invokestatic 74, 3) := by decide +kernel
theorem dX11_noPair_27 : decode cX11_noPair 27 = .ok (.ifCond .eq 20, 3) := by decide +kernel
theorem dX11_noPair_30 : decode cX11_noPair 30 = .ok (.aload_n 0, 1) := by decide +kernel
theorem dX11_noPair_31 : decode cX11_noPair 31 = .ok (.getfield 7, 3) := by decide +kernel
theorem dX11_noPair_34 : decode cX11_noPair 34 = .ok (.iconst 1, 1) := by decide +kernel
theorem dX11_noPair_35 : decode cX11_noPair 35 = .ok (.iaload, 1) := by decide +kernel
theorem dX11_noPair_36 : decode cX11_noPair 36 = .ok (.iload_n 2, 1) := by decide +kernel
theorem dX11_noPair_37 : decode cX11_noPair 37 = .ok (.invokestatic 74, 3) := by decide +kernel
theorem dX11_noPair_40 : decode cX11_noPair 40 = .ok (.ifCond .eq 7, 3) := by decide +kernel
theorem dX11_noPair_43 : decode cX11_noPair 43 = .ok (.iconst 0, 1) := by decide +kernel
theorem dX11_noPair_44 : decode cX11_noPair 44 = .ok (.goto 5, 3) := by decide +kernel
theorem dX11_noPair_47 : decode cX11_noPair 47 = .ok (.ldc 240, 2) := by decide +kernel
theorem dX11_noPair_49 : decode cX11_noPair 49 = .ok (.ireturn, 1) := by decide +kernel
theorem dX11_pair_0 : decode cX11_pair 0 = .ok (.aload_n 0, 1) := by decide +kernel
theorem dX11_pair_1 : decode cX11_pair 1 = .ok (.iload_n 1, 1) := by decide +kernel
theorem dX11_pair_2 : decode cX11_pair 2 = .ok (.iload_n 2, 1) := by decide +kernel
theorem dX11_pair_3 : decode cX11_pair 3 = .ok (.invokevirtual 241, 3) := by decide +kernel
theorem dX11_pair_6 : decode cX11_pair 6 = .ok (.istore_n 3, 1) := by decide +kernel
theorem dX11_pair_7 : decode cX11_pair 7 = .ok (.iload_n 3, 1) := by decide +kernel
theorem dX11_pair_8 : decode cX11_pair 8 = .ok (.ifCond .ge 5, 3) := by decide +kernel
theorem dX11_pair_11 : decode cX11_pair 11 = .ok (.iload_n 3, 1) := by decide +kernel
theorem dX11_pair_12 : decode cX11_pair 12 = .ok (.ireturn, 1) := by decide +kernel
theorem dX11_pair_13 : decode cX11_pair 13 = .ok (.aload_n 0, 1) := by decide +kernel
theorem dX11_pair_14 : decode cX11_pair 14 = .ok (.invokevirtual 208, 3) := by decide +kernel
theorem dX11_pair_17 : decode cX11_pair 17 = .ok (.aload_n 0, 1) := by decide +kernel
theorem dX11_pair_18 : decode cX11_pair 18 = .ok (.invokevirtual 166, 3) := by decide +kernel
theorem dX11_pair_21 : decode cX11_pair 21 = .ok (.aload_n 0, 1) := by decide +kernel
theorem dX11_pair_22 : decode cX11_pair 22 = .ok (.iload_n 1, 1) := by decide +kernel
theorem dX11_pair_23 : decode cX11_pair 23 = .ok (.iload_n 2, 1) := by decide +kernel
theorem dX11_pair_24 : decode cX11_pair 24 = .ok (.invokevirtual 92, 3) := by decide +kernel
theorem dX11_pair_27 : decode cX11_pair 27 = .ok (.ireturn, 1) := by decide +kernel
theorem dX11_winners_0 : decode cX11_winners 0 = .ok (.iload_n 1, 1) := by decide +kernel
theorem dX11_winners_1 : decode cX11_winners 1 = .ok (.invokestatic 244, 3) := by decide +kernel
theorem dX11_winners_4 : decode cX11_winners 4 = .ok (.ifCond .ne 6, 3) := by decide +kernel
theorem dX11_winners_7 : decode cX11_winners 7 = .ok (.ldc 236, 2) := by decide +kernel
theorem dX11_winners_9 : decode cX11_winners 9 = .ok (.ireturn, 1) := by decide +kernel
theorem dX11_winners_10 : decode cX11_winners 10 = .ok (.aload_n 0, 1) := by decide +kernel
theorem dX11_winners_11 : decode cX11_winners 11 = .ok (.invokevirtual 208, 3) := by decide +kernel
theorem dX11_winners_14 : decode cX11_winners 14 = .ok (.aload_n 0, 1) := by decide +kernel
theorem dX11_winners_15 : decode cX11_winners 15 = .ok (.iload_n 1, 1) := by decide +kernel
theorem dX11_winners_16 : decode cX11_winners 16 = .ok (.aload_n 0, 1) := by decide +kernel
theorem dX11_winners_17 : decode cX11_winners 17 = .ok (.getfield 7, 3) := by decide +kernel
theorem dX11_winners_20 : decode cX11_winners 20 = .ok (.iconst 1, 1) := by decide +kernel
theorem dX11_winners_21 : decode cX11_winners 21 = .ok (.iaload, 1) := by decide +kernel
theorem dX11_winners_22 : decode cX11_winners 22 = .ok (.invokevirtual 202, 3) := by decide +kernel
theorem dX11_winners_25 : decode cX11_winners 25 = .ok (.ireturn, 1) := by decide +kernel
theorem dX11_winner_0 : decode cX11_winner 0 = .ok (.iload_n 1, 1) := by decide +kernel
theorem dX11_winner_1 : decode cX11_winner 1 = .ok (.invokestatic 244, 3) := by decide +kernel
theorem dX11_winner_4 : decode cX11_winner 4 = .ok (.ifCond .ne 6, 3) := by decide +kernel
theorem dX11_winner_7 : decode cX11_winner 7 = .ok (.ldc 236, 2) := by decide +kernel
theorem dX11_winner_9 : decode cX11_winner 9 = .ok (.ireturn, 1) := by decide +kernel
theorem dX11_winner_10 : decode cX11_winner 10 = .ok (.aload_n 0, 1) := by decide +kernel
theorem dX11_winner_11 : decode cX11_winner 11 = .ok (.iload_n 1, 1) := by decide +kernel
theorem dX11_winner_12 : decode cX11_winner 12 = .ok (.invokevirtual 247, 3) := by decide +kernel
theorem dX11_winner_15 : decode cX11_winner 15 = .ok (.istore_n 2, 1) := by decide +kernel
theorem dX11_winner_16 : decode cX11_winner 16 = .ok (.iload_n 2, 1) := by decide +kernel
theorem dX11_winner_17 : decode cX11_winner 17 = .ok (.ifCond .ge 8, 3) := by decide +kernel
theorem dX11_winner_20 : decode cX11_winner 20 = .ok (.ldc 250, 2) := by decide +kernel
theorem dX11_winner_22 : decode cX11_winner 22 = .ok (.goto 4, 3) := by decide +kernel
theorem dX11_winner_25 : decode cX11_winner 25 = .ok (.iload_n 2, 1) := by decide +kernel
theorem dX11_winner_26 : decode cX11_winner 26 = .ok (.ireturn, 1) := by decide +kernel
theorem dX11_points_0 : decode cX11_points 0 = .ok (.iload_n 1, 1) := by decide +kernel
theorem dX11_points_1 : decode cX11_points 1 = .ok (.invokestatic 244, 3) := by decide +kernel
theorem dX11_points_4 : decode cX11_points 4 = .ok (.ifCond .eq 10, 3) := by decide +kernel
theorem dX11_points_7 : decode cX11_points 7 = .ok (.iload_n 2, 1) := by decide +kernel
theorem dX11_points_8 : decode cX11_points 8 = .ok (.invokestatic 214, 3) := by decide +kernel
theorem dX11_points_11 : decode cX11_points 11 = .ok (.ifCond .ne 6, 3) := by decide +kernel
theorem dX11_points_14 : decode cX11_points 14 = .ok (.ldc 236, 2) := by decide +kernel
theorem dX11_points_16 : decode cX11_points 16 = .ok (.ireturn, 1) := by decide +kernel
theorem dX11_points_17 : decode cX11_points 17 = .ok (.iload_n 1, 1) := by decide +kernel
theorem dX11_points_18 : decode cX11_points 18 = .ok (.iconst 0, 1) := by decide +kernel
theorem dX11_points_19 : decode cX11_points 19 = .ok (.iconst 3, 1) := by decide +kernel
theorem dX11_points_20 : decode cX11_points 20 = .ok (.invokestatic 70, 3) := by decide +kernel
theorem dX11_points_23 : decode cX11_points 23 = .ok (.ifCond .ne 9, 3) := by decide +kernel
theorem dX11_points_26 : decode cX11_points 26 = .ok (.iload_n 1, 1) := by decide +kernel
theorem dX11_points_27 : decode cX11_points 27 = .ok (.bipush 8, 2) := by decide +kernel
theorem dX11_points_29 : decode cX11_points 29 = .ok (.if_icmp .ne 16, 3) := by decide +kernel
theorem dX11_points_32 : decode cX11_points 32 = .ok (.aload_n 0, 1) := by decide +kernel
theorem dX11_points_33 : decode cX11_points 33 = .ok (.getfield 7, 3) := by decide +kernel
theorem dX11_points_36 : decode cX11_points 36 = .ok (.iconst 1, 1) := by decide +kernel
theorem dX11_points_37 : decode cX11_points 37 = .ok (.iaload, 1) := by decide +kernel
theorem dX11_points_38 : decode cX11_points 38 = .ok (.iload_n 2, 1) := by decide +kernel
theorem dX11_points_39 : decode cX11_points 39 = .ok (.invokestatic 74, 3) := by decide +kernel
theorem dX11_points_42 : decode cX11_points 42 = .ok (.ifCond .ne 6, 3) := by decide +kernel
theorem dX11_points_45 : decode cX11_points 45 = .ok (.ldc 240, 2) := by decide +kernel
theorem dX11_points_47 : decode cX11_points 47 = .ok (.ireturn, 1) := by decide +kernel
theorem dX11_points_48 : decode cX11_points 48 = .ok (.aload_n 0, 1) := by decide +kernel
theorem dX11_points_49 : decode cX11_points 49 = .ok (.invokevirtual 208, 3) := by decide +kernel
theorem dX11_points_52 : decode cX11_points 52 = .ok (.aload_n 0, 1) := by decide +kernel
theorem dX11_points_53 : decode cX11_points 53 = .ok (.iload_n 1, 1) := by decide +kernel
theorem dX11_points_54 : decode cX11_points 54 = .ok (.aload_n 0, 1) := by decide +kernel
theorem dX11_points_55 : decode cX11_points 55 = .ok (.getfield 7, 3) := by decide +kernel
theorem dX11_points_58 : decode cX11_points 58 = .ok (.iconst 1, 1) := by decide +kernel
theorem dX11_points_59 : decode cX11_points 59 = .ok (.iaload, 1) := by decide +kernel
theorem dX11_points_60 : decode cX11_points 60 = .ok (.invokevirtual 202, 3) := by decide +kernel
theorem dX11_points_63 : decode cX11_points 63 = .ok (.istore_n 3, 1) := by decide +kernel
theorem dX11_points_64 : decode cX11_points 64 = .ok (.aload_n 0, 1) := by decide +kernel
theorem dX11_points_65 : decode cX11_points 65 = .ok (.getfield 25, 3) := by decide +kernel
theorem dX11_points_68 : decode cX11_points 68 = .ok (.iload_n 2, 1) := by decide +kernel
theorem dX11_points_69 : decode cX11_points 69 = .ok (.iaload, 1) := by decide +kernel
theorem dX11_points_70 : decode cX11_points 70 = .ok (.ireturn, 1) := by decide +kernel
theorem dX11_beatsAll_0 : decode cX11_beatsAll 0 = .ok (.aload_n 0, 1) := by decide +kernel
theorem dX11_beatsAll_1 : decode cX11_beatsAll 1 = .ok (.invokevirtual 208, 3) := by decide +kernel
theorem dX11_beatsAll_4 : decode cX11_beatsAll 4 = .ok (.aload_n 0, 1) := by decide +kernel
theorem dX11_beatsAll_5 : decode cX11_beatsAll 5 = .ok (.invokevirtual 166, 3) := by decide +kernel
theorem dX11_beatsAll_8 : decode cX11_beatsAll 8 = .ok (.aload_n 0, 1) := by decide +kernel
theorem dX11_beatsAll_9 : decode cX11_beatsAll 9 = .ok (.aload_n 0, 1) := by decide +kernel
theorem dX11_beatsAll_10 : decode cX11_beatsAll 10 = .ok (.getfield 7, 3) := by decide +kernel
theorem dX11_beatsAll_13 : decode cX11_beatsAll 13 = .ok (.iconst 1, 1) := by decide +kernel
theorem dX11_beatsAll_14 : decode cX11_beatsAll 14 = .ok (.iaload, 1) := by decide +kernel
theorem dX11_beatsAll_15 : decode cX11_beatsAll 15 = .ok (.invokevirtual 193, 3) := by decide +kernel
theorem dX11_beatsAll_18 : decode cX11_beatsAll 18 = .ok (.istore_n 1, 1) := by decide +kernel
theorem dX11_beatsAll_19 : decode cX11_beatsAll 19 = .ok (.iload_n 1, 1) := by decide +kernel
theorem dX11_beatsAll_20 : decode cX11_beatsAll 20 = .ok (.ifCond .ge 8, 3) := by decide +kernel
theorem dX11_beatsAll_23 : decode cX11_beatsAll 23 = .ok (.ldc 250, 2) := by decide +kernel
theorem dX11_beatsAll_25 : decode cX11_beatsAll 25 = .ok (.goto 4, 3) := by decide +kernel
theorem dX11_beatsAll_28 : decode cX11_beatsAll 28 = .ok (.iload_n 1, 1) := by decide +kernel
theorem dX11_beatsAll_29 : decode cX11_beatsAll 29 = .ok (.ireturn, 1) := by decide +kernel
theorem dX11_losesToAll_0 : decode cX11_losesToAll 0 = .ok (.aload_n 0, 1) := by decide +kernel
theorem dX11_losesToAll_1 : decode cX11_losesToAll 1 = .ok (.invokevirtual 208, 3) := by decide +kernel
theorem dX11_losesToAll_4 : decode cX11_losesToAll 4 = .ok (.aload_n 0, 1) := by decide +kernel
theorem dX11_losesToAll_5 : decode cX11_losesToAll 5 = .ok (.invokevirtual 166, 3) := by decide +kernel
theorem dX11_losesToAll_8 : decode cX11_losesToAll 8 = .ok (.ldc 250, 2) := by decide +kernel
theorem dX11_losesToAll_10 : decode cX11_losesToAll 10 = .ok (.istore_n 1, 1) := by decide +kernel
theorem dX11_losesToAll_11 : decode cX11_losesToAll 11 = .ok (.iconst 0, 1) := by decide +kernel
theorem dX11_losesToAll_12 : decode cX11_losesToAll 12 = .ok (.istore_n 2, 1) := by decide +kernel
theorem dX11_losesToAll_13 : decode cX11_losesToAll 13 = .ok (.iload_n 2, 1) := by decide +kernel
theorem dX11_losesToAll_14 : decode cX11_losesToAll 14 = .ok (.iconst 5, 1) := by decide +kernel
theorem dX11_losesToAll_15 : decode cX11_losesToAll 15 = .ok (.if_icmp .ge 106, 3) := by decide +kernel
theorem dX11_losesToAll_18 : decode cX11_losesToAll 18 = .ok (.aload_n 0, 1) := by decide +kernel
theorem dX11_losesToAll_19 : decode cX11_losesToAll 19 = .ok (.getfield 7, 3) := by decide +kernel
theorem dX11_losesToAll_22 : decode cX11_losesToAll 22 = .ok (.iconst 1, 1) := by decide +kernel
theorem dX11_losesToAll_23 : decode cX11_losesToAll 23 = .ok (.iaload, 1) := by decide +kernel
theorem dX11_losesToAll_24 : decode cX11_losesToAll 24 = .ok (.iload_n 2, 1) := by decide +kernel
theorem dX11_losesToAll_25 : decode cX11_losesToAll 25 = .ok (.invokestatic 74, 3) := by decide +kernel
theorem dX11_losesToAll_28 : decode cX11_losesToAll 28 = .ok (.ifCond .eq 20, 3) := by decide +kernel
theorem dX11_losesToAll_31 : decode cX11_losesToAll 31 = .ok (.aload_n 0, 1) := by decide +kernel
theorem dX11_losesToAll_32 : decode cX11_losesToAll 32 = .ok (.getfield 7, 3) := by decide +kernel
theorem dX11_losesToAll_35 : decode cX11_losesToAll 35 = .ok (.iconst 1, 1) := by decide +kernel
theorem dX11_losesToAll_36 : decode cX11_losesToAll 36 = .ok (.iaload, 1) := by decide +kernel
theorem dX11_losesToAll_37 : decode cX11_losesToAll 37 = .ok (.invokestatic 105, 3) := by decide +kernel
theorem dX11_losesToAll_40 : decode cX11_losesToAll 40 = .ok (.iconst 1, 1) := by decide +kernel
theorem dX11_losesToAll_41 : decode cX11_losesToAll 41 = .ok (.if_icmp .le 7, 3) := by decide +kernel
theorem dX11_losesToAll_44 : decode cX11_losesToAll 44 = .ok (.iconst 1, 1) := by decide +kernel
theorem dX11_losesToAll_45 : decode cX11_losesToAll 45 = .ok (.goto 4, 3) := by decide +kernel
theorem dX11_losesToAll_48 : decode cX11_losesToAll 48 = .ok (.iconst 0, 1) := by decide +kernel
theorem dX11_losesToAll_49 : decode cX11_losesToAll 49 = .ok (.istore_n 3, 1) := by decide +kernel
theorem dX11_losesToAll_50 : decode cX11_losesToAll 50 = .ok (.iconst 0, 1) := by decide +kernel
theorem dX11_losesToAll_51 : decode cX11_losesToAll 51 = .ok (.istore 4, 2) := by decide +kernel
theorem dX11_losesToAll_53 : decode cX11_losesToAll 53 = .ok (.iload 4, 2) := by decide +kernel
theorem dX11_losesToAll_55 : decode cX11_losesToAll 55 = .ok (.iconst 5, 1) := by decide +kernel
theorem dX11_losesToAll_56 : decode cX11_losesToAll 56 = .ok (.if_icmp .ge 49, 3) := by decide +kernel
theorem dX11_losesToAll_59 : decode cX11_losesToAll 59 = .ok (.iload_n 3, 1) := by decide +kernel
theorem dX11_losesToAll_60 : decode cX11_losesToAll 60 = .ok (.ifCond .eq 37, 3) := by decide +kernel
theorem dX11_losesToAll_63 : decode cX11_losesToAll 63 = .ok (.iload 4, 2) := by decide +kernel
theorem dX11_losesToAll_65 : decode cX11_losesToAll 65 = .ok (.iload_n 2, 1) := by decide +kernel
theorem dX11_losesToAll_66 : decode cX11_losesToAll 66 = .ok (.if_icmp .eq 27, 3) := by decide +kernel
theorem dX11_losesToAll_69 : decode cX11_losesToAll 69 = .ok (.aload_n 0, 1) := by decide +kernel
theorem dX11_losesToAll_70 : decode cX11_losesToAll 70 = .ok (.getfield 7, 3) := by decide +kernel
theorem dX11_losesToAll_73 : decode cX11_losesToAll 73 = .ok (.iconst 1, 1) := by decide +kernel
theorem dX11_losesToAll_74 : decode cX11_losesToAll 74 = .ok (.iaload, 1) := by decide +kernel
theorem dX11_losesToAll_75 : decode cX11_losesToAll 75 = .ok (.iload 4, 2) := by decide +kernel
theorem dX11_losesToAll_77 : decode cX11_losesToAll 77 = .ok (.invokestatic 74, 3) := by decide +kernel
theorem dX11_losesToAll_80 : decode cX11_losesToAll 80 = .ok (.ifCond .eq 13, 3) := by decide +kernel
theorem dX11_losesToAll_83 : decode cX11_losesToAll 83 = .ok (.aload_n 0, 1) := by decide +kernel
theorem dX11_losesToAll_84 : decode cX11_losesToAll 84 = .ok (.iload 4, 2) := by decide +kernel
theorem dX11_losesToAll_86 : decode cX11_losesToAll 86 = .ok (.iload_n 2, 1) := by decide +kernel
theorem dX11_losesToAll_87 : decode cX11_losesToAll 87 = .ok (.invokevirtual 95, 3) := by decide +kernel
theorem dX11_losesToAll_90 : decode cX11_losesToAll 90 = .ok (.ifCond .eq 7, 3) := by decide +kernel
theorem dX11_losesToAll_93 : decode cX11_losesToAll 93 = .ok (.iconst 1, 1) := by decide +kernel
theorem dX11_losesToAll_94 : decode cX11_losesToAll 94 = .ok (.goto 4, 3) := by decide +kernel
theorem dX11_losesToAll_97 : decode cX11_losesToAll 97 = .ok (.iconst 0, 1) := by decide +kernel
theorem dX11_losesToAll_98 : decode cX11_losesToAll 98 = .ok (.istore_n 3, 1) := by decide +kernel
theorem dX11_losesToAll_99 : decode cX11_losesToAll 99 = .ok (.iinc 4 1, 3) := by decide +kernel
theorem dX11_losesToAll_102 : decode cX11_losesToAll 102 = .ok (.goto (-49), 3) := by decide +kernel
theorem dX11_losesToAll_105 : decode cX11_losesToAll 105 = .ok (.iload_n 3, 1) := by decide +kernel
theorem dX11_losesToAll_106 : decode cX11_losesToAll 106 = .ok (.ifCond .eq 7, 3) := by decide +kernel
theorem dX11_losesToAll_109 : decode cX11_losesToAll 109 = .ok (.iload_n 2, 1) := by decide +kernel
theorem dX11_losesToAll_110 : decode cX11_losesToAll 110 = .ok (.goto 4, 3) := by decide +kernel
theorem dX11_losesToAll_113 : decode cX11_losesToAll 113 = .ok (.iload_n 1, 1) := by decide +kernel
theorem dX11_losesToAll_114 : decode cX11_losesToAll 114 = .ok (.istore_n 1, 1) := by decide +kernel
theorem dX11_losesToAll_115 : decode cX11_losesToAll 115 = .ok (.iinc 2 1, 3) := by decide +kernel
theorem dX11_losesToAll_118 : decode cX11_losesToAll 118 = .ok (.goto (-105), 3) := by decide +kernel
theorem dX11_losesToAll_121 : decode cX11_losesToAll 121 = .ok (.iload_n 1, 1) := by decide +kernel
theorem dX11_losesToAll_122 : decode cX11_losesToAll 122 = .ok (.ireturn, 1) := by decide +kernel
theorem dX11_isDominant_0 : decode cX11_isDominant 0 = .ok (.iconst 1, 1) := by decide +kernel
theorem dX11_isDominant_1 : decode cX11_isDominant 1 = .ok (.istore_n 2, 1) := by decide +kernel
theorem dX11_isDominant_2 : decode cX11_isDominant 2 = .ok (.iconst 0, 1) := by decide +kernel
theorem dX11_isDominant_3 : decode cX11_isDominant 3 = .ok (.istore_n 3, 1) := by decide +kernel
theorem dX11_isDominant_4 : decode cX11_isDominant 4 = .ok (.iload_n 3, 1) := by decide +kernel
theorem dX11_isDominant_5 : decode cX11_isDominant 5 = .ok (.bipush 25, 2) := by decide +kernel
theorem dX11_isDominant_7 : decode cX11_isDominant 7 = .ok (.if_icmp .ge 67, 3) := by decide +kernel
theorem dX11_isDominant_10 : decode cX11_isDominant 10 = .ok (.iload_n 3, 1) := by decide +kernel
theorem dX11_isDominant_11 : decode cX11_isDominant 11 = .ok (.iconst 5, 1) := by decide +kernel
theorem dX11_isDominant_12 : decode cX11_isDominant 12 = .ok (.idiv, 1) := by decide +kernel
theorem dX11_isDominant_13 : decode cX11_isDominant 13 = .ok (.istore 4, 2) := by decide +kernel
theorem dX11_isDominant_15 : decode cX11_isDominant 15 = .ok (.iload_n 3, 1) := by decide +kernel
theorem dX11_isDominant_16 : decode cX11_isDominant 16 = .ok (.iconst 5, 1) := by decide +kernel
theorem dX11_isDominant_17 : decode cX11_isDominant 17 = .ok (.irem, 1) := by decide +kernel
theorem dX11_isDominant_18 : decode cX11_isDominant 18 = .ok (.istore 5, 2) := by decide +kernel
theorem dX11_isDominant_20 : decode cX11_isDominant 20 = .ok (.iload_n 2, 1) := by decide +kernel
theorem dX11_isDominant_21 : decode cX11_isDominant 21 = .ok (.ifCond .eq 45, 3) := by decide +kernel
theorem dX11_isDominant_24 : decode cX11_isDominant 24 = .ok (.iload_n 1, 1) := by decide +kernel
theorem dX11_isDominant_25 : decode cX11_isDominant 25 = .ok (.iload 4, 2) := by decide +kernel
theorem dX11_isDominant_27 : decode cX11_isDominant 27 = .ok (.invokestatic 74, 3) := by decide +kernel
theorem dX11_isDominant_30 : decode cX11_isDominant 30 = .ok (.ifCond .eq 32, 3) := by decide +kernel
theorem dX11_isDominant_33 : decode cX11_isDominant 33 = .ok (.aload_n 0, 1) := by decide +kernel
theorem dX11_isDominant_34 : decode cX11_isDominant 34 = .ok (.getfield 7, 3) := by decide +kernel
theorem dX11_isDominant_37 : decode cX11_isDominant 37 = .ok (.iconst 1, 1) := by decide +kernel
theorem dX11_isDominant_38 : decode cX11_isDominant 38 = .ok (.iaload, 1) := by decide +kernel
theorem dX11_isDominant_39 : decode cX11_isDominant 39 = .ok (.iload_n 1, 1) := by decide +kernel
theorem dX11_isDominant_40 : decode cX11_isDominant 40 = .ok (.iconst (-1), 1) := by decide +kernel
theorem dX11_isDominant_41 : decode cX11_isDominant 41 = .ok (.ixor, 1) := by decide +kernel
theorem dX11_isDominant_42 : decode cX11_isDominant 42 = .ok (.iand, 1) := by decide +kernel
theorem dX11_isDominant_43 : decode cX11_isDominant 43 = .ok (.iload 5, 2) := by decide +kernel
theorem dX11_isDominant_45 : decode cX11_isDominant 45 = .ok (.invokestatic 74, 3) := by decide +kernel
theorem dX11_isDominant_48 : decode cX11_isDominant 48 = .ok (.ifCond .eq 14, 3) := by decide +kernel
theorem dX11_isDominant_51 : decode cX11_isDominant 51 = .ok (.aload_n 0, 1) := by decide +kernel
theorem dX11_isDominant_52 : decode cX11_isDominant 52 = .ok (.iload 4, 2) := by decide +kernel
theorem dX11_isDominant_54 : decode cX11_isDominant 54 = .ok (.iload 5, 2) := by decide +kernel
theorem dX11_isDominant_56 : decode cX11_isDominant 56 = .ok (.invokevirtual 95, 3) := by decide +kernel
theorem dX11_isDominant_59 : decode cX11_isDominant 59 = .ok (.ifCond .eq 7, 3) := by decide +kernel
theorem dX11_isDominant_62 : decode cX11_isDominant 62 = .ok (.iconst 1, 1) := by decide +kernel
theorem dX11_isDominant_63 : decode cX11_isDominant 63 = .ok (.goto 4, 3) := by decide +kernel
theorem dX11_isDominant_66 : decode cX11_isDominant 66 = .ok (.iconst 0, 1) := by decide +kernel
theorem dX11_isDominant_67 : decode cX11_isDominant 67 = .ok (.istore_n 2, 1) := by decide +kernel
theorem dX11_isDominant_68 : decode cX11_isDominant 68 = .ok (.iinc 3 1, 3) := by decide +kernel
theorem dX11_isDominant_71 : decode cX11_isDominant 71 = .ok (.goto (-67), 3) := by decide +kernel
theorem dX11_isDominant_74 : decode cX11_isDominant 74 = .ok (.iload_n 2, 1) := by decide +kernel
theorem dX11_isDominant_75 : decode cX11_isDominant 75 = .ok (.ireturn, 1) := by decide +kernel
theorem dX11_smith_0 : decode cX11_smith 0 = .ok (.aload_n 0, 1) := by decide +kernel
theorem dX11_smith_1 : decode cX11_smith 1 = .ok (.invokevirtual 208, 3) := by decide +kernel
theorem dX11_smith_4 : decode cX11_smith 4 = .ok (.aload_n 0, 1) := by decide +kernel
theorem dX11_smith_5 : decode cX11_smith 5 = .ok (.invokevirtual 166, 3) := by decide +kernel
theorem dX11_smith_8 : decode cX11_smith 8 = .ok (.aload_n 0, 1) := by decide +kernel
theorem dX11_smith_9 : decode cX11_smith 9 = .ok (.getfield 7, 3) := by decide +kernel
theorem dX11_smith_12 : decode cX11_smith 12 = .ok (.iconst 1, 1) := by decide +kernel
theorem dX11_smith_13 : decode cX11_smith 13 = .ok (.iaload, 1) := by decide +kernel
theorem dX11_smith_14 : decode cX11_smith 14 = .ok (.istore_n 1, 1) := by decide +kernel
theorem dX11_smith_15 : decode cX11_smith 15 = .ok (.iconst 1, 1) := by decide +kernel
theorem dX11_smith_16 : decode cX11_smith 16 = .ok (.istore_n 2, 1) := by decide +kernel
theorem dX11_smith_17 : decode cX11_smith 17 = .ok (.iload_n 2, 1) := by decide +kernel
theorem dX11_smith_18 : decode cX11_smith 18 = .ok (.bipush 32, 2) := by decide +kernel
theorem dX11_smith_20 : decode cX11_smith 20 = .ok (.if_icmp .ge 57, 3) := by decide +kernel
theorem dX11_smith_23 : decode cX11_smith 23 = .ok (.iload_n 2, 1) := by decide +kernel
theorem dX11_smith_24 : decode cX11_smith 24 = .ok (.aload_n 0, 1) := by decide +kernel
theorem dX11_smith_25 : decode cX11_smith 25 = .ok (.getfield 7, 3) := by decide +kernel
theorem dX11_smith_28 : decode cX11_smith 28 = .ok (.iconst 1, 1) := by decide +kernel
theorem dX11_smith_29 : decode cX11_smith 29 = .ok (.iaload, 1) := by decide +kernel
theorem dX11_smith_30 : decode cX11_smith 30 = .ok (.iconst (-1), 1) := by decide +kernel
theorem dX11_smith_31 : decode cX11_smith 31 = .ok (.ixor, 1) := by decide +kernel
theorem dX11_smith_32 : decode cX11_smith 32 = .ok (.iand, 1) := by decide +kernel
theorem dX11_smith_33 : decode cX11_smith 33 = .ok (.ifCond .ne 26, 3) := by decide +kernel
theorem dX11_smith_36 : decode cX11_smith 36 = .ok (.iload_n 2, 1) := by decide +kernel
theorem dX11_smith_37 : decode cX11_smith 37 = .ok (.invokestatic 105, 3) := by decide +kernel
theorem dX11_smith_40 : decode cX11_smith 40 = .ok (.iload_n 1, 1) := by decide +kernel
theorem dX11_smith_41 : decode cX11_smith 41 = .ok (.invokestatic 105, 3) := by decide +kernel
theorem dX11_smith_44 : decode cX11_smith 44 = .ok (.if_icmp .ge 15, 3) := by decide +kernel
theorem dX11_smith_47 : decode cX11_smith 47 = .ok (.aload_n 0, 1) := by decide +kernel
theorem dX11_smith_48 : decode cX11_smith 48 = .ok (.iload_n 2, 1) := by decide +kernel
theorem dX11_smith_49 : decode cX11_smith 49 = .ok (.invokevirtual 251, 3) := by decide +kernel
theorem dX11_smith_52 : decode cX11_smith 52 = .ok (.ifCond .eq 7, 3) := by decide +kernel
theorem dX11_smith_55 : decode cX11_smith 55 = .ok (.iconst 1, 1) := by decide +kernel
theorem dX11_smith_56 : decode cX11_smith 56 = .ok (.goto 4, 3) := by decide +kernel
theorem dX11_smith_59 : decode cX11_smith 59 = .ok (.iconst 0, 1) := by decide +kernel
theorem dX11_smith_60 : decode cX11_smith 60 = .ok (.istore_n 3, 1) := by decide +kernel
theorem dX11_smith_61 : decode cX11_smith 61 = .ok (.iload_n 3, 1) := by decide +kernel
theorem dX11_smith_62 : decode cX11_smith 62 = .ok (.ifCond .eq 7, 3) := by decide +kernel
theorem dX11_smith_65 : decode cX11_smith 65 = .ok (.iload_n 2, 1) := by decide +kernel
theorem dX11_smith_66 : decode cX11_smith 66 = .ok (.goto 4, 3) := by decide +kernel
theorem dX11_smith_69 : decode cX11_smith 69 = .ok (.iload_n 1, 1) := by decide +kernel
theorem dX11_smith_70 : decode cX11_smith 70 = .ok (.istore_n 1, 1) := by decide +kernel
theorem dX11_smith_71 : decode cX11_smith 71 = .ok (.iinc 2 1, 3) := by decide +kernel
theorem dX11_smith_74 : decode cX11_smith 74 = .ok (.goto (-57), 3) := by decide +kernel
theorem dX11_smith_77 : decode cX11_smith 77 = .ok (.iload_n 1, 1) := by decide +kernel
theorem dX11_smith_78 : decode cX11_smith 78 = .ok (.ireturn, 1) := by decide +kernel
theorem dX11_strength_0 : decode cX11_strength 0 = .ok (.aload_n 0, 1) := by decide +kernel
theorem dX11_strength_1 : decode cX11_strength 1 = .ok (.iload_n 1, 1) := by decide +kernel
theorem dX11_strength_2 : decode cX11_strength 2 = .ok (.iload_n 2, 1) := by decide +kernel
theorem dX11_strength_3 : decode cX11_strength 3 = .ok (.invokevirtual 241, 3) := by decide +kernel
theorem dX11_strength_6 : decode cX11_strength 6 = .ok (.istore_n 3, 1) := by decide +kernel
theorem dX11_strength_7 : decode cX11_strength 7 = .ok (.iload_n 3, 1) := by decide +kernel
theorem dX11_strength_8 : decode cX11_strength 8 = .ok (.ifCond .lt 8, 3) := by decide +kernel
theorem dX11_strength_11 : decode cX11_strength 11 = .ok (.iload_n 1, 1) := by decide +kernel
theorem dX11_strength_12 : decode cX11_strength 12 = .ok (.iload_n 2, 1) := by decide +kernel
theorem dX11_strength_13 : decode cX11_strength 13 = .ok (.if_icmp .ne 14, 3) := by decide +kernel
theorem dX11_strength_16 : decode cX11_strength 16 = .ok (.iload_n 3, 1) := by decide +kernel
theorem dX11_strength_17 : decode cX11_strength 17 = .ok (.ifCond .ge 7, 3) := by decide +kernel
theorem dX11_strength_20 : decode cX11_strength 20 = .ok (.iload_n 3, 1) := by decide +kernel
theorem dX11_strength_21 : decode cX11_strength 21 = .ok (.goto 5, 3) := by decide +kernel
theorem dX11_strength_24 : decode cX11_strength 24 = .ok (.ldc 240, 2) := by decide +kernel
theorem dX11_strength_26 : decode cX11_strength 26 = .ok (.ireturn, 1) := by decide +kernel
theorem dX11_strength_27 : decode cX11_strength 27 = .ok (.aload_n 0, 1) := by decide +kernel
theorem dX11_strength_28 : decode cX11_strength 28 = .ok (.invokevirtual 208, 3) := by decide +kernel
theorem dX11_strength_31 : decode cX11_strength 31 = .ok (.aload_n 0, 1) := by decide +kernel
theorem dX11_strength_32 : decode cX11_strength 32 = .ok (.invokevirtual 166, 3) := by decide +kernel
theorem dX11_strength_35 : decode cX11_strength 35 = .ok (.aload_n 0, 1) := by decide +kernel
theorem dX11_strength_36 : decode cX11_strength 36 = .ok (.aload_n 0, 1) := by decide +kernel
theorem dX11_strength_37 : decode cX11_strength 37 = .ok (.getfield 7, 3) := by decide +kernel
theorem dX11_strength_40 : decode cX11_strength 40 = .ok (.iconst 1, 1) := by decide +kernel
theorem dX11_strength_41 : decode cX11_strength 41 = .ok (.iaload, 1) := by decide +kernel
theorem dX11_strength_42 : decode cX11_strength 42 = .ok (.invokevirtual 122, 3) := by decide +kernel
theorem dX11_strength_45 : decode cX11_strength 45 = .ok (.aload_n 0, 1) := by decide +kernel
theorem dX11_strength_46 : decode cX11_strength 46 = .ok (.getfield 28, 3) := by decide +kernel
theorem dX11_strength_49 : decode cX11_strength 49 = .ok (.iconst 5, 1) := by decide +kernel
theorem dX11_strength_50 : decode cX11_strength 50 = .ok (.iload_n 1, 1) := by decide +kernel
theorem dX11_strength_51 : decode cX11_strength 51 = .ok (.imul, 1) := by decide +kernel
theorem dX11_strength_52 : decode cX11_strength 52 = .ok (.iload_n 2, 1) := by decide +kernel
theorem dX11_strength_53 : decode cX11_strength 53 = .ok (.iadd, 1) := by decide +kernel
theorem dX11_strength_54 : decode cX11_strength 54 = .ok (.iaload, 1) := by decide +kernel
theorem dX11_strength_55 : decode cX11_strength 55 = .ok (.ireturn, 1) := by decide +kernel
theorem dX11_isLocked_0 : decode cX11_isLocked 0 = .ok (.aload_n 0, 1) := by decide +kernel
theorem dX11_isLocked_1 : decode cX11_isLocked 1 = .ok (.iload_n 1, 1) := by decide +kernel
theorem dX11_isLocked_2 : decode cX11_isLocked 2 = .ok (.iload_n 2, 1) := by decide +kernel
theorem dX11_isLocked_3 : decode cX11_isLocked 3 = .ok (.invokevirtual 241, 3) := by decide +kernel
theorem dX11_isLocked_6 : decode cX11_isLocked 6 = .ok (.istore_n 3, 1) := by decide +kernel
theorem dX11_isLocked_7 : decode cX11_isLocked 7 = .ok (.iload_n 3, 1) := by decide +kernel
theorem dX11_isLocked_8 : decode cX11_isLocked 8 = .ok (.ifCond .ge 5, 3) := by decide +kernel
theorem dX11_isLocked_11 : decode cX11_isLocked 11 = .ok (.iload_n 3, 1) := by decide +kernel
theorem dX11_isLocked_12 : decode cX11_isLocked 12 = .ok (.ireturn, 1) := by decide +kernel
theorem dX11_isLocked_13 : decode cX11_isLocked 13 = .ok (.aload_n 0, 1) := by decide +kernel
theorem dX11_isLocked_14 : decode cX11_isLocked 14 = .ok (.invokevirtual 208, 3) := by decide +kernel
theorem dX11_isLocked_17 : decode cX11_isLocked 17 = .ok (.aload_n 0, 1) := by decide +kernel
theorem dX11_isLocked_18 : decode cX11_isLocked 18 = .ok (.invokevirtual 166, 3) := by decide +kernel
theorem dX11_isLocked_21 : decode cX11_isLocked 21 = .ok (.aload_n 0, 1) := by decide +kernel
theorem dX11_isLocked_22 : decode cX11_isLocked 22 = .ok (.aload_n 0, 1) := by decide +kernel
theorem dX11_isLocked_23 : decode cX11_isLocked 23 = .ok (.getfield 7, 3) := by decide +kernel
theorem dX11_isLocked_26 : decode cX11_isLocked 26 = .ok (.iconst 1, 1) := by decide +kernel
theorem dX11_isLocked_27 : decode cX11_isLocked 27 = .ok (.iaload, 1) := by decide +kernel
theorem dX11_isLocked_28 : decode cX11_isLocked 28 = .ok (.invokevirtual 128, 3) := by decide +kernel
theorem dX11_isLocked_31 : decode cX11_isLocked 31 = .ok (.aload_n 0, 1) := by decide +kernel
theorem dX11_isLocked_32 : decode cX11_isLocked 32 = .ok (.getfield 31, 3) := by decide +kernel
theorem dX11_isLocked_35 : decode cX11_isLocked 35 = .ok (.iconst 5, 1) := by decide +kernel
theorem dX11_isLocked_36 : decode cX11_isLocked 36 = .ok (.iload_n 1, 1) := by decide +kernel
theorem dX11_isLocked_37 : decode cX11_isLocked 37 = .ok (.imul, 1) := by decide +kernel
theorem dX11_isLocked_38 : decode cX11_isLocked 38 = .ok (.iload_n 2, 1) := by decide +kernel
theorem dX11_isLocked_39 : decode cX11_isLocked 39 = .ok (.iadd, 1) := by decide +kernel
theorem dX11_isLocked_40 : decode cX11_isLocked 40 = .ok (.baload, 1) := by decide +kernel
theorem dX11_isLocked_41 : decode cX11_isLocked 41 = .ok (.ifCond .eq 7, 3) := by decide +kernel
theorem dX11_isLocked_44 : decode cX11_isLocked 44 = .ok (.iconst 1, 1) := by decide +kernel
theorem dX11_isLocked_45 : decode cX11_isLocked 45 = .ok (.goto 4, 3) := by decide +kernel
theorem dX11_isLocked_48 : decode cX11_isLocked 48 = .ok (.iconst 0, 1) := by decide +kernel
theorem dX11_isLocked_49 : decode cX11_isLocked 49 = .ok (.ireturn, 1) := by decide +kernel
theorem dX11_hasRounds_0 : decode cX11_hasRounds 0 = .ok (.iload_n 0, 1) := by decide +kernel
theorem dX11_hasRounds_1 : decode cX11_hasRounds 1 = .ok (.bipush 6, 2) := by decide +kernel
theorem dX11_hasRounds_3 : decode cX11_hasRounds 3 = .ok (.if_icmp .eq 9, 3) := by decide +kernel
theorem dX11_hasRounds_6 : decode cX11_hasRounds 6 = .ok (.iload_n 0, 1) := by decide +kernel
theorem dX11_hasRounds_7 : decode cX11_hasRounds 7 = .ok (.bipush 7, 2) := by decide +kernel
theorem dX11_hasRounds_9 : decode cX11_hasRounds 9 = .ok (.if_icmp .ne 7, 3) := by decide +kernel
theorem dX11_hasRounds_12 : decode cX11_hasRounds 12 = .ok (.iconst 1, 1) := by decide +kernel
theorem dX11_hasRounds_13 : decode cX11_hasRounds 13 = .ok (.goto 4, 3) := by decide +kernel
theorem dX11_hasRounds_16 : decode cX11_hasRounds 16 = .ok (.iconst 0, 1) := by decide +kernel
theorem dX11_hasRounds_17 : decode cX11_hasRounds 17 = .ok (.ireturn, 1) := by decide +kernel
theorem dX11_rounds_0 : decode cX11_rounds 0 = .ok (.iload_n 1, 1) := by decide +kernel
theorem dX11_rounds_1 : decode cX11_rounds 1 = .ok (.invokestatic 244, 3) := by decide +kernel
theorem dX11_rounds_4 : decode cX11_rounds 4 = .ok (.ifCond .ne 6, 3) := by decide +kernel
theorem dX11_rounds_7 : decode cX11_rounds 7 = .ok (.ldc 236, 2) := by decide +kernel
theorem dX11_rounds_9 : decode cX11_rounds 9 = .ok (.ireturn, 1) := by decide +kernel
theorem dX11_rounds_10 : decode cX11_rounds 10 = .ok (.iload_n 1, 1) := by decide +kernel
theorem dX11_rounds_11 : decode cX11_rounds 11 = .ok (.invokestatic 254, 3) := by decide +kernel
theorem dX11_rounds_14 : decode cX11_rounds 14 = .ok (.ifCond .ne 6, 3) := by decide +kernel
theorem dX11_rounds_17 : decode cX11_rounds 17 = .ok (.ldc 240, 2) := by decide +kernel
theorem dX11_rounds_19 : decode cX11_rounds 19 = .ok (.ireturn, 1) := by decide +kernel
theorem dX11_rounds_20 : decode cX11_rounds 20 = .ok (.aload_n 0, 1) := by decide +kernel
theorem dX11_rounds_21 : decode cX11_rounds 21 = .ok (.iload_n 1, 1) := by decide +kernel
theorem dX11_rounds_22 : decode cX11_rounds 22 = .ok (.invokevirtual 247, 3) := by decide +kernel
theorem dX11_rounds_25 : decode cX11_rounds 25 = .ok (.istore_n 2, 1) := by decide +kernel
theorem dX11_rounds_26 : decode cX11_rounds 26 = .ok (.aload_n 0, 1) := by decide +kernel
theorem dX11_rounds_27 : decode cX11_rounds 27 = .ok (.getfield 131, 3) := by decide +kernel
theorem dX11_rounds_30 : decode cX11_rounds 30 = .ok (.ireturn, 1) := by decide +kernel
theorem dX11_leaves_0 : decode cX11_leaves 0 = .ok (.aload_n 0, 1) := by decide +kernel
theorem dX11_leaves_1 : decode cX11_leaves 1 = .ok (.iload_n 1, 1) := by decide +kernel
theorem dX11_leaves_2 : decode cX11_leaves 2 = .ok (.invokevirtual 257, 3) := by decide +kernel
theorem dX11_leaves_5 : decode cX11_leaves 5 = .ok (.istore_n 3, 1) := by decide +kernel
theorem dX11_leaves_6 : decode cX11_leaves 6 = .ok (.iload_n 3, 1) := by decide +kernel
theorem dX11_leaves_7 : decode cX11_leaves 7 = .ok (.ifCond .ge 5, 3) := by decide +kernel
theorem dX11_leaves_10 : decode cX11_leaves 10 = .ok (.iload_n 3, 1) := by decide +kernel
theorem dX11_leaves_11 : decode cX11_leaves 11 = .ok (.ireturn, 1) := by decide +kernel
theorem dX11_leaves_12 : decode cX11_leaves 12 = .ok (.iload_n 2, 1) := by decide +kernel
theorem dX11_leaves_13 : decode cX11_leaves 13 = .ok (.iconst 0, 1) := by decide +kernel
theorem dX11_leaves_14 : decode cX11_leaves 14 = .ok (.iload_n 3, 1) := by decide +kernel
theorem dX11_leaves_15 : decode cX11_leaves 15 = .ok (.iconst 1, 1) := by decide +kernel
theorem dX11_leaves_16 : decode cX11_leaves 16 = .ok (.isub, 1) := by decide +kernel
theorem dX11_leaves_17 : decode cX11_leaves 17 = .ok (.invokestatic 70, 3) := by decide +kernel
theorem dX11_leaves_20 : decode cX11_leaves 20 = .ok (.ifCond .eq 12, 3) := by decide +kernel
theorem dX11_leaves_23 : decode cX11_leaves 23 = .ok (.aload_n 0, 1) := by decide +kernel
theorem dX11_leaves_24 : decode cX11_leaves 24 = .ok (.getfield 38, 3) := by decide +kernel
theorem dX11_leaves_27 : decode cX11_leaves 27 = .ok (.iload_n 2, 1) := by decide +kernel
theorem dX11_leaves_28 : decode cX11_leaves 28 = .ok (.iaload, 1) := by decide +kernel
theorem dX11_leaves_29 : decode cX11_leaves 29 = .ok (.goto 5, 3) := by decide +kernel
theorem dX11_leaves_32 : decode cX11_leaves 32 = .ok (.ldc 236, 2) := by decide +kernel
theorem dX11_leaves_34 : decode cX11_leaves 34 = .ok (.ireturn, 1) := by decide +kernel
theorem dX11_tally_0 : decode cX11_tally 0 = .ok (.iload_n 1, 1) := by decide +kernel
theorem dX11_tally_1 : decode cX11_tally 1 = .ok (.invokestatic 244, 3) := by decide +kernel
theorem dX11_tally_4 : decode cX11_tally 4 = .ok (.ifCond .eq 10, 3) := by decide +kernel
theorem dX11_tally_7 : decode cX11_tally 7 = .ok (.iload_n 3, 1) := by decide +kernel
theorem dX11_tally_8 : decode cX11_tally 8 = .ok (.invokestatic 214, 3) := by decide +kernel
theorem dX11_tally_11 : decode cX11_tally 11 = .ok (.ifCond .ne 6, 3) := by decide +kernel
theorem dX11_tally_14 : decode cX11_tally 14 = .ok (.ldc 236, 2) := by decide +kernel
theorem dX11_tally_16 : decode cX11_tally 16 = .ok (.ireturn, 1) := by decide +kernel
theorem dX11_tally_17 : decode cX11_tally 17 = .ok (.aload_n 0, 1) := by decide +kernel
theorem dX11_tally_18 : decode cX11_tally 18 = .ok (.iload_n 1, 1) := by decide +kernel
theorem dX11_tally_19 : decode cX11_tally 19 = .ok (.invokevirtual 257, 3) := by decide +kernel
theorem dX11_tally_22 : decode cX11_tally 22 = .ok (.istore 4, 2) := by decide +kernel
theorem dX11_tally_24 : decode cX11_tally 24 = .ok (.iload 4, 2) := by decide +kernel
theorem dX11_tally_26 : decode cX11_tally 26 = .ok (.ifCond .ge 6, 3) := by decide +kernel
theorem dX11_tally_29 : decode cX11_tally 29 = .ok (.iload 4, 2) := by decide +kernel
theorem dX11_tally_31 : decode cX11_tally 31 = .ok (.ireturn, 1) := by decide +kernel
theorem dX11_tally_32 : decode cX11_tally 32 = .ok (.iload_n 2, 1) := by decide +kernel
theorem dX11_tally_33 : decode cX11_tally 33 = .ok (.iconst 0, 1) := by decide +kernel
theorem dX11_tally_34 : decode cX11_tally 34 = .ok (.iload 4, 2) := by decide +kernel
theorem dX11_tally_36 : decode cX11_tally 36 = .ok (.iconst 1, 1) := by decide +kernel
theorem dX11_tally_37 : decode cX11_tally 37 = .ok (.isub, 1) := by decide +kernel
theorem dX11_tally_38 : decode cX11_tally 38 = .ok (.invokestatic 70, 3) := by decide +kernel
theorem dX11_tally_41 : decode cX11_tally 41 = .ok (.ifCond .ne 6, 3) := by decide +kernel
theorem dX11_tally_44 : decode cX11_tally 44 = .ok (.ldc 236, 2) := by decide +kernel
theorem dX11_tally_46 : decode cX11_tally 46 = .ok (.ireturn, 1) := by decide +kernel
theorem dX11_tally_47 : decode cX11_tally 47 = .ok (.aload_n 0, 1) := by decide +kernel
theorem dX11_tally_48 : decode cX11_tally 48 = .ok (.getfield 44, 3) := by decide +kernel
theorem dX11_tally_51 : decode cX11_tally 51 = .ok (.iload_n 2, 1) := by decide +kernel
theorem dX11_tally_52 : decode cX11_tally 52 = .ok (.iaload, 1) := by decide +kernel
theorem dX11_tally_53 : decode cX11_tally 53 = .ok (.iload_n 3, 1) := by decide +kernel
theorem dX11_tally_54 : decode cX11_tally 54 = .ok (.invokestatic 74, 3) := by decide +kernel
theorem dX11_tally_57 : decode cX11_tally 57 = .ok (.ifCond .eq 16, 3) := by decide +kernel
theorem dX11_tally_60 : decode cX11_tally 60 = .ok (.aload_n 0, 1) := by decide +kernel
theorem dX11_tally_61 : decode cX11_tally 61 = .ok (.getfield 41, 3) := by decide +kernel
theorem dX11_tally_64 : decode cX11_tally 64 = .ok (.iconst 5, 1) := by decide +kernel
theorem dX11_tally_65 : decode cX11_tally 65 = .ok (.iload_n 2, 1) := by decide +kernel
theorem dX11_tally_66 : decode cX11_tally 66 = .ok (.imul, 1) := by decide +kernel
theorem dX11_tally_67 : decode cX11_tally 67 = .ok (.iload_n 3, 1) := by decide +kernel
theorem dX11_tally_68 : decode cX11_tally 68 = .ok (.iadd, 1) := by decide +kernel
theorem dX11_tally_69 : decode cX11_tally 69 = .ok (.iaload, 1) := by decide +kernel
theorem dX11_tally_70 : decode cX11_tally 70 = .ok (.goto 5, 3) := by decide +kernel
theorem dX11_tally_73 : decode cX11_tally 73 = .ok (.ldc 250, 2) := by decide +kernel
theorem dX11_tally_75 : decode cX11_tally 75 = .ok (.ireturn, 1) := by decide +kernel
theorem dX11_kemenyValue_0 : decode cX11_kemenyValue 0 = .ok (.aload_n 0, 1) := by decide +kernel
theorem dX11_kemenyValue_1 : decode cX11_kemenyValue 1 = .ok (.bipush 11, 2) := by decide +kernel
theorem dX11_kemenyValue_3 : decode cX11_kemenyValue 3 = .ok (.invokevirtual 247, 3) := by decide +kernel
theorem dX11_kemenyValue_6 : decode cX11_kemenyValue 6 = .ok (.istore_n 1, 1) := by decide +kernel
theorem dX11_kemenyValue_7 : decode cX11_kemenyValue 7 = .ok (.iload_n 1, 1) := by decide +kernel
theorem dX11_kemenyValue_8 : decode cX11_kemenyValue 8 = .ok (.ifCond .ge 7, 3) := by decide +kernel
theorem dX11_kemenyValue_11 : decode cX11_kemenyValue 11 = .ok (.iconst 0, 1) := by decide +kernel
theorem dX11_kemenyValue_12 : decode cX11_kemenyValue 12 = .ok (.goto 7, 3) := by decide +kernel
theorem dX11_kemenyValue_15 : decode cX11_kemenyValue 15 = .ok (.aload_n 0, 1) := by decide +kernel
theorem dX11_kemenyValue_16 : decode cX11_kemenyValue 16 = .ok (.getfield 156, 3) := by decide +kernel
theorem dX11_kemenyValue_19 : decode cX11_kemenyValue 19 = .ok (.ireturn, 1) := by decide +kernel
theorem dX11_kemeny_0 : decode cX11_kemeny 0 = .ok (.aload_n 0, 1) := by decide +kernel
theorem dX11_kemeny_1 : decode cX11_kemeny 1 = .ok (.bipush 11, 2) := by decide +kernel
theorem dX11_kemeny_3 : decode cX11_kemeny 3 = .ok (.invokevirtual 247, 3) := by decide +kernel
theorem dX11_kemeny_6 : decode cX11_kemeny 6 = .ok (.istore_n 2, 1) := by decide +kernel
theorem dX11_kemeny_7 : decode cX11_kemeny 7 = .ok (.iload_n 1, 1) := by decide +kernel
theorem dX11_kemeny_8 : decode cX11_kemeny 8 = .ok (.iconst 0, 1) := by decide +kernel
theorem dX11_kemeny_9 : decode cX11_kemeny 9 = .ok (.aload_n 0, 1) := by decide +kernel
theorem dX11_kemeny_10 : decode cX11_kemeny 10 = .ok (.getfield 7, 3) := by decide +kernel
theorem dX11_kemeny_13 : decode cX11_kemeny 13 = .ok (.iconst 1, 1) := by decide +kernel
theorem dX11_kemeny_14 : decode cX11_kemeny 14 = .ok (.iaload, 1) := by decide +kernel
theorem dX11_kemeny_15 : decode cX11_kemeny 15 = .ok (.invokestatic 105, 3) := by decide +kernel
theorem dX11_kemeny_18 : decode cX11_kemeny 18 = .ok (.iconst 1, 1) := by decide +kernel
theorem dX11_kemeny_19 : decode cX11_kemeny 19 = .ok (.isub, 1) := by decide +kernel
theorem dX11_kemeny_20 : decode cX11_kemeny 20 = .ok (.invokestatic 70, 3) := by decide +kernel
theorem dX11_kemeny_23 : decode cX11_kemeny 23 = .ok (.ifCond .eq 12, 3) := by decide +kernel
theorem dX11_kemeny_26 : decode cX11_kemeny 26 = .ok (.aload_n 0, 1) := by decide +kernel
theorem dX11_kemeny_27 : decode cX11_kemeny 27 = .ok (.getfield 50, 3) := by decide +kernel
theorem dX11_kemeny_30 : decode cX11_kemeny 30 = .ok (.iload_n 1, 1) := by decide +kernel
theorem dX11_kemeny_31 : decode cX11_kemeny 31 = .ok (.iaload, 1) := by decide +kernel
theorem dX11_kemeny_32 : decode cX11_kemeny 32 = .ok (.goto 5, 3) := by decide +kernel
theorem dX11_kemeny_35 : decode cX11_kemeny 35 = .ok (.ldc 236, 2) := by decide +kernel
theorem dX11_kemeny_37 : decode cX11_kemeny 37 = .ok (.ireturn, 1) := by decide +kernel
theorem dX11_favourite_0 : decode cX11_favourite 0 = .ok (.aload_n 0, 1) := by decide +kernel
theorem dX11_favourite_1 : decode cX11_favourite 1 = .ok (.getfield 7, 3) := by decide +kernel
theorem dX11_favourite_4 : decode cX11_favourite 4 = .ok (.iconst 1, 1) := by decide +kernel
theorem dX11_favourite_5 : decode cX11_favourite 5 = .ok (.iaload, 1) := by decide +kernel
theorem dX11_favourite_6 : decode cX11_favourite 6 = .ok (.ifCond .ne 6, 3) := by decide +kernel
theorem dX11_favourite_9 : decode cX11_favourite 9 = .ok (.ldc 250, 2) := by decide +kernel
theorem dX11_favourite_11 : decode cX11_favourite 11 = .ok (.ireturn, 1) := by decide +kernel
theorem dX11_favourite_12 : decode cX11_favourite 12 = .ok (.iconst 0, 1) := by decide +kernel
theorem dX11_favourite_13 : decode cX11_favourite 13 = .ok (.istore_n 1, 1) := by decide +kernel
theorem dX11_favourite_14 : decode cX11_favourite 14 = .ok (.iload_n 1, 1) := by decide +kernel
theorem dX11_favourite_15 : decode cX11_favourite 15 = .ok (.iconst 5, 1) := by decide +kernel
theorem dX11_favourite_16 : decode cX11_favourite 16 = .ok (.if_icmp .ge 16, 3) := by decide +kernel
theorem dX11_favourite_19 : decode cX11_favourite 19 = .ok (.aload_n 0, 1) := by decide +kernel
theorem dX11_favourite_20 : decode cX11_favourite 20 = .ok (.getfield 53, 3) := by decide +kernel
theorem dX11_favourite_23 : decode cX11_favourite 23 = .ok (.iload_n 1, 1) := by decide +kernel
theorem dX11_favourite_24 : decode cX11_favourite 24 = .ok (.iconst 0, 1) := by decide +kernel
theorem dX11_favourite_25 : decode cX11_favourite 25 = .ok (.iastore, 1) := by decide +kernel
theorem dX11_favourite_26 : decode cX11_favourite 26 = .ok (.iinc 1 1, 3) := by decide +kernel
theorem dX11_favourite_29 : decode cX11_favourite 29 = .ok (.goto (-15), 3) := by decide +kernel
theorem dX11_favourite_32 : decode cX11_favourite 32 = .ok (.iconst 0, 1) := by decide +kernel
theorem dX11_favourite_33 : decode cX11_favourite 33 = .ok (.istore_n 1, 1) := by decide +kernel
theorem dX11_favourite_34 : decode cX11_favourite 34 = .ok (.iload_n 1, 1) := by decide +kernel
theorem dX11_favourite_35 : decode cX11_favourite 35 = .ok (.bipush 12, 2) := by decide +kernel
theorem dX11_favourite_37 : decode cX11_favourite 37 = .ok (.if_icmp .ge 23, 3) := by decide +kernel
theorem dX11_favourite_40 : decode cX11_favourite 40 = .ok (.aload_n 0, 1) := by decide +kernel
theorem dX11_favourite_41 : decode cX11_favourite 41 = .ok (.getfield 53, 3) := by decide +kernel
theorem dX11_favourite_44 : decode cX11_favourite 44 = .ok (.aload_n 0, 1) := by decide +kernel
theorem dX11_favourite_45 : decode cX11_favourite 45 = .ok (.iload_n 1, 1) := by decide +kernel
theorem dX11_favourite_46 : decode cX11_favourite 46 = .ok (.invokevirtual 247, 3) := by decide +kernel
theorem dX11_favourite_49 : decode cX11_favourite 49 = .ok (.dup2, 1) := by decide +kernel
theorem dX11_favourite_50 : decode cX11_favourite 50 = .ok (.iaload, 1) := by decide +kernel
theorem dX11_favourite_51 : decode cX11_favourite 51 = .ok (.iconst 1, 1) := by decide +kernel
theorem dX11_favourite_52 : decode cX11_favourite 52 = .ok (.iadd, 1) := by decide +kernel
theorem dX11_favourite_53 : decode cX11_favourite 53 = .ok (.iastore, 1) := by decide +kernel
theorem dX11_favourite_54 : decode cX11_favourite 54 = .ok (.iinc 1 1, 3) := by decide +kernel
theorem dX11_favourite_57 : decode cX11_favourite 57 = .ok (.goto (-23), 3) := by decide +kernel
theorem dX11_favourite_60 : decode cX11_favourite 60 = .ok (.iconst 0, 1) := by decide +kernel
theorem dX11_favourite_61 : decode cX11_favourite 61 = .ok (.istore_n 1, 1) := by decide +kernel
theorem dX11_favourite_62 : decode cX11_favourite 62 = .ok (.iconst 1, 1) := by decide +kernel
theorem dX11_favourite_63 : decode cX11_favourite 63 = .ok (.istore_n 2, 1) := by decide +kernel
theorem dX11_favourite_64 : decode cX11_favourite 64 = .ok (.iload_n 2, 1) := by decide +kernel
theorem dX11_favourite_65 : decode cX11_favourite 65 = .ok (.iconst 5, 1) := by decide +kernel
theorem dX11_favourite_66 : decode cX11_favourite 66 = .ok (.if_icmp .ge 30, 3) := by decide +kernel
theorem dX11_favourite_69 : decode cX11_favourite 69 = .ok (.aload_n 0, 1) := by decide +kernel
theorem dX11_favourite_70 : decode cX11_favourite 70 = .ok (.getfield 53, 3) := by decide +kernel
theorem dX11_favourite_73 : decode cX11_favourite 73 = .ok (.iload_n 2, 1) := by decide +kernel
theorem dX11_favourite_74 : decode cX11_favourite 74 = .ok (.iaload, 1) := by decide +kernel
theorem dX11_favourite_75 : decode cX11_favourite 75 = .ok (.aload_n 0, 1) := by decide +kernel
theorem dX11_favourite_76 : decode cX11_favourite 76 = .ok (.getfield 53, 3) := by decide +kernel
theorem dX11_favourite_79 : decode cX11_favourite 79 = .ok (.iload_n 1, 1) := by decide +kernel
theorem dX11_favourite_80 : decode cX11_favourite 80 = .ok (.iaload, 1) := by decide +kernel
theorem dX11_favourite_81 : decode cX11_favourite 81 = .ok (.if_icmp .le 7, 3) := by decide +kernel
theorem dX11_favourite_84 : decode cX11_favourite 84 = .ok (.iload_n 2, 1) := by decide +kernel
theorem dX11_favourite_85 : decode cX11_favourite 85 = .ok (.goto 4, 3) := by decide +kernel
theorem dX11_favourite_88 : decode cX11_favourite 88 = .ok (.iload_n 1, 1) := by decide +kernel
theorem dX11_favourite_89 : decode cX11_favourite 89 = .ok (.istore_n 1, 1) := by decide +kernel
theorem dX11_favourite_90 : decode cX11_favourite 90 = .ok (.iinc 2 1, 3) := by decide +kernel
theorem dX11_favourite_93 : decode cX11_favourite 93 = .ok (.goto (-29), 3) := by decide +kernel
theorem dX11_favourite_96 : decode cX11_favourite 96 = .ok (.iload_n 1, 1) := by decide +kernel
theorem dX11_favourite_97 : decode cX11_favourite 97 = .ok (.ireturn, 1) := by decide +kernel
theorem dX11_isBetter_0 : decode cX11_isBetter 0 = .ok (.aload_n 0, 1) := by decide +kernel
theorem dX11_isBetter_1 : decode cX11_isBetter 1 = .ok (.iload_n 1, 1) := by decide +kernel
theorem dX11_isBetter_2 : decode cX11_isBetter 2 = .ok (.invokevirtual 85, 3) := by decide +kernel
theorem dX11_isBetter_5 : decode cX11_isBetter 5 = .ok (.aload_n 0, 1) := by decide +kernel
theorem dX11_isBetter_6 : decode cX11_isBetter 6 = .ok (.iload_n 1, 1) := by decide +kernel
theorem dX11_isBetter_7 : decode cX11_isBetter 7 = .ok (.iload_n 2, 1) := by decide +kernel
theorem dX11_isBetter_8 : decode cX11_isBetter 8 = .ok (.iload_n 3, 1) := by decide +kernel
theorem dX11_isBetter_9 : decode cX11_isBetter 9 = .ok (.invokevirtual 89, 3) := by decide +kernel
theorem dX11_isBetter_12 : decode cX11_isBetter 12 = .ok (.ireturn, 1) := by decide +kernel
theorem dX11_strategyOf_0 : decode cX11_strategyOf 0 = .ok (.aload_n 0, 1) := by decide +kernel
theorem dX11_strategyOf_1 : decode cX11_strategyOf 1 = .ok (.iload_n 1, 1) := by decide +kernel
theorem dX11_strategyOf_2 : decode cX11_strategyOf 2 = .ok (.invokevirtual 247, 3) := by decide +kernel
theorem dX11_strategyOf_5 : decode cX11_strategyOf 5 = .ok (.istore_n 3, 1) := by decide +kernel
theorem dX11_strategyOf_6 : decode cX11_strategyOf 6 = .ok (.iload_n 3, 1) := by decide +kernel
theorem dX11_strategyOf_7 : decode cX11_strategyOf 7 = .ok (.ifCond .ge 5, 3) := by decide +kernel
theorem dX11_strategyOf_10 : decode cX11_strategyOf 10 = .ok (.iconst (-1), 1) := by decide +kernel
theorem dX11_strategyOf_11 : decode cX11_strategyOf 11 = .ok (.ireturn, 1) := by decide +kernel
theorem dX11_strategyOf_12 : decode cX11_strategyOf 12 = .ok (.iconst 0, 1) := by decide +kernel
theorem dX11_strategyOf_13 : decode cX11_strategyOf 13 = .ok (.istore 4, 2) := by decide +kernel
theorem dX11_strategyOf_15 : decode cX11_strategyOf 15 = .ok (.iconst 0, 1) := by decide +kernel
theorem dX11_strategyOf_16 : decode cX11_strategyOf 16 = .ok (.istore 5, 2) := by decide +kernel
theorem dX11_strategyOf_18 : decode cX11_strategyOf 18 = .ok (.iconst 0, 1) := by decide +kernel
theorem dX11_strategyOf_19 : decode cX11_strategyOf 19 = .ok (.istore 6, 2) := by decide +kernel
theorem dX11_strategyOf_21 : decode cX11_strategyOf 21 = .ok (.iload 6, 2) := by decide +kernel
theorem dX11_strategyOf_23 : decode cX11_strategyOf 23 = .ok (.iconst 5, 1) := by decide +kernel
theorem dX11_strategyOf_24 : decode cX11_strategyOf 24 = .ok (.if_icmp .ge 35, 3) := by decide +kernel
theorem dX11_strategyOf_27 : decode cX11_strategyOf 27 = .ok (.aload_n 0, 1) := by decide +kernel
theorem dX11_strategyOf_28 : decode cX11_strategyOf 28 = .ok (.getfield 7, 3) := by decide +kernel
theorem dX11_strategyOf_31 : decode cX11_strategyOf 31 = .ok (.iconst 1, 1) := by decide +kernel
theorem dX11_strategyOf_32 : decode cX11_strategyOf 32 = .ok (.iaload, 1) := by decide +kernel
theorem dX11_strategyOf_33 : decode cX11_strategyOf 33 = .ok (.iload 6, 2) := by decide +kernel
theorem dX11_strategyOf_35 : decode cX11_strategyOf 35 = .ok (.invokestatic 74, 3) := by decide +kernel
theorem dX11_strategyOf_38 : decode cX11_strategyOf 38 = .ok (.ifCond .eq 15, 3) := by decide +kernel
theorem dX11_strategyOf_41 : decode cX11_strategyOf 41 = .ok (.aload_n 0, 1) := by decide +kernel
theorem dX11_strategyOf_42 : decode cX11_strategyOf 42 = .ok (.getfield 56, 3) := by decide +kernel
theorem dX11_strategyOf_45 : decode cX11_strategyOf 45 = .ok (.iload 5, 2) := by decide +kernel
theorem dX11_strategyOf_47 : decode cX11_strategyOf 47 = .ok (.iload 6, 2) := by decide +kernel
theorem dX11_strategyOf_49 : decode cX11_strategyOf 49 = .ok (.iastore, 1) := by decide +kernel
theorem dX11_strategyOf_50 : decode cX11_strategyOf 50 = .ok (.iinc 5 1, 3) := by decide +kernel
theorem dX11_strategyOf_53 : decode cX11_strategyOf 53 = .ok (.iinc 6 1, 3) := by decide +kernel
theorem dX11_strategyOf_56 : decode cX11_strategyOf 56 = .ok (.goto (-35), 3) := by decide +kernel
theorem dX11_strategyOf_59 : decode cX11_strategyOf 59 = .ok (.iconst 1, 1) := by decide +kernel
theorem dX11_strategyOf_60 : decode cX11_strategyOf 60 = .ok (.istore 6, 2) := by decide +kernel
theorem dX11_strategyOf_62 : decode cX11_strategyOf 62 = .ok (.iload 6, 2) := by decide +kernel
theorem dX11_strategyOf_64 : decode cX11_strategyOf 64 = .ok (.ifCond .eq 139, 3) := by decide +kernel
theorem dX11_strategyOf_67 : decode cX11_strategyOf 67 = .ok (.iconst 0, 1) := by decide +kernel
theorem dX11_strategyOf_68 : decode cX11_strategyOf 68 = .ok (.istore 7, 2) := by decide +kernel
theorem dX11_strategyOf_70 : decode cX11_strategyOf 70 = .ok (.iload 7, 2) := by decide +kernel
theorem dX11_strategyOf_72 : decode cX11_strategyOf 72 = .ok (.iconst 5, 1) := by decide +kernel
theorem dX11_strategyOf_73 : decode cX11_strategyOf 73 = .ok (.if_icmp .ge 22, 3) := by decide +kernel
theorem dX11_strategyOf_76 : decode cX11_strategyOf 76 = .ok (.aload_n 0, 1) := by decide +kernel
theorem dX11_strategyOf_77 : decode cX11_strategyOf 77 = .ok (.getfield 19, 3) := by decide +kernel
theorem dX11_strategyOf_80 : decode cX11_strategyOf 80 = .ok (.iconst 5, 1) := by decide +kernel
theorem dX11_strategyOf_81 : decode cX11_strategyOf 81 = .ok (.iload_n 2, 1) := by decide +kernel
theorem dX11_strategyOf_82 : decode cX11_strategyOf 82 = .ok (.imul, 1) := by decide +kernel
theorem dX11_strategyOf_83 : decode cX11_strategyOf 83 = .ok (.iload 7, 2) := by decide +kernel
theorem dX11_strategyOf_85 : decode cX11_strategyOf 85 = .ok (.iadd, 1) := by decide +kernel
theorem dX11_strategyOf_86 : decode cX11_strategyOf 86 = .ok (.bipush 9, 2) := by decide +kernel
theorem dX11_strategyOf_88 : decode cX11_strategyOf 88 = .ok (.iastore, 1) := by decide +kernel
theorem dX11_strategyOf_89 : decode cX11_strategyOf 89 = .ok (.iinc 7 1, 3) := by decide +kernel
theorem dX11_strategyOf_92 : decode cX11_strategyOf 92 = .ok (.goto (-22), 3) := by decide +kernel
theorem dX11_strategyOf_95 : decode cX11_strategyOf 95 = .ok (.iconst 0, 1) := by decide +kernel
theorem dX11_strategyOf_96 : decode cX11_strategyOf 96 = .ok (.istore 7, 2) := by decide +kernel
theorem dX11_strategyOf_98 : decode cX11_strategyOf 98 = .ok (.iload 7, 2) := by decide +kernel
theorem dX11_strategyOf_100 : decode cX11_strategyOf 100 = .ok (.iload 5, 2) := by decide +kernel
theorem dX11_strategyOf_102 : decode cX11_strategyOf 102 = .ok (.if_icmp .ge 27, 3) := by decide +kernel
theorem dX11_strategyOf_105 : decode cX11_strategyOf 105 = .ok (.aload_n 0, 1) := by decide +kernel
theorem dX11_strategyOf_106 : decode cX11_strategyOf 106 = .ok (.getfield 19, 3) := by decide +kernel
theorem dX11_strategyOf_109 : decode cX11_strategyOf 109 = .ok (.iconst 5, 1) := by decide +kernel
theorem dX11_strategyOf_110 : decode cX11_strategyOf 110 = .ok (.iload_n 2, 1) := by decide +kernel
theorem dX11_strategyOf_111 : decode cX11_strategyOf 111 = .ok (.imul, 1) := by decide +kernel
theorem dX11_strategyOf_112 : decode cX11_strategyOf 112 = .ok (.aload_n 0, 1) := by decide +kernel
theorem dX11_strategyOf_113 : decode cX11_strategyOf 113 = .ok (.getfield 56, 3) := by decide +kernel
theorem dX11_strategyOf_116 : decode cX11_strategyOf 116 = .ok (.iload 7, 2) := by decide +kernel
theorem dX11_strategyOf_118 : decode cX11_strategyOf 118 = .ok (.iaload, 1) := by decide +kernel
theorem dX11_strategyOf_119 : decode cX11_strategyOf 119 = .ok (.iadd, 1) := by decide +kernel
theorem dX11_strategyOf_120 : decode cX11_strategyOf 120 = .ok (.iload 7, 2) := by decide +kernel
theorem dX11_strategyOf_122 : decode cX11_strategyOf 122 = .ok (.iastore, 1) := by decide +kernel
theorem dX11_strategyOf_123 : decode cX11_strategyOf 123 = .ok (.iinc 7 1, 3) := by decide +kernel
theorem dX11_strategyOf_126 : decode cX11_strategyOf 126 = .ok (.goto (-28), 3) := by decide +kernel
theorem dX11_strategyOf_129 : decode cX11_strategyOf 129 = .ok (.aload_n 0, 1) := by decide +kernel
theorem dX11_strategyOf_130 : decode cX11_strategyOf 130 = .ok (.iload_n 1, 1) := by decide +kernel
theorem dX11_strategyOf_131 : decode cX11_strategyOf 131 = .ok (.aload_n 0, 1) := by decide +kernel
theorem dX11_strategyOf_132 : decode cX11_strategyOf 132 = .ok (.getfield 7, 3) := by decide +kernel
theorem dX11_strategyOf_135 : decode cX11_strategyOf 135 = .ok (.iconst 1, 1) := by decide +kernel
theorem dX11_strategyOf_136 : decode cX11_strategyOf 136 = .ok (.iaload, 1) := by decide +kernel
theorem dX11_strategyOf_137 : decode cX11_strategyOf 137 = .ok (.invokevirtual 211, 3) := by decide +kernel
theorem dX11_strategyOf_140 : decode cX11_strategyOf 140 = .ok (.istore 7, 2) := by decide +kernel
theorem dX11_strategyOf_142 : decode cX11_strategyOf 142 = .ok (.aload_n 0, 1) := by decide +kernel
theorem dX11_strategyOf_143 : decode cX11_strategyOf 143 = .ok (.iload_n 2, 1) := by decide +kernel
theorem dX11_strategyOf_144 : decode cX11_strategyOf 144 = .ok (.iload 7, 2) := by decide +kernel
theorem dX11_strategyOf_146 : decode cX11_strategyOf 146 = .ok (.iload_n 3, 1) := by decide +kernel
theorem dX11_strategyOf_147 : decode cX11_strategyOf 147 = .ok (.invokevirtual 260, 3) := by decide +kernel
theorem dX11_strategyOf_150 : decode cX11_strategyOf 150 = .ok (.ifCond .eq 39, 3) := by decide +kernel
theorem dX11_strategyOf_153 : decode cX11_strategyOf 153 = .ok (.iload 7, 2) := by decide +kernel
theorem dX11_strategyOf_155 : decode cX11_strategyOf 155 = .ok (.istore_n 3, 1) := by decide +kernel
theorem dX11_strategyOf_156 : decode cX11_strategyOf 156 = .ok (.iconst 1, 1) := by decide +kernel
theorem dX11_strategyOf_157 : decode cX11_strategyOf 157 = .ok (.istore 4, 2) := by decide +kernel
theorem dX11_strategyOf_159 : decode cX11_strategyOf 159 = .ok (.iconst 0, 1) := by decide +kernel
theorem dX11_strategyOf_160 : decode cX11_strategyOf 160 = .ok (.istore 8, 2) := by decide +kernel
theorem dX11_strategyOf_162 : decode cX11_strategyOf 162 = .ok (.iload 8, 2) := by decide +kernel
theorem dX11_strategyOf_164 : decode cX11_strategyOf 164 = .ok (.iload 5, 2) := by decide +kernel
theorem dX11_strategyOf_166 : decode cX11_strategyOf 166 = .ok (.if_icmp .ge 23, 3) := by decide +kernel
theorem dX11_strategyOf_169 : decode cX11_strategyOf 169 = .ok (.aload_n 0, 1) := by decide +kernel
theorem dX11_strategyOf_170 : decode cX11_strategyOf 170 = .ok (.getfield 59, 3) := by decide +kernel
theorem dX11_strategyOf_173 : decode cX11_strategyOf 173 = .ok (.iload 8, 2) := by decide +kernel
theorem dX11_strategyOf_175 : decode cX11_strategyOf 175 = .ok (.aload_n 0, 1) := by decide +kernel
theorem dX11_strategyOf_176 : decode cX11_strategyOf 176 = .ok (.getfield 56, 3) := by decide +kernel
theorem dX11_strategyOf_179 : decode cX11_strategyOf 179 = .ok (.iload 8, 2) := by decide +kernel
theorem dX11_strategyOf_181 : decode cX11_strategyOf 181 = .ok (.iaload, 1) := by decide +kernel
theorem dX11_strategyOf_182 : decode cX11_strategyOf 182 = .ok (.iastore, 1) := by decide +kernel
theorem dX11_strategyOf_183 : decode cX11_strategyOf 183 = .ok (.iinc 8 1, 3) := by decide +kernel
theorem dX11_strategyOf_186 : decode cX11_strategyOf 186 = .ok (.goto (-24), 3) := by decide +kernel
theorem dX11_strategyOf_189 : decode cX11_strategyOf 189 = .ok (.aload_n 0, 1) := by decide +kernel
theorem dX11_strategyOf_190 : decode cX11_strategyOf 190 = .ok (.getfield 56, 3) := by decide +kernel
theorem dX11_strategyOf_193 : decode cX11_strategyOf 193 = .ok (.iload 5, 2) := by decide +kernel
theorem dX11_strategyOf_195 : decode cX11_strategyOf 195 = .ok (.invokestatic 162, 3) := by decide +kernel
theorem dX11_strategyOf_198 : decode cX11_strategyOf 198 = .ok (.istore 6, 2) := by decide +kernel
theorem dX11_strategyOf_200 : decode cX11_strategyOf 200 = .ok (.goto (-138), 3) := by decide +kernel
theorem dX11_strategyOf_203 : decode cX11_strategyOf 203 = .ok (.iload 4, 2) := by decide +kernel
theorem dX11_strategyOf_205 : decode cX11_strategyOf 205 = .ok (.ifCond .eq 7, 3) := by decide +kernel
theorem dX11_strategyOf_208 : decode cX11_strategyOf 208 = .ok (.iload_n 3, 1) := by decide +kernel
theorem dX11_strategyOf_209 : decode cX11_strategyOf 209 = .ok (.goto 4, 3) := by decide +kernel
theorem dX11_strategyOf_212 : decode cX11_strategyOf 212 = .ok (.iconst (-1), 1) := by decide +kernel
theorem dX11_strategyOf_213 : decode cX11_strategyOf 213 = .ok (.ireturn, 1) := by decide +kernel
theorem dX11_areFine_0 : decode cX11_areFine 0 = .ok (.iload_n 0, 1) := by decide +kernel
theorem dX11_areFine_1 : decode cX11_areFine 1 = .ok (.invokestatic 244, 3) := by decide +kernel
theorem dX11_areFine_4 : decode cX11_areFine 4 = .ok (.ifCond .eq 11, 3) := by decide +kernel
theorem dX11_areFine_7 : decode cX11_areFine 7 = .ok (.iload_n 1, 1) := by decide +kernel
theorem dX11_areFine_8 : decode cX11_areFine 8 = .ok (.ifCond .eq 7, 3) := by decide +kernel
theorem dX11_areFine_11 : decode cX11_areFine 11 = .ok (.iconst 1, 1) := by decide +kernel
theorem dX11_areFine_12 : decode cX11_areFine 12 = .ok (.goto 4, 3) := by decide +kernel
theorem dX11_areFine_15 : decode cX11_areFine 15 = .ok (.iconst 0, 1) := by decide +kernel
theorem dX11_areFine_16 : decode cX11_areFine 16 = .ok (.ireturn, 1) := by decide +kernel
theorem dX11_strategy_0 : decode cX11_strategy 0 = .ok (.iload_n 1, 1) := by decide +kernel
theorem dX11_strategy_1 : decode cX11_strategy 1 = .ok (.aload_n 0, 1) := by decide +kernel
theorem dX11_strategy_2 : decode cX11_strategy 2 = .ok (.iload_n 2, 1) := by decide +kernel
theorem dX11_strategy_3 : decode cX11_strategy 3 = .ok (.invokevirtual 233, 3) := by decide +kernel
theorem dX11_strategy_6 : decode cX11_strategy 6 = .ok (.invokestatic 263, 3) := by decide +kernel
theorem dX11_strategy_9 : decode cX11_strategy 9 = .ok (.ifCond .ne 6, 3) := by decide +kernel
theorem dX11_strategy_12 : decode cX11_strategy 12 = .ok (.ldc 236, 2) := by decide +kernel
theorem dX11_strategy_14 : decode cX11_strategy 14 = .ok (.ireturn, 1) := by decide +kernel
theorem dX11_strategy_15 : decode cX11_strategy 15 = .ok (.aload_n 0, 1) := by decide +kernel
theorem dX11_strategy_16 : decode cX11_strategy 16 = .ok (.iload_n 1, 1) := by decide +kernel
theorem dX11_strategy_17 : decode cX11_strategy 17 = .ok (.iload_n 2, 1) := by decide +kernel
theorem dX11_strategy_18 : decode cX11_strategy 18 = .ok (.invokevirtual 267, 3) := by decide +kernel
theorem dX11_strategy_21 : decode cX11_strategy 21 = .ok (.istore_n 3, 1) := by decide +kernel
theorem dX11_strategy_22 : decode cX11_strategy 22 = .ok (.iload_n 3, 1) := by decide +kernel
theorem dX11_strategy_23 : decode cX11_strategy 23 = .ok (.ifCond .ge 8, 3) := by decide +kernel
theorem dX11_strategy_26 : decode cX11_strategy 26 = .ok (.ldc 250, 2) := by decide +kernel
theorem dX11_strategy_28 : decode cX11_strategy 28 = .ok (.goto 4, 3) := by decide +kernel
theorem dX11_strategy_31 : decode cX11_strategy 31 = .ok (.iload_n 3, 1) := by decide +kernel
theorem dX11_strategy_32 : decode cX11_strategy 32 = .ok (.ireturn, 1) := by decide +kernel
theorem dX11_strategyAt_0 : decode cX11_strategyAt 0 = .ok (.iload_n 1, 1) := by decide +kernel
theorem dX11_strategyAt_1 : decode cX11_strategyAt 1 = .ok (.aload_n 0, 1) := by decide +kernel
theorem dX11_strategyAt_2 : decode cX11_strategyAt 2 = .ok (.iload_n 2, 1) := by decide +kernel
theorem dX11_strategyAt_3 : decode cX11_strategyAt 3 = .ok (.invokevirtual 233, 3) := by decide +kernel
theorem dX11_strategyAt_6 : decode cX11_strategyAt 6 = .ok (.invokestatic 263, 3) := by decide +kernel
theorem dX11_strategyAt_9 : decode cX11_strategyAt 9 = .ok (.ifCond .eq 22, 3) := by decide +kernel
theorem dX11_strategyAt_12 : decode cX11_strategyAt 12 = .ok (.iload_n 3, 1) := by decide +kernel
theorem dX11_strategyAt_13 : decode cX11_strategyAt 13 = .ok (.iconst 0, 1) := by decide +kernel
theorem dX11_strategyAt_14 : decode cX11_strategyAt 14 = .ok (.aload_n 0, 1) := by decide +kernel
theorem dX11_strategyAt_15 : decode cX11_strategyAt 15 = .ok (.getfield 7, 3) := by decide +kernel
theorem dX11_strategyAt_18 : decode cX11_strategyAt 18 = .ok (.iconst 1, 1) := by decide +kernel
theorem dX11_strategyAt_19 : decode cX11_strategyAt 19 = .ok (.iaload, 1) := by decide +kernel
theorem dX11_strategyAt_20 : decode cX11_strategyAt 20 = .ok (.invokestatic 105, 3) := by decide +kernel
theorem dX11_strategyAt_23 : decode cX11_strategyAt 23 = .ok (.iconst 1, 1) := by decide +kernel
theorem dX11_strategyAt_24 : decode cX11_strategyAt 24 = .ok (.isub, 1) := by decide +kernel
theorem dX11_strategyAt_25 : decode cX11_strategyAt 25 = .ok (.invokestatic 70, 3) := by decide +kernel
theorem dX11_strategyAt_28 : decode cX11_strategyAt 28 = .ok (.ifCond .ne 6, 3) := by decide +kernel
