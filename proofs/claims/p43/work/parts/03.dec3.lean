theorem dX10_strategy_40 : decode cX10_strategy 40 = .ok (.aload_n 0, 1) := by decide +kernel
theorem dX10_strategy_41 : decode cX10_strategy 41 = .ok (.getfield 10, 3) := by decide +kernel
theorem dX10_strategy_44 : decode cX10_strategy 44 = .ok (.iload_n 2, 1) := by decide +kernel
theorem dX10_strategy_45 : decode cX10_strategy 45 = .ok (.invokevirtual 80, 3) := by decide +kernel
theorem dX10_strategy_48 : decode cX10_strategy 48 = .ok (.iload_n 3, 1) := by decide +kernel
theorem dX10_strategy_49 : decode cX10_strategy 49 = .ok (.invokevirtual 231, 3) := by decide +kernel
theorem dX10_strategy_52 : decode cX10_strategy 52 = .ok (.aload_n 0, 1) := by decide +kernel
theorem dX10_strategy_53 : decode cX10_strategy 53 = .ok (.getfield 37, 3) := by decide +kernel
theorem dX10_strategy_56 : decode cX10_strategy 56 = .ok (.iload_n 1, 1) := by decide +kernel
theorem dX10_strategy_57 : decode cX10_strategy 57 = .ok (.aload_n 0, 1) := by decide +kernel
theorem dX10_strategy_58 : decode cX10_strategy 58 = .ok (.getfield 30, 3) := by decide +kernel
theorem dX10_strategy_61 : decode cX10_strategy 61 = .ok (.invokevirtual 135, 3) := by decide +kernel
theorem dX10_strategy_64 : decode cX10_strategy 64 = .ok (.ireturn, 1) := by decide +kernel
theorem dX10_strategyAt_0 : decode cX10_strategyAt 0 = .ok (.iload_n 1, 1) := by decide +kernel
theorem dX10_strategyAt_1 : decode cX10_strategyAt 1 = .ok (.invokestatic 128, 3) := by decide +kernel
theorem dX10_strategyAt_4 : decode cX10_strategyAt 4 = .ok (.ifCond .eq 22, 3) := by decide +kernel
theorem dX10_strategyAt_7 : decode cX10_strategyAt 7 = .ok (.aload_n 0, 1) := by decide +kernel
theorem dX10_strategyAt_8 : decode cX10_strategyAt 8 = .ok (.getfield 10, 3) := by decide +kernel
theorem dX10_strategyAt_11 : decode cX10_strategyAt 11 = .ok (.iload_n 2, 1) := by decide +kernel
theorem dX10_strategyAt_12 : decode cX10_strategyAt 12 = .ok (.invokevirtual 72, 3) := by decide +kernel
theorem dX10_strategyAt_15 : decode cX10_strategyAt 15 = .ok (.ifCond .eq 11, 3) := by decide +kernel
theorem dX10_strategyAt_18 : decode cX10_strategyAt 18 = .ok (.aload_n 0, 1) := by decide +kernel
theorem dX10_strategyAt_19 : decode cX10_strategyAt 19 = .ok (.iload_n 3, 1) := by decide +kernel
theorem dX10_strategyAt_20 : decode cX10_strategyAt 20 = .ok (.invokevirtual 220, 3) := by decide +kernel
theorem dX10_strategyAt_23 : decode cX10_strategyAt 23 = .ok (.ifCond .ne 6, 3) := by decide +kernel
theorem dX10_strategyAt_26 : decode cX10_strategyAt 26 = .ok (.ldc 75, 2) := by decide +kernel
theorem dX10_strategyAt_28 : decode cX10_strategyAt 28 = .ok (.ireturn, 1) := by decide +kernel
theorem dX10_strategyAt_29 : decode cX10_strategyAt 29 = .ok (.aload_n 0, 1) := by decide +kernel
theorem dX10_strategyAt_30 : decode cX10_strategyAt 30 = .ok (.iload_n 1, 1) := by decide +kernel
theorem dX10_strategyAt_31 : decode cX10_strategyAt 31 = .ok (.iload_n 2, 1) := by decide +kernel
theorem dX10_strategyAt_32 : decode cX10_strategyAt 32 = .ok (.invokevirtual 228, 3) := by decide +kernel
theorem dX10_strategyAt_35 : decode cX10_strategyAt 35 = .ok (.iload_n 3, 1) := by decide +kernel
theorem dX10_strategyAt_36 : decode cX10_strategyAt 36 = .ok (.invokestatic 234, 3) := by decide +kernel
theorem dX10_strategyAt_39 : decode cX10_strategyAt 39 = .ok (.invokestatic 164, 3) := by decide +kernel
theorem dX10_strategyAt_42 : decode cX10_strategyAt 42 = .ok (.ireturn, 1) := by decide +kernel
theorem dX10_strategists_0 : decode cX10_strategists 0 = .ok (.iload_n 1, 1) := by decide +kernel
theorem dX10_strategists_1 : decode cX10_strategists 1 = .ok (.invokestatic 128, 3) := by decide +kernel
theorem dX10_strategists_4 : decode cX10_strategists 4 = .ok (.ifCond .ne 6, 3) := by decide +kernel
theorem dX10_strategists_7 : decode cX10_strategists 7 = .ok (.ldc 75, 2) := by decide +kernel
theorem dX10_strategists_9 : decode cX10_strategists 9 = .ok (.ireturn, 1) := by decide +kernel
theorem dX10_strategists_10 : decode cX10_strategists 10 = .ok (.iconst 0, 1) := by decide +kernel
theorem dX10_strategists_11 : decode cX10_strategists 11 = .ok (.istore_n 2, 1) := by decide +kernel
theorem dX10_strategists_12 : decode cX10_strategists 12 = .ok (.iconst 0, 1) := by decide +kernel
theorem dX10_strategists_13 : decode cX10_strategists 13 = .ok (.istore_n 3, 1) := by decide +kernel
theorem dX10_strategists_14 : decode cX10_strategists 14 = .ok (.iload_n 3, 1) := by decide +kernel
theorem dX10_strategists_15 : decode cX10_strategists 15 = .ok (.aload_n 0, 1) := by decide +kernel
theorem dX10_strategists_16 : decode cX10_strategists 16 = .ok (.getfield 10, 3) := by decide +kernel
theorem dX10_strategists_19 : decode cX10_strategists 19 = .ok (.getfield 68, 3) := by decide +kernel
theorem dX10_strategists_22 : decode cX10_strategists 22 = .ok (.if_icmp .ge 24, 3) := by decide +kernel
theorem dX10_strategists_25 : decode cX10_strategists 25 = .ok (.aload_n 0, 1) := by decide +kernel
theorem dX10_strategists_26 : decode cX10_strategists 26 = .ok (.iload_n 1, 1) := by decide +kernel
theorem dX10_strategists_27 : decode cX10_strategists 27 = .ok (.iload_n 3, 1) := by decide +kernel
theorem dX10_strategists_28 : decode cX10_strategists 28 = .ok (.invokevirtual 228, 3) := by decide +kernel
theorem dX10_strategists_31 : decode cX10_strategists 31 = .ok (.ifCond .eq 9, 3) := by decide +kernel
theorem dX10_strategists_34 : decode cX10_strategists 34 = .ok (.iload_n 2, 1) := by decide +kernel
theorem dX10_strategists_35 : decode cX10_strategists 35 = .ok (.iconst 1, 1) := by decide +kernel
theorem dX10_strategists_36 : decode cX10_strategists 36 = .ok (.iload_n 3, 1) := by decide +kernel
theorem dX10_strategists_37 : decode cX10_strategists 37 = .ok (.ishl, 1) := by decide +kernel
theorem dX10_strategists_38 : decode cX10_strategists 38 = .ok (.ior, 1) := by decide +kernel
theorem dX10_strategists_39 : decode cX10_strategists 39 = .ok (.istore_n 2, 1) := by decide +kernel
theorem dX10_strategists_40 : decode cX10_strategists 40 = .ok (.iinc 3 1, 3) := by decide +kernel
theorem dX10_strategists_43 : decode cX10_strategists 43 = .ok (.goto (-29), 3) := by decide +kernel
theorem dX10_strategists_46 : decode cX10_strategists 46 = .ok (.iload_n 2, 1) := by decide +kernel
theorem dX10_strategists_47 : decode cX10_strategists 47 = .ok (.ireturn, 1) := by decide +kernel
theorem dX10_absentees_0 : decode cX10_absentees 0 = .ok (.iload_n 1, 1) := by decide +kernel
theorem dX10_absentees_1 : decode cX10_absentees 1 = .ok (.invokestatic 128, 3) := by decide +kernel
theorem dX10_absentees_4 : decode cX10_absentees 4 = .ok (.ifCond .ne 6, 3) := by decide +kernel
theorem dX10_absentees_7 : decode cX10_absentees 7 = .ok (.ldc 75, 2) := by decide +kernel
theorem dX10_absentees_9 : decode cX10_absentees 9 = .ok (.ireturn, 1) := by decide +kernel
theorem dX10_absentees_10 : decode cX10_absentees 10 = .ok (.aload_n 0, 1) := by decide +kernel
theorem dX10_absentees_11 : decode cX10_absentees 11 = .ok (.invokevirtual 122, 3) := by decide +kernel
theorem dX10_absentees_14 : decode cX10_absentees 14 = .ok (.aload_n 0, 1) := by decide +kernel
theorem dX10_absentees_15 : decode cX10_absentees 15 = .ok (.getfield 37, 3) := by decide +kernel
theorem dX10_absentees_18 : decode cX10_absentees 18 = .ok (.iload_n 1, 1) := by decide +kernel
theorem dX10_absentees_19 : decode cX10_absentees 19 = .ok (.aload_n 0, 1) := by decide +kernel
theorem dX10_absentees_20 : decode cX10_absentees 20 = .ok (.getfield 30, 3) := by decide +kernel
theorem dX10_absentees_23 : decode cX10_absentees 23 = .ok (.invokevirtual 135, 3) := by decide +kernel
theorem dX10_absentees_26 : decode cX10_absentees 26 = .ok (.istore_n 2, 1) := by decide +kernel
theorem dX10_absentees_27 : decode cX10_absentees 27 = .ok (.iconst 0, 1) := by decide +kernel
theorem dX10_absentees_28 : decode cX10_absentees 28 = .ok (.istore_n 3, 1) := by decide +kernel
theorem dX10_absentees_29 : decode cX10_absentees 29 = .ok (.iconst 0, 1) := by decide +kernel
theorem dX10_absentees_30 : decode cX10_absentees 30 = .ok (.istore 4, 2) := by decide +kernel
theorem dX10_absentees_32 : decode cX10_absentees 32 = .ok (.iload 4, 2) := by decide +kernel
theorem dX10_absentees_34 : decode cX10_absentees 34 = .ok (.aload_n 0, 1) := by decide +kernel
theorem dX10_absentees_35 : decode cX10_absentees 35 = .ok (.getfield 10, 3) := by decide +kernel
theorem dX10_absentees_38 : decode cX10_absentees 38 = .ok (.getfield 68, 3) := by decide +kernel
theorem dX10_absentees_41 : decode cX10_absentees 41 = .ok (.if_icmp .ge 45, 3) := by decide +kernel
theorem dX10_absentees_44 : decode cX10_absentees 44 = .ok (.aload_n 0, 1) := by decide +kernel
theorem dX10_absentees_45 : decode cX10_absentees 45 = .ok (.iload_n 1, 1) := by decide +kernel
theorem dX10_absentees_46 : decode cX10_absentees 46 = .ok (.iload 4, 2) := by decide +kernel
theorem dX10_absentees_48 : decode cX10_absentees 48 = .ok (.iconst 0, 1) := by decide +kernel
theorem dX10_absentees_49 : decode cX10_absentees 49 = .ok (.iconst 0, 1) := by decide +kernel
theorem dX10_absentees_50 : decode cX10_absentees 50 = .ok (.invokevirtual 237, 3) := by decide +kernel
theorem dX10_absentees_53 : decode cX10_absentees 53 = .ok (.istore 5, 2) := by decide +kernel
theorem dX10_absentees_55 : decode cX10_absentees 55 = .ok (.aload_n 0, 1) := by decide +kernel
theorem dX10_absentees_56 : decode cX10_absentees 56 = .ok (.getfield 10, 3) := by decide +kernel
theorem dX10_absentees_59 : decode cX10_absentees 59 = .ok (.iload 4, 2) := by decide +kernel
theorem dX10_absentees_61 : decode cX10_absentees 61 = .ok (.invokevirtual 83, 3) := by decide +kernel
theorem dX10_absentees_64 : decode cX10_absentees 64 = .ok (.iload 5, 2) := by decide +kernel
theorem dX10_absentees_66 : decode cX10_absentees 66 = .ok (.iload_n 2, 1) := by decide +kernel
theorem dX10_absentees_67 : decode cX10_absentees 67 = .ok (.invokestatic 241, 3) := by decide +kernel
theorem dX10_absentees_70 : decode cX10_absentees 70 = .ok (.ifCond .eq 10, 3) := by decide +kernel
theorem dX10_absentees_73 : decode cX10_absentees 73 = .ok (.iload_n 3, 1) := by decide +kernel
theorem dX10_absentees_74 : decode cX10_absentees 74 = .ok (.iconst 1, 1) := by decide +kernel
theorem dX10_absentees_75 : decode cX10_absentees 75 = .ok (.iload 4, 2) := by decide +kernel
theorem dX10_absentees_77 : decode cX10_absentees 77 = .ok (.ishl, 1) := by decide +kernel
theorem dX10_absentees_78 : decode cX10_absentees 78 = .ok (.ior, 1) := by decide +kernel
theorem dX10_absentees_79 : decode cX10_absentees 79 = .ok (.istore_n 3, 1) := by decide +kernel
theorem dX10_absentees_80 : decode cX10_absentees 80 = .ok (.iinc 4 1, 3) := by decide +kernel
theorem dX10_absentees_83 : decode cX10_absentees 83 = .ok (.goto (-51), 3) := by decide +kernel
theorem dX10_absentees_86 : decode cX10_absentees 86 = .ok (.iload_n 3, 1) := by decide +kernel
theorem dX10_absentees_87 : decode cX10_absentees 87 = .ok (.ireturn, 1) := by decide +kernel
theorem dX10_raisers_0 : decode cX10_raisers 0 = .ok (.iload_n 1, 1) := by decide +kernel
theorem dX10_raisers_1 : decode cX10_raisers 1 = .ok (.invokestatic 128, 3) := by decide +kernel
theorem dX10_raisers_4 : decode cX10_raisers 4 = .ok (.ifCond .ne 6, 3) := by decide +kernel
theorem dX10_raisers_7 : decode cX10_raisers 7 = .ok (.ldc 75, 2) := by decide +kernel
theorem dX10_raisers_9 : decode cX10_raisers 9 = .ok (.ireturn, 1) := by decide +kernel
theorem dX10_raisers_10 : decode cX10_raisers 10 = .ok (.aload_n 0, 1) := by decide +kernel
theorem dX10_raisers_11 : decode cX10_raisers 11 = .ok (.invokevirtual 122, 3) := by decide +kernel
theorem dX10_raisers_14 : decode cX10_raisers 14 = .ok (.aload_n 0, 1) := by decide +kernel
theorem dX10_raisers_15 : decode cX10_raisers 15 = .ok (.getfield 37, 3) := by decide +kernel
theorem dX10_raisers_18 : decode cX10_raisers 18 = .ok (.iload_n 1, 1) := by decide +kernel
theorem dX10_raisers_19 : decode cX10_raisers 19 = .ok (.aload_n 0, 1) := by decide +kernel
theorem dX10_raisers_20 : decode cX10_raisers 20 = .ok (.getfield 30, 3) := by decide +kernel
theorem dX10_raisers_23 : decode cX10_raisers 23 = .ok (.invokevirtual 135, 3) := by decide +kernel
theorem dX10_raisers_26 : decode cX10_raisers 26 = .ok (.istore_n 2, 1) := by decide +kernel
theorem dX10_raisers_27 : decode cX10_raisers 27 = .ok (.iconst 0, 1) := by decide +kernel
theorem dX10_raisers_28 : decode cX10_raisers 28 = .ok (.istore_n 3, 1) := by decide +kernel
theorem dX10_raisers_29 : decode cX10_raisers 29 = .ok (.iconst 0, 1) := by decide +kernel
theorem dX10_raisers_30 : decode cX10_raisers 30 = .ok (.istore 4, 2) := by decide +kernel
theorem dX10_raisers_32 : decode cX10_raisers 32 = .ok (.iload 4, 2) := by decide +kernel
theorem dX10_raisers_34 : decode cX10_raisers 34 = .ok (.aload_n 0, 1) := by decide +kernel
theorem dX10_raisers_35 : decode cX10_raisers 35 = .ok (.getfield 10, 3) := by decide +kernel
theorem dX10_raisers_38 : decode cX10_raisers 38 = .ok (.getfield 68, 3) := by decide +kernel
theorem dX10_raisers_41 : decode cX10_raisers 41 = .ok (.if_icmp .ge 87, 3) := by decide +kernel
theorem dX10_raisers_44 : decode cX10_raisers 44 = .ok (.aload_n 0, 1) := by decide +kernel
theorem dX10_raisers_45 : decode cX10_raisers 45 = .ok (.getfield 10, 3) := by decide +kernel
theorem dX10_raisers_48 : decode cX10_raisers 48 = .ok (.iload 4, 2) := by decide +kernel
theorem dX10_raisers_50 : decode cX10_raisers 50 = .ok (.invokevirtual 83, 3) := by decide +kernel
theorem dX10_raisers_53 : decode cX10_raisers 53 = .ok (.aload_n 0, 1) := by decide +kernel
theorem dX10_raisers_54 : decode cX10_raisers 54 = .ok (.getfield 10, 3) := by decide +kernel
theorem dX10_raisers_57 : decode cX10_raisers 57 = .ok (.getfield 105, 3) := by decide +kernel
theorem dX10_raisers_60 : decode cX10_raisers 60 = .ok (.invokestatic 245, 3) := by decide +kernel
theorem dX10_raisers_63 : decode cX10_raisers 63 = .ok (.istore 5, 2) := by decide +kernel
theorem dX10_raisers_65 : decode cX10_raisers 65 = .ok (.iload 5, 2) := by decide +kernel
theorem dX10_raisers_67 : decode cX10_raisers 67 = .ok (.iload_n 2, 1) := by decide +kernel
theorem dX10_raisers_68 : decode cX10_raisers 68 = .ok (.invokestatic 248, 3) := by decide +kernel
theorem dX10_raisers_71 : decode cX10_raisers 71 = .ok (.istore 6, 2) := by decide +kernel
theorem dX10_raisers_73 : decode cX10_raisers 73 = .ok (.iload 6, 2) := by decide +kernel
theorem dX10_raisers_75 : decode cX10_raisers 75 = .ok (.iconst 1, 1) := by decide +kernel
theorem dX10_raisers_76 : decode cX10_raisers 76 = .ok (.if_icmp .ge 6, 3) := by decide +kernel
theorem dX10_raisers_79 : decode cX10_raisers 79 = .ok (.goto 43, 3) := by decide +kernel
theorem dX10_raisers_82 : decode cX10_raisers 82 = .ok (.iload 5, 2) := by decide +kernel
theorem dX10_raisers_84 : decode cX10_raisers 84 = .ok (.iload 6, 2) := by decide +kernel
theorem dX10_raisers_86 : decode cX10_raisers 86 = .ok (.iconst 1, 1) := by decide +kernel
theorem dX10_raisers_87 : decode cX10_raisers 87 = .ok (.isub, 1) := by decide +kernel
theorem dX10_raisers_88 : decode cX10_raisers 88 = .ok (.invokestatic 93, 3) := by decide +kernel
theorem dX10_raisers_91 : decode cX10_raisers 91 = .ok (.istore 7, 2) := by decide +kernel
theorem dX10_raisers_93 : decode cX10_raisers 93 = .ok (.aload_n 0, 1) := by decide +kernel
theorem dX10_raisers_94 : decode cX10_raisers 94 = .ok (.iload_n 1, 1) := by decide +kernel
theorem dX10_raisers_95 : decode cX10_raisers 95 = .ok (.iload 4, 2) := by decide +kernel
theorem dX10_raisers_97 : decode cX10_raisers 97 = .ok (.aload_n 0, 1) := by decide +kernel
theorem dX10_raisers_98 : decode cX10_raisers 98 = .ok (.getfield 10, 3) := by decide +kernel
theorem dX10_raisers_101 : decode cX10_raisers 101 = .ok (.iload 4, 2) := by decide +kernel
theorem dX10_raisers_103 : decode cX10_raisers 103 = .ok (.invokevirtual 80, 3) := by decide +kernel
theorem dX10_raisers_106 : decode cX10_raisers 106 = .ok (.iload 7, 2) := by decide +kernel
theorem dX10_raisers_108 : decode cX10_raisers 108 = .ok (.invokevirtual 237, 3) := by decide +kernel
theorem dX10_raisers_111 : decode cX10_raisers 111 = .ok (.iload_n 2, 1) := by decide +kernel
theorem dX10_raisers_112 : decode cX10_raisers 112 = .ok (.if_icmp .eq 10, 3) := by decide +kernel
theorem dX10_raisers_115 : decode cX10_raisers 115 = .ok (.iload_n 3, 1) := by decide +kernel
theorem dX10_raisers_116 : decode cX10_raisers 116 = .ok (.iconst 1, 1) := by decide +kernel
theorem dX10_raisers_117 : decode cX10_raisers 117 = .ok (.iload 4, 2) := by decide +kernel
theorem dX10_raisers_119 : decode cX10_raisers 119 = .ok (.ishl, 1) := by decide +kernel
theorem dX10_raisers_120 : decode cX10_raisers 120 = .ok (.ior, 1) := by decide +kernel
theorem dX10_raisers_121 : decode cX10_raisers 121 = .ok (.istore_n 3, 1) := by decide +kernel
theorem dX10_raisers_122 : decode cX10_raisers 122 = .ok (.iinc 4 1, 3) := by decide +kernel
theorem dX10_raisers_125 : decode cX10_raisers 125 = .ok (.goto (-93), 3) := by decide +kernel
theorem dX10_raisers_128 : decode cX10_raisers 128 = .ok (.iload_n 3, 1) := by decide +kernel
theorem dX10_raisers_129 : decode cX10_raisers 129 = .ok (.ireturn, 1) := by decide +kernel
theorem dX10_spoilers_0 : decode cX10_spoilers 0 = .ok (.iload_n 1, 1) := by decide +kernel
theorem dX10_spoilers_1 : decode cX10_spoilers 1 = .ok (.invokestatic 128, 3) := by decide +kernel
theorem dX10_spoilers_4 : decode cX10_spoilers 4 = .ok (.ifCond .ne 6, 3) := by decide +kernel
theorem dX10_spoilers_7 : decode cX10_spoilers 7 = .ok (.ldc 75, 2) := by decide +kernel
theorem dX10_spoilers_9 : decode cX10_spoilers 9 = .ok (.ireturn, 1) := by decide +kernel
theorem dX10_spoilers_10 : decode cX10_spoilers 10 = .ok (.aload_n 0, 1) := by decide +kernel
theorem dX10_spoilers_11 : decode cX10_spoilers 11 = .ok (.invokevirtual 122, 3) := by decide +kernel
theorem dX10_spoilers_14 : decode cX10_spoilers 14 = .ok (.aload_n 0, 1) := by decide +kernel
theorem dX10_spoilers_15 : decode cX10_spoilers 15 = .ok (.getfield 37, 3) := by decide +kernel
theorem dX10_spoilers_18 : decode cX10_spoilers 18 = .ok (.iload_n 1, 1) := by decide +kernel
theorem dX10_spoilers_19 : decode cX10_spoilers 19 = .ok (.aload_n 0, 1) := by decide +kernel
theorem dX10_spoilers_20 : decode cX10_spoilers 20 = .ok (.getfield 30, 3) := by decide +kernel
theorem dX10_spoilers_23 : decode cX10_spoilers 23 = .ok (.invokevirtual 135, 3) := by decide +kernel
theorem dX10_spoilers_26 : decode cX10_spoilers 26 = .ok (.istore_n 2, 1) := by decide +kernel
theorem dX10_spoilers_27 : decode cX10_spoilers 27 = .ok (.iconst 0, 1) := by decide +kernel
theorem dX10_spoilers_28 : decode cX10_spoilers 28 = .ok (.istore_n 3, 1) := by decide +kernel
theorem dX10_spoilers_29 : decode cX10_spoilers 29 = .ok (.iconst 0, 1) := by decide +kernel
theorem dX10_spoilers_30 : decode cX10_spoilers 30 = .ok (.istore 4, 2) := by decide +kernel
theorem dX10_spoilers_32 : decode cX10_spoilers 32 = .ok (.iload 4, 2) := by decide +kernel
theorem dX10_spoilers_34 : decode cX10_spoilers 34 = .ok (.iconst 5, 1) := by decide +kernel
theorem dX10_spoilers_35 : decode cX10_spoilers 35 = .ok (.if_icmp .ge 80, 3) := by decide +kernel
theorem dX10_spoilers_38 : decode cX10_spoilers 38 = .ok (.iload 4, 2) := by decide +kernel
theorem dX10_spoilers_40 : decode cX10_spoilers 40 = .ok (.iload_n 2, 1) := by decide +kernel
theorem dX10_spoilers_41 : decode cX10_spoilers 41 = .ok (.if_icmp .eq 68, 3) := by decide +kernel
theorem dX10_spoilers_44 : decode cX10_spoilers 44 = .ok (.aload_n 0, 1) := by decide +kernel
theorem dX10_spoilers_45 : decode cX10_spoilers 45 = .ok (.getfield 10, 3) := by decide +kernel
theorem dX10_spoilers_48 : decode cX10_spoilers 48 = .ok (.getfield 105, 3) := by decide +kernel
theorem dX10_spoilers_51 : decode cX10_spoilers 51 = .ok (.iload 4, 2) := by decide +kernel
theorem dX10_spoilers_53 : decode cX10_spoilers 53 = .ok (.invokestatic 108, 3) := by decide +kernel
theorem dX10_spoilers_56 : decode cX10_spoilers 56 = .ok (.ifCond .ne 6, 3) := by decide +kernel
theorem dX10_spoilers_59 : decode cX10_spoilers 59 = .ok (.goto 50, 3) := by decide +kernel
theorem dX10_spoilers_62 : decode cX10_spoilers 62 = .ok (.aload_n 0, 1) := by decide +kernel
theorem dX10_spoilers_63 : decode cX10_spoilers 63 = .ok (.aload_n 0, 1) := by decide +kernel
theorem dX10_spoilers_64 : decode cX10_spoilers 64 = .ok (.getfield 10, 3) := by decide +kernel
theorem dX10_spoilers_67 : decode cX10_spoilers 67 = .ok (.getfield 105, 3) := by decide +kernel
theorem dX10_spoilers_70 : decode cX10_spoilers 70 = .ok (.iload 4, 2) := by decide +kernel
theorem dX10_spoilers_72 : decode cX10_spoilers 72 = .ok (.invokestatic 112, 3) := by decide +kernel
theorem dX10_spoilers_75 : decode cX10_spoilers 75 = .ok (.iconst 0, 1) := by decide +kernel
theorem dX10_spoilers_76 : decode cX10_spoilers 76 = .ok (.aload_n 0, 1) := by decide +kernel
theorem dX10_spoilers_77 : decode cX10_spoilers 77 = .ok (.getfield 10, 3) := by decide +kernel
theorem dX10_spoilers_80 : decode cX10_spoilers 80 = .ok (.getfield 68, 3) := by decide +kernel
theorem dX10_spoilers_83 : decode cX10_spoilers 83 = .ok (.invokevirtual 251, 3) := by decide +kernel
theorem dX10_spoilers_86 : decode cX10_spoilers 86 = .ok (.aload_n 0, 1) := by decide +kernel
theorem dX10_spoilers_87 : decode cX10_spoilers 87 = .ok (.getfield 37, 3) := by decide +kernel
theorem dX10_spoilers_90 : decode cX10_spoilers 90 = .ok (.iload_n 1, 1) := by decide +kernel
theorem dX10_spoilers_91 : decode cX10_spoilers 91 = .ok (.aload_n 0, 1) := by decide +kernel
theorem dX10_spoilers_92 : decode cX10_spoilers 92 = .ok (.getfield 30, 3) := by decide +kernel
theorem dX10_spoilers_95 : decode cX10_spoilers 95 = .ok (.invokevirtual 135, 3) := by decide +kernel
theorem dX10_spoilers_98 : decode cX10_spoilers 98 = .ok (.iload_n 2, 1) := by decide +kernel
theorem dX10_spoilers_99 : decode cX10_spoilers 99 = .ok (.if_icmp .eq 10, 3) := by decide +kernel
theorem dX10_spoilers_102 : decode cX10_spoilers 102 = .ok (.iload_n 3, 1) := by decide +kernel
theorem dX10_spoilers_103 : decode cX10_spoilers 103 = .ok (.iconst 1, 1) := by decide +kernel
theorem dX10_spoilers_104 : decode cX10_spoilers 104 = .ok (.iload 4, 2) := by decide +kernel
theorem dX10_spoilers_106 : decode cX10_spoilers 106 = .ok (.ishl, 1) := by decide +kernel
theorem dX10_spoilers_107 : decode cX10_spoilers 107 = .ok (.ior, 1) := by decide +kernel
theorem dX10_spoilers_108 : decode cX10_spoilers 108 = .ok (.istore_n 3, 1) := by decide +kernel
theorem dX10_spoilers_109 : decode cX10_spoilers 109 = .ok (.iinc 4 1, 3) := by decide +kernel
theorem dX10_spoilers_112 : decode cX10_spoilers 112 = .ok (.goto (-80), 3) := by decide +kernel
theorem dX10_spoilers_115 : decode cX10_spoilers 115 = .ok (.iload_n 3, 1) := by decide +kernel
theorem dX10_spoilers_116 : decode cX10_spoilers 116 = .ok (.ireturn, 1) := by decide +kernel
theorem dX10_split_0 : decode cX10_split 0 = .ok (.iload_n 1, 1) := by decide +kernel
theorem dX10_split_1 : decode cX10_split 1 = .ok (.invokestatic 128, 3) := by decide +kernel
theorem dX10_split_4 : decode cX10_split 4 = .ok (.ifCond .ne 6, 3) := by decide +kernel
theorem dX10_split_7 : decode cX10_split 7 = .ok (.ldc 75, 2) := by decide +kernel
theorem dX10_split_9 : decode cX10_split 9 = .ok (.ireturn, 1) := by decide +kernel
theorem dX10_split_10 : decode cX10_split 10 = .ok (.aload_n 0, 1) := by decide +kernel
theorem dX10_split_11 : decode cX10_split 11 = .ok (.invokevirtual 122, 3) := by decide +kernel
theorem dX10_split_14 : decode cX10_split 14 = .ok (.aload_n 0, 1) := by decide +kernel
theorem dX10_split_15 : decode cX10_split 15 = .ok (.getfield 37, 3) := by decide +kernel
theorem dX10_split_18 : decode cX10_split 18 = .ok (.iload_n 1, 1) := by decide +kernel
theorem dX10_split_19 : decode cX10_split 19 = .ok (.aload_n 0, 1) := by decide +kernel
theorem dX10_split_20 : decode cX10_split 20 = .ok (.getfield 30, 3) := by decide +kernel
theorem dX10_split_23 : decode cX10_split 23 = .ok (.invokevirtual 135, 3) := by decide +kernel
theorem dX10_split_26 : decode cX10_split 26 = .ok (.istore_n 2, 1) := by decide +kernel
theorem dX10_split_27 : decode cX10_split 27 = .ok (.iconst 1, 1) := by decide +kernel
theorem dX10_split_28 : decode cX10_split 28 = .ok (.istore_n 3, 1) := by decide +kernel
theorem dX10_split_29 : decode cX10_split 29 = .ok (.iload_n 3, 1) := by decide +kernel
theorem dX10_split_30 : decode cX10_split 30 = .ok (.aload_n 0, 1) := by decide +kernel
theorem dX10_split_31 : decode cX10_split 31 = .ok (.getfield 10, 3) := by decide +kernel
theorem dX10_split_34 : decode cX10_split 34 = .ok (.getfield 68, 3) := by decide +kernel
theorem dX10_split_37 : decode cX10_split 37 = .ok (.if_icmp .ge 83, 3) := by decide +kernel
theorem dX10_split_40 : decode cX10_split 40 = .ok (.aload_n 0, 1) := by decide +kernel
theorem dX10_split_41 : decode cX10_split 41 = .ok (.aload_n 0, 1) := by decide +kernel
theorem dX10_split_42 : decode cX10_split 42 = .ok (.getfield 10, 3) := by decide +kernel
theorem dX10_split_45 : decode cX10_split 45 = .ok (.getfield 105, 3) := by decide +kernel
theorem dX10_split_48 : decode cX10_split 48 = .ok (.iconst 0, 1) := by decide +kernel
theorem dX10_split_49 : decode cX10_split 49 = .ok (.iload_n 3, 1) := by decide +kernel
theorem dX10_split_50 : decode cX10_split 50 = .ok (.invokevirtual 251, 3) := by decide +kernel
theorem dX10_split_53 : decode cX10_split 53 = .ok (.aload_n 0, 1) := by decide +kernel
theorem dX10_split_54 : decode cX10_split 54 = .ok (.getfield 37, 3) := by decide +kernel
theorem dX10_split_57 : decode cX10_split 57 = .ok (.iload_n 1, 1) := by decide +kernel
theorem dX10_split_58 : decode cX10_split 58 = .ok (.aload_n 0, 1) := by decide +kernel
theorem dX10_split_59 : decode cX10_split 59 = .ok (.getfield 30, 3) := by decide +kernel
theorem dX10_split_62 : decode cX10_split 62 = .ok (.invokevirtual 135, 3) := by decide +kernel
theorem dX10_split_65 : decode cX10_split 65 = .ok (.istore 4, 2) := by decide +kernel
theorem dX10_split_67 : decode cX10_split 67 = .ok (.iload 4, 2) := by decide +kernel
theorem dX10_split_69 : decode cX10_split 69 = .ok (.iload_n 2, 1) := by decide +kernel
theorem dX10_split_70 : decode cX10_split 70 = .ok (.if_icmp .ne 6, 3) := by decide +kernel
theorem dX10_split_73 : decode cX10_split 73 = .ok (.goto 41, 3) := by decide +kernel
theorem dX10_split_76 : decode cX10_split 76 = .ok (.aload_n 0, 1) := by decide +kernel
theorem dX10_split_77 : decode cX10_split 77 = .ok (.aload_n 0, 1) := by decide +kernel
theorem dX10_split_78 : decode cX10_split 78 = .ok (.getfield 10, 3) := by decide +kernel
theorem dX10_split_81 : decode cX10_split 81 = .ok (.getfield 105, 3) := by decide +kernel
theorem dX10_split_84 : decode cX10_split 84 = .ok (.iload_n 3, 1) := by decide +kernel
theorem dX10_split_85 : decode cX10_split 85 = .ok (.aload_n 0, 1) := by decide +kernel
theorem dX10_split_86 : decode cX10_split 86 = .ok (.getfield 10, 3) := by decide +kernel
theorem dX10_split_89 : decode cX10_split 89 = .ok (.getfield 68, 3) := by decide +kernel
theorem dX10_split_92 : decode cX10_split 92 = .ok (.invokevirtual 251, 3) := by decide +kernel
theorem dX10_split_95 : decode cX10_split 95 = .ok (.aload_n 0, 1) := by decide +kernel
theorem dX10_split_96 : decode cX10_split 96 = .ok (.getfield 37, 3) := by decide +kernel
theorem dX10_split_99 : decode cX10_split 99 = .ok (.iload_n 1, 1) := by decide +kernel
theorem dX10_split_100 : decode cX10_split 100 = .ok (.aload_n 0, 1) := by decide +kernel
theorem dX10_split_101 : decode cX10_split 101 = .ok (.getfield 30, 3) := by decide +kernel
theorem dX10_split_104 : decode cX10_split 104 = .ok (.invokevirtual 135, 3) := by decide +kernel
theorem dX10_split_107 : decode cX10_split 107 = .ok (.iload 4, 2) := by decide +kernel
theorem dX10_split_109 : decode cX10_split 109 = .ok (.if_icmp .ne 5, 3) := by decide +kernel
theorem dX10_split_112 : decode cX10_split 112 = .ok (.iload_n 3, 1) := by decide +kernel
theorem dX10_split_113 : decode cX10_split 113 = .ok (.ireturn, 1) := by decide +kernel
theorem dX10_split_114 : decode cX10_split 114 = .ok (.iinc 3 1, 3) := by decide +kernel
theorem dX10_split_117 : decode cX10_split 117 = .ok (.goto (-88), 3) := by decide +kernel
theorem dX10_split_120 : decode cX10_split 120 = .ok (.ldc 227, 2) := by decide +kernel
theorem dX10_split_122 : decode cX10_split 122 = .ok (.ireturn, 1) := by decide +kernel
theorem dX10_removals_0 : decode cX10_removals 0 = .ok (.iload_n 1, 1) := by decide +kernel
theorem dX10_removals_1 : decode cX10_removals 1 = .ok (.invokestatic 128, 3) := by decide +kernel
theorem dX10_removals_4 : decode cX10_removals 4 = .ok (.ifCond .ne 6, 3) := by decide +kernel
theorem dX10_removals_7 : decode cX10_removals 7 = .ok (.ldc 75, 2) := by decide +kernel
theorem dX10_removals_9 : decode cX10_removals 9 = .ok (.ireturn, 1) := by decide +kernel
theorem dX10_removals_10 : decode cX10_removals 10 = .ok (.aload_n 0, 1) := by decide +kernel
theorem dX10_removals_11 : decode cX10_removals 11 = .ok (.invokevirtual 122, 3) := by decide +kernel
theorem dX10_removals_14 : decode cX10_removals 14 = .ok (.aload_n 0, 1) := by decide +kernel
theorem dX10_removals_15 : decode cX10_removals 15 = .ok (.getfield 37, 3) := by decide +kernel
theorem dX10_removals_18 : decode cX10_removals 18 = .ok (.iload_n 1, 1) := by decide +kernel
theorem dX10_removals_19 : decode cX10_removals 19 = .ok (.aload_n 0, 1) := by decide +kernel
theorem dX10_removals_20 : decode cX10_removals 20 = .ok (.getfield 30, 3) := by decide +kernel
theorem dX10_removals_23 : decode cX10_removals 23 = .ok (.invokevirtual 135, 3) := by decide +kernel
theorem dX10_removals_26 : decode cX10_removals 26 = .ok (.istore_n 2, 1) := by decide +kernel
theorem dX10_removals_27 : decode cX10_removals 27 = .ok (.iconst 1, 1) := by decide +kernel
theorem dX10_removals_28 : decode cX10_removals 28 = .ok (.istore_n 3, 1) := by decide +kernel
theorem dX10_removals_29 : decode cX10_removals 29 = .ok (.iload_n 3, 1) := by decide +kernel
theorem dX10_removals_30 : decode cX10_removals 30 = .ok (.bipush 100, 2) := by decide +kernel
theorem dX10_removals_32 : decode cX10_removals 32 = .ok (.if_icmp .gt 72, 3) := by decide +kernel
theorem dX10_removals_35 : decode cX10_removals 35 = .ok (.iconst 0, 1) := by decide +kernel
theorem dX10_removals_36 : decode cX10_removals 36 = .ok (.istore 4, 2) := by decide +kernel
theorem dX10_removals_38 : decode cX10_removals 38 = .ok (.iload 4, 2) := by decide +kernel
theorem dX10_removals_40 : decode cX10_removals 40 = .ok (.aload_n 0, 1) := by decide +kernel
theorem dX10_removals_41 : decode cX10_removals 41 = .ok (.getfield 10, 3) := by decide +kernel
theorem dX10_removals_44 : decode cX10_removals 44 = .ok (.getfield 68, 3) := by decide +kernel
theorem dX10_removals_47 : decode cX10_removals 47 = .ok (.if_icmp .ge 51, 3) := by decide +kernel
theorem dX10_removals_50 : decode cX10_removals 50 = .ok (.aload_n 0, 1) := by decide +kernel
theorem dX10_removals_51 : decode cX10_removals 51 = .ok (.getfield 10, 3) := by decide +kernel
theorem dX10_removals_54 : decode cX10_removals 54 = .ok (.iload 4, 2) := by decide +kernel
theorem dX10_removals_56 : decode cX10_removals 56 = .ok (.invokevirtual 80, 3) := by decide +kernel
theorem dX10_removals_59 : decode cX10_removals 59 = .ok (.iload_n 3, 1) := by decide +kernel
theorem dX10_removals_60 : decode cX10_removals 60 = .ok (.isub, 1) := by decide +kernel
theorem dX10_removals_61 : decode cX10_removals 61 = .ok (.istore 5, 2) := by decide +kernel
theorem dX10_removals_63 : decode cX10_removals 63 = .ok (.iload 5, 2) := by decide +kernel
theorem dX10_removals_65 : decode cX10_removals 65 = .ok (.ifCond .lt 27, 3) := by decide +kernel
theorem dX10_removals_68 : decode cX10_removals 68 = .ok (.aload_n 0, 1) := by decide +kernel
theorem dX10_removals_69 : decode cX10_removals 69 = .ok (.iload_n 1, 1) := by decide +kernel
theorem dX10_removals_70 : decode cX10_removals 70 = .ok (.iload 4, 2) := by decide +kernel
theorem dX10_removals_72 : decode cX10_removals 72 = .ok (.iload 5, 2) := by decide +kernel
theorem dX10_removals_74 : decode cX10_removals 74 = .ok (.aload_n 0, 1) := by decide +kernel
theorem dX10_removals_75 : decode cX10_removals 75 = .ok (.getfield 10, 3) := by decide +kernel
theorem dX10_removals_78 : decode cX10_removals 78 = .ok (.iload 4, 2) := by decide +kernel
theorem dX10_removals_80 : decode cX10_removals 80 = .ok (.invokevirtual 83, 3) := by decide +kernel
theorem dX10_removals_83 : decode cX10_removals 83 = .ok (.invokevirtual 237, 3) := by decide +kernel
theorem dX10_removals_86 : decode cX10_removals 86 = .ok (.iload_n 2, 1) := by decide +kernel
theorem dX10_removals_87 : decode cX10_removals 87 = .ok (.if_icmp .eq 5, 3) := by decide +kernel
theorem dX10_removals_90 : decode cX10_removals 90 = .ok (.iload_n 3, 1) := by decide +kernel
theorem dX10_removals_91 : decode cX10_removals 91 = .ok (.ireturn, 1) := by decide +kernel
theorem dX10_removals_92 : decode cX10_removals 92 = .ok (.iinc 4 1, 3) := by decide +kernel
theorem dX10_removals_95 : decode cX10_removals 95 = .ok (.goto (-57), 3) := by decide +kernel
theorem dX10_removals_98 : decode cX10_removals 98 = .ok (.iinc 3 1, 3) := by decide +kernel
theorem dX10_removals_101 : decode cX10_removals 101 = .ok (.goto (-72), 3) := by decide +kernel
theorem dX10_removals_104 : decode cX10_removals 104 = .ok (.ldc 227, 2) := by decide +kernel
theorem dX10_removals_106 : decode cX10_removals 106 = .ok (.ireturn, 1) := by decide +kernel
theorem dX10_sample_0 : decode cX10_sample 0 = .ok (.iload_n 1, 1) := by decide +kernel
theorem dX10_sample_1 : decode cX10_sample 1 = .ok (.invokestatic 128, 3) := by decide +kernel
theorem dX10_sample_4 : decode cX10_sample 4 = .ok (.ifCond .ne 6, 3) := by decide +kernel
theorem dX10_sample_7 : decode cX10_sample 7 = .ok (.ldc 75, 2) := by decide +kernel
theorem dX10_sample_9 : decode cX10_sample 9 = .ok (.ireturn, 1) := by decide +kernel
theorem dX10_sample_10 : decode cX10_sample 10 = .ok (.iload_n 3, 1) := by decide +kernel
theorem dX10_sample_11 : decode cX10_sample 11 = .ok (.invokestatic 254, 3) := by decide +kernel
theorem dX10_sample_14 : decode cX10_sample 14 = .ok (.ifCond .ne 6, 3) := by decide +kernel
theorem dX10_sample_17 : decode cX10_sample 17 = .ok (.ldc 55, 2) := by decide +kernel
theorem dX10_sample_19 : decode cX10_sample 19 = .ok (.ireturn, 1) := by decide +kernel
theorem dX10_sample_20 : decode cX10_sample 20 = .ok (.aload_n 0, 1) := by decide +kernel
theorem dX10_sample_21 : decode cX10_sample 21 = .ok (.getfield 10, 3) := by decide +kernel
theorem dX10_sample_24 : decode cX10_sample 24 = .ok (.getfield 68, 3) := by decide +kernel
theorem dX10_sample_27 : decode cX10_sample 27 = .ok (.ifCond .ne 6, 3) := by decide +kernel
theorem dX10_sample_30 : decode cX10_sample 30 = .ok (.ldc 121, 2) := by decide +kernel
theorem dX10_sample_32 : decode cX10_sample 32 = .ok (.ireturn, 1) := by decide +kernel
theorem dX10_sample_33 : decode cX10_sample 33 = .ok (.aload_n 0, 1) := by decide +kernel
theorem dX10_sample_34 : decode cX10_sample 34 = .ok (.iload_n 2, 1) := by decide +kernel
theorem dX10_sample_35 : decode cX10_sample 35 = .ok (.iload_n 3, 1) := by decide +kernel
theorem dX10_sample_36 : decode cX10_sample 36 = .ok (.invokevirtual 257, 3) := by decide +kernel
theorem dX10_sample_39 : decode cX10_sample 39 = .ok (.pop, 1) := by decide +kernel
theorem dX10_sample_40 : decode cX10_sample 40 = .ok (.aload_n 0, 1) := by decide +kernel
theorem dX10_sample_41 : decode cX10_sample 41 = .ok (.getfield 37, 3) := by decide +kernel
theorem dX10_sample_44 : decode cX10_sample 44 = .ok (.iload_n 1, 1) := by decide +kernel
theorem dX10_sample_45 : decode cX10_sample 45 = .ok (.aload_n 0, 1) := by decide +kernel
theorem dX10_sample_46 : decode cX10_sample 46 = .ok (.getfield 30, 3) := by decide +kernel
theorem dX10_sample_49 : decode cX10_sample 49 = .ok (.invokevirtual 135, 3) := by decide +kernel
theorem dX10_sample_52 : decode cX10_sample 52 = .ok (.ireturn, 1) := by decide +kernel
theorem dX10_agreeing_0 : decode cX10_agreeing 0 = .ok (.iload_n 1, 1) := by decide +kernel
theorem dX10_agreeing_1 : decode cX10_agreeing 1 = .ok (.invokestatic 128, 3) := by decide +kernel
theorem dX10_agreeing_4 : decode cX10_agreeing 4 = .ok (.ifCond .ne 6, 3) := by decide +kernel
theorem dX10_agreeing_7 : decode cX10_agreeing 7 = .ok (.ldc 75, 2) := by decide +kernel
theorem dX10_agreeing_9 : decode cX10_agreeing 9 = .ok (.ireturn, 1) := by decide +kernel
theorem dX10_agreeing_10 : decode cX10_agreeing 10 = .ok (.iload_n 3, 1) := by decide +kernel
theorem dX10_agreeing_11 : decode cX10_agreeing 11 = .ok (.invokestatic 254, 3) := by decide +kernel
theorem dX10_agreeing_14 : decode cX10_agreeing 14 = .ok (.ifCond .eq 16, 3) := by decide +kernel
theorem dX10_agreeing_17 : decode cX10_agreeing 17 = .ok (.iload 4, 2) := by decide +kernel
theorem dX10_agreeing_19 : decode cX10_agreeing 19 = .ok (.iconst 1, 1) := by decide +kernel
theorem dX10_agreeing_20 : decode cX10_agreeing 20 = .ok (.if_icmp .lt 10, 3) := by decide +kernel
theorem dX10_agreeing_23 : decode cX10_agreeing 23 = .ok (.iload 4, 2) := by decide +kernel
theorem dX10_agreeing_25 : decode cX10_agreeing 25 = .ok (.bipush 20, 2) := by decide +kernel
theorem dX10_agreeing_27 : decode cX10_agreeing 27 = .ok (.if_icmp .le 6, 3) := by decide +kernel
theorem dX10_agreeing_30 : decode cX10_agreeing 30 = .ok (.ldc 55, 2) := by decide +kernel
theorem dX10_agreeing_32 : decode cX10_agreeing 32 = .ok (.ireturn, 1) := by decide +kernel
theorem dX10_agreeing_33 : decode cX10_agreeing 33 = .ok (.aload_n 0, 1) := by decide +kernel
theorem dX10_agreeing_34 : decode cX10_agreeing 34 = .ok (.getfield 10, 3) := by decide +kernel
theorem dX10_agreeing_37 : decode cX10_agreeing 37 = .ok (.getfield 68, 3) := by decide +kernel
theorem dX10_agreeing_40 : decode cX10_agreeing 40 = .ok (.ifCond .eq 13, 3) := by decide +kernel
theorem dX10_agreeing_43 : decode cX10_agreeing 43 = .ok (.aload_n 0, 1) := by decide +kernel
theorem dX10_agreeing_44 : decode cX10_agreeing 44 = .ok (.getfield 10, 3) := by decide +kernel
theorem dX10_agreeing_47 : decode cX10_agreeing 47 = .ok (.getfield 105, 3) := by decide +kernel
theorem dX10_agreeing_50 : decode cX10_agreeing 50 = .ok (.ifCond .ne 6, 3) := by decide +kernel
theorem dX10_agreeing_53 : decode cX10_agreeing 53 = .ok (.ldc 121, 2) := by decide +kernel
theorem dX10_agreeing_55 : decode cX10_agreeing 55 = .ok (.ireturn, 1) := by decide +kernel
theorem dX10_agreeing_56 : decode cX10_agreeing 56 = .ok (.aload_n 0, 1) := by decide +kernel
theorem dX10_agreeing_57 : decode cX10_agreeing 57 = .ok (.invokevirtual 122, 3) := by decide +kernel
theorem dX10_agreeing_60 : decode cX10_agreeing 60 = .ok (.aload_n 0, 1) := by decide +kernel
theorem dX10_agreeing_61 : decode cX10_agreeing 61 = .ok (.getfield 37, 3) := by decide +kernel
theorem dX10_agreeing_64 : decode cX10_agreeing 64 = .ok (.iload_n 1, 1) := by decide +kernel
theorem dX10_agreeing_65 : decode cX10_agreeing 65 = .ok (.aload_n 0, 1) := by decide +kernel
theorem dX10_agreeing_66 : decode cX10_agreeing 66 = .ok (.getfield 30, 3) := by decide +kernel
theorem dX10_agreeing_69 : decode cX10_agreeing 69 = .ok (.invokevirtual 135, 3) := by decide +kernel
theorem dX10_agreeing_72 : decode cX10_agreeing 72 = .ok (.istore 5, 2) := by decide +kernel
theorem dX10_agreeing_74 : decode cX10_agreeing 74 = .ok (.iconst 0, 1) := by decide +kernel
theorem dX10_agreeing_75 : decode cX10_agreeing 75 = .ok (.istore 6, 2) := by decide +kernel
theorem dX10_agreeing_77 : decode cX10_agreeing 77 = .ok (.iload_n 2, 1) := by decide +kernel
theorem dX10_agreeing_78 : decode cX10_agreeing 78 = .ok (.istore 7, 2) := by decide +kernel
theorem dX10_agreeing_80 : decode cX10_agreeing 80 = .ok (.iconst 0, 1) := by decide +kernel
theorem dX10_agreeing_81 : decode cX10_agreeing 81 = .ok (.istore 8, 2) := by decide +kernel
theorem dX10_agreeing_83 : decode cX10_agreeing 83 = .ok (.iload 8, 2) := by decide +kernel
theorem dX10_agreeing_85 : decode cX10_agreeing 85 = .ok (.iload 4, 2) := by decide +kernel
theorem dX10_agreeing_87 : decode cX10_agreeing 87 = .ok (.if_icmp .ge 38, 3) := by decide +kernel
theorem dX10_agreeing_90 : decode cX10_agreeing 90 = .ok (.aload_n 0, 1) := by decide +kernel
theorem dX10_agreeing_91 : decode cX10_agreeing 91 = .ok (.iload 7, 2) := by decide +kernel
theorem dX10_agreeing_93 : decode cX10_agreeing 93 = .ok (.iload_n 3, 1) := by decide +kernel
theorem dX10_agreeing_94 : decode cX10_agreeing 94 = .ok (.invokevirtual 257, 3) := by decide +kernel
theorem dX10_agreeing_97 : decode cX10_agreeing 97 = .ok (.istore 7, 2) := by decide +kernel
theorem dX10_agreeing_99 : decode cX10_agreeing 99 = .ok (.aload_n 0, 1) := by decide +kernel
theorem dX10_agreeing_100 : decode cX10_agreeing 100 = .ok (.getfield 37, 3) := by decide +kernel
theorem dX10_agreeing_103 : decode cX10_agreeing 103 = .ok (.iload_n 1, 1) := by decide +kernel
theorem dX10_agreeing_104 : decode cX10_agreeing 104 = .ok (.aload_n 0, 1) := by decide +kernel
theorem dX10_agreeing_105 : decode cX10_agreeing 105 = .ok (.getfield 30, 3) := by decide +kernel
theorem dX10_agreeing_108 : decode cX10_agreeing 108 = .ok (.invokevirtual 135, 3) := by decide +kernel
theorem dX10_agreeing_111 : decode cX10_agreeing 111 = .ok (.iload 5, 2) := by decide +kernel
theorem dX10_agreeing_113 : decode cX10_agreeing 113 = .ok (.if_icmp .ne 6, 3) := by decide +kernel
theorem dX10_agreeing_116 : decode cX10_agreeing 116 = .ok (.iinc 6 1, 3) := by decide +kernel
theorem dX10_agreeing_119 : decode cX10_agreeing 119 = .ok (.iinc 8 1, 3) := by decide +kernel
theorem dX10_agreeing_122 : decode cX10_agreeing 122 = .ok (.goto (-39), 3) := by decide +kernel
theorem dX10_agreeing_125 : decode cX10_agreeing 125 = .ok (.iload 6, 2) := by decide +kernel
theorem dX10_agreeing_127 : decode cX10_agreeing 127 = .ok (.ireturn, 1) := by decide +kernel
theorem dX10_undo_0 : decode cX10_undo 0 = .ok (.aload_n 0, 1) := by decide +kernel
theorem dX10_undo_1 : decode cX10_undo 1 = .ok (.getfield 260, 3) := by decide +kernel
theorem dX10_undo_4 : decode cX10_undo 4 = .ok (.iconst 1, 1) := by decide +kernel
theorem dX10_undo_5 : decode cX10_undo 5 = .ok (.if_icmp .lt 15, 3) := by decide +kernel
theorem dX10_undo_8 : decode cX10_undo 8 = .ok (.aload_n 0, 1) := by decide +kernel
theorem dX10_undo_9 : decode cX10_undo 9 = .ok (.getfield 260, 3) := by decide +kernel
theorem dX10_undo_12 : decode cX10_undo 12 = .ok (.aload_n 0, 1) := by decide +kernel
theorem dX10_undo_13 : decode cX10_undo 13 = .ok (.getfield 16, 3) := by decide +kernel
theorem dX10_undo_16 : decode cX10_undo 16 = .ok (.arraylength, 1) := by decide +kernel
theorem dX10_undo_17 : decode cX10_undo 17 = .ok (.if_icmp .le 6, 3) := by decide +kernel
theorem dX10_undo_20 : decode cX10_undo 20 = .ok (.ldc 121, 2) := by decide +kernel
theorem dX10_undo_22 : decode cX10_undo 22 = .ok (.ireturn, 1) := by decide +kernel
theorem dX10_undo_23 : decode cX10_undo 23 = .ok (.aload_n 0, 1) := by decide +kernel
theorem dX10_undo_24 : decode cX10_undo 24 = .ok (.dup, 1) := by decide +kernel
theorem dX10_undo_25 : decode cX10_undo 25 = .ok (.getfield 260, 3) := by decide +kernel
theorem dX10_undo_28 : decode cX10_undo 28 = .ok (.iconst 1, 1) := by decide +kernel
theorem dX10_undo_29 : decode cX10_undo 29 = .ok (.isub, 1) := by decide +kernel
theorem dX10_undo_30 : decode cX10_undo 30 = .ok (.putfield 260, 3) := by decide +kernel
theorem dX10_undo_33 : decode cX10_undo 33 = .ok (.aload_n 0, 1) := by decide +kernel
theorem dX10_undo_34 : decode cX10_undo 34 = .ok (.getfield 16, 3) := by decide +kernel
theorem dX10_undo_37 : decode cX10_undo 37 = .ok (.aload_n 0, 1) := by decide +kernel
theorem dX10_undo_38 : decode cX10_undo 38 = .ok (.getfield 260, 3) := by decide +kernel
theorem dX10_undo_41 : decode cX10_undo 41 = .ok (.aaload, 1) := by decide +kernel
theorem dX10_undo_42 : decode cX10_undo 42 = .ok (.astore_n 1, 1) := by decide +kernel
theorem dX10_undo_43 : decode cX10_undo 43 = .ok (.aload_n 1, 1) := by decide +kernel
theorem dX10_undo_44 : decode cX10_undo 44 = .ok (.ifnull 11, 3) := by decide +kernel
theorem dX10_undo_47 : decode cX10_undo 47 = .ok (.aload_n 0, 1) := by decide +kernel
theorem dX10_undo_48 : decode cX10_undo 48 = .ok (.getfield 10, 3) := by decide +kernel
theorem dX10_undo_51 : decode cX10_undo 51 = .ok (.aload_n 1, 1) := by decide +kernel
theorem dX10_undo_52 : decode cX10_undo 52 = .ok (.invokevirtual 263, 3) := by decide +kernel
theorem dX10_undo_55 : decode cX10_undo 55 = .ok (.aload_n 0, 1) := by decide +kernel
theorem dX10_undo_56 : decode cX10_undo 56 = .ok (.getfield 260, 3) := by decide +kernel
theorem dX10_undo_59 : decode cX10_undo 59 = .ok (.ireturn, 1) := by decide +kernel
theorem dX10_load_0 : decode cX10_load 0 = .ok (.aload_n 0, 1) := by decide +kernel
theorem dX10_load_1 : decode cX10_load 1 = .ok (.getfield 23, 3) := by decide +kernel
theorem dX10_load_4 : decode cX10_load 4 = .ok (.aload_n 0, 1) := by decide +kernel
theorem dX10_load_5 : decode cX10_load 5 = .ok (.getfield 10, 3) := by decide +kernel
theorem dX10_load_8 : decode cX10_load 8 = .ok (.invokevirtual 56, 3) := by decide +kernel
theorem dX10_load_11 : decode cX10_load 11 = .ok (.invokevirtual 272, 3) := by decide +kernel
theorem dX10_load_14 : decode cX10_load 14 = .ok (.ldc 227, 2) := by decide +kernel
theorem dX10_load_16 : decode cX10_load 16 = .ok (.if_icmp .eq 6, 3) := by decide +kernel
theorem dX10_load_19 : decode cX10_load 19 = .ok (.ldc 121, 2) := by decide +kernel
theorem dX10_load_21 : decode cX10_load 21 = .ok (.ireturn, 1) := by decide +kernel
theorem dX10_load_22 : decode cX10_load 22 = .ok (.aload_n 0, 1) := by decide +kernel
theorem dX10_load_23 : decode cX10_load 23 = .ok (.invokevirtual 61, 3) := by decide +kernel
theorem dX10_load_26 : decode cX10_load 26 = .ok (.iconst 0, 1) := by decide +kernel
theorem dX10_load_27 : decode cX10_load 27 = .ok (.istore_n 1, 1) := by decide +kernel
theorem dX10_load_28 : decode cX10_load 28 = .ok (.iload_n 1, 1) := by decide +kernel
theorem dX10_load_29 : decode cX10_load 29 = .ok (.aload_n 0, 1) := by decide +kernel
theorem dX10_load_30 : decode cX10_load 30 = .ok (.getfield 23, 3) := by decide +kernel
theorem dX10_load_33 : decode cX10_load 33 = .ok (.getfield 275, 3) := by decide +kernel
theorem dX10_load_36 : decode cX10_load 36 = .ok (.if_icmp .ge 32, 3) := by decide +kernel
theorem dX10_load_39 : decode cX10_load 39 = .ok (.aload_n 0, 1) := by decide +kernel
theorem dX10_load_40 : decode cX10_load 40 = .ok (.getfield 10, 3) := by decide +kernel
theorem dX10_load_43 : decode cX10_load 43 = .ok (.aload_n 0, 1) := by decide +kernel
theorem dX10_load_44 : decode cX10_load 44 = .ok (.getfield 23, 3) := by decide +kernel
theorem dX10_load_47 : decode cX10_load 47 = .ok (.iload_n 1, 1) := by decide +kernel
theorem dX10_load_48 : decode cX10_load 48 = .ok (.invokevirtual 276, 3) := by decide +kernel
theorem dX10_load_51 : decode cX10_load 51 = .ok (.aload_n 0, 1) := by decide +kernel
theorem dX10_load_52 : decode cX10_load 52 = .ok (.getfield 23, 3) := by decide +kernel
theorem dX10_load_55 : decode cX10_load 55 = .ok (.iload_n 1, 1) := by decide +kernel
theorem dX10_load_56 : decode cX10_load 56 = .ok (.invokevirtual 277, 3) := by decide +kernel
theorem dX10_load_59 : decode cX10_load 59 = .ok (.invokevirtual 64, 3) := by decide +kernel
theorem dX10_load_62 : decode cX10_load 62 = .ok (.iinc 1 1, 3) := by decide +kernel
theorem dX10_load_65 : decode cX10_load 65 = .ok (.goto (-37), 3) := by decide +kernel
theorem dX10_load_68 : decode cX10_load 68 = .ok (.aload_n 0, 1) := by decide +kernel
theorem dX10_load_69 : decode cX10_load 69 = .ok (.getfield 10, 3) := by decide +kernel
theorem dX10_load_72 : decode cX10_load 72 = .ok (.getfield 68, 3) := by decide +kernel
theorem dX10_load_75 : decode cX10_load 75 = .ok (.ireturn, 1) := by decide +kernel
theorem dX10_isRule_0 : decode cX10_isRule 0 = .ok (.iload_n 0, 1) := by decide +kernel
theorem dX10_isRule_1 : decode cX10_isRule 1 = .ok (.ifCond .lt 13, 3) := by decide +kernel
theorem dX10_isRule_4 : decode cX10_isRule 4 = .ok (.iload_n 0, 1) := by decide +kernel
theorem dX10_isRule_5 : decode cX10_isRule 5 = .ok (.bipush 12, 2) := by decide +kernel
theorem dX10_isRule_7 : decode cX10_isRule 7 = .ok (.if_icmp .ge 7, 3) := by decide +kernel
theorem dX10_isRule_10 : decode cX10_isRule 10 = .ok (.iconst 1, 1) := by decide +kernel
theorem dX10_isRule_11 : decode cX10_isRule 11 = .ok (.goto 4, 3) := by decide +kernel
theorem dX10_isRule_14 : decode cX10_isRule 14 = .ok (.iconst 0, 1) := by decide +kernel
theorem dX10_isRule_15 : decode cX10_isRule 15 = .ok (.ireturn, 1) := by decide +kernel
theorem dX10_goesByPoints_0 : decode cX10_goesByPoints 0 = .ok (.iload_n 0, 1) := by decide +kernel
theorem dX10_goesByPoints_1 : decode cX10_goesByPoints 1 = .ok (.ifCond .eq 24, 3) := by decide +kernel
theorem dX10_goesByPoints_4 : decode cX10_goesByPoints 4 = .ok (.iload_n 0, 1) := by decide +kernel
theorem dX10_goesByPoints_5 : decode cX10_goesByPoints 5 = .ok (.iconst 1, 1) := by decide +kernel
theorem dX10_goesByPoints_6 : decode cX10_goesByPoints 6 = .ok (.if_icmp .eq 19, 3) := by decide +kernel
theorem dX10_goesByPoints_9 : decode cX10_goesByPoints 9 = .ok (.iload_n 0, 1) := by decide +kernel
theorem dX10_goesByPoints_10 : decode cX10_goesByPoints 10 = .ok (.iconst 2, 1) := by decide +kernel
theorem dX10_goesByPoints_11 : decode cX10_goesByPoints 11 = .ok (.if_icmp .eq 14, 3) := by decide +kernel
theorem dX10_goesByPoints_14 : decode cX10_goesByPoints 14 = .ok (.iload_n 0, 1) := by decide +kernel
theorem dX10_goesByPoints_15 : decode cX10_goesByPoints 15 = .ok (.iconst 3, 1) := by decide +kernel
theorem dX10_goesByPoints_16 : decode cX10_goesByPoints 16 = .ok (.if_icmp .eq 9, 3) := by decide +kernel
theorem dX10_goesByPoints_19 : decode cX10_goesByPoints 19 = .ok (.iload_n 0, 1) := by decide +kernel
theorem dX10_goesByPoints_20 : decode cX10_goesByPoints 20 = .ok (.bipush 8, 2) := by decide +kernel
theorem dX10_goesByPoints_22 : decode cX10_goesByPoints 22 = .ok (.if_icmp .ne 7, 3) := by decide +kernel
theorem dX10_goesByPoints_25 : decode cX10_goesByPoints 25 = .ok (.iconst 1, 1) := by decide +kernel
theorem dX10_goesByPoints_26 : decode cX10_goesByPoints 26 = .ok (.goto 4, 3) := by decide +kernel
theorem dX10_goesByPoints_29 : decode cX10_goesByPoints 29 = .ok (.iconst 0, 1) := by decide +kernel
theorem dX10_goesByPoints_30 : decode cX10_goesByPoints 30 = .ok (.ireturn, 1) := by decide +kernel
theorem dX10_goesByRounds_0 : decode cX10_goesByRounds 0 = .ok (.iload_n 0, 1) := by decide +kernel
theorem dX10_goesByRounds_1 : decode cX10_goesByRounds 1 = .ok (.bipush 6, 2) := by decide +kernel
theorem dX10_goesByRounds_3 : decode cX10_goesByRounds 3 = .ok (.if_icmp .eq 9, 3) := by decide +kernel
theorem dX10_goesByRounds_6 : decode cX10_goesByRounds 6 = .ok (.iload_n 0, 1) := by decide +kernel
theorem dX10_goesByRounds_7 : decode cX10_goesByRounds 7 = .ok (.bipush 7, 2) := by decide +kernel
theorem dX10_goesByRounds_9 : decode cX10_goesByRounds 9 = .ok (.if_icmp .ne 7, 3) := by decide +kernel
theorem dX10_goesByRounds_12 : decode cX10_goesByRounds 12 = .ok (.iconst 1, 1) := by decide +kernel
theorem dX10_goesByRounds_13 : decode cX10_goesByRounds 13 = .ok (.goto 4, 3) := by decide +kernel
theorem dX10_goesByRounds_16 : decode cX10_goesByRounds 16 = .ok (.iconst 0, 1) := by decide +kernel
theorem dX10_goesByRounds_17 : decode cX10_goesByRounds 17 = .ok (.ireturn, 1) := by decide +kernel
theorem dX10_isGroupSize_0 : decode cX10_isGroupSize 0 = .ok (.iload_n 0, 1) := by decide +kernel
theorem dX10_isGroupSize_1 : decode cX10_isGroupSize 1 = .ok (.iconst 1, 1) := by decide +kernel
theorem dX10_isGroupSize_2 : decode cX10_isGroupSize 2 = .ok (.if_icmp .lt 13, 3) := by decide +kernel
theorem dX10_isGroupSize_5 : decode cX10_isGroupSize 5 = .ok (.iload_n 0, 1) := by decide +kernel
theorem dX10_isGroupSize_6 : decode cX10_isGroupSize 6 = .ok (.bipush 100, 2) := by decide +kernel
theorem dX10_isGroupSize_8 : decode cX10_isGroupSize 8 = .ok (.if_icmp .gt 7, 3) := by decide +kernel
theorem dX10_isGroupSize_11 : decode cX10_isGroupSize 11 = .ok (.iconst 1, 1) := by decide +kernel
theorem dX10_isGroupSize_12 : decode cX10_isGroupSize 12 = .ok (.goto 4, 3) := by decide +kernel
theorem dX10_isGroupSize_15 : decode cX10_isGroupSize 15 = .ok (.iconst 0, 1) := by decide +kernel
theorem dX10_isGroupSize_16 : decode cX10_isGroupSize 16 = .ok (.ireturn, 1) := by decide +kernel
theorem dX10_isSampleSize_0 : decode cX10_isSampleSize 0 = .ok (.iload_n 0, 1) := by decide +kernel
theorem dX10_isSampleSize_1 : decode cX10_isSampleSize 1 = .ok (.iconst 1, 1) := by decide +kernel
theorem dX10_isSampleSize_2 : decode cX10_isSampleSize 2 = .ok (.if_icmp .lt 13, 3) := by decide +kernel
theorem dX10_isSampleSize_5 : decode cX10_isSampleSize 5 = .ok (.iload_n 0, 1) := by decide +kernel
theorem dX10_isSampleSize_6 : decode cX10_isSampleSize 6 = .ok (.bipush 50, 2) := by decide +kernel
theorem dX10_isSampleSize_8 : decode cX10_isSampleSize 8 = .ok (.if_icmp .gt 7, 3) := by decide +kernel
theorem dX10_isSampleSize_11 : decode cX10_isSampleSize 11 = .ok (.iconst 1, 1) := by decide +kernel
theorem dX10_isSampleSize_12 : decode cX10_isSampleSize 12 = .ok (.goto 4, 3) := by decide +kernel
theorem dX10_isSampleSize_15 : decode cX10_isSampleSize 15 = .ok (.iconst 0, 1) := by decide +kernel
theorem dX10_isSampleSize_16 : decode cX10_isSampleSize 16 = .ok (.ireturn, 1) := by decide +kernel
theorem dX10_orNone_0 : decode cX10_orNone 0 = .ok (.iload_n 0, 1) := by decide +kernel
theorem dX10_orNone_1 : decode cX10_orNone 1 = .ok (.iconst (-1), 1) := by decide +kernel
theorem dX10_orNone_2 : decode cX10_orNone 2 = .ok (.if_icmp .ne 8, 3) := by decide +kernel
theorem dX10_orNone_5 : decode cX10_orNone 5 = .ok (.ldc 227, 2) := by decide +kernel
theorem dX10_orNone_7 : decode cX10_orNone 7 = .ok (.goto 4, 3) := by decide +kernel
theorem dX10_orNone_10 : decode cX10_orNone 10 = .ok (.iload_n 0, 1) := by decide +kernel
theorem dX10_orNone_11 : decode cX10_orNone 11 = .ok (.ireturn, 1) := by decide +kernel
theorem dX10_bothStand_0 : decode cX10_bothStand 0 = .ok (.aload_n 0, 1) := by decide +kernel
theorem dX10_bothStand_1 : decode cX10_bothStand 1 = .ok (.getfield 10, 3) := by decide +kernel
theorem dX10_bothStand_4 : decode cX10_bothStand 4 = .ok (.getfield 105, 3) := by decide +kernel
theorem dX10_bothStand_7 : decode cX10_bothStand 7 = .ok (.iload_n 1, 1) := by decide +kernel
theorem dX10_bothStand_8 : decode cX10_bothStand 8 = .ok (.invokestatic 108, 3) := by decide +kernel
theorem dX10_bothStand_11 : decode cX10_bothStand 11 = .ok (.ifCond .eq 21, 3) := by decide +kernel
theorem dX10_bothStand_14 : decode cX10_bothStand 14 = .ok (.aload_n 0, 1) := by decide +kernel
theorem dX10_bothStand_15 : decode cX10_bothStand 15 = .ok (.getfield 10, 3) := by decide +kernel
theorem dX10_bothStand_18 : decode cX10_bothStand 18 = .ok (.getfield 105, 3) := by decide +kernel
theorem dX10_bothStand_21 : decode cX10_bothStand 21 = .ok (.iload_n 2, 1) := by decide +kernel
theorem dX10_bothStand_22 : decode cX10_bothStand 22 = .ok (.invokestatic 108, 3) := by decide +kernel
theorem dX10_bothStand_25 : decode cX10_bothStand 25 = .ok (.ifCond .eq 7, 3) := by decide +kernel
theorem dX10_bothStand_28 : decode cX10_bothStand 28 = .ok (.iconst 1, 1) := by decide +kernel
theorem dX10_bothStand_29 : decode cX10_bothStand 29 = .ok (.goto 4, 3) := by decide +kernel
theorem dX10_bothStand_32 : decode cX10_bothStand 32 = .ok (.iconst 0, 1) := by decide +kernel
theorem dX10_bothStand_33 : decode cX10_bothStand 33 = .ok (.ireturn, 1) := by decide +kernel
theorem dX10_isPlace_0 : decode cX10_isPlace 0 = .ok (.iload_n 1, 1) := by decide +kernel
theorem dX10_isPlace_1 : decode cX10_isPlace 1 = .ok (.ifCond .lt 21, 3) := by decide +kernel
theorem dX10_isPlace_4 : decode cX10_isPlace 4 = .ok (.iload_n 1, 1) := by decide +kernel
theorem dX10_isPlace_5 : decode cX10_isPlace 5 = .ok (.aload_n 0, 1) := by decide +kernel
theorem dX10_isPlace_6 : decode cX10_isPlace 6 = .ok (.getfield 10, 3) := by decide +kernel
theorem dX10_isPlace_9 : decode cX10_isPlace 9 = .ok (.getfield 105, 3) := by decide +kernel
theorem dX10_isPlace_12 : decode cX10_isPlace 12 = .ok (.invokestatic 278, 3) := by decide +kernel
theorem dX10_isPlace_15 : decode cX10_isPlace 15 = .ok (.if_icmp .ge 7, 3) := by decide +kernel
theorem dX10_isPlace_18 : decode cX10_isPlace 18 = .ok (.iconst 1, 1) := by decide +kernel
theorem dX10_isPlace_19 : decode cX10_isPlace 19 = .ok (.goto 4, 3) := by decide +kernel
theorem dX10_isPlace_22 : decode cX10_isPlace 22 = .ok (.iconst 0, 1) := by decide +kernel
theorem dX10_isPlace_23 : decode cX10_isPlace 23 = .ok (.ireturn, 1) := by decide +kernel
theorem dX10_castAll_0 : decode cX10_castAll 0 = .ok (.aload_n 0, 1) := by decide +kernel
theorem dX10_castAll_1 : decode cX10_castAll 1 = .ok (.aload_n 0, 1) := by decide +kernel
theorem dX10_castAll_2 : decode cX10_castAll 2 = .ok (.getfield 10, 3) := by decide +kernel
theorem dX10_castAll_5 : decode cX10_castAll 5 = .ok (.getfield 105, 3) := by decide +kernel
theorem dX10_castAll_8 : decode cX10_castAll 8 = .ok (.iconst 0, 1) := by decide +kernel
theorem dX10_castAll_9 : decode cX10_castAll 9 = .ok (.aload_n 0, 1) := by decide +kernel
theorem dX10_castAll_10 : decode cX10_castAll 10 = .ok (.getfield 10, 3) := by decide +kernel
theorem dX10_castAll_13 : decode cX10_castAll 13 = .ok (.getfield 68, 3) := by decide +kernel
theorem dX10_castAll_16 : decode cX10_castAll 16 = .ok (.invokevirtual 251, 3) := by decide +kernel
theorem dX10_castAll_19 : decode cX10_castAll 19 = .ok (.return_, 1) := by decide +kernel
theorem dX10_castGroups_0 : decode cX10_castGroups 0 = .ok (.aload_n 0, 1) := by decide +kernel
theorem dX10_castGroups_1 : decode cX10_castGroups 1 = .ok (.getfield 30, 3) := by decide +kernel
theorem dX10_castGroups_4 : decode cX10_castGroups 4 = .ok (.iload_n 1, 1) := by decide +kernel
theorem dX10_castGroups_5 : decode cX10_castGroups 5 = .ok (.invokevirtual 283, 3) := by decide +kernel
theorem dX10_castGroups_8 : decode cX10_castGroups 8 = .ok (.iload_n 2, 1) := by decide +kernel
theorem dX10_castGroups_9 : decode cX10_castGroups 9 = .ok (.istore 4, 2) := by decide +kernel
theorem dX10_castGroups_11 : decode cX10_castGroups 11 = .ok (.iload 4, 2) := by decide +kernel
theorem dX10_castGroups_13 : decode cX10_castGroups 13 = .ok (.iload_n 3, 1) := by decide +kernel
theorem dX10_castGroups_14 : decode cX10_castGroups 14 = .ok (.if_icmp .ge 36, 3) := by decide +kernel
theorem dX10_castGroups_17 : decode cX10_castGroups 17 = .ok (.aload_n 0, 1) := by decide +kernel
theorem dX10_castGroups_18 : decode cX10_castGroups 18 = .ok (.getfield 30, 3) := by decide +kernel
theorem dX10_castGroups_21 : decode cX10_castGroups 21 = .ok (.iload 4, 2) := by decide +kernel
theorem dX10_castGroups_23 : decode cX10_castGroups 23 = .ok (.aload_n 0, 1) := by decide +kernel
theorem dX10_castGroups_24 : decode cX10_castGroups 24 = .ok (.getfield 10, 3) := by decide +kernel
theorem dX10_castGroups_27 : decode cX10_castGroups 27 = .ok (.iload 4, 2) := by decide +kernel
theorem dX10_castGroups_29 : decode cX10_castGroups 29 = .ok (.invokevirtual 80, 3) := by decide +kernel
theorem dX10_castGroups_32 : decode cX10_castGroups 32 = .ok (.aload_n 0, 1) := by decide +kernel
theorem dX10_castGroups_33 : decode cX10_castGroups 33 = .ok (.getfield 10, 3) := by decide +kernel
theorem dX10_castGroups_36 : decode cX10_castGroups 36 = .ok (.iload 4, 2) := by decide +kernel
theorem dX10_castGroups_38 : decode cX10_castGroups 38 = .ok (.invokevirtual 83, 3) := by decide +kernel
theorem dX10_castGroups_41 : decode cX10_castGroups 41 = .ok (.invokevirtual 231, 3) := by decide +kernel
theorem dX10_castGroups_44 : decode cX10_castGroups 44 = .ok (.iinc 4 1, 3) := by decide +kernel
theorem dX10_castGroups_47 : decode cX10_castGroups 47 = .ok (.goto (-36), 3) := by decide +kernel
theorem dX10_castGroups_50 : decode cX10_castGroups 50 = .ok (.return_, 1) := by decide +kernel
theorem dX10_winnerWith_0 : decode cX10_winnerWith 0 = .ok (.aload_n 0, 1) := by decide +kernel
theorem dX10_winnerWith_1 : decode cX10_winnerWith 1 = .ok (.getfield 30, 3) := by decide +kernel
theorem dX10_winnerWith_4 : decode cX10_winnerWith 4 = .ok (.iload_n 2, 1) := by decide +kernel
theorem dX10_winnerWith_5 : decode cX10_winnerWith 5 = .ok (.iload_n 3, 1) := by decide +kernel
theorem dX10_winnerWith_6 : decode cX10_winnerWith 6 = .ok (.iload 4, 2) := by decide +kernel
theorem dX10_winnerWith_8 : decode cX10_winnerWith 8 = .ok (.invokevirtual 231, 3) := by decide +kernel
theorem dX10_winnerWith_11 : decode cX10_winnerWith 11 = .ok (.aload_n 0, 1) := by decide +kernel
theorem dX10_winnerWith_12 : decode cX10_winnerWith 12 = .ok (.getfield 37, 3) := by decide +kernel
theorem dX10_winnerWith_15 : decode cX10_winnerWith 15 = .ok (.iload_n 1, 1) := by decide +kernel
theorem dX10_winnerWith_16 : decode cX10_winnerWith 16 = .ok (.aload_n 0, 1) := by decide +kernel
theorem dX10_winnerWith_17 : decode cX10_winnerWith 17 = .ok (.getfield 30, 3) := by decide +kernel
theorem dX10_winnerWith_20 : decode cX10_winnerWith 20 = .ok (.invokevirtual 135, 3) := by decide +kernel
theorem dX10_winnerWith_23 : decode cX10_winnerWith 23 = .ok (.istore 5, 2) := by decide +kernel
theorem dX10_winnerWith_25 : decode cX10_winnerWith 25 = .ok (.aload_n 0, 1) := by decide +kernel
theorem dX10_winnerWith_26 : decode cX10_winnerWith 26 = .ok (.getfield 30, 3) := by decide +kernel
theorem dX10_winnerWith_29 : decode cX10_winnerWith 29 = .ok (.iload_n 2, 1) := by decide +kernel
theorem dX10_winnerWith_30 : decode cX10_winnerWith 30 = .ok (.aload_n 0, 1) := by decide +kernel
theorem dX10_winnerWith_31 : decode cX10_winnerWith 31 = .ok (.getfield 10, 3) := by decide +kernel
theorem dX10_winnerWith_34 : decode cX10_winnerWith 34 = .ok (.iload_n 2, 1) := by decide +kernel
theorem dX10_winnerWith_35 : decode cX10_winnerWith 35 = .ok (.invokevirtual 80, 3) := by decide +kernel
theorem dX10_winnerWith_38 : decode cX10_winnerWith 38 = .ok (.aload_n 0, 1) := by decide +kernel
theorem dX10_winnerWith_39 : decode cX10_winnerWith 39 = .ok (.getfield 10, 3) := by decide +kernel
theorem dX10_winnerWith_42 : decode cX10_winnerWith 42 = .ok (.iload_n 2, 1) := by decide +kernel
theorem dX10_winnerWith_43 : decode cX10_winnerWith 43 = .ok (.invokevirtual 83, 3) := by decide +kernel
theorem dX10_winnerWith_46 : decode cX10_winnerWith 46 = .ok (.invokevirtual 231, 3) := by decide +kernel
theorem dX10_winnerWith_49 : decode cX10_winnerWith 49 = .ok (.iload 5, 2) := by decide +kernel
theorem dX10_winnerWith_51 : decode cX10_winnerWith 51 = .ok (.ireturn, 1) := by decide +kernel
theorem dX10_bestStrategy_0 : decode cX10_bestStrategy 0 = .ok (.aload_n 0, 1) := by decide +kernel
theorem dX10_bestStrategy_1 : decode cX10_bestStrategy 1 = .ok (.invokevirtual 122, 3) := by decide +kernel
theorem dX10_bestStrategy_4 : decode cX10_bestStrategy 4 = .ok (.aload_n 0, 1) := by decide +kernel
theorem dX10_bestStrategy_5 : decode cX10_bestStrategy 5 = .ok (.getfield 10, 3) := by decide +kernel
theorem dX10_bestStrategy_8 : decode cX10_bestStrategy 8 = .ok (.iload_n 2, 1) := by decide +kernel
theorem dX10_bestStrategy_9 : decode cX10_bestStrategy 9 = .ok (.invokevirtual 80, 3) := by decide +kernel
theorem dX10_bestStrategy_12 : decode cX10_bestStrategy 12 = .ok (.istore_n 3, 1) := by decide +kernel
theorem dX10_bestStrategy_13 : decode cX10_bestStrategy 13 = .ok (.aload_n 0, 1) := by decide +kernel
theorem dX10_bestStrategy_14 : decode cX10_bestStrategy 14 = .ok (.getfield 10, 3) := by decide +kernel
theorem dX10_bestStrategy_17 : decode cX10_bestStrategy 17 = .ok (.iload_n 2, 1) := by decide +kernel
theorem dX10_bestStrategy_18 : decode cX10_bestStrategy 18 = .ok (.invokevirtual 83, 3) := by decide +kernel
theorem dX10_bestStrategy_21 : decode cX10_bestStrategy 21 = .ok (.aload_n 0, 1) := by decide +kernel
theorem dX10_bestStrategy_22 : decode cX10_bestStrategy 22 = .ok (.getfield 10, 3) := by decide +kernel
theorem dX10_bestStrategy_25 : decode cX10_bestStrategy 25 = .ok (.getfield 105, 3) := by decide +kernel
theorem dX10_bestStrategy_28 : decode cX10_bestStrategy 28 = .ok (.invokestatic 245, 3) := by decide +kernel
theorem dX10_bestStrategy_31 : decode cX10_bestStrategy 31 = .ok (.istore 4, 2) := by decide +kernel
theorem dX10_bestStrategy_33 : decode cX10_bestStrategy 33 = .ok (.iload 4, 2) := by decide +kernel
theorem dX10_bestStrategy_35 : decode cX10_bestStrategy 35 = .ok (.iconst 0, 1) := by decide +kernel
theorem dX10_bestStrategy_36 : decode cX10_bestStrategy 36 = .ok (.invokestatic 234, 3) := by decide +kernel
theorem dX10_bestStrategy_39 : decode cX10_bestStrategy 39 = .ok (.istore 5, 2) := by decide +kernel
theorem dX10_bestStrategy_41 : decode cX10_bestStrategy 41 = .ok (.aload_n 0, 1) := by decide +kernel
theorem dX10_bestStrategy_42 : decode cX10_bestStrategy 42 = .ok (.getfield 37, 3) := by decide +kernel
theorem dX10_bestStrategy_45 : decode cX10_bestStrategy 45 = .ok (.iload_n 1, 1) := by decide +kernel
theorem dX10_bestStrategy_46 : decode cX10_bestStrategy 46 = .ok (.aload_n 0, 1) := by decide +kernel
theorem dX10_bestStrategy_47 : decode cX10_bestStrategy 47 = .ok (.getfield 30, 3) := by decide +kernel
theorem dX10_bestStrategy_50 : decode cX10_bestStrategy 50 = .ok (.invokevirtual 135, 3) := by decide +kernel
theorem dX10_bestStrategy_53 : decode cX10_bestStrategy 53 = .ok (.istore 6, 2) := by decide +kernel
theorem dX10_bestStrategy_55 : decode cX10_bestStrategy 55 = .ok (.iconst 0, 1) := by decide +kernel
theorem dX10_bestStrategy_56 : decode cX10_bestStrategy 56 = .ok (.istore 7, 2) := by decide +kernel
theorem dX10_bestStrategy_58 : decode cX10_bestStrategy 58 = .ok (.aload_n 0, 1) := by decide +kernel
theorem dX10_bestStrategy_59 : decode cX10_bestStrategy 59 = .ok (.getfield 10, 3) := by decide +kernel
theorem dX10_bestStrategy_62 : decode cX10_bestStrategy 62 = .ok (.getfield 105, 3) := by decide +kernel
theorem dX10_bestStrategy_65 : decode cX10_bestStrategy 65 = .ok (.invokestatic 278, 3) := by decide +kernel
theorem dX10_bestStrategy_68 : decode cX10_bestStrategy 68 = .ok (.invokestatic 286, 3) := by decide +kernel
theorem dX10_bestStrategy_71 : decode cX10_bestStrategy 71 = .ok (.istore 8, 2) := by decide +kernel
theorem dX10_bestStrategy_73 : decode cX10_bestStrategy 73 = .ok (.iconst 0, 1) := by decide +kernel
theorem dX10_bestStrategy_74 : decode cX10_bestStrategy 74 = .ok (.istore 9, 2) := by decide +kernel
theorem dX10_bestStrategy_76 : decode cX10_bestStrategy 76 = .ok (.iload 9, 2) := by decide +kernel
theorem dX10_bestStrategy_78 : decode cX10_bestStrategy 78 = .ok (.iload 8, 2) := by decide +kernel
theorem dX10_bestStrategy_80 : decode cX10_bestStrategy 80 = .ok (.if_icmp .ge 75, 3) := by decide +kernel
theorem dX10_bestStrategy_83 : decode cX10_bestStrategy 83 = .ok (.iload 6, 2) := by decide +kernel
theorem dX10_bestStrategy_85 : decode cX10_bestStrategy 85 = .ok (.iload 5, 2) := by decide +kernel
theorem dX10_bestStrategy_87 : decode cX10_bestStrategy 87 = .ok (.if_icmp .eq 68, 3) := by decide +kernel
theorem dX10_bestStrategy_90 : decode cX10_bestStrategy 90 = .ok (.aload_n 0, 1) := by decide +kernel
theorem dX10_bestStrategy_91 : decode cX10_bestStrategy 91 = .ok (.getfield 10, 3) := by decide +kernel
theorem dX10_bestStrategy_94 : decode cX10_bestStrategy 94 = .ok (.getfield 105, 3) := by decide +kernel
theorem dX10_bestStrategy_97 : decode cX10_bestStrategy 97 = .ok (.iload 9, 2) := by decide +kernel
theorem dX10_bestStrategy_99 : decode cX10_bestStrategy 99 = .ok (.invokestatic 289, 3) := by decide +kernel
theorem dX10_bestStrategy_102 : decode cX10_bestStrategy 102 = .ok (.istore 10, 2) := by decide +kernel
theorem dX10_bestStrategy_104 : decode cX10_bestStrategy 104 = .ok (.aload_n 0, 1) := by decide +kernel
theorem dX10_bestStrategy_105 : decode cX10_bestStrategy 105 = .ok (.getfield 30, 3) := by decide +kernel
theorem dX10_bestStrategy_108 : decode cX10_bestStrategy 108 = .ok (.iload_n 2, 1) := by decide +kernel
theorem dX10_bestStrategy_109 : decode cX10_bestStrategy 109 = .ok (.iload_n 3, 1) := by decide +kernel
theorem dX10_bestStrategy_110 : decode cX10_bestStrategy 110 = .ok (.iload 10, 2) := by decide +kernel
theorem dX10_bestStrategy_112 : decode cX10_bestStrategy 112 = .ok (.invokevirtual 231, 3) := by decide +kernel
theorem dX10_bestStrategy_115 : decode cX10_bestStrategy 115 = .ok (.aload_n 0, 1) := by decide +kernel
theorem dX10_bestStrategy_116 : decode cX10_bestStrategy 116 = .ok (.getfield 37, 3) := by decide +kernel
theorem dX10_bestStrategy_119 : decode cX10_bestStrategy 119 = .ok (.iload_n 1, 1) := by decide +kernel
theorem dX10_bestStrategy_120 : decode cX10_bestStrategy 120 = .ok (.aload_n 0, 1) := by decide +kernel
theorem dX10_bestStrategy_121 : decode cX10_bestStrategy 121 = .ok (.getfield 30, 3) := by decide +kernel
theorem dX10_bestStrategy_124 : decode cX10_bestStrategy 124 = .ok (.invokevirtual 135, 3) := by decide +kernel
theorem dX10_bestStrategy_127 : decode cX10_bestStrategy 127 = .ok (.istore 11, 2) := by decide +kernel
theorem dX10_bestStrategy_129 : decode cX10_bestStrategy 129 = .ok (.iload 4, 2) := by decide +kernel
theorem dX10_bestStrategy_131 : decode cX10_bestStrategy 131 = .ok (.iload 11, 2) := by decide +kernel
theorem dX10_bestStrategy_133 : decode cX10_bestStrategy 133 = .ok (.iload 6, 2) := by decide +kernel
theorem dX10_bestStrategy_135 : decode cX10_bestStrategy 135 = .ok (.invokestatic 241, 3) := by decide +kernel
theorem dX10_bestStrategy_138 : decode cX10_bestStrategy 138 = .ok (.ifCond .eq 11, 3) := by decide +kernel
theorem dX10_bestStrategy_141 : decode cX10_bestStrategy 141 = .ok (.iload 11, 2) := by decide +kernel
theorem dX10_bestStrategy_143 : decode cX10_bestStrategy 143 = .ok (.istore 6, 2) := by decide +kernel
theorem dX10_bestStrategy_145 : decode cX10_bestStrategy 145 = .ok (.iload 10, 2) := by decide +kernel
theorem dX10_bestStrategy_147 : decode cX10_bestStrategy 147 = .ok (.istore 7, 2) := by decide +kernel
theorem dX10_bestStrategy_149 : decode cX10_bestStrategy 149 = .ok (.iinc 9 1, 3) := by decide +kernel
theorem dX10_bestStrategy_152 : decode cX10_bestStrategy 152 = .ok (.goto (-76), 3) := by decide +kernel
theorem dX10_bestStrategy_155 : decode cX10_bestStrategy 155 = .ok (.iload 7, 2) := by decide +kernel
theorem dX10_bestStrategy_157 : decode cX10_bestStrategy 157 = .ok (.ireturn, 1) := by decide +kernel
theorem dX10_castSample_0 : decode cX10_castSample 0 = .ok (.aload_n 0, 1) := by decide +kernel
theorem dX10_castSample_1 : decode cX10_castSample 1 = .ok (.getfield 30, 3) := by decide +kernel
theorem dX10_castSample_4 : decode cX10_castSample 4 = .ok (.aload_n 0, 1) := by decide +kernel
theorem dX10_castSample_5 : decode cX10_castSample 5 = .ok (.getfield 10, 3) := by decide +kernel
theorem dX10_castSample_8 : decode cX10_castSample 8 = .ok (.getfield 105, 3) := by decide +kernel
theorem dX10_castSample_11 : decode cX10_castSample 11 = .ok (.invokevirtual 283, 3) := by decide +kernel
theorem dX10_castSample_14 : decode cX10_castSample 14 = .ok (.aload_n 0, 1) := by decide +kernel
theorem dX10_castSample_15 : decode cX10_castSample 15 = .ok (.getfield 10, 3) := by decide +kernel
theorem dX10_castSample_18 : decode cX10_castSample 18 = .ok (.invokevirtual 115, 3) := by decide +kernel
theorem dX10_castSample_21 : decode cX10_castSample 21 = .ok (.istore_n 3, 1) := by decide +kernel
theorem dX10_castSample_22 : decode cX10_castSample 22 = .ok (.iload_n 1, 1) := by decide +kernel
theorem dX10_castSample_23 : decode cX10_castSample 23 = .ok (.istore 4, 2) := by decide +kernel
theorem dX10_castSample_25 : decode cX10_castSample 25 = .ok (.iconst 0, 1) := by decide +kernel
theorem dX10_castSample_26 : decode cX10_castSample 26 = .ok (.istore 5, 2) := by decide +kernel
theorem dX10_castSample_28 : decode cX10_castSample 28 = .ok (.iload 5, 2) := by decide +kernel
theorem dX10_castSample_30 : decode cX10_castSample 30 = .ok (.iload_n 2, 1) := by decide +kernel
theorem dX10_castSample_31 : decode cX10_castSample 31 = .ok (.if_icmp .ge 78, 3) := by decide +kernel
theorem dX10_castSample_34 : decode cX10_castSample 34 = .ok (.iload 4, 2) := by decide +kernel
theorem dX10_castSample_36 : decode cX10_castSample 36 = .ok (.ldc_w 292, 3) := by decide +kernel
theorem dX10_castSample_39 : decode cX10_castSample 39 = .ok (.imul, 1) := by decide +kernel
theorem dX10_castSample_40 : decode cX10_castSample 40 = .ok (.sipush 12345, 3) := by decide +kernel
theorem dX10_castSample_43 : decode cX10_castSample 43 = .ok (.iadd, 1) := by decide +kernel
theorem dX10_castSample_44 : decode cX10_castSample 44 = .ok (.istore 4, 2) := by decide +kernel
theorem dX10_castSample_46 : decode cX10_castSample 46 = .ok (.iload_n 3, 1) := by decide +kernel
theorem dX10_castSample_47 : decode cX10_castSample 47 = .ok (.ifCond .le 13, 3) := by decide +kernel
theorem dX10_castSample_50 : decode cX10_castSample 50 = .ok (.iload 4, 2) := by decide +kernel
theorem dX10_castSample_52 : decode cX10_castSample 52 = .ok (.bipush 8, 2) := by decide +kernel
theorem dX10_castSample_54 : decode cX10_castSample 54 = .ok (.iushr, 1) := by decide +kernel
theorem dX10_castSample_55 : decode cX10_castSample 55 = .ok (.iload_n 3, 1) := by decide +kernel
theorem dX10_castSample_56 : decode cX10_castSample 56 = .ok (.irem, 1) := by decide +kernel
theorem dX10_castSample_57 : decode cX10_castSample 57 = .ok (.goto 4, 3) := by decide +kernel
theorem dX10_castSample_60 : decode cX10_castSample 60 = .ok (.iconst 0, 1) := by decide +kernel
theorem dX10_castSample_61 : decode cX10_castSample 61 = .ok (.istore 6, 2) := by decide +kernel
theorem dX10_castSample_63 : decode cX10_castSample 63 = .ok (.aload_n 0, 1) := by decide +kernel
theorem dX10_castSample_64 : decode cX10_castSample 64 = .ok (.getfield 10, 3) := by decide +kernel
theorem dX10_castSample_67 : decode cX10_castSample 67 = .ok (.iload 6, 2) := by decide +kernel
theorem dX10_castSample_69 : decode cX10_castSample 69 = .ok (.invokevirtual 293, 3) := by decide +kernel
theorem dX10_castSample_72 : decode cX10_castSample 72 = .ok (.istore 7, 2) := by decide +kernel
theorem dX10_castSample_74 : decode cX10_castSample 74 = .ok (.aload_n 0, 1) := by decide +kernel
theorem dX10_castSample_75 : decode cX10_castSample 75 = .ok (.getfield 30, 3) := by decide +kernel
theorem dX10_castSample_78 : decode cX10_castSample 78 = .ok (.iload 7, 2) := by decide +kernel
theorem dX10_castSample_80 : decode cX10_castSample 80 = .ok (.aload_n 0, 1) := by decide +kernel
theorem dX10_castSample_81 : decode cX10_castSample 81 = .ok (.getfield 30, 3) := by decide +kernel
theorem dX10_castSample_84 : decode cX10_castSample 84 = .ok (.iload 7, 2) := by decide +kernel
theorem dX10_castSample_86 : decode cX10_castSample 86 = .ok (.invokevirtual 296, 3) := by decide +kernel
theorem dX10_castSample_89 : decode cX10_castSample 89 = .ok (.iconst 1, 1) := by decide +kernel
theorem dX10_castSample_90 : decode cX10_castSample 90 = .ok (.iadd, 1) := by decide +kernel
theorem dX10_castSample_91 : decode cX10_castSample 91 = .ok (.aload_n 0, 1) := by decide +kernel
theorem dX10_castSample_92 : decode cX10_castSample 92 = .ok (.getfield 10, 3) := by decide +kernel
theorem dX10_castSample_95 : decode cX10_castSample 95 = .ok (.iload 7, 2) := by decide +kernel
theorem dX10_castSample_97 : decode cX10_castSample 97 = .ok (.invokevirtual 83, 3) := by decide +kernel
theorem dX10_castSample_100 : decode cX10_castSample 100 = .ok (.invokevirtual 231, 3) := by decide +kernel
theorem dX10_castSample_103 : decode cX10_castSample 103 = .ok (.iinc 5 1, 3) := by decide +kernel
theorem dX10_castSample_106 : decode cX10_castSample 106 = .ok (.goto (-78), 3) := by decide +kernel
theorem dX10_castSample_109 : decode cX10_castSample 109 = .ok (.iload 4, 2) := by decide +kernel
theorem dX10_castSample_111 : decode cX10_castSample 111 = .ok (.ireturn, 1) := by decide +kernel
theorem dX10_remember_0 : decode cX10_remember 0 = .ok (.aload_n 0, 1) := by decide +kernel
theorem dX10_remember_1 : decode cX10_remember 1 = .ok (.getfield 260, 3) := by decide +kernel
theorem dX10_remember_4 : decode cX10_remember 4 = .ok (.aload_n 0, 1) := by decide +kernel
theorem dX10_remember_5 : decode cX10_remember 5 = .ok (.getfield 16, 3) := by decide +kernel
theorem dX10_remember_8 : decode cX10_remember 8 = .ok (.arraylength, 1) := by decide +kernel
theorem dX10_remember_9 : decode cX10_remember 9 = .ok (.if_icmp .lt 7, 3) := by decide +kernel
theorem dX10_remember_12 : decode cX10_remember 12 = .ok (.aload_n 0, 1) := by decide +kernel
theorem dX10_remember_13 : decode cX10_remember 13 = .ok (.invokevirtual 297, 3) := by decide +kernel
theorem dX10_remember_16 : decode cX10_remember 16 = .ok (.aload_n 0, 1) := by decide +kernel
theorem dX10_remember_17 : decode cX10_remember 17 = .ok (.getfield 260, 3) := by decide +kernel
theorem dX10_remember_20 : decode cX10_remember 20 = .ok (.ifCond .lt 15, 3) := by decide +kernel
theorem dX10_remember_23 : decode cX10_remember 23 = .ok (.aload_n 0, 1) := by decide +kernel
theorem dX10_remember_24 : decode cX10_remember 24 = .ok (.getfield 260, 3) := by decide +kernel
theorem dX10_remember_27 : decode cX10_remember 27 = .ok (.aload_n 0, 1) := by decide +kernel
theorem dX10_remember_28 : decode cX10_remember 28 = .ok (.getfield 16, 3) := by decide +kernel
theorem dX10_remember_31 : decode cX10_remember 31 = .ok (.arraylength, 1) := by decide +kernel
theorem dX10_remember_32 : decode cX10_remember 32 = .ok (.if_icmp .lt 4, 3) := by decide +kernel
theorem dX10_remember_35 : decode cX10_remember 35 = .ok (.return_, 1) := by decide +kernel
theorem dX10_remember_36 : decode cX10_remember 36 = .ok (.aload_n 0, 1) := by decide +kernel
theorem dX10_remember_37 : decode cX10_remember 37 = .ok (.getfield 16, 3) := by decide +kernel
theorem dX10_remember_40 : decode cX10_remember 40 = .ok (.aload_n 0, 1) := by decide +kernel
theorem dX10_remember_41 : decode cX10_remember 41 = .ok (.getfield 260, 3) := by decide +kernel
theorem dX10_remember_44 : decode cX10_remember 44 = .ok (.aaload, 1) := by decide +kernel
theorem dX10_remember_45 : decode cX10_remember 45 = .ok (.astore_n 1, 1) := by decide +kernel
theorem dX10_remember_46 : decode cX10_remember 46 = .ok (.aload_n 1, 1) := by decide +kernel
theorem dX10_remember_47 : decode cX10_remember 47 = .ok (.ifnull 21, 3) := by decide +kernel
theorem dX10_remember_50 : decode cX10_remember 50 = .ok (.aload_n 1, 1) := by decide +kernel
theorem dX10_remember_51 : decode cX10_remember 51 = .ok (.aload_n 0, 1) := by decide +kernel
theorem dX10_remember_52 : decode cX10_remember 52 = .ok (.getfield 10, 3) := by decide +kernel
theorem dX10_remember_55 : decode cX10_remember 55 = .ok (.invokevirtual 263, 3) := by decide +kernel
theorem dX10_remember_58 : decode cX10_remember 58 = .ok (.aload_n 0, 1) := by decide +kernel
theorem dX10_remember_59 : decode cX10_remember 59 = .ok (.dup, 1) := by decide +kernel
theorem dX10_remember_60 : decode cX10_remember 60 = .ok (.getfield 260, 3) := by decide +kernel
theorem dX10_remember_63 : decode cX10_remember 63 = .ok (.iconst 1, 1) := by decide +kernel
theorem dX10_remember_64 : decode cX10_remember 64 = .ok (.iadd, 1) := by decide +kernel
theorem dX10_remember_65 : decode cX10_remember 65 = .ok (.putfield 260, 3) := by decide +kernel
theorem dX10_remember_68 : decode cX10_remember 68 = .ok (.return_, 1) := by decide +kernel
theorem dX10_dropOldest_0 : decode cX10_dropOldest 0 = .ok (.aload_n 0, 1) := by decide +kernel
theorem dX10_dropOldest_1 : decode cX10_dropOldest 1 = .ok (.getfield 16, 3) := by decide +kernel
theorem dX10_dropOldest_4 : decode cX10_dropOldest 4 = .ok (.iconst 0, 1) := by decide +kernel
theorem dX10_dropOldest_5 : decode cX10_dropOldest 5 = .ok (.aaload, 1) := by decide +kernel
theorem dX10_dropOldest_6 : decode cX10_dropOldest 6 = .ok (.astore_n 1, 1) := by decide +kernel
theorem dX10_dropOldest_7 : decode cX10_dropOldest 7 = .ok (.iconst 1, 1) := by decide +kernel
theorem dX10_dropOldest_8 : decode cX10_dropOldest 8 = .ok (.istore_n 2, 1) := by decide +kernel
theorem dX10_dropOldest_9 : decode cX10_dropOldest 9 = .ok (.iload_n 2, 1) := by decide +kernel
theorem dX10_dropOldest_10 : decode cX10_dropOldest 10 = .ok (.aload_n 0, 1) := by decide +kernel
theorem dX10_dropOldest_11 : decode cX10_dropOldest 11 = .ok (.getfield 16, 3) := by decide +kernel
theorem dX10_dropOldest_14 : decode cX10_dropOldest 14 = .ok (.arraylength, 1) := by decide +kernel
theorem dX10_dropOldest_15 : decode cX10_dropOldest 15 = .ok (.if_icmp .ge 23, 3) := by decide +kernel
theorem dX10_dropOldest_18 : decode cX10_dropOldest 18 = .ok (.aload_n 0, 1) := by decide +kernel
theorem dX10_dropOldest_19 : decode cX10_dropOldest 19 = .ok (.getfield 16, 3) := by decide +kernel
theorem dX10_dropOldest_22 : decode cX10_dropOldest 22 = .ok (.iload_n 2, 1) := by decide +kernel
theorem dX10_dropOldest_23 : decode cX10_dropOldest 23 = .ok (.iconst 1, 1) := by decide +kernel
theorem dX10_dropOldest_24 : decode cX10_dropOldest 24 = .ok (.isub, 1) := by decide +kernel
theorem dX10_dropOldest_25 : decode cX10_dropOldest 25 = .ok (.aload_n 0, 1) := by decide +kernel
theorem dX10_dropOldest_26 : decode cX10_dropOldest 26 = .ok (.getfield 16, 3) := by decide +kernel
theorem dX10_dropOldest_29 : decode cX10_dropOldest 29 = .ok (.iload_n 2, 1) := by decide +kernel
theorem dX10_dropOldest_30 : decode cX10_dropOldest 30 = .ok (.aaload, 1) := by decide +kernel
theorem dX10_dropOldest_31 : decode cX10_dropOldest 31 = .ok (.aastore, 1) := by decide +kernel
theorem dX10_dropOldest_32 : decode cX10_dropOldest 32 = .ok (.iinc 2 1, 3) := by decide +kernel
theorem dX10_dropOldest_35 : decode cX10_dropOldest 35 = .ok (.goto (-26), 3) := by decide +kernel
theorem dX10_dropOldest_38 : decode cX10_dropOldest 38 = .ok (.aload_n 0, 1) := by decide +kernel
theorem dX10_dropOldest_39 : decode cX10_dropOldest 39 = .ok (.getfield 16, 3) := by decide +kernel
theorem dX10_dropOldest_42 : decode cX10_dropOldest 42 = .ok (.aload_n 0, 1) := by decide +kernel
theorem dX10_dropOldest_43 : decode cX10_dropOldest 43 = .ok (.getfield 16, 3) := by decide +kernel
theorem dX10_dropOldest_46 : decode cX10_dropOldest 46 = .ok (.arraylength, 1) := by decide +kernel
theorem dX10_dropOldest_47 : decode cX10_dropOldest 47 = .ok (.iconst 1, 1) := by decide +kernel
theorem dX10_dropOldest_48 : decode cX10_dropOldest 48 = .ok (.isub, 1) := by decide +kernel
theorem dX10_dropOldest_49 : decode cX10_dropOldest 49 = .ok (.aload_n 1, 1) := by decide +kernel
theorem dX10_dropOldest_50 : decode cX10_dropOldest 50 = .ok (.aastore, 1) := by decide +kernel
theorem dX10_dropOldest_51 : decode cX10_dropOldest 51 = .ok (.aload_n 0, 1) := by decide +kernel
theorem dX10_dropOldest_52 : decode cX10_dropOldest 52 = .ok (.aload_n 0, 1) := by decide +kernel
theorem dX10_dropOldest_53 : decode cX10_dropOldest 53 = .ok (.getfield 16, 3) := by decide +kernel
theorem dX10_dropOldest_56 : decode cX10_dropOldest 56 = .ok (.arraylength, 1) := by decide +kernel
theorem dX10_dropOldest_57 : decode cX10_dropOldest 57 = .ok (.iconst 1, 1) := by decide +kernel
theorem dX10_dropOldest_58 : decode cX10_dropOldest 58 = .ok (.isub, 1) := by decide +kernel
theorem dX10_dropOldest_59 : decode cX10_dropOldest 59 = .ok (.putfield 260, 3) := by decide +kernel
theorem dX10_dropOldest_62 : decode cX10_dropOldest 62 = .ok (.return_, 1) := by decide +kernel
theorem dJ6_bitCount_0f7a4_0 : decode cJ6_bitCount_0f7a4 0 = .ok (.iload_n 0, 1) := by decide +kernel
theorem dJ6_bitCount_0f7a4_1 : decode cJ6_bitCount_0f7a4 1 = .ok (.iload_n 0, 1) := by decide +kernel
theorem dJ6_bitCount_0f7a4_2 : decode cJ6_bitCount_0f7a4 2 = .ok (.iconst 1, 1) := by decide +kernel
theorem dJ6_bitCount_0f7a4_3 : decode cJ6_bitCount_0f7a4 3 = .ok (.iushr, 1) := by decide +kernel
theorem dJ6_bitCount_0f7a4_4 : decode cJ6_bitCount_0f7a4 4 = .ok (.ldc_w 265, 3) := by decide +kernel
theorem dJ6_bitCount_0f7a4_7 : decode cJ6_bitCount_0f7a4 7 = .ok (.iand, 1) := by decide +kernel
theorem dJ6_bitCount_0f7a4_8 : decode cJ6_bitCount_0f7a4 8 = .ok (.isub, 1) := by decide +kernel
theorem dJ6_bitCount_0f7a4_9 : decode cJ6_bitCount_0f7a4 9 = .ok (.istore_n 0, 1) := by decide +kernel
theorem dJ6_bitCount_0f7a4_10 : decode cJ6_bitCount_0f7a4 10 = .ok (.iload_n 0, 1) := by decide +kernel
theorem dJ6_bitCount_0f7a4_11 : decode cJ6_bitCount_0f7a4 11 = .ok (.ldc_w 266, 3) := by decide +kernel
theorem dJ6_bitCount_0f7a4_14 : decode cJ6_bitCount_0f7a4 14 = .ok (.iand, 1) := by decide +kernel
theorem dJ6_bitCount_0f7a4_15 : decode cJ6_bitCount_0f7a4 15 = .ok (.iload_n 0, 1) := by decide +kernel
theorem dJ6_bitCount_0f7a4_16 : decode cJ6_bitCount_0f7a4 16 = .ok (.iconst 2, 1) := by decide +kernel
theorem dJ6_bitCount_0f7a4_17 : decode cJ6_bitCount_0f7a4 17 = .ok (.iushr, 1) := by decide +kernel
theorem dJ6_bitCount_0f7a4_18 : decode cJ6_bitCount_0f7a4 18 = .ok (.ldc_w 266, 3) := by decide +kernel
theorem dJ6_bitCount_0f7a4_21 : decode cJ6_bitCount_0f7a4 21 = .ok (.iand, 1) := by decide +kernel
theorem dJ6_bitCount_0f7a4_22 : decode cJ6_bitCount_0f7a4 22 = .ok (.iadd, 1) := by decide +kernel
theorem dJ6_bitCount_0f7a4_23 : decode cJ6_bitCount_0f7a4 23 = .ok (.istore_n 0, 1) := by decide +kernel
theorem dJ6_bitCount_0f7a4_24 : decode cJ6_bitCount_0f7a4 24 = .ok (.iload_n 0, 1) := by decide +kernel
theorem dJ6_bitCount_0f7a4_25 : decode cJ6_bitCount_0f7a4 25 = .ok (.iload_n 0, 1) := by decide +kernel
theorem dJ6_bitCount_0f7a4_26 : decode cJ6_bitCount_0f7a4 26 = .ok (.iconst 4, 1) := by decide +kernel
theorem dJ6_bitCount_0f7a4_27 : decode cJ6_bitCount_0f7a4 27 = .ok (.iushr, 1) := by decide +kernel
theorem dJ6_bitCount_0f7a4_28 : decode cJ6_bitCount_0f7a4 28 = .ok (.iadd, 1) := by decide +kernel
theorem dJ6_bitCount_0f7a4_29 : decode cJ6_bitCount_0f7a4 29 = .ok (.ldc_w 267, 3) := by decide +kernel
theorem dJ6_bitCount_0f7a4_32 : decode cJ6_bitCount_0f7a4 32 = .ok (.iand, 1) := by decide +kernel
theorem dJ6_bitCount_0f7a4_33 : decode cJ6_bitCount_0f7a4 33 = .ok (.istore_n 0, 1) := by decide +kernel
theorem dJ6_bitCount_0f7a4_34 : decode cJ6_bitCount_0f7a4 34 = .ok (.iload_n 0, 1) := by decide +kernel
theorem dJ6_bitCount_0f7a4_35 : decode cJ6_bitCount_0f7a4 35 = .ok (.iload_n 0, 1) := by decide +kernel
theorem dJ6_bitCount_0f7a4_36 : decode cJ6_bitCount_0f7a4 36 = .ok (.bipush 8, 2) := by decide +kernel
theorem dJ6_bitCount_0f7a4_38 : decode cJ6_bitCount_0f7a4 38 = .ok (.iushr, 1) := by decide +kernel
theorem dJ6_bitCount_0f7a4_39 : decode cJ6_bitCount_0f7a4 39 = .ok (.iadd, 1) := by decide +kernel
theorem dJ6_bitCount_0f7a4_40 : decode cJ6_bitCount_0f7a4 40 = .ok (.istore_n 0, 1) := by decide +kernel
theorem dJ6_bitCount_0f7a4_41 : decode cJ6_bitCount_0f7a4 41 = .ok (.iload_n 0, 1) := by decide +kernel
theorem dJ6_bitCount_0f7a4_42 : decode cJ6_bitCount_0f7a4 42 = .ok (.iload_n 0, 1) := by decide +kernel
theorem dJ6_bitCount_0f7a4_43 : decode cJ6_bitCount_0f7a4 43 = .ok (.bipush 16, 2) := by decide +kernel
theorem dJ6_bitCount_0f7a4_45 : decode cJ6_bitCount_0f7a4 45 = .ok (.iushr, 1) := by decide +kernel
theorem dJ6_bitCount_0f7a4_46 : decode cJ6_bitCount_0f7a4 46 = .ok (.iadd, 1) := by decide +kernel
theorem dJ6_bitCount_0f7a4_47 : decode cJ6_bitCount_0f7a4 47 = .ok (.istore_n 0, 1) := by decide +kernel
theorem dJ6_bitCount_0f7a4_48 : decode cJ6_bitCount_0f7a4 48 = .ok (.iload_n 0, 1) := by decide +kernel
theorem dJ6_bitCount_0f7a4_49 : decode cJ6_bitCount_0f7a4 49 = .ok (.bipush 63, 2) := by decide +kernel
theorem dJ6_bitCount_0f7a4_51 : decode cJ6_bitCount_0f7a4 51 = .ok (.iand, 1) := by decide +kernel
theorem dJ6_bitCount_0f7a4_52 : decode cJ6_bitCount_0f7a4 52 = .ok (.ireturn, 1) := by decide +kernel
theorem dJ9_max_7cf53_0 : decode cJ9_max_7cf53 0 = .ok (.iload_n 0, 1) := by decide +kernel
theorem dJ9_max_7cf53_1 : decode cJ9_max_7cf53 1 = .ok (.iload_n 1, 1) := by decide +kernel
theorem dJ9_max_7cf53_2 : decode cJ9_max_7cf53 2 = .ok (.if_icmp .lt 7, 3) := by decide +kernel
theorem dJ9_max_7cf53_5 : decode cJ9_max_7cf53 5 = .ok (.iload_n 0, 1) := by decide +kernel
theorem dJ9_max_7cf53_6 : decode cJ9_max_7cf53 6 = .ok (.goto 4, 3) := by decide +kernel
theorem dJ9_max_7cf53_9 : decode cJ9_max_7cf53 9 = .ok (.iload_n 1, 1) := by decide +kernel
theorem dJ9_max_7cf53_10 : decode cJ9_max_7cf53 10 = .ok (.ireturn, 1) := by decide +kernel
theorem dJ9_min_7cf53_0 : decode cJ9_min_7cf53 0 = .ok (.iload_n 0, 1) := by decide +kernel
theorem dJ9_min_7cf53_1 : decode cJ9_min_7cf53 1 = .ok (.iload_n 1, 1) := by decide +kernel
theorem dJ9_min_7cf53_2 : decode cJ9_min_7cf53 2 = .ok (.if_icmp .gt 7, 3) := by decide +kernel
theorem dJ9_min_7cf53_5 : decode cJ9_min_7cf53 5 = .ok (.iload_n 0, 1) := by decide +kernel
theorem dJ9_min_7cf53_6 : decode cJ9_min_7cf53 6 = .ok (.goto 4, 3) := by decide +kernel
theorem dJ9_min_7cf53_9 : decode cJ9_min_7cf53 9 = .ok (.iload_n 1, 1) := by decide +kernel
theorem dJ9_min_7cf53_10 : decode cJ9_min_7cf53 10 = .ok (.ireturn, 1) := by decide +kernel
theorem dL_cell_0 : decode cL_cell 0 = .ok (.iload_n 1, 1) := by decide +kernel
theorem dL_cell_1 : decode cL_cell 1 = .ok (.aload_n 0, 1) := by decide +kernel
theorem dL_cell_2 : decode cL_cell 2 = .ok (.arraylength, 1) := by decide +kernel
theorem dL_cell_3 : decode cL_cell 3 = .ok (.if_icmp .ge 9, 3) := by decide +kernel
theorem dL_cell_6 : decode cL_cell 6 = .ok (.aload_n 0, 1) := by decide +kernel
theorem dL_cell_7 : decode cL_cell 7 = .ok (.iload_n 1, 1) := by decide +kernel
theorem dL_cell_8 : decode cL_cell 8 = .ok (.iaload, 1) := by decide +kernel
theorem dL_cell_9 : decode cL_cell 9 = .ok (.goto 15, 3) := by decide +kernel
theorem dL_cell_12 : decode cL_cell 12 = .ok (.sipush 7919, 3) := by decide +kernel
theorem dL_cell_15 : decode cL_cell 15 = .ok (.iload_n 1, 1) := by decide +kernel
theorem dL_cell_16 : decode cL_cell 16 = .ok (.iconst 3, 1) := by decide +kernel
theorem dL_cell_17 : decode cL_cell 17 = .ok (.iadd, 1) := by decide +kernel
theorem dL_cell_18 : decode cL_cell 18 = .ok (.imul, 1) := by decide +kernel
theorem dL_cell_19 : decode cL_cell 19 = .ok (.iload_n 1, 1) := by decide +kernel
theorem dL_cell_20 : decode cL_cell 20 = .ok (.bipush 11, 2) := by decide +kernel
theorem dL_cell_22 : decode cL_cell 22 = .ok (.iadd, 1) := by decide +kernel
theorem dL_cell_23 : decode cL_cell 23 = .ok (.imul, 1) := by decide +kernel
theorem dL_cell_24 : decode cL_cell 24 = .ok (.ireturn, 1) := by decide +kernel
theorem dL_low_0 : decode cL_low 0 = .ok (.iload_n 0, 1) := by decide +kernel
theorem dL_low_1 : decode cL_low 1 = .ok (.ldc 7, 2) := by decide +kernel
theorem dL_low_3 : decode cL_low 3 = .ok (.iand, 1) := by decide +kernel
theorem dL_low_4 : decode cL_low 4 = .ok (.iload_n 1, 1) := by decide +kernel
theorem dL_low_5 : decode cL_low 5 = .ok (.irem, 1) := by decide +kernel
theorem dL_low_6 : decode cL_low 6 = .ok (.ireturn, 1) := by decide +kernel
theorem dL_bits_0 : decode cL_bits 0 = .ok (.iconst 0, 1) := by decide +kernel
theorem dL_bits_1 : decode cL_bits 1 = .ok (.istore_n 1, 1) := by decide +kernel
theorem dL_bits_2 : decode cL_bits 2 = .ok (.iconst 0, 1) := by decide +kernel
theorem dL_bits_3 : decode cL_bits 3 = .ok (.istore_n 2, 1) := by decide +kernel
theorem dL_bits_4 : decode cL_bits 4 = .ok (.iload_n 2, 1) := by decide +kernel
theorem dL_bits_5 : decode cL_bits 5 = .ok (.bipush 20, 2) := by decide +kernel
theorem dL_bits_7 : decode cL_bits 7 = .ok (.if_icmp .ge 17, 3) := by decide +kernel
theorem dL_bits_10 : decode cL_bits 10 = .ok (.iload_n 1, 1) := by decide +kernel
theorem dL_bits_11 : decode cL_bits 11 = .ok (.iload_n 0, 1) := by decide +kernel
theorem dL_bits_12 : decode cL_bits 12 = .ok (.iload_n 2, 1) := by decide +kernel
theorem dL_bits_13 : decode cL_bits 13 = .ok (.ishr, 1) := by decide +kernel
theorem dL_bits_14 : decode cL_bits 14 = .ok (.iconst 1, 1) := by decide +kernel
theorem dL_bits_15 : decode cL_bits 15 = .ok (.iand, 1) := by decide +kernel
theorem dL_bits_16 : decode cL_bits 16 = .ok (.iadd, 1) := by decide +kernel
theorem dL_bits_17 : decode cL_bits 17 = .ok (.istore_n 1, 1) := by decide +kernel
theorem dL_bits_18 : decode cL_bits 18 = .ok (.iinc 2 1, 3) := by decide +kernel
theorem dL_bits_21 : decode cL_bits 21 = .ok (.goto (-17), 3) := by decide +kernel
theorem dL_bits_24 : decode cL_bits 24 = .ok (.iload_n 1, 1) := by decide +kernel
theorem dL_bits_25 : decode cL_bits 25 = .ok (.ireturn, 1) := by decide +kernel
theorem dL_ballot_0 : decode cL_ballot 0 = .ok (.iconst 1, 1) := by decide +kernel
theorem dL_ballot_1 : decode cL_ballot 1 = .ok (.iload_n 0, 1) := by decide +kernel
theorem dL_ballot_2 : decode cL_ballot 2 = .ok (.iconst 5, 1) := by decide +kernel
theorem dL_ballot_3 : decode cL_ballot 3 = .ok (.invokestatic 8, 3) := by decide +kernel
theorem dL_ballot_6 : decode cL_ballot 6 = .ok (.iadd, 1) := by decide +kernel
theorem dL_ballot_7 : decode cL_ballot 7 = .ok (.istore_n 1, 1) := by decide +kernel
theorem dL_ballot_8 : decode cL_ballot 8 = .ok (.bipush 31, 2) := by decide +kernel
theorem dL_ballot_10 : decode cL_ballot 10 = .ok (.istore_n 2, 1) := by decide +kernel
theorem dL_ballot_11 : decode cL_ballot 11 = .ok (.iconst 0, 1) := by decide +kernel
theorem dL_ballot_12 : decode cL_ballot 12 = .ok (.istore_n 3, 1) := by decide +kernel
theorem dL_ballot_13 : decode cL_ballot 13 = .ok (.iload_n 0, 1) := by decide +kernel
theorem dL_ballot_14 : decode cL_ballot 14 = .ok (.iconst 3, 1) := by decide +kernel
theorem dL_ballot_15 : decode cL_ballot 15 = .ok (.ishr, 1) := by decide +kernel
theorem dL_ballot_16 : decode cL_ballot 16 = .ok (.ldc 14, 2) := by decide +kernel
theorem dL_ballot_18 : decode cL_ballot 18 = .ok (.iand, 1) := by decide +kernel
theorem dL_ballot_19 : decode cL_ballot 19 = .ok (.bipush 7, 2) := by decide +kernel
theorem dL_ballot_21 : decode cL_ballot 21 = .ok (.iadd, 1) := by decide +kernel
theorem dL_ballot_22 : decode cL_ballot 22 = .ok (.istore 4, 2) := by decide +kernel
theorem dL_ballot_24 : decode cL_ballot 24 = .ok (.iconst 0, 1) := by decide +kernel
theorem dL_ballot_25 : decode cL_ballot 25 = .ok (.istore 5, 2) := by decide +kernel
theorem dL_ballot_27 : decode cL_ballot 27 = .ok (.iload 5, 2) := by decide +kernel
theorem dL_ballot_29 : decode cL_ballot 29 = .ok (.iload_n 1, 1) := by decide +kernel
theorem dL_ballot_30 : decode cL_ballot 30 = .ok (.if_icmp .ge 80, 3) := by decide +kernel
theorem dL_ballot_33 : decode cL_ballot 33 = .ok (.iload 4, 2) := by decide +kernel
theorem dL_ballot_35 : decode cL_ballot 35 = .ok (.iconst 5, 1) := by decide +kernel
theorem dL_ballot_36 : decode cL_ballot 36 = .ok (.iload 5, 2) := by decide +kernel
theorem dL_ballot_38 : decode cL_ballot 38 = .ok (.isub, 1) := by decide +kernel
theorem dL_ballot_39 : decode cL_ballot 39 = .ok (.irem, 1) := by decide +kernel
theorem dL_ballot_40 : decode cL_ballot 40 = .ok (.istore 6, 2) := by decide +kernel
theorem dL_ballot_42 : decode cL_ballot 42 = .ok (.iload 4, 2) := by decide +kernel
theorem dL_ballot_44 : decode cL_ballot 44 = .ok (.iconst 5, 1) := by decide +kernel
theorem dL_ballot_45 : decode cL_ballot 45 = .ok (.iload 5, 2) := by decide +kernel
theorem dL_ballot_47 : decode cL_ballot 47 = .ok (.isub, 1) := by decide +kernel
theorem dL_ballot_48 : decode cL_ballot 48 = .ok (.idiv, 1) := by decide +kernel
theorem dL_ballot_49 : decode cL_ballot 49 = .ok (.istore 4, 2) := by decide +kernel
theorem dL_ballot_51 : decode cL_ballot 51 = .ok (.iconst 0, 1) := by decide +kernel
theorem dL_ballot_52 : decode cL_ballot 52 = .ok (.istore 7, 2) := by decide +kernel
theorem dL_ballot_54 : decode cL_ballot 54 = .ok (.iload_n 2, 1) := by decide +kernel
theorem dL_ballot_55 : decode cL_ballot 55 = .ok (.iload 7, 2) := by decide +kernel
theorem dL_ballot_57 : decode cL_ballot 57 = .ok (.ishr, 1) := by decide +kernel
theorem dL_ballot_58 : decode cL_ballot 58 = .ok (.iconst 1, 1) := by decide +kernel
theorem dL_ballot_59 : decode cL_ballot 59 = .ok (.iand, 1) := by decide +kernel
theorem dL_ballot_60 : decode cL_ballot 60 = .ok (.ifCond .eq 8, 3) := by decide +kernel
theorem dL_ballot_63 : decode cL_ballot 63 = .ok (.iload 6, 2) := by decide +kernel
theorem dL_ballot_65 : decode cL_ballot 65 = .ok (.ifCond .le 20, 3) := by decide +kernel
theorem dL_ballot_68 : decode cL_ballot 68 = .ok (.iload 6, 2) := by decide +kernel
theorem dL_ballot_70 : decode cL_ballot 70 = .ok (.iload_n 2, 1) := by decide +kernel
theorem dL_ballot_71 : decode cL_ballot 71 = .ok (.iload 7, 2) := by decide +kernel
theorem dL_ballot_73 : decode cL_ballot 73 = .ok (.ishr, 1) := by decide +kernel
theorem dL_ballot_74 : decode cL_ballot 74 = .ok (.iconst 1, 1) := by decide +kernel
theorem dL_ballot_75 : decode cL_ballot 75 = .ok (.iand, 1) := by decide +kernel
theorem dL_ballot_76 : decode cL_ballot 76 = .ok (.isub, 1) := by decide +kernel
theorem dL_ballot_77 : decode cL_ballot 77 = .ok (.istore 6, 2) := by decide +kernel
theorem dL_ballot_79 : decode cL_ballot 79 = .ok (.iinc 7 1, 3) := by decide +kernel
theorem dL_ballot_82 : decode cL_ballot 82 = .ok (.goto (-28), 3) := by decide +kernel
theorem dL_ballot_85 : decode cL_ballot 85 = .ok (.iload_n 2, 1) := by decide +kernel
theorem dL_ballot_86 : decode cL_ballot 86 = .ok (.iconst 1, 1) := by decide +kernel
theorem dL_ballot_87 : decode cL_ballot 87 = .ok (.iload 7, 2) := by decide +kernel
theorem dL_ballot_89 : decode cL_ballot 89 = .ok (.ishl, 1) := by decide +kernel
theorem dL_ballot_90 : decode cL_ballot 90 = .ok (.iconst (-1), 1) := by decide +kernel
theorem dL_ballot_91 : decode cL_ballot 91 = .ok (.ixor, 1) := by decide +kernel
theorem dL_ballot_92 : decode cL_ballot 92 = .ok (.iand, 1) := by decide +kernel
theorem dL_ballot_93 : decode cL_ballot 93 = .ok (.istore_n 2, 1) := by decide +kernel
theorem dL_ballot_94 : decode cL_ballot 94 = .ok (.bipush 10, 2) := by decide +kernel
theorem dL_ballot_96 : decode cL_ballot 96 = .ok (.iload_n 3, 1) := by decide +kernel
