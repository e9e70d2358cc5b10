theorem dX11_strategyAt_31 : decode cX11_strategyAt 31 = .ok (.ldc 236, 2) := by decide +kernel
theorem dX11_strategyAt_33 : decode cX11_strategyAt 33 = .ok (.ireturn, 1) := by decide +kernel
theorem dX11_strategyAt_34 : decode cX11_strategyAt 34 = .ok (.aload_n 0, 1) := by decide +kernel
theorem dX11_strategyAt_35 : decode cX11_strategyAt 35 = .ok (.iload_n 1, 1) := by decide +kernel
theorem dX11_strategyAt_36 : decode cX11_strategyAt 36 = .ok (.iload_n 2, 1) := by decide +kernel
theorem dX11_strategyAt_37 : decode cX11_strategyAt 37 = .ok (.invokevirtual 267, 3) := by decide +kernel
theorem dX11_strategyAt_40 : decode cX11_strategyAt 40 = .ok (.ifCond .ge 8, 3) := by decide +kernel
theorem dX11_strategyAt_43 : decode cX11_strategyAt 43 = .ok (.ldc 250, 2) := by decide +kernel
theorem dX11_strategyAt_45 : decode cX11_strategyAt 45 = .ok (.goto 9, 3) := by decide +kernel
theorem dX11_strategyAt_48 : decode cX11_strategyAt 48 = .ok (.aload_n 0, 1) := by decide +kernel
theorem dX11_strategyAt_49 : decode cX11_strategyAt 49 = .ok (.getfield 59, 3) := by decide +kernel
theorem dX11_strategyAt_52 : decode cX11_strategyAt 52 = .ok (.iload_n 3, 1) := by decide +kernel
theorem dX11_strategyAt_53 : decode cX11_strategyAt 53 = .ok (.iaload, 1) := by decide +kernel
theorem dX11_strategyAt_54 : decode cX11_strategyAt 54 = .ok (.ireturn, 1) := by decide +kernel
theorem dX11_strategists_0 : decode cX11_strategists 0 = .ok (.iload_n 1, 1) := by decide +kernel
theorem dX11_strategists_1 : decode cX11_strategists 1 = .ok (.invokestatic 244, 3) := by decide +kernel
theorem dX11_strategists_4 : decode cX11_strategists 4 = .ok (.ifCond .ne 6, 3) := by decide +kernel
theorem dX11_strategists_7 : decode cX11_strategists 7 = .ok (.ldc 236, 2) := by decide +kernel
theorem dX11_strategists_9 : decode cX11_strategists 9 = .ok (.ireturn, 1) := by decide +kernel
theorem dX11_strategists_10 : decode cX11_strategists 10 = .ok (.iconst 0, 1) := by decide +kernel
theorem dX11_strategists_11 : decode cX11_strategists 11 = .ok (.istore_n 2, 1) := by decide +kernel
theorem dX11_strategists_12 : decode cX11_strategists 12 = .ok (.iconst 0, 1) := by decide +kernel
theorem dX11_strategists_13 : decode cX11_strategists 13 = .ok (.istore_n 3, 1) := by decide +kernel
theorem dX11_strategists_14 : decode cX11_strategists 14 = .ok (.iload_n 3, 1) := by decide +kernel
theorem dX11_strategists_15 : decode cX11_strategists 15 = .ok (.aload_n 0, 1) := by decide +kernel
theorem dX11_strategists_16 : decode cX11_strategists 16 = .ok (.getfield 7, 3) := by decide +kernel
theorem dX11_strategists_19 : decode cX11_strategists 19 = .ok (.iconst 0, 1) := by decide +kernel
theorem dX11_strategists_20 : decode cX11_strategists 20 = .ok (.iaload, 1) := by decide +kernel
theorem dX11_strategists_21 : decode cX11_strategists 21 = .ok (.if_icmp .ge 28, 3) := by decide +kernel
theorem dX11_strategists_24 : decode cX11_strategists 24 = .ok (.iload_n 2, 1) := by decide +kernel
theorem dX11_strategists_25 : decode cX11_strategists 25 = .ok (.aload_n 0, 1) := by decide +kernel
theorem dX11_strategists_26 : decode cX11_strategists 26 = .ok (.iload_n 1, 1) := by decide +kernel
theorem dX11_strategists_27 : decode cX11_strategists 27 = .ok (.iload_n 3, 1) := by decide +kernel
theorem dX11_strategists_28 : decode cX11_strategists 28 = .ok (.invokevirtual 267, 3) := by decide +kernel
theorem dX11_strategists_31 : decode cX11_strategists 31 = .ok (.ifCond .lt 9, 3) := by decide +kernel
theorem dX11_strategists_34 : decode cX11_strategists 34 = .ok (.iconst 1, 1) := by decide +kernel
theorem dX11_strategists_35 : decode cX11_strategists 35 = .ok (.iload_n 3, 1) := by decide +kernel
theorem dX11_strategists_36 : decode cX11_strategists 36 = .ok (.ishl, 1) := by decide +kernel
theorem dX11_strategists_37 : decode cX11_strategists 37 = .ok (.goto 4, 3) := by decide +kernel
theorem dX11_strategists_40 : decode cX11_strategists 40 = .ok (.iconst 0, 1) := by decide +kernel
theorem dX11_strategists_41 : decode cX11_strategists 41 = .ok (.ior, 1) := by decide +kernel
theorem dX11_strategists_42 : decode cX11_strategists 42 = .ok (.istore_n 2, 1) := by decide +kernel
theorem dX11_strategists_43 : decode cX11_strategists 43 = .ok (.iinc 3 1, 3) := by decide +kernel
theorem dX11_strategists_46 : decode cX11_strategists 46 = .ok (.goto (-32), 3) := by decide +kernel
theorem dX11_strategists_49 : decode cX11_strategists 49 = .ok (.iload_n 2, 1) := by decide +kernel
theorem dX11_strategists_50 : decode cX11_strategists 50 = .ok (.ireturn, 1) := by decide +kernel
theorem dX11_absentees_0 : decode cX11_absentees 0 = .ok (.iload_n 1, 1) := by decide +kernel
theorem dX11_absentees_1 : decode cX11_absentees 1 = .ok (.invokestatic 244, 3) := by decide +kernel
theorem dX11_absentees_4 : decode cX11_absentees 4 = .ok (.ifCond .ne 6, 3) := by decide +kernel
theorem dX11_absentees_7 : decode cX11_absentees 7 = .ok (.ldc 236, 2) := by decide +kernel
theorem dX11_absentees_9 : decode cX11_absentees 9 = .ok (.ireturn, 1) := by decide +kernel
theorem dX11_absentees_10 : decode cX11_absentees 10 = .ok (.aload_n 0, 1) := by decide +kernel
theorem dX11_absentees_11 : decode cX11_absentees 11 = .ok (.iload_n 1, 1) := by decide +kernel
theorem dX11_absentees_12 : decode cX11_absentees 12 = .ok (.invokevirtual 247, 3) := by decide +kernel
theorem dX11_absentees_15 : decode cX11_absentees 15 = .ok (.istore_n 2, 1) := by decide +kernel
theorem dX11_absentees_16 : decode cX11_absentees 16 = .ok (.iconst 0, 1) := by decide +kernel
theorem dX11_absentees_17 : decode cX11_absentees 17 = .ok (.istore_n 3, 1) := by decide +kernel
theorem dX11_absentees_18 : decode cX11_absentees 18 = .ok (.iconst 0, 1) := by decide +kernel
theorem dX11_absentees_19 : decode cX11_absentees 19 = .ok (.istore 4, 2) := by decide +kernel
theorem dX11_absentees_21 : decode cX11_absentees 21 = .ok (.iload 4, 2) := by decide +kernel
theorem dX11_absentees_23 : decode cX11_absentees 23 = .ok (.aload_n 0, 1) := by decide +kernel
theorem dX11_absentees_24 : decode cX11_absentees 24 = .ok (.getfield 78, 3) := by decide +kernel
theorem dX11_absentees_27 : decode cX11_absentees 27 = .ok (.if_icmp .ge 71, 3) := by decide +kernel
theorem dX11_absentees_30 : decode cX11_absentees 30 = .ok (.iload_n 2, 1) := by decide +kernel
theorem dX11_absentees_31 : decode cX11_absentees 31 = .ok (.ifCond .lt 67, 3) := by decide +kernel
theorem dX11_absentees_34 : decode cX11_absentees 34 = .ok (.aload_n 0, 1) := by decide +kernel
theorem dX11_absentees_35 : decode cX11_absentees 35 = .ok (.getfield 16, 3) := by decide +kernel
theorem dX11_absentees_38 : decode cX11_absentees 38 = .ok (.iload 4, 2) := by decide +kernel
theorem dX11_absentees_40 : decode cX11_absentees 40 = .ok (.iconst 0, 1) := by decide +kernel
theorem dX11_absentees_41 : decode cX11_absentees 41 = .ok (.iastore, 1) := by decide +kernel
theorem dX11_absentees_42 : decode cX11_absentees 42 = .ok (.aload_n 0, 1) := by decide +kernel
theorem dX11_absentees_43 : decode cX11_absentees 43 = .ok (.iload_n 1, 1) := by decide +kernel
theorem dX11_absentees_44 : decode cX11_absentees 44 = .ok (.aload_n 0, 1) := by decide +kernel
theorem dX11_absentees_45 : decode cX11_absentees 45 = .ok (.getfield 7, 3) := by decide +kernel
theorem dX11_absentees_48 : decode cX11_absentees 48 = .ok (.iconst 1, 1) := by decide +kernel
theorem dX11_absentees_49 : decode cX11_absentees 49 = .ok (.iaload, 1) := by decide +kernel
theorem dX11_absentees_50 : decode cX11_absentees 50 = .ok (.invokevirtual 211, 3) := by decide +kernel
theorem dX11_absentees_53 : decode cX11_absentees 53 = .ok (.istore 5, 2) := by decide +kernel
theorem dX11_absentees_55 : decode cX11_absentees 55 = .ok (.iload_n 3, 1) := by decide +kernel
theorem dX11_absentees_56 : decode cX11_absentees 56 = .ok (.aload_n 0, 1) := by decide +kernel
theorem dX11_absentees_57 : decode cX11_absentees 57 = .ok (.iload 4, 2) := by decide +kernel
theorem dX11_absentees_59 : decode cX11_absentees 59 = .ok (.iload 5, 2) := by decide +kernel
theorem dX11_absentees_61 : decode cX11_absentees 61 = .ok (.iload_n 2, 1) := by decide +kernel
theorem dX11_absentees_62 : decode cX11_absentees 62 = .ok (.invokevirtual 260, 3) := by decide +kernel
theorem dX11_absentees_65 : decode cX11_absentees 65 = .ok (.ifCond .eq 10, 3) := by decide +kernel
theorem dX11_absentees_68 : decode cX11_absentees 68 = .ok (.iconst 1, 1) := by decide +kernel
theorem dX11_absentees_69 : decode cX11_absentees 69 = .ok (.iload 4, 2) := by decide +kernel
theorem dX11_absentees_71 : decode cX11_absentees 71 = .ok (.ishl, 1) := by decide +kernel
theorem dX11_absentees_72 : decode cX11_absentees 72 = .ok (.goto 4, 3) := by decide +kernel
theorem dX11_absentees_75 : decode cX11_absentees 75 = .ok (.iconst 0, 1) := by decide +kernel
theorem dX11_absentees_76 : decode cX11_absentees 76 = .ok (.ior, 1) := by decide +kernel
theorem dX11_absentees_77 : decode cX11_absentees 77 = .ok (.istore_n 3, 1) := by decide +kernel
theorem dX11_absentees_78 : decode cX11_absentees 78 = .ok (.aload_n 0, 1) := by decide +kernel
theorem dX11_absentees_79 : decode cX11_absentees 79 = .ok (.getfield 16, 3) := by decide +kernel
theorem dX11_absentees_82 : decode cX11_absentees 82 = .ok (.iload 4, 2) := by decide +kernel
theorem dX11_absentees_84 : decode cX11_absentees 84 = .ok (.aload_n 0, 1) := by decide +kernel
theorem dX11_absentees_85 : decode cX11_absentees 85 = .ok (.iload 4, 2) := by decide +kernel
theorem dX11_absentees_87 : decode cX11_absentees 87 = .ok (.iconst 0, 1) := by decide +kernel
theorem dX11_absentees_88 : decode cX11_absentees 88 = .ok (.invokevirtual 81, 3) := by decide +kernel
theorem dX11_absentees_91 : decode cX11_absentees 91 = .ok (.iastore, 1) := by decide +kernel
theorem dX11_absentees_92 : decode cX11_absentees 92 = .ok (.iinc 4 1, 3) := by decide +kernel
theorem dX11_absentees_95 : decode cX11_absentees 95 = .ok (.goto (-74), 3) := by decide +kernel
theorem dX11_absentees_98 : decode cX11_absentees 98 = .ok (.iload_n 3, 1) := by decide +kernel
theorem dX11_absentees_99 : decode cX11_absentees 99 = .ok (.ireturn, 1) := by decide +kernel
theorem dX11_directlyAbove_0 : decode cX11_directlyAbove 0 = .ok (.iconst (-1), 1) := by decide +kernel
theorem dX11_directlyAbove_1 : decode cX11_directlyAbove 1 = .ok (.istore_n 3, 1) := by decide +kernel
theorem dX11_directlyAbove_2 : decode cX11_directlyAbove 2 = .ok (.iconst 0, 1) := by decide +kernel
theorem dX11_directlyAbove_3 : decode cX11_directlyAbove 3 = .ok (.istore 4, 2) := by decide +kernel
theorem dX11_directlyAbove_5 : decode cX11_directlyAbove 5 = .ok (.iload 4, 2) := by decide +kernel
theorem dX11_directlyAbove_7 : decode cX11_directlyAbove 7 = .ok (.iconst 5, 1) := by decide +kernel
theorem dX11_directlyAbove_8 : decode cX11_directlyAbove 8 = .ok (.if_icmp .ge 77, 3) := by decide +kernel
theorem dX11_directlyAbove_11 : decode cX11_directlyAbove 11 = .ok (.aload_n 0, 1) := by decide +kernel
theorem dX11_directlyAbove_12 : decode cX11_directlyAbove 12 = .ok (.getfield 7, 3) := by decide +kernel
theorem dX11_directlyAbove_15 : decode cX11_directlyAbove 15 = .ok (.iconst 1, 1) := by decide +kernel
theorem dX11_directlyAbove_16 : decode cX11_directlyAbove 16 = .ok (.iaload, 1) := by decide +kernel
theorem dX11_directlyAbove_17 : decode cX11_directlyAbove 17 = .ok (.iload 4, 2) := by decide +kernel
theorem dX11_directlyAbove_19 : decode cX11_directlyAbove 19 = .ok (.invokestatic 74, 3) := by decide +kernel
theorem dX11_directlyAbove_22 : decode cX11_directlyAbove 22 = .ok (.ifCond .eq 27, 3) := by decide +kernel
theorem dX11_directlyAbove_25 : decode cX11_directlyAbove 25 = .ok (.aload_n 0, 1) := by decide +kernel
theorem dX11_directlyAbove_26 : decode cX11_directlyAbove 26 = .ok (.iload_n 1, 1) := by decide +kernel
theorem dX11_directlyAbove_27 : decode cX11_directlyAbove 27 = .ok (.iload_n 2, 1) := by decide +kernel
theorem dX11_directlyAbove_28 : decode cX11_directlyAbove 28 = .ok (.invokevirtual 98, 3) := by decide +kernel
theorem dX11_directlyAbove_31 : decode cX11_directlyAbove 31 = .ok (.ifCond .eq 18, 3) := by decide +kernel
theorem dX11_directlyAbove_34 : decode cX11_directlyAbove 34 = .ok (.aload_n 0, 1) := by decide +kernel
theorem dX11_directlyAbove_35 : decode cX11_directlyAbove 35 = .ok (.iload_n 1, 1) := by decide +kernel
theorem dX11_directlyAbove_36 : decode cX11_directlyAbove 36 = .ok (.iload 4, 2) := by decide +kernel
theorem dX11_directlyAbove_38 : decode cX11_directlyAbove 38 = .ok (.iload_n 2, 1) := by decide +kernel
theorem dX11_directlyAbove_39 : decode cX11_directlyAbove 39 = .ok (.invokevirtual 89, 3) := by decide +kernel
theorem dX11_directlyAbove_42 : decode cX11_directlyAbove 42 = .ok (.ifCond .eq 7, 3) := by decide +kernel
theorem dX11_directlyAbove_45 : decode cX11_directlyAbove 45 = .ok (.iconst 1, 1) := by decide +kernel
theorem dX11_directlyAbove_46 : decode cX11_directlyAbove 46 = .ok (.goto 4, 3) := by decide +kernel
theorem dX11_directlyAbove_49 : decode cX11_directlyAbove 49 = .ok (.iconst 0, 1) := by decide +kernel
theorem dX11_directlyAbove_50 : decode cX11_directlyAbove 50 = .ok (.istore 5, 2) := by decide +kernel
theorem dX11_directlyAbove_52 : decode cX11_directlyAbove 52 = .ok (.iload 5, 2) := by decide +kernel
theorem dX11_directlyAbove_54 : decode cX11_directlyAbove 54 = .ok (.ifCond .eq 23, 3) := by decide +kernel
theorem dX11_directlyAbove_57 : decode cX11_directlyAbove 57 = .ok (.iload_n 3, 1) := by decide +kernel
theorem dX11_directlyAbove_58 : decode cX11_directlyAbove 58 = .ok (.ifCond .lt 14, 3) := by decide +kernel
theorem dX11_directlyAbove_61 : decode cX11_directlyAbove 61 = .ok (.aload_n 0, 1) := by decide +kernel
theorem dX11_directlyAbove_62 : decode cX11_directlyAbove 62 = .ok (.iload_n 1, 1) := by decide +kernel
theorem dX11_directlyAbove_63 : decode cX11_directlyAbove 63 = .ok (.iload_n 3, 1) := by decide +kernel
theorem dX11_directlyAbove_64 : decode cX11_directlyAbove 64 = .ok (.iload 4, 2) := by decide +kernel
theorem dX11_directlyAbove_66 : decode cX11_directlyAbove 66 = .ok (.invokevirtual 89, 3) := by decide +kernel
theorem dX11_directlyAbove_69 : decode cX11_directlyAbove 69 = .ok (.ifCond .eq 8, 3) := by decide +kernel
theorem dX11_directlyAbove_72 : decode cX11_directlyAbove 72 = .ok (.iload 4, 2) := by decide +kernel
theorem dX11_directlyAbove_74 : decode cX11_directlyAbove 74 = .ok (.goto 4, 3) := by decide +kernel
theorem dX11_directlyAbove_77 : decode cX11_directlyAbove 77 = .ok (.iload_n 3, 1) := by decide +kernel
theorem dX11_directlyAbove_78 : decode cX11_directlyAbove 78 = .ok (.istore_n 3, 1) := by decide +kernel
theorem dX11_directlyAbove_79 : decode cX11_directlyAbove 79 = .ok (.iinc 4 1, 3) := by decide +kernel
theorem dX11_directlyAbove_82 : decode cX11_directlyAbove 82 = .ok (.goto (-77), 3) := by decide +kernel
theorem dX11_directlyAbove_85 : decode cX11_directlyAbove 85 = .ok (.iload_n 3, 1) := by decide +kernel
theorem dX11_directlyAbove_86 : decode cX11_directlyAbove 86 = .ok (.ireturn, 1) := by decide +kernel
theorem dX11_raisers_0 : decode cX11_raisers 0 = .ok (.iload_n 1, 1) := by decide +kernel
theorem dX11_raisers_1 : decode cX11_raisers 1 = .ok (.invokestatic 244, 3) := by decide +kernel
theorem dX11_raisers_4 : decode cX11_raisers 4 = .ok (.ifCond .ne 6, 3) := by decide +kernel
theorem dX11_raisers_7 : decode cX11_raisers 7 = .ok (.ldc 236, 2) := by decide +kernel
theorem dX11_raisers_9 : decode cX11_raisers 9 = .ok (.ireturn, 1) := by decide +kernel
theorem dX11_raisers_10 : decode cX11_raisers 10 = .ok (.aload_n 0, 1) := by decide +kernel
theorem dX11_raisers_11 : decode cX11_raisers 11 = .ok (.iload_n 1, 1) := by decide +kernel
theorem dX11_raisers_12 : decode cX11_raisers 12 = .ok (.invokevirtual 247, 3) := by decide +kernel
theorem dX11_raisers_15 : decode cX11_raisers 15 = .ok (.istore_n 2, 1) := by decide +kernel
theorem dX11_raisers_16 : decode cX11_raisers 16 = .ok (.iconst 0, 1) := by decide +kernel
theorem dX11_raisers_17 : decode cX11_raisers 17 = .ok (.istore_n 3, 1) := by decide +kernel
theorem dX11_raisers_18 : decode cX11_raisers 18 = .ok (.iconst 0, 1) := by decide +kernel
theorem dX11_raisers_19 : decode cX11_raisers 19 = .ok (.istore 4, 2) := by decide +kernel
theorem dX11_raisers_21 : decode cX11_raisers 21 = .ok (.iload 4, 2) := by decide +kernel
theorem dX11_raisers_23 : decode cX11_raisers 23 = .ok (.aload_n 0, 1) := by decide +kernel
theorem dX11_raisers_24 : decode cX11_raisers 24 = .ok (.getfield 78, 3) := by decide +kernel
theorem dX11_raisers_27 : decode cX11_raisers 27 = .ok (.if_icmp .ge 109, 3) := by decide +kernel
theorem dX11_raisers_30 : decode cX11_raisers 30 = .ok (.iload_n 2, 1) := by decide +kernel
theorem dX11_raisers_31 : decode cX11_raisers 31 = .ok (.ifCond .lt 105, 3) := by decide +kernel
theorem dX11_raisers_34 : decode cX11_raisers 34 = .ok (.aload_n 0, 1) := by decide +kernel
theorem dX11_raisers_35 : decode cX11_raisers 35 = .ok (.iload 4, 2) := by decide +kernel
theorem dX11_raisers_37 : decode cX11_raisers 37 = .ok (.iload_n 2, 1) := by decide +kernel
theorem dX11_raisers_38 : decode cX11_raisers 38 = .ok (.invokevirtual 270, 3) := by decide +kernel
theorem dX11_raisers_41 : decode cX11_raisers 41 = .ok (.istore 5, 2) := by decide +kernel
theorem dX11_raisers_43 : decode cX11_raisers 43 = .ok (.iload 5, 2) := by decide +kernel
theorem dX11_raisers_45 : decode cX11_raisers 45 = .ok (.ifCond .lt 85, 3) := by decide +kernel
theorem dX11_raisers_48 : decode cX11_raisers 48 = .ok (.aload_n 0, 1) := by decide +kernel
theorem dX11_raisers_49 : decode cX11_raisers 49 = .ok (.getfield 19, 3) := by decide +kernel
theorem dX11_raisers_52 : decode cX11_raisers 52 = .ok (.iconst 5, 1) := by decide +kernel
theorem dX11_raisers_53 : decode cX11_raisers 53 = .ok (.iload 4, 2) := by decide +kernel
theorem dX11_raisers_55 : decode cX11_raisers 55 = .ok (.imul, 1) := by decide +kernel
theorem dX11_raisers_56 : decode cX11_raisers 56 = .ok (.iload_n 2, 1) := by decide +kernel
theorem dX11_raisers_57 : decode cX11_raisers 57 = .ok (.iadd, 1) := by decide +kernel
theorem dX11_raisers_58 : decode cX11_raisers 58 = .ok (.iaload, 1) := by decide +kernel
theorem dX11_raisers_59 : decode cX11_raisers 59 = .ok (.istore 6, 2) := by decide +kernel
theorem dX11_raisers_61 : decode cX11_raisers 61 = .ok (.aload_n 0, 1) := by decide +kernel
theorem dX11_raisers_62 : decode cX11_raisers 62 = .ok (.getfield 19, 3) := by decide +kernel
theorem dX11_raisers_65 : decode cX11_raisers 65 = .ok (.iconst 5, 1) := by decide +kernel
theorem dX11_raisers_66 : decode cX11_raisers 66 = .ok (.iload 4, 2) := by decide +kernel
theorem dX11_raisers_68 : decode cX11_raisers 68 = .ok (.imul, 1) := by decide +kernel
theorem dX11_raisers_69 : decode cX11_raisers 69 = .ok (.iload_n 2, 1) := by decide +kernel
theorem dX11_raisers_70 : decode cX11_raisers 70 = .ok (.iadd, 1) := by decide +kernel
theorem dX11_raisers_71 : decode cX11_raisers 71 = .ok (.aload_n 0, 1) := by decide +kernel
theorem dX11_raisers_72 : decode cX11_raisers 72 = .ok (.getfield 19, 3) := by decide +kernel
theorem dX11_raisers_75 : decode cX11_raisers 75 = .ok (.iconst 5, 1) := by decide +kernel
theorem dX11_raisers_76 : decode cX11_raisers 76 = .ok (.iload 4, 2) := by decide +kernel
theorem dX11_raisers_78 : decode cX11_raisers 78 = .ok (.imul, 1) := by decide +kernel
theorem dX11_raisers_79 : decode cX11_raisers 79 = .ok (.iload 5, 2) := by decide +kernel
theorem dX11_raisers_81 : decode cX11_raisers 81 = .ok (.iadd, 1) := by decide +kernel
theorem dX11_raisers_82 : decode cX11_raisers 82 = .ok (.iaload, 1) := by decide +kernel
theorem dX11_raisers_83 : decode cX11_raisers 83 = .ok (.iastore, 1) := by decide +kernel
theorem dX11_raisers_84 : decode cX11_raisers 84 = .ok (.aload_n 0, 1) := by decide +kernel
theorem dX11_raisers_85 : decode cX11_raisers 85 = .ok (.getfield 19, 3) := by decide +kernel
theorem dX11_raisers_88 : decode cX11_raisers 88 = .ok (.iconst 5, 1) := by decide +kernel
theorem dX11_raisers_89 : decode cX11_raisers 89 = .ok (.iload 4, 2) := by decide +kernel
theorem dX11_raisers_91 : decode cX11_raisers 91 = .ok (.imul, 1) := by decide +kernel
theorem dX11_raisers_92 : decode cX11_raisers 92 = .ok (.iload 5, 2) := by decide +kernel
theorem dX11_raisers_94 : decode cX11_raisers 94 = .ok (.iadd, 1) := by decide +kernel
theorem dX11_raisers_95 : decode cX11_raisers 95 = .ok (.iload 6, 2) := by decide +kernel
theorem dX11_raisers_97 : decode cX11_raisers 97 = .ok (.iastore, 1) := by decide +kernel
theorem dX11_raisers_98 : decode cX11_raisers 98 = .ok (.iload_n 3, 1) := by decide +kernel
theorem dX11_raisers_99 : decode cX11_raisers 99 = .ok (.aload_n 0, 1) := by decide +kernel
theorem dX11_raisers_100 : decode cX11_raisers 100 = .ok (.iload_n 1, 1) := by decide +kernel
theorem dX11_raisers_101 : decode cX11_raisers 101 = .ok (.aload_n 0, 1) := by decide +kernel
theorem dX11_raisers_102 : decode cX11_raisers 102 = .ok (.getfield 7, 3) := by decide +kernel
theorem dX11_raisers_105 : decode cX11_raisers 105 = .ok (.iconst 1, 1) := by decide +kernel
theorem dX11_raisers_106 : decode cX11_raisers 106 = .ok (.iaload, 1) := by decide +kernel
theorem dX11_raisers_107 : decode cX11_raisers 107 = .ok (.invokevirtual 211, 3) := by decide +kernel
theorem dX11_raisers_110 : decode cX11_raisers 110 = .ok (.iload_n 2, 1) := by decide +kernel
theorem dX11_raisers_111 : decode cX11_raisers 111 = .ok (.if_icmp .eq 10, 3) := by decide +kernel
theorem dX11_raisers_114 : decode cX11_raisers 114 = .ok (.iconst 1, 1) := by decide +kernel
theorem dX11_raisers_115 : decode cX11_raisers 115 = .ok (.iload 4, 2) := by decide +kernel
theorem dX11_raisers_117 : decode cX11_raisers 117 = .ok (.ishl, 1) := by decide +kernel
theorem dX11_raisers_118 : decode cX11_raisers 118 = .ok (.goto 4, 3) := by decide +kernel
theorem dX11_raisers_121 : decode cX11_raisers 121 = .ok (.iconst 0, 1) := by decide +kernel
theorem dX11_raisers_122 : decode cX11_raisers 122 = .ok (.ior, 1) := by decide +kernel
theorem dX11_raisers_123 : decode cX11_raisers 123 = .ok (.istore_n 3, 1) := by decide +kernel
theorem dX11_raisers_124 : decode cX11_raisers 124 = .ok (.aload_n 0, 1) := by decide +kernel
theorem dX11_raisers_125 : decode cX11_raisers 125 = .ok (.iload 4, 2) := by decide +kernel
theorem dX11_raisers_127 : decode cX11_raisers 127 = .ok (.invokevirtual 85, 3) := by decide +kernel
theorem dX11_raisers_130 : decode cX11_raisers 130 = .ok (.iinc 4 1, 3) := by decide +kernel
theorem dX11_raisers_133 : decode cX11_raisers 133 = .ok (.goto (-112), 3) := by decide +kernel
theorem dX11_raisers_136 : decode cX11_raisers 136 = .ok (.iload_n 3, 1) := by decide +kernel
theorem dX11_raisers_137 : decode cX11_raisers 137 = .ok (.ireturn, 1) := by decide +kernel
theorem dX11_spoilers_0 : decode cX11_spoilers 0 = .ok (.iload_n 1, 1) := by decide +kernel
theorem dX11_spoilers_1 : decode cX11_spoilers 1 = .ok (.invokestatic 244, 3) := by decide +kernel
theorem dX11_spoilers_4 : decode cX11_spoilers 4 = .ok (.ifCond .ne 6, 3) := by decide +kernel
theorem dX11_spoilers_7 : decode cX11_spoilers 7 = .ok (.ldc 236, 2) := by decide +kernel
theorem dX11_spoilers_9 : decode cX11_spoilers 9 = .ok (.ireturn, 1) := by decide +kernel
theorem dX11_spoilers_10 : decode cX11_spoilers 10 = .ok (.aload_n 0, 1) := by decide +kernel
theorem dX11_spoilers_11 : decode cX11_spoilers 11 = .ok (.iload_n 1, 1) := by decide +kernel
theorem dX11_spoilers_12 : decode cX11_spoilers 12 = .ok (.invokevirtual 247, 3) := by decide +kernel
theorem dX11_spoilers_15 : decode cX11_spoilers 15 = .ok (.istore_n 2, 1) := by decide +kernel
theorem dX11_spoilers_16 : decode cX11_spoilers 16 = .ok (.iconst 0, 1) := by decide +kernel
theorem dX11_spoilers_17 : decode cX11_spoilers 17 = .ok (.istore_n 3, 1) := by decide +kernel
theorem dX11_spoilers_18 : decode cX11_spoilers 18 = .ok (.iconst 0, 1) := by decide +kernel
theorem dX11_spoilers_19 : decode cX11_spoilers 19 = .ok (.istore 4, 2) := by decide +kernel
theorem dX11_spoilers_21 : decode cX11_spoilers 21 = .ok (.iload 4, 2) := by decide +kernel
theorem dX11_spoilers_23 : decode cX11_spoilers 23 = .ok (.iconst 5, 1) := by decide +kernel
theorem dX11_spoilers_24 : decode cX11_spoilers 24 = .ok (.if_icmp .ge 78, 3) := by decide +kernel
theorem dX11_spoilers_27 : decode cX11_spoilers 27 = .ok (.iload_n 2, 1) := by decide +kernel
theorem dX11_spoilers_28 : decode cX11_spoilers 28 = .ok (.ifCond .lt 74, 3) := by decide +kernel
theorem dX11_spoilers_31 : decode cX11_spoilers 31 = .ok (.iload 4, 2) := by decide +kernel
theorem dX11_spoilers_33 : decode cX11_spoilers 33 = .ok (.iload_n 2, 1) := by decide +kernel
theorem dX11_spoilers_34 : decode cX11_spoilers 34 = .ok (.if_icmp .eq 43, 3) := by decide +kernel
theorem dX11_spoilers_37 : decode cX11_spoilers 37 = .ok (.aload_n 0, 1) := by decide +kernel
theorem dX11_spoilers_38 : decode cX11_spoilers 38 = .ok (.getfield 7, 3) := by decide +kernel
theorem dX11_spoilers_41 : decode cX11_spoilers 41 = .ok (.iconst 1, 1) := by decide +kernel
theorem dX11_spoilers_42 : decode cX11_spoilers 42 = .ok (.iaload, 1) := by decide +kernel
theorem dX11_spoilers_43 : decode cX11_spoilers 43 = .ok (.iload 4, 2) := by decide +kernel
theorem dX11_spoilers_45 : decode cX11_spoilers 45 = .ok (.invokestatic 74, 3) := by decide +kernel
theorem dX11_spoilers_48 : decode cX11_spoilers 48 = .ok (.ifCond .eq 29, 3) := by decide +kernel
theorem dX11_spoilers_51 : decode cX11_spoilers 51 = .ok (.aload_n 0, 1) := by decide +kernel
theorem dX11_spoilers_52 : decode cX11_spoilers 52 = .ok (.iload_n 1, 1) := by decide +kernel
theorem dX11_spoilers_53 : decode cX11_spoilers 53 = .ok (.aload_n 0, 1) := by decide +kernel
theorem dX11_spoilers_54 : decode cX11_spoilers 54 = .ok (.getfield 7, 3) := by decide +kernel
theorem dX11_spoilers_57 : decode cX11_spoilers 57 = .ok (.iconst 1, 1) := by decide +kernel
theorem dX11_spoilers_58 : decode cX11_spoilers 58 = .ok (.iaload, 1) := by decide +kernel
theorem dX11_spoilers_59 : decode cX11_spoilers 59 = .ok (.iconst 1, 1) := by decide +kernel
theorem dX11_spoilers_60 : decode cX11_spoilers 60 = .ok (.iload 4, 2) := by decide +kernel
theorem dX11_spoilers_62 : decode cX11_spoilers 62 = .ok (.ishl, 1) := by decide +kernel
theorem dX11_spoilers_63 : decode cX11_spoilers 63 = .ok (.iconst (-1), 1) := by decide +kernel
theorem dX11_spoilers_64 : decode cX11_spoilers 64 = .ok (.ixor, 1) := by decide +kernel
theorem dX11_spoilers_65 : decode cX11_spoilers 65 = .ok (.iand, 1) := by decide +kernel
theorem dX11_spoilers_66 : decode cX11_spoilers 66 = .ok (.invokevirtual 211, 3) := by decide +kernel
theorem dX11_spoilers_69 : decode cX11_spoilers 69 = .ok (.iload_n 2, 1) := by decide +kernel
theorem dX11_spoilers_70 : decode cX11_spoilers 70 = .ok (.if_icmp .eq 7, 3) := by decide +kernel
theorem dX11_spoilers_73 : decode cX11_spoilers 73 = .ok (.iconst 1, 1) := by decide +kernel
theorem dX11_spoilers_74 : decode cX11_spoilers 74 = .ok (.goto 4, 3) := by decide +kernel
theorem dX11_spoilers_77 : decode cX11_spoilers 77 = .ok (.iconst 0, 1) := by decide +kernel
theorem dX11_spoilers_78 : decode cX11_spoilers 78 = .ok (.istore 5, 2) := by decide +kernel
theorem dX11_spoilers_80 : decode cX11_spoilers 80 = .ok (.iload_n 3, 1) := by decide +kernel
theorem dX11_spoilers_81 : decode cX11_spoilers 81 = .ok (.iload 5, 2) := by decide +kernel
theorem dX11_spoilers_83 : decode cX11_spoilers 83 = .ok (.ifCond .eq 10, 3) := by decide +kernel
theorem dX11_spoilers_86 : decode cX11_spoilers 86 = .ok (.iconst 1, 1) := by decide +kernel
theorem dX11_spoilers_87 : decode cX11_spoilers 87 = .ok (.iload 4, 2) := by decide +kernel
theorem dX11_spoilers_89 : decode cX11_spoilers 89 = .ok (.ishl, 1) := by decide +kernel
theorem dX11_spoilers_90 : decode cX11_spoilers 90 = .ok (.goto 4, 3) := by decide +kernel
theorem dX11_spoilers_93 : decode cX11_spoilers 93 = .ok (.iconst 0, 1) := by decide +kernel
theorem dX11_spoilers_94 : decode cX11_spoilers 94 = .ok (.ior, 1) := by decide +kernel
theorem dX11_spoilers_95 : decode cX11_spoilers 95 = .ok (.istore_n 3, 1) := by decide +kernel
theorem dX11_spoilers_96 : decode cX11_spoilers 96 = .ok (.iinc 4 1, 3) := by decide +kernel
theorem dX11_spoilers_99 : decode cX11_spoilers 99 = .ok (.goto (-78), 3) := by decide +kernel
theorem dX11_spoilers_102 : decode cX11_spoilers 102 = .ok (.iload_n 3, 1) := by decide +kernel
theorem dX11_spoilers_103 : decode cX11_spoilers 103 = .ok (.ireturn, 1) := by decide +kernel
theorem dX11_winsOf_0 : decode cX11_winsOf 0 = .ok (.iconst 0, 1) := by decide +kernel
theorem dX11_winsOf_1 : decode cX11_winsOf 1 = .ok (.istore 4, 2) := by decide +kernel
theorem dX11_winsOf_3 : decode cX11_winsOf 3 = .ok (.iload 4, 2) := by decide +kernel
theorem dX11_winsOf_5 : decode cX11_winsOf 5 = .ok (.aload_n 0, 1) := by decide +kernel
theorem dX11_winsOf_6 : decode cX11_winsOf 6 = .ok (.getfield 78, 3) := by decide +kernel
theorem dX11_winsOf_9 : decode cX11_winsOf 9 = .ok (.if_icmp .ge 37, 3) := by decide +kernel
theorem dX11_winsOf_12 : decode cX11_winsOf 12 = .ok (.aload_n 0, 1) := by decide +kernel
theorem dX11_winsOf_13 : decode cX11_winsOf 13 = .ok (.getfield 16, 3) := by decide +kernel
theorem dX11_winsOf_16 : decode cX11_winsOf 16 = .ok (.iload 4, 2) := by decide +kernel
theorem dX11_winsOf_18 : decode cX11_winsOf 18 = .ok (.iload 4, 2) := by decide +kernel
theorem dX11_winsOf_20 : decode cX11_winsOf 20 = .ok (.iload_n 2, 1) := by decide +kernel
theorem dX11_winsOf_21 : decode cX11_winsOf 21 = .ok (.iload_n 3, 1) := by decide +kernel
theorem dX11_winsOf_22 : decode cX11_winsOf 22 = .ok (.invokestatic 70, 3) := by decide +kernel
theorem dX11_winsOf_25 : decode cX11_winsOf 25 = .ok (.ifCond .eq 13, 3) := by decide +kernel
theorem dX11_winsOf_28 : decode cX11_winsOf 28 = .ok (.aload_n 0, 1) := by decide +kernel
theorem dX11_winsOf_29 : decode cX11_winsOf 29 = .ok (.iload 4, 2) := by decide +kernel
theorem dX11_winsOf_31 : decode cX11_winsOf 31 = .ok (.iconst 0, 1) := by decide +kernel
theorem dX11_winsOf_32 : decode cX11_winsOf 32 = .ok (.invokevirtual 81, 3) := by decide +kernel
theorem dX11_winsOf_35 : decode cX11_winsOf 35 = .ok (.goto 4, 3) := by decide +kernel
theorem dX11_winsOf_38 : decode cX11_winsOf 38 = .ok (.iconst 0, 1) := by decide +kernel
theorem dX11_winsOf_39 : decode cX11_winsOf 39 = .ok (.iastore, 1) := by decide +kernel
theorem dX11_winsOf_40 : decode cX11_winsOf 40 = .ok (.iinc 4 1, 3) := by decide +kernel
theorem dX11_winsOf_43 : decode cX11_winsOf 43 = .ok (.goto (-40), 3) := by decide +kernel
theorem dX11_winsOf_46 : decode cX11_winsOf 46 = .ok (.aload_n 0, 1) := by decide +kernel
theorem dX11_winsOf_47 : decode cX11_winsOf 47 = .ok (.iload_n 1, 1) := by decide +kernel
theorem dX11_winsOf_48 : decode cX11_winsOf 48 = .ok (.aload_n 0, 1) := by decide +kernel
theorem dX11_winsOf_49 : decode cX11_winsOf 49 = .ok (.getfield 7, 3) := by decide +kernel
theorem dX11_winsOf_52 : decode cX11_winsOf 52 = .ok (.iconst 1, 1) := by decide +kernel
theorem dX11_winsOf_53 : decode cX11_winsOf 53 = .ok (.iaload, 1) := by decide +kernel
theorem dX11_winsOf_54 : decode cX11_winsOf 54 = .ok (.invokevirtual 211, 3) := by decide +kernel
theorem dX11_winsOf_57 : decode cX11_winsOf 57 = .ok (.ireturn, 1) := by decide +kernel
theorem dX11_split_0 : decode cX11_split 0 = .ok (.iload_n 1, 1) := by decide +kernel
theorem dX11_split_1 : decode cX11_split 1 = .ok (.invokestatic 244, 3) := by decide +kernel
theorem dX11_split_4 : decode cX11_split 4 = .ok (.ifCond .ne 6, 3) := by decide +kernel
theorem dX11_split_7 : decode cX11_split 7 = .ok (.ldc 236, 2) := by decide +kernel
theorem dX11_split_9 : decode cX11_split 9 = .ok (.ireturn, 1) := by decide +kernel
theorem dX11_split_10 : decode cX11_split 10 = .ok (.aload_n 0, 1) := by decide +kernel
theorem dX11_split_11 : decode cX11_split 11 = .ok (.iload_n 1, 1) := by decide +kernel
theorem dX11_split_12 : decode cX11_split 12 = .ok (.invokevirtual 247, 3) := by decide +kernel
theorem dX11_split_15 : decode cX11_split 15 = .ok (.istore_n 2, 1) := by decide +kernel
theorem dX11_split_16 : decode cX11_split 16 = .ok (.iconst 1, 1) := by decide +kernel
theorem dX11_split_17 : decode cX11_split 17 = .ok (.istore_n 3, 1) := by decide +kernel
theorem dX11_split_18 : decode cX11_split 18 = .ok (.iload_n 3, 1) := by decide +kernel
theorem dX11_split_19 : decode cX11_split 19 = .ok (.aload_n 0, 1) := by decide +kernel
theorem dX11_split_20 : decode cX11_split 20 = .ok (.getfield 78, 3) := by decide +kernel
theorem dX11_split_23 : decode cX11_split 23 = .ok (.if_icmp .ge 45, 3) := by decide +kernel
theorem dX11_split_26 : decode cX11_split 26 = .ok (.aload_n 0, 1) := by decide +kernel
theorem dX11_split_27 : decode cX11_split 27 = .ok (.iload_n 1, 1) := by decide +kernel
theorem dX11_split_28 : decode cX11_split 28 = .ok (.iconst 0, 1) := by decide +kernel
theorem dX11_split_29 : decode cX11_split 29 = .ok (.iload_n 3, 1) := by decide +kernel
theorem dX11_split_30 : decode cX11_split 30 = .ok (.iconst 1, 1) := by decide +kernel
theorem dX11_split_31 : decode cX11_split 31 = .ok (.isub, 1) := by decide +kernel
theorem dX11_split_32 : decode cX11_split 32 = .ok (.invokevirtual 273, 3) := by decide +kernel
theorem dX11_split_35 : decode cX11_split 35 = .ok (.istore 4, 2) := by decide +kernel
theorem dX11_split_37 : decode cX11_split 37 = .ok (.iload 4, 2) := by decide +kernel
theorem dX11_split_39 : decode cX11_split 39 = .ok (.iload_n 2, 1) := by decide +kernel
theorem dX11_split_40 : decode cX11_split 40 = .ok (.if_icmp .eq 22, 3) := by decide +kernel
theorem dX11_split_43 : decode cX11_split 43 = .ok (.iload 4, 2) := by decide +kernel
theorem dX11_split_45 : decode cX11_split 45 = .ok (.aload_n 0, 1) := by decide +kernel
theorem dX11_split_46 : decode cX11_split 46 = .ok (.iload_n 1, 1) := by decide +kernel
theorem dX11_split_47 : decode cX11_split 47 = .ok (.iload_n 3, 1) := by decide +kernel
theorem dX11_split_48 : decode cX11_split 48 = .ok (.aload_n 0, 1) := by decide +kernel
theorem dX11_split_49 : decode cX11_split 49 = .ok (.getfield 78, 3) := by decide +kernel
theorem dX11_split_52 : decode cX11_split 52 = .ok (.iconst 1, 1) := by decide +kernel
theorem dX11_split_53 : decode cX11_split 53 = .ok (.isub, 1) := by decide +kernel
theorem dX11_split_54 : decode cX11_split 54 = .ok (.invokevirtual 273, 3) := by decide +kernel
theorem dX11_split_57 : decode cX11_split 57 = .ok (.if_icmp .ne 5, 3) := by decide +kernel
theorem dX11_split_60 : decode cX11_split 60 = .ok (.iload_n 3, 1) := by decide +kernel
theorem dX11_split_61 : decode cX11_split 61 = .ok (.ireturn, 1) := by decide +kernel
theorem dX11_split_62 : decode cX11_split 62 = .ok (.iinc 3 1, 3) := by decide +kernel
theorem dX11_split_65 : decode cX11_split 65 = .ok (.goto (-47), 3) := by decide +kernel
theorem dX11_split_68 : decode cX11_split 68 = .ok (.ldc 250, 2) := by decide +kernel
theorem dX11_split_70 : decode cX11_split 70 = .ok (.ireturn, 1) := by decide +kernel
theorem dX11_removals_0 : decode cX11_removals 0 = .ok (.iload_n 1, 1) := by decide +kernel
theorem dX11_removals_1 : decode cX11_removals 1 = .ok (.invokestatic 244, 3) := by decide +kernel
theorem dX11_removals_4 : decode cX11_removals 4 = .ok (.ifCond .ne 6, 3) := by decide +kernel
theorem dX11_removals_7 : decode cX11_removals 7 = .ok (.ldc 236, 2) := by decide +kernel
theorem dX11_removals_9 : decode cX11_removals 9 = .ok (.ireturn, 1) := by decide +kernel
theorem dX11_removals_10 : decode cX11_removals 10 = .ok (.aload_n 0, 1) := by decide +kernel
theorem dX11_removals_11 : decode cX11_removals 11 = .ok (.iload_n 1, 1) := by decide +kernel
theorem dX11_removals_12 : decode cX11_removals 12 = .ok (.invokevirtual 247, 3) := by decide +kernel
theorem dX11_removals_15 : decode cX11_removals 15 = .ok (.istore_n 2, 1) := by decide +kernel
theorem dX11_removals_16 : decode cX11_removals 16 = .ok (.iconst 1, 1) := by decide +kernel
theorem dX11_removals_17 : decode cX11_removals 17 = .ok (.istore_n 3, 1) := by decide +kernel
theorem dX11_removals_18 : decode cX11_removals 18 = .ok (.iload_n 3, 1) := by decide +kernel
theorem dX11_removals_19 : decode cX11_removals 19 = .ok (.bipush 100, 2) := by decide +kernel
theorem dX11_removals_21 : decode cX11_removals 21 = .ok (.if_icmp .gt 93, 3) := by decide +kernel
theorem dX11_removals_24 : decode cX11_removals 24 = .ok (.iload_n 2, 1) := by decide +kernel
theorem dX11_removals_25 : decode cX11_removals 25 = .ok (.ifCond .lt 89, 3) := by decide +kernel
theorem dX11_removals_28 : decode cX11_removals 28 = .ok (.iconst 0, 1) := by decide +kernel
theorem dX11_removals_29 : decode cX11_removals 29 = .ok (.istore 4, 2) := by decide +kernel
theorem dX11_removals_31 : decode cX11_removals 31 = .ok (.iload 4, 2) := by decide +kernel
theorem dX11_removals_33 : decode cX11_removals 33 = .ok (.aload_n 0, 1) := by decide +kernel
theorem dX11_removals_34 : decode cX11_removals 34 = .ok (.getfield 78, 3) := by decide +kernel
theorem dX11_removals_37 : decode cX11_removals 37 = .ok (.if_icmp .ge 71, 3) := by decide +kernel
theorem dX11_removals_40 : decode cX11_removals 40 = .ok (.aload_n 0, 1) := by decide +kernel
theorem dX11_removals_41 : decode cX11_removals 41 = .ok (.getfield 16, 3) := by decide +kernel
theorem dX11_removals_44 : decode cX11_removals 44 = .ok (.iload 4, 2) := by decide +kernel
theorem dX11_removals_46 : decode cX11_removals 46 = .ok (.iaload, 1) := by decide +kernel
theorem dX11_removals_47 : decode cX11_removals 47 = .ok (.iload_n 3, 1) := by decide +kernel
theorem dX11_removals_48 : decode cX11_removals 48 = .ok (.if_icmp .lt 54, 3) := by decide +kernel
theorem dX11_removals_51 : decode cX11_removals 51 = .ok (.aload_n 0, 1) := by decide +kernel
theorem dX11_removals_52 : decode cX11_removals 52 = .ok (.getfield 16, 3) := by decide +kernel
theorem dX11_removals_55 : decode cX11_removals 55 = .ok (.iload 4, 2) := by decide +kernel
theorem dX11_removals_57 : decode cX11_removals 57 = .ok (.dup2, 1) := by decide +kernel
theorem dX11_removals_58 : decode cX11_removals 58 = .ok (.iaload, 1) := by decide +kernel
theorem dX11_removals_59 : decode cX11_removals 59 = .ok (.iload_n 3, 1) := by decide +kernel
theorem dX11_removals_60 : decode cX11_removals 60 = .ok (.isub, 1) := by decide +kernel
theorem dX11_removals_61 : decode cX11_removals 61 = .ok (.iastore, 1) := by decide +kernel
theorem dX11_removals_62 : decode cX11_removals 62 = .ok (.aload_n 0, 1) := by decide +kernel
theorem dX11_removals_63 : decode cX11_removals 63 = .ok (.iload_n 1, 1) := by decide +kernel
theorem dX11_removals_64 : decode cX11_removals 64 = .ok (.aload_n 0, 1) := by decide +kernel
theorem dX11_removals_65 : decode cX11_removals 65 = .ok (.getfield 7, 3) := by decide +kernel
theorem dX11_removals_68 : decode cX11_removals 68 = .ok (.iconst 1, 1) := by decide +kernel
theorem dX11_removals_69 : decode cX11_removals 69 = .ok (.iaload, 1) := by decide +kernel
theorem dX11_removals_70 : decode cX11_removals 70 = .ok (.invokevirtual 211, 3) := by decide +kernel
theorem dX11_removals_73 : decode cX11_removals 73 = .ok (.iload_n 2, 1) := by decide +kernel
theorem dX11_removals_74 : decode cX11_removals 74 = .ok (.if_icmp .eq 7, 3) := by decide +kernel
theorem dX11_removals_77 : decode cX11_removals 77 = .ok (.iconst 1, 1) := by decide +kernel
theorem dX11_removals_78 : decode cX11_removals 78 = .ok (.goto 4, 3) := by decide +kernel
theorem dX11_removals_81 : decode cX11_removals 81 = .ok (.iconst 0, 1) := by decide +kernel
theorem dX11_removals_82 : decode cX11_removals 82 = .ok (.istore 5, 2) := by decide +kernel
theorem dX11_removals_84 : decode cX11_removals 84 = .ok (.aload_n 0, 1) := by decide +kernel
theorem dX11_removals_85 : decode cX11_removals 85 = .ok (.getfield 16, 3) := by decide +kernel
theorem dX11_removals_88 : decode cX11_removals 88 = .ok (.iload 4, 2) := by decide +kernel
theorem dX11_removals_90 : decode cX11_removals 90 = .ok (.dup2, 1) := by decide +kernel
theorem dX11_removals_91 : decode cX11_removals 91 = .ok (.iaload, 1) := by decide +kernel
theorem dX11_removals_92 : decode cX11_removals 92 = .ok (.iload_n 3, 1) := by decide +kernel
theorem dX11_removals_93 : decode cX11_removals 93 = .ok (.iadd, 1) := by decide +kernel
theorem dX11_removals_94 : decode cX11_removals 94 = .ok (.iastore, 1) := by decide +kernel
theorem dX11_removals_95 : decode cX11_removals 95 = .ok (.iload 5, 2) := by decide +kernel
theorem dX11_removals_97 : decode cX11_removals 97 = .ok (.ifCond .eq 5, 3) := by decide +kernel
theorem dX11_removals_100 : decode cX11_removals 100 = .ok (.iload_n 3, 1) := by decide +kernel
theorem dX11_removals_101 : decode cX11_removals 101 = .ok (.ireturn, 1) := by decide +kernel
theorem dX11_removals_102 : decode cX11_removals 102 = .ok (.iinc 4 1, 3) := by decide +kernel
theorem dX11_removals_105 : decode cX11_removals 105 = .ok (.goto (-74), 3) := by decide +kernel
theorem dX11_removals_108 : decode cX11_removals 108 = .ok (.iinc 3 1, 3) := by decide +kernel
theorem dX11_removals_111 : decode cX11_removals 111 = .ok (.goto (-93), 3) := by decide +kernel
theorem dX11_removals_114 : decode cX11_removals 114 = .ok (.ldc 250, 2) := by decide +kernel
theorem dX11_removals_116 : decode cX11_removals 116 = .ok (.ireturn, 1) := by decide +kernel
theorem dX11_samples_0 : decode cX11_samples 0 = .ok (.aload_n 0, 1) := by decide +kernel
theorem dX11_samples_1 : decode cX11_samples 1 = .ok (.invokevirtual 208, 3) := by decide +kernel
theorem dX11_samples_4 : decode cX11_samples 4 = .ok (.aload_n 0, 1) := by decide +kernel
theorem dX11_samples_5 : decode cX11_samples 5 = .ok (.invokevirtual 115, 3) := by decide +kernel
theorem dX11_samples_8 : decode cX11_samples 8 = .ok (.istore_n 3, 1) := by decide +kernel
theorem dX11_samples_9 : decode cX11_samples 9 = .ok (.iconst 0, 1) := by decide +kernel
theorem dX11_samples_10 : decode cX11_samples 10 = .ok (.istore 4, 2) := by decide +kernel
theorem dX11_samples_12 : decode cX11_samples 12 = .ok (.iload 4, 2) := by decide +kernel
theorem dX11_samples_14 : decode cX11_samples 14 = .ok (.aload_n 0, 1) := by decide +kernel
theorem dX11_samples_15 : decode cX11_samples 15 = .ok (.getfield 78, 3) := by decide +kernel
theorem dX11_samples_18 : decode cX11_samples 18 = .ok (.if_icmp .ge 17, 3) := by decide +kernel
theorem dX11_samples_21 : decode cX11_samples 21 = .ok (.aload_n 0, 1) := by decide +kernel
theorem dX11_samples_22 : decode cX11_samples 22 = .ok (.getfield 16, 3) := by decide +kernel
theorem dX11_samples_25 : decode cX11_samples 25 = .ok (.iload 4, 2) := by decide +kernel
theorem dX11_samples_27 : decode cX11_samples 27 = .ok (.iconst 0, 1) := by decide +kernel
theorem dX11_samples_28 : decode cX11_samples 28 = .ok (.iastore, 1) := by decide +kernel
theorem dX11_samples_29 : decode cX11_samples 29 = .ok (.iinc 4 1, 3) := by decide +kernel
theorem dX11_samples_32 : decode cX11_samples 32 = .ok (.goto (-20), 3) := by decide +kernel
theorem dX11_samples_35 : decode cX11_samples 35 = .ok (.iconst 0, 1) := by decide +kernel
theorem dX11_samples_36 : decode cX11_samples 36 = .ok (.istore 4, 2) := by decide +kernel
theorem dX11_samples_38 : decode cX11_samples 38 = .ok (.iload 4, 2) := by decide +kernel
theorem dX11_samples_40 : decode cX11_samples 40 = .ok (.iload_n 2, 1) := by decide +kernel
theorem dX11_samples_41 : decode cX11_samples 41 = .ok (.if_icmp .ge 80, 3) := by decide +kernel
theorem dX11_samples_44 : decode cX11_samples 44 = .ok (.aload_n 0, 1) := by decide +kernel
theorem dX11_samples_45 : decode cX11_samples 45 = .ok (.aload_n 0, 1) := by decide +kernel
theorem dX11_samples_46 : decode cX11_samples 46 = .ok (.getfield 276, 3) := by decide +kernel
theorem dX11_samples_49 : decode cX11_samples 49 = .ok (.ldc_w 279, 3) := by decide +kernel
theorem dX11_samples_52 : decode cX11_samples 52 = .ok (.imul, 1) := by decide +kernel
theorem dX11_samples_53 : decode cX11_samples 53 = .ok (.sipush 12345, 3) := by decide +kernel
theorem dX11_samples_56 : decode cX11_samples 56 = .ok (.iadd, 1) := by decide +kernel
theorem dX11_samples_57 : decode cX11_samples 57 = .ok (.putfield 276, 3) := by decide +kernel
theorem dX11_samples_60 : decode cX11_samples 60 = .ok (.aload_n 0, 1) := by decide +kernel
theorem dX11_samples_61 : decode cX11_samples 61 = .ok (.getfield 276, 3) := by decide +kernel
theorem dX11_samples_64 : decode cX11_samples 64 = .ok (.bipush 8, 2) := by decide +kernel
theorem dX11_samples_66 : decode cX11_samples 66 = .ok (.iushr, 1) := by decide +kernel
theorem dX11_samples_67 : decode cX11_samples 67 = .ok (.iload_n 3, 1) := by decide +kernel
theorem dX11_samples_68 : decode cX11_samples 68 = .ok (.irem, 1) := by decide +kernel
theorem dX11_samples_69 : decode cX11_samples 69 = .ok (.istore 5, 2) := by decide +kernel
theorem dX11_samples_71 : decode cX11_samples 71 = .ok (.iconst 0, 1) := by decide +kernel
theorem dX11_samples_72 : decode cX11_samples 72 = .ok (.istore 6, 2) := by decide +kernel
theorem dX11_samples_74 : decode cX11_samples 74 = .ok (.iload 5, 2) := by decide +kernel
theorem dX11_samples_76 : decode cX11_samples 76 = .ok (.aload_n 0, 1) := by decide +kernel
theorem dX11_samples_77 : decode cX11_samples 77 = .ok (.iload 6, 2) := by decide +kernel
theorem dX11_samples_79 : decode cX11_samples 79 = .ok (.iconst 0, 1) := by decide +kernel
theorem dX11_samples_80 : decode cX11_samples 80 = .ok (.invokevirtual 81, 3) := by decide +kernel
theorem dX11_samples_83 : decode cX11_samples 83 = .ok (.if_icmp .lt 21, 3) := by decide +kernel
theorem dX11_samples_86 : decode cX11_samples 86 = .ok (.iload 5, 2) := by decide +kernel
theorem dX11_samples_88 : decode cX11_samples 88 = .ok (.aload_n 0, 1) := by decide +kernel
theorem dX11_samples_89 : decode cX11_samples 89 = .ok (.iload 6, 2) := by decide +kernel
theorem dX11_samples_91 : decode cX11_samples 91 = .ok (.iconst 0, 1) := by decide +kernel
theorem dX11_samples_92 : decode cX11_samples 92 = .ok (.invokevirtual 81, 3) := by decide +kernel
theorem dX11_samples_95 : decode cX11_samples 95 = .ok (.isub, 1) := by decide +kernel
theorem dX11_samples_96 : decode cX11_samples 96 = .ok (.istore 5, 2) := by decide +kernel
theorem dX11_samples_98 : decode cX11_samples 98 = .ok (.iinc 6 1, 3) := by decide +kernel
theorem dX11_samples_101 : decode cX11_samples 101 = .ok (.goto (-27), 3) := by decide +kernel
theorem dX11_samples_104 : decode cX11_samples 104 = .ok (.aload_n 0, 1) := by decide +kernel
theorem dX11_samples_105 : decode cX11_samples 105 = .ok (.getfield 16, 3) := by decide +kernel
theorem dX11_samples_108 : decode cX11_samples 108 = .ok (.iload 6, 2) := by decide +kernel
theorem dX11_samples_110 : decode cX11_samples 110 = .ok (.dup2, 1) := by decide +kernel
theorem dX11_samples_111 : decode cX11_samples 111 = .ok (.iaload, 1) := by decide +kernel
theorem dX11_samples_112 : decode cX11_samples 112 = .ok (.iconst 1, 1) := by decide +kernel
theorem dX11_samples_113 : decode cX11_samples 113 = .ok (.iadd, 1) := by decide +kernel
theorem dX11_samples_114 : decode cX11_samples 114 = .ok (.iastore, 1) := by decide +kernel
theorem dX11_samples_115 : decode cX11_samples 115 = .ok (.iinc 4 1, 3) := by decide +kernel
theorem dX11_samples_118 : decode cX11_samples 118 = .ok (.goto (-80), 3) := by decide +kernel
theorem dX11_samples_121 : decode cX11_samples 121 = .ok (.aload_n 0, 1) := by decide +kernel
theorem dX11_samples_122 : decode cX11_samples 122 = .ok (.iload_n 1, 1) := by decide +kernel
theorem dX11_samples_123 : decode cX11_samples 123 = .ok (.aload_n 0, 1) := by decide +kernel
theorem dX11_samples_124 : decode cX11_samples 124 = .ok (.getfield 7, 3) := by decide +kernel
theorem dX11_samples_127 : decode cX11_samples 127 = .ok (.iconst 1, 1) := by decide +kernel
theorem dX11_samples_128 : decode cX11_samples 128 = .ok (.iaload, 1) := by decide +kernel
theorem dX11_samples_129 : decode cX11_samples 129 = .ok (.invokevirtual 211, 3) := by decide +kernel
theorem dX11_samples_132 : decode cX11_samples 132 = .ok (.ireturn, 1) := by decide +kernel
theorem dX11_sample_0 : decode cX11_sample 0 = .ok (.iload_n 1, 1) := by decide +kernel
theorem dX11_sample_1 : decode cX11_sample 1 = .ok (.invokestatic 244, 3) := by decide +kernel
theorem dX11_sample_4 : decode cX11_sample 4 = .ok (.ifCond .ne 6, 3) := by decide +kernel
theorem dX11_sample_7 : decode cX11_sample 7 = .ok (.ldc 236, 2) := by decide +kernel
theorem dX11_sample_9 : decode cX11_sample 9 = .ok (.ireturn, 1) := by decide +kernel
theorem dX11_sample_10 : decode cX11_sample 10 = .ok (.iload_n 3, 1) := by decide +kernel
theorem dX11_sample_11 : decode cX11_sample 11 = .ok (.iconst 1, 1) := by decide +kernel
theorem dX11_sample_12 : decode cX11_sample 12 = .ok (.bipush 50, 2) := by decide +kernel
theorem dX11_sample_14 : decode cX11_sample 14 = .ok (.invokestatic 70, 3) := by decide +kernel
theorem dX11_sample_17 : decode cX11_sample 17 = .ok (.ifCond .ne 6, 3) := by decide +kernel
theorem dX11_sample_20 : decode cX11_sample 20 = .ok (.ldc 225, 2) := by decide +kernel
theorem dX11_sample_22 : decode cX11_sample 22 = .ok (.ireturn, 1) := by decide +kernel
theorem dX11_sample_23 : decode cX11_sample 23 = .ok (.aload_n 0, 1) := by decide +kernel
theorem dX11_sample_24 : decode cX11_sample 24 = .ok (.getfield 7, 3) := by decide +kernel
theorem dX11_sample_27 : decode cX11_sample 27 = .ok (.iconst 0, 1) := by decide +kernel
theorem dX11_sample_28 : decode cX11_sample 28 = .ok (.iaload, 1) := by decide +kernel
theorem dX11_sample_29 : decode cX11_sample 29 = .ok (.ifCond .ne 6, 3) := by decide +kernel
theorem dX11_sample_32 : decode cX11_sample 32 = .ok (.ldc 240, 2) := by decide +kernel
theorem dX11_sample_34 : decode cX11_sample 34 = .ok (.ireturn, 1) := by decide +kernel
theorem dX11_sample_35 : decode cX11_sample 35 = .ok (.aload_n 0, 1) := by decide +kernel
theorem dX11_sample_36 : decode cX11_sample 36 = .ok (.iload_n 2, 1) := by decide +kernel
theorem dX11_sample_37 : decode cX11_sample 37 = .ok (.putfield 276, 3) := by decide +kernel
theorem dX11_sample_40 : decode cX11_sample 40 = .ok (.aload_n 0, 1) := by decide +kernel
theorem dX11_sample_41 : decode cX11_sample 41 = .ok (.iload_n 1, 1) := by decide +kernel
theorem dX11_sample_42 : decode cX11_sample 42 = .ok (.iload_n 3, 1) := by decide +kernel
theorem dX11_sample_43 : decode cX11_sample 43 = .ok (.invokevirtual 280, 3) := by decide +kernel
theorem dX11_sample_46 : decode cX11_sample 46 = .ok (.istore 4, 2) := by decide +kernel
theorem dX11_sample_48 : decode cX11_sample 48 = .ok (.iload 4, 2) := by decide +kernel
theorem dX11_sample_50 : decode cX11_sample 50 = .ok (.ifCond .ge 8, 3) := by decide +kernel
theorem dX11_sample_53 : decode cX11_sample 53 = .ok (.ldc 250, 2) := by decide +kernel
theorem dX11_sample_55 : decode cX11_sample 55 = .ok (.goto 5, 3) := by decide +kernel
theorem dX11_sample_58 : decode cX11_sample 58 = .ok (.iload 4, 2) := by decide +kernel
theorem dX11_sample_60 : decode cX11_sample 60 = .ok (.ireturn, 1) := by decide +kernel
theorem dX11_agreeing_0 : decode cX11_agreeing 0 = .ok (.iload_n 1, 1) := by decide +kernel
theorem dX11_agreeing_1 : decode cX11_agreeing 1 = .ok (.invokestatic 244, 3) := by decide +kernel
theorem dX11_agreeing_4 : decode cX11_agreeing 4 = .ok (.ifCond .ne 6, 3) := by decide +kernel
theorem dX11_agreeing_7 : decode cX11_agreeing 7 = .ok (.ldc 236, 2) := by decide +kernel
theorem dX11_agreeing_9 : decode cX11_agreeing 9 = .ok (.ireturn, 1) := by decide +kernel
theorem dX11_agreeing_10 : decode cX11_agreeing 10 = .ok (.iload_n 3, 1) := by decide +kernel
theorem dX11_agreeing_11 : decode cX11_agreeing 11 = .ok (.iconst 1, 1) := by decide +kernel
theorem dX11_agreeing_12 : decode cX11_agreeing 12 = .ok (.bipush 50, 2) := by decide +kernel
theorem dX11_agreeing_14 : decode cX11_agreeing 14 = .ok (.invokestatic 70, 3) := by decide +kernel
theorem dX11_agreeing_17 : decode cX11_agreeing 17 = .ok (.ifCond .eq 14, 3) := by decide +kernel
theorem dX11_agreeing_20 : decode cX11_agreeing 20 = .ok (.iload 4, 2) := by decide +kernel
theorem dX11_agreeing_22 : decode cX11_agreeing 22 = .ok (.iconst 1, 1) := by decide +kernel
theorem dX11_agreeing_23 : decode cX11_agreeing 23 = .ok (.bipush 20, 2) := by decide +kernel
theorem dX11_agreeing_25 : decode cX11_agreeing 25 = .ok (.invokestatic 70, 3) := by decide +kernel
theorem dX11_agreeing_28 : decode cX11_agreeing 28 = .ok (.ifCond .ne 6, 3) := by decide +kernel
theorem dX11_agreeing_31 : decode cX11_agreeing 31 = .ok (.ldc 225, 2) := by decide +kernel
theorem dX11_agreeing_33 : decode cX11_agreeing 33 = .ok (.ireturn, 1) := by decide +kernel
theorem dX11_agreeing_34 : decode cX11_agreeing 34 = .ok (.aload_n 0, 1) := by decide +kernel
theorem dX11_agreeing_35 : decode cX11_agreeing 35 = .ok (.getfield 7, 3) := by decide +kernel
theorem dX11_agreeing_38 : decode cX11_agreeing 38 = .ok (.iconst 0, 1) := by decide +kernel
theorem dX11_agreeing_39 : decode cX11_agreeing 39 = .ok (.iaload, 1) := by decide +kernel
theorem dX11_agreeing_40 : decode cX11_agreeing 40 = .ok (.ifCond .eq 12, 3) := by decide +kernel
theorem dX11_agreeing_43 : decode cX11_agreeing 43 = .ok (.aload_n 0, 1) := by decide +kernel
theorem dX11_agreeing_44 : decode cX11_agreeing 44 = .ok (.getfield 7, 3) := by decide +kernel
theorem dX11_agreeing_47 : decode cX11_agreeing 47 = .ok (.iconst 1, 1) := by decide +kernel
theorem dX11_agreeing_48 : decode cX11_agreeing 48 = .ok (.iaload, 1) := by decide +kernel
theorem dX11_agreeing_49 : decode cX11_agreeing 49 = .ok (.ifCond .ne 6, 3) := by decide +kernel
theorem dX11_agreeing_52 : decode cX11_agreeing 52 = .ok (.ldc 240, 2) := by decide +kernel
theorem dX11_agreeing_54 : decode cX11_agreeing 54 = .ok (.ireturn, 1) := by decide +kernel
theorem dX11_agreeing_55 : decode cX11_agreeing 55 = .ok (.aload_n 0, 1) := by decide +kernel
theorem dX11_agreeing_56 : decode cX11_agreeing 56 = .ok (.iload_n 1, 1) := by decide +kernel
theorem dX11_agreeing_57 : decode cX11_agreeing 57 = .ok (.invokevirtual 247, 3) := by decide +kernel
theorem dX11_agreeing_60 : decode cX11_agreeing 60 = .ok (.istore 5, 2) := by decide +kernel
theorem dX11_agreeing_62 : decode cX11_agreeing 62 = .ok (.aload_n 0, 1) := by decide +kernel
theorem dX11_agreeing_63 : decode cX11_agreeing 63 = .ok (.iload_n 2, 1) := by decide +kernel
theorem dX11_agreeing_64 : decode cX11_agreeing 64 = .ok (.putfield 276, 3) := by decide +kernel
theorem dX11_agreeing_67 : decode cX11_agreeing 67 = .ok (.iconst 0, 1) := by decide +kernel
theorem dX11_agreeing_68 : decode cX11_agreeing 68 = .ok (.istore 6, 2) := by decide +kernel
theorem dX11_agreeing_70 : decode cX11_agreeing 70 = .ok (.iconst 0, 1) := by decide +kernel
theorem dX11_agreeing_71 : decode cX11_agreeing 71 = .ok (.istore 7, 2) := by decide +kernel
theorem dX11_agreeing_73 : decode cX11_agreeing 73 = .ok (.iload 7, 2) := by decide +kernel
theorem dX11_agreeing_75 : decode cX11_agreeing 75 = .ok (.iload 4, 2) := by decide +kernel
theorem dX11_agreeing_77 : decode cX11_agreeing 77 = .ok (.if_icmp .ge 30, 3) := by decide +kernel
theorem dX11_agreeing_80 : decode cX11_agreeing 80 = .ok (.iload 6, 2) := by decide +kernel
theorem dX11_agreeing_82 : decode cX11_agreeing 82 = .ok (.aload_n 0, 1) := by decide +kernel
theorem dX11_agreeing_83 : decode cX11_agreeing 83 = .ok (.iload_n 1, 1) := by decide +kernel
theorem dX11_agreeing_84 : decode cX11_agreeing 84 = .ok (.iload_n 3, 1) := by decide +kernel
theorem dX11_agreeing_85 : decode cX11_agreeing 85 = .ok (.invokevirtual 280, 3) := by decide +kernel
theorem dX11_agreeing_88 : decode cX11_agreeing 88 = .ok (.iload 5, 2) := by decide +kernel
theorem dX11_agreeing_90 : decode cX11_agreeing 90 = .ok (.if_icmp .ne 7, 3) := by decide +kernel
theorem dX11_agreeing_93 : decode cX11_agreeing 93 = .ok (.iconst 1, 1) := by decide +kernel
theorem dX11_agreeing_94 : decode cX11_agreeing 94 = .ok (.goto 4, 3) := by decide +kernel
theorem dX11_agreeing_97 : decode cX11_agreeing 97 = .ok (.iconst 0, 1) := by decide +kernel
theorem dX11_agreeing_98 : decode cX11_agreeing 98 = .ok (.iadd, 1) := by decide +kernel
theorem dX11_agreeing_99 : decode cX11_agreeing 99 = .ok (.istore 6, 2) := by decide +kernel
theorem dX11_agreeing_101 : decode cX11_agreeing 101 = .ok (.iinc 7 1, 3) := by decide +kernel
theorem dX11_agreeing_104 : decode cX11_agreeing 104 = .ok (.goto (-31), 3) := by decide +kernel
theorem dX11_agreeing_107 : decode cX11_agreeing 107 = .ok (.iload 6, 2) := by decide +kernel
theorem dX11_agreeing_109 : decode cX11_agreeing 109 = .ok (.ireturn, 1) := by decide +kernel
theorem dX11_undo_0 : decode cX11_undo 0 = .ok (.aload_n 0, 1) := by decide +kernel
theorem dX11_undo_1 : decode cX11_undo 1 = .ok (.getfield 62, 3) := by decide +kernel
theorem dX11_undo_4 : decode cX11_undo 4 = .ok (.ifCond .ne 6, 3) := by decide +kernel
theorem dX11_undo_7 : decode cX11_undo 7 = .ok (.ldc 240, 2) := by decide +kernel
theorem dX11_undo_9 : decode cX11_undo 9 = .ok (.ireturn, 1) := by decide +kernel
theorem dX11_undo_10 : decode cX11_undo 10 = .ok (.aload_n 0, 1) := by decide +kernel
theorem dX11_undo_11 : decode cX11_undo 11 = .ok (.aload_n 0, 1) := by decide +kernel
theorem dX11_undo_12 : decode cX11_undo 12 = .ok (.getfield 62, 3) := by decide +kernel
theorem dX11_undo_15 : decode cX11_undo 15 = .ok (.iconst 0, 1) := by decide +kernel
theorem dX11_undo_16 : decode cX11_undo 16 = .ok (.invokevirtual 66, 3) := by decide +kernel
theorem dX11_undo_19 : decode cX11_undo 19 = .ok (.aload_n 0, 1) := by decide +kernel
theorem dX11_undo_20 : decode cX11_undo 20 = .ok (.dup, 1) := by decide +kernel
theorem dX11_undo_21 : decode cX11_undo 21 = .ok (.getfield 62, 3) := by decide +kernel
theorem dX11_undo_24 : decode cX11_undo 24 = .ok (.iconst 1, 1) := by decide +kernel
theorem dX11_undo_25 : decode cX11_undo 25 = .ok (.isub, 1) := by decide +kernel
theorem dX11_undo_26 : decode cX11_undo 26 = .ok (.putfield 62, 3) := by decide +kernel
theorem dX11_undo_29 : decode cX11_undo 29 = .ok (.aload_n 0, 1) := by decide +kernel
theorem dX11_undo_30 : decode cX11_undo 30 = .ok (.getfield 62, 3) := by decide +kernel
theorem dX11_undo_33 : decode cX11_undo 33 = .ok (.ireturn, 1) := by decide +kernel
theorem dX11_type_0 : decode cX11_type 0 = .ok (.iload_n 1, 1) := by decide +kernel
theorem dX11_type_1 : decode cX11_type 1 = .ok (.iconst 0, 1) := by decide +kernel
theorem dX11_type_2 : decode cX11_type 2 = .ok (.sipush 255, 3) := by decide +kernel
theorem dX11_type_5 : decode cX11_type 5 = .ok (.invokestatic 70, 3) := by decide +kernel
theorem dX11_type_8 : decode cX11_type 8 = .ok (.ifCond .ne 6, 3) := by decide +kernel
theorem dX11_type_11 : decode cX11_type 11 = .ok (.ldc 225, 2) := by decide +kernel
theorem dX11_type_13 : decode cX11_type 13 = .ok (.ireturn, 1) := by decide +kernel
theorem dX11_type_14 : decode cX11_type 14 = .ok (.aload_n 0, 1) := by decide +kernel
theorem dX11_type_15 : decode cX11_type 15 = .ok (.getfield 283, 3) := by decide +kernel
theorem dX11_type_18 : decode cX11_type 18 = .ok (.bipush 100, 2) := by decide +kernel
theorem dX11_type_20 : decode cX11_type 20 = .ok (.if_icmp .ne 6, 3) := by decide +kernel
theorem dX11_type_23 : decode cX11_type 23 = .ok (.ldc 226, 2) := by decide +kernel
theorem dX11_type_25 : decode cX11_type 25 = .ok (.ireturn, 1) := by decide +kernel
theorem dX11_type_26 : decode cX11_type 26 = .ok (.aload_n 0, 1) := by decide +kernel
theorem dX11_type_27 : decode cX11_type 27 = .ok (.getfield 13, 3) := by decide +kernel
theorem dX11_type_30 : decode cX11_type 30 = .ok (.aload_n 0, 1) := by decide +kernel
theorem dX11_type_31 : decode cX11_type 31 = .ok (.getfield 283, 3) := by decide +kernel
theorem dX11_type_34 : decode cX11_type 34 = .ok (.iload_n 1, 1) := by decide +kernel
theorem dX11_type_35 : decode cX11_type 35 = .ok (.iastore, 1) := by decide +kernel
theorem dX11_type_36 : decode cX11_type 36 = .ok (.aload_n 0, 1) := by decide +kernel
theorem dX11_type_37 : decode cX11_type 37 = .ok (.dup, 1) := by decide +kernel
theorem dX11_type_38 : decode cX11_type 38 = .ok (.getfield 283, 3) := by decide +kernel
theorem dX11_type_41 : decode cX11_type 41 = .ok (.iconst 1, 1) := by decide +kernel
theorem dX11_type_42 : decode cX11_type 42 = .ok (.iadd, 1) := by decide +kernel
theorem dX11_type_43 : decode cX11_type 43 = .ok (.putfield 283, 3) := by decide +kernel
theorem dX11_type_46 : decode cX11_type 46 = .ok (.aload_n 0, 1) := by decide +kernel
theorem dX11_type_47 : decode cX11_type 47 = .ok (.getfield 283, 3) := by decide +kernel
theorem dX11_type_50 : decode cX11_type 50 = .ok (.ireturn, 1) := by decide +kernel
theorem dX11_clearText_0 : decode cX11_clearText 0 = .ok (.aload_n 0, 1) := by decide +kernel
theorem dX11_clearText_1 : decode cX11_clearText 1 = .ok (.getfield 283, 3) := by decide +kernel
theorem dX11_clearText_4 : decode cX11_clearText 4 = .ok (.istore_n 1, 1) := by decide +kernel
theorem dX11_clearText_5 : decode cX11_clearText 5 = .ok (.aload_n 0, 1) := by decide +kernel
theorem dX11_clearText_6 : decode cX11_clearText 6 = .ok (.iconst 0, 1) := by decide +kernel
theorem dX11_clearText_7 : decode cX11_clearText 7 = .ok (.putfield 283, 3) := by decide +kernel
theorem dX11_clearText_10 : decode cX11_clearText 10 = .ok (.iload_n 1, 1) := by decide +kernel
theorem dX11_clearText_11 : decode cX11_clearText 11 = .ok (.ireturn, 1) := by decide +kernel
theorem dX11_here_0 : decode cX11_here 0 = .ok (.aload_n 0, 1) := by decide +kernel
theorem dX11_here_1 : decode cX11_here 1 = .ok (.getfield 286, 3) := by decide +kernel
theorem dX11_here_4 : decode cX11_here 4 = .ok (.aload_n 0, 1) := by decide +kernel
theorem dX11_here_5 : decode cX11_here 5 = .ok (.getfield 283, 3) := by decide +kernel
theorem dX11_here_8 : decode cX11_here 8 = .ok (.if_icmp .ge 30, 3) := by decide +kernel
theorem dX11_here_11 : decode cX11_here 11 = .ok (.aload_n 0, 1) := by decide +kernel
theorem dX11_here_12 : decode cX11_here 12 = .ok (.getfield 13, 3) := by decide +kernel
theorem dX11_here_15 : decode cX11_here 15 = .ok (.aload_n 0, 1) := by decide +kernel
theorem dX11_here_16 : decode cX11_here 16 = .ok (.getfield 286, 3) := by decide +kernel
theorem dX11_here_19 : decode cX11_here 19 = .ok (.iaload, 1) := by decide +kernel
theorem dX11_here_20 : decode cX11_here 20 = .ok (.bipush 32, 2) := by decide +kernel
theorem dX11_here_22 : decode cX11_here 22 = .ok (.if_icmp .ne 16, 3) := by decide +kernel
theorem dX11_here_25 : decode cX11_here 25 = .ok (.aload_n 0, 1) := by decide +kernel
theorem dX11_here_26 : decode cX11_here 26 = .ok (.dup, 1) := by decide +kernel
theorem dX11_here_27 : decode cX11_here 27 = .ok (.getfield 286, 3) := by decide +kernel
theorem dX11_here_30 : decode cX11_here 30 = .ok (.iconst 1, 1) := by decide +kernel
theorem dX11_here_31 : decode cX11_here 31 = .ok (.iadd, 1) := by decide +kernel
theorem dX11_here_32 : decode cX11_here 32 = .ok (.putfield 286, 3) := by decide +kernel
theorem dX11_here_35 : decode cX11_here 35 = .ok (.goto (-35), 3) := by decide +kernel
theorem dX11_here_38 : decode cX11_here 38 = .ok (.aload_n 0, 1) := by decide +kernel
theorem dX11_here_39 : decode cX11_here 39 = .ok (.getfield 286, 3) := by decide +kernel
theorem dX11_here_42 : decode cX11_here 42 = .ok (.aload_n 0, 1) := by decide +kernel
theorem dX11_here_43 : decode cX11_here 43 = .ok (.getfield 283, 3) := by decide +kernel
theorem dX11_here_46 : decode cX11_here 46 = .ok (.if_icmp .ge 15, 3) := by decide +kernel
theorem dX11_here_49 : decode cX11_here 49 = .ok (.aload_n 0, 1) := by decide +kernel
theorem dX11_here_50 : decode cX11_here 50 = .ok (.getfield 13, 3) := by decide +kernel
theorem dX11_here_53 : decode cX11_here 53 = .ok (.aload_n 0, 1) := by decide +kernel
theorem dX11_here_54 : decode cX11_here 54 = .ok (.getfield 286, 3) := by decide +kernel
theorem dX11_here_57 : decode cX11_here 57 = .ok (.iaload, 1) := by decide +kernel
theorem dX11_here_58 : decode cX11_here 58 = .ok (.goto 4, 3) := by decide +kernel
theorem dX11_here_61 : decode cX11_here 61 = .ok (.iconst (-1), 1) := by decide +kernel
theorem dX11_here_62 : decode cX11_here 62 = .ok (.ireturn, 1) := by decide +kernel
theorem dX11_number_0 : decode cX11_number 0 = .ok (.aload_n 0, 1) := by decide +kernel
theorem dX11_number_1 : decode cX11_number 1 = .ok (.invokevirtual 289, 3) := by decide +kernel
theorem dX11_number_4 : decode cX11_number 4 = .ok (.istore_n 1, 1) := by decide +kernel
theorem dX11_number_5 : decode cX11_number 5 = .ok (.aload_n 0, 1) := by decide +kernel
theorem dX11_number_6 : decode cX11_number 6 = .ok (.getfield 286, 3) := by decide +kernel
theorem dX11_number_9 : decode cX11_number 9 = .ok (.istore_n 2, 1) := by decide +kernel
theorem dX11_number_10 : decode cX11_number 10 = .ok (.iconst 0, 1) := by decide +kernel
theorem dX11_number_11 : decode cX11_number 11 = .ok (.istore_n 3, 1) := by decide +kernel
theorem dX11_number_12 : decode cX11_number 12 = .ok (.iload_n 1, 1) := by decide +kernel
theorem dX11_number_13 : decode cX11_number 13 = .ok (.ifCond .lt 62, 3) := by decide +kernel
theorem dX11_number_16 : decode cX11_number 16 = .ok (.iload_n 2, 1) := by decide +kernel
theorem dX11_number_17 : decode cX11_number 17 = .ok (.aload_n 0, 1) := by decide +kernel
theorem dX11_number_18 : decode cX11_number 18 = .ok (.getfield 283, 3) := by decide +kernel
theorem dX11_number_21 : decode cX11_number 21 = .ok (.if_icmp .ge 54, 3) := by decide +kernel
theorem dX11_number_24 : decode cX11_number 24 = .ok (.aload_n 0, 1) := by decide +kernel
theorem dX11_number_25 : decode cX11_number 25 = .ok (.getfield 13, 3) := by decide +kernel
theorem dX11_number_28 : decode cX11_number 28 = .ok (.iload_n 2, 1) := by decide +kernel
theorem dX11_number_29 : decode cX11_number 29 = .ok (.iaload, 1) := by decide +kernel
theorem dX11_number_30 : decode cX11_number 30 = .ok (.bipush 48, 2) := by decide +kernel
theorem dX11_number_32 : decode cX11_number 32 = .ok (.bipush 57, 2) := by decide +kernel
theorem dX11_number_34 : decode cX11_number 34 = .ok (.invokestatic 70, 3) := by decide +kernel
theorem dX11_number_37 : decode cX11_number 37 = .ok (.ifCond .eq 38, 3) := by decide +kernel
theorem dX11_number_40 : decode cX11_number 40 = .ok (.iload_n 2, 1) := by decide +kernel
theorem dX11_number_41 : decode cX11_number 41 = .ok (.aload_n 0, 1) := by decide +kernel
theorem dX11_number_42 : decode cX11_number 42 = .ok (.getfield 286, 3) := by decide +kernel
theorem dX11_number_45 : decode cX11_number 45 = .ok (.isub, 1) := by decide +kernel
theorem dX11_number_46 : decode cX11_number 46 = .ok (.iconst 4, 1) := by decide +kernel
theorem dX11_number_47 : decode cX11_number 47 = .ok (.if_icmp .ge 20, 3) := by decide +kernel
theorem dX11_number_50 : decode cX11_number 50 = .ok (.bipush 10, 2) := by decide +kernel
theorem dX11_number_52 : decode cX11_number 52 = .ok (.iload_n 3, 1) := by decide +kernel
theorem dX11_number_53 : decode cX11_number 53 = .ok (.imul, 1) := by decide +kernel
theorem dX11_number_54 : decode cX11_number 54 = .ok (.aload_n 0, 1) := by decide +kernel
theorem dX11_number_55 : decode cX11_number 55 = .ok (.getfield 13, 3) := by decide +kernel
theorem dX11_number_58 : decode cX11_number 58 = .ok (.iload_n 2, 1) := by decide +kernel
theorem dX11_number_59 : decode cX11_number 59 = .ok (.iaload, 1) := by decide +kernel
theorem dX11_number_60 : decode cX11_number 60 = .ok (.iadd, 1) := by decide +kernel
theorem dX11_number_61 : decode cX11_number 61 = .ok (.bipush 48, 2) := by decide +kernel
theorem dX11_number_63 : decode cX11_number 63 = .ok (.isub, 1) := by decide +kernel
theorem dX11_number_64 : decode cX11_number 64 = .ok (.goto 4, 3) := by decide +kernel
theorem dX11_number_67 : decode cX11_number 67 = .ok (.iload_n 3, 1) := by decide +kernel
theorem dX11_number_68 : decode cX11_number 68 = .ok (.istore_n 3, 1) := by decide +kernel
theorem dX11_number_69 : decode cX11_number 69 = .ok (.iinc 2 1, 3) := by decide +kernel
theorem dX11_number_72 : decode cX11_number 72 = .ok (.goto (-60), 3) := by decide +kernel
theorem dX11_number_75 : decode cX11_number 75 = .ok (.iload_n 2, 1) := by decide +kernel
theorem dX11_number_76 : decode cX11_number 76 = .ok (.aload_n 0, 1) := by decide +kernel
theorem dX11_number_77 : decode cX11_number 77 = .ok (.getfield 286, 3) := by decide +kernel
theorem dX11_number_80 : decode cX11_number 80 = .ok (.if_icmp .eq 23, 3) := by decide +kernel
theorem dX11_number_83 : decode cX11_number 83 = .ok (.iload_n 2, 1) := by decide +kernel
theorem dX11_number_84 : decode cX11_number 84 = .ok (.aload_n 0, 1) := by decide +kernel
theorem dX11_number_85 : decode cX11_number 85 = .ok (.getfield 286, 3) := by decide +kernel
theorem dX11_number_88 : decode cX11_number 88 = .ok (.isub, 1) := by decide +kernel
theorem dX11_number_89 : decode cX11_number 89 = .ok (.iconst 3, 1) := by decide +kernel
theorem dX11_number_90 : decode cX11_number 90 = .ok (.if_icmp .gt 13, 3) := by decide +kernel
theorem dX11_number_93 : decode cX11_number 93 = .ok (.iload_n 3, 1) := by decide +kernel
theorem dX11_number_94 : decode cX11_number 94 = .ok (.iconst 1, 1) := by decide +kernel
theorem dX11_number_95 : decode cX11_number 95 = .ok (.bipush 100, 2) := by decide +kernel
theorem dX11_number_97 : decode cX11_number 97 = .ok (.invokestatic 70, 3) := by decide +kernel
theorem dX11_number_100 : decode cX11_number 100 = .ok (.ifCond .ne 5, 3) := by decide +kernel
theorem dX11_number_103 : decode cX11_number 103 = .ok (.iconst (-1), 1) := by decide +kernel
theorem dX11_number_104 : decode cX11_number 104 = .ok (.ireturn, 1) := by decide +kernel
theorem dX11_number_105 : decode cX11_number 105 = .ok (.aload_n 0, 1) := by decide +kernel
theorem dX11_number_106 : decode cX11_number 106 = .ok (.iload_n 2, 1) := by decide +kernel
theorem dX11_number_107 : decode cX11_number 107 = .ok (.putfield 286, 3) := by decide +kernel
theorem dX11_number_110 : decode cX11_number 110 = .ok (.iload_n 3, 1) := by decide +kernel
theorem dX11_number_111 : decode cX11_number 111 = .ok (.ireturn, 1) := by decide +kernel
theorem dX11_readsGroup_0 : decode cX11_readsGroup 0 = .ok (.aload_n 0, 1) := by decide +kernel
theorem dX11_readsGroup_1 : decode cX11_readsGroup 1 = .ok (.invokevirtual 289, 3) := by decide +kernel
theorem dX11_readsGroup_4 : decode cX11_readsGroup 4 = .ok (.istore_n 1, 1) := by decide +kernel
theorem dX11_readsGroup_5 : decode cX11_readsGroup 5 = .ok (.iload_n 1, 1) := by decide +kernel
theorem dX11_readsGroup_6 : decode cX11_readsGroup 6 = .ok (.ifCond .lt 26, 3) := by decide +kernel
theorem dX11_readsGroup_9 : decode cX11_readsGroup 9 = .ok (.aload_n 0, 1) := by decide +kernel
theorem dX11_readsGroup_10 : decode cX11_readsGroup 10 = .ok (.getfield 292, 3) := by decide +kernel
theorem dX11_readsGroup_13 : decode cX11_readsGroup 13 = .ok (.ifCond .ne 21, 3) := by decide +kernel
theorem dX11_readsGroup_16 : decode cX11_readsGroup 16 = .ok (.aload_n 0, 1) := by decide +kernel
theorem dX11_readsGroup_17 : decode cX11_readsGroup 17 = .ok (.getfield 7, 3) := by decide +kernel
theorem dX11_readsGroup_20 : decode cX11_readsGroup 20 = .ok (.iconst 0, 1) := by decide +kernel
theorem dX11_readsGroup_21 : decode cX11_readsGroup 21 = .ok (.iaload, 1) := by decide +kernel
theorem dX11_readsGroup_22 : decode cX11_readsGroup 22 = .ok (.aload_n 0, 1) := by decide +kernel
theorem dX11_readsGroup_23 : decode cX11_readsGroup 23 = .ok (.getfield 296, 3) := by decide +kernel
theorem dX11_readsGroup_26 : decode cX11_readsGroup 26 = .ok (.iadd, 1) := by decide +kernel
theorem dX11_readsGroup_27 : decode cX11_readsGroup 27 = .ok (.bipush 20, 2) := by decide +kernel
theorem dX11_readsGroup_29 : decode cX11_readsGroup 29 = .ok (.if_icmp .ne 5, 3) := by decide +kernel
theorem dX11_readsGroup_32 : decode cX11_readsGroup 32 = .ok (.iconst 0, 1) := by decide +kernel
theorem dX11_readsGroup_33 : decode cX11_readsGroup 33 = .ok (.ireturn, 1) := by decide +kernel
theorem dX11_readsGroup_34 : decode cX11_readsGroup 34 = .ok (.aload_n 0, 1) := by decide +kernel
theorem dX11_readsGroup_35 : decode cX11_readsGroup 35 = .ok (.invokevirtual 299, 3) := by decide +kernel
theorem dX11_readsGroup_38 : decode cX11_readsGroup 38 = .ok (.istore_n 2, 1) := by decide +kernel
theorem dX11_readsGroup_39 : decode cX11_readsGroup 39 = .ok (.iload_n 2, 1) := by decide +kernel
theorem dX11_readsGroup_40 : decode cX11_readsGroup 40 = .ok (.ifCond .lt 12, 3) := by decide +kernel
theorem dX11_readsGroup_43 : decode cX11_readsGroup 43 = .ok (.aload_n 0, 1) := by decide +kernel
theorem dX11_readsGroup_44 : decode cX11_readsGroup 44 = .ok (.invokevirtual 289, 3) := by decide +kernel
theorem dX11_readsGroup_47 : decode cX11_readsGroup 47 = .ok (.bipush 58, 2) := by decide +kernel
theorem dX11_readsGroup_49 : decode cX11_readsGroup 49 = .ok (.if_icmp .eq 5, 3) := by decide +kernel
theorem dX11_readsGroup_52 : decode cX11_readsGroup 52 = .ok (.iconst 0, 1) := by decide +kernel
theorem dX11_readsGroup_53 : decode cX11_readsGroup 53 = .ok (.ireturn, 1) := by decide +kernel
theorem dX11_readsGroup_54 : decode cX11_readsGroup 54 = .ok (.iconst 0, 1) := by decide +kernel
theorem dX11_readsGroup_55 : decode cX11_readsGroup 55 = .ok (.istore_n 3, 1) := by decide +kernel
theorem dX11_readsGroup_56 : decode cX11_readsGroup 56 = .ok (.iconst 0, 1) := by decide +kernel
theorem dX11_readsGroup_57 : decode cX11_readsGroup 57 = .ok (.istore 4, 2) := by decide +kernel
theorem dX11_readsGroup_59 : decode cX11_readsGroup 59 = .ok (.iconst 1, 1) := by decide +kernel
theorem dX11_readsGroup_60 : decode cX11_readsGroup 60 = .ok (.istore 5, 2) := by decide +kernel
theorem dX11_readsGroup_62 : decode cX11_readsGroup 62 = .ok (.iload 5, 2) := by decide +kernel
theorem dX11_readsGroup_64 : decode cX11_readsGroup 64 = .ok (.ifCond .eq 90, 3) := by decide +kernel
theorem dX11_readsGroup_67 : decode cX11_readsGroup 67 = .ok (.aload_n 0, 1) := by decide +kernel
theorem dX11_readsGroup_68 : decode cX11_readsGroup 68 = .ok (.dup, 1) := by decide +kernel
theorem dX11_readsGroup_69 : decode cX11_readsGroup 69 = .ok (.getfield 286, 3) := by decide +kernel
theorem dX11_readsGroup_72 : decode cX11_readsGroup 72 = .ok (.iconst 1, 1) := by decide +kernel
theorem dX11_readsGroup_73 : decode cX11_readsGroup 73 = .ok (.iadd, 1) := by decide +kernel
theorem dX11_readsGroup_74 : decode cX11_readsGroup 74 = .ok (.putfield 286, 3) := by decide +kernel
theorem dX11_readsGroup_77 : decode cX11_readsGroup 77 = .ok (.aload_n 0, 1) := by decide +kernel
theorem dX11_readsGroup_78 : decode cX11_readsGroup 78 = .ok (.invokevirtual 289, 3) := by decide +kernel
theorem dX11_readsGroup_81 : decode cX11_readsGroup 81 = .ok (.bipush 48, 2) := by decide +kernel
theorem dX11_readsGroup_83 : decode cX11_readsGroup 83 = .ok (.isub, 1) := by decide +kernel
theorem dX11_readsGroup_84 : decode cX11_readsGroup 84 = .ok (.istore 6, 2) := by decide +kernel
theorem dX11_readsGroup_86 : decode cX11_readsGroup 86 = .ok (.iload 6, 2) := by decide +kernel
theorem dX11_readsGroup_88 : decode cX11_readsGroup 88 = .ok (.invokestatic 214, 3) := by decide +kernel
theorem dX11_readsGroup_91 : decode cX11_readsGroup 91 = .ok (.ifCond .eq 13, 3) := by decide +kernel
theorem dX11_readsGroup_94 : decode cX11_readsGroup 94 = .ok (.iload 4, 2) := by decide +kernel
theorem dX11_readsGroup_96 : decode cX11_readsGroup 96 = .ok (.iload 6, 2) := by decide +kernel
theorem dX11_readsGroup_98 : decode cX11_readsGroup 98 = .ok (.invokestatic 74, 3) := by decide +kernel
theorem dX11_readsGroup_101 : decode cX11_readsGroup 101 = .ok (.ifCond .eq 5, 3) := by decide +kernel
theorem dX11_readsGroup_104 : decode cX11_readsGroup 104 = .ok (.iconst 0, 1) := by decide +kernel
theorem dX11_readsGroup_105 : decode cX11_readsGroup 105 = .ok (.ireturn, 1) := by decide +kernel
theorem dX11_readsGroup_106 : decode cX11_readsGroup 106 = .ok (.iload 4, 2) := by decide +kernel
theorem dX11_readsGroup_108 : decode cX11_readsGroup 108 = .ok (.iconst 1, 1) := by decide +kernel
theorem dX11_readsGroup_109 : decode cX11_readsGroup 109 = .ok (.iload 6, 2) := by decide +kernel
theorem dX11_readsGroup_111 : decode cX11_readsGroup 111 = .ok (.ishl, 1) := by decide +kernel
theorem dX11_readsGroup_112 : decode cX11_readsGroup 112 = .ok (.ior, 1) := by decide +kernel
theorem dX11_readsGroup_113 : decode cX11_readsGroup 113 = .ok (.istore 4, 2) := by decide +kernel
theorem dX11_readsGroup_115 : decode cX11_readsGroup 115 = .ok (.bipush 10, 2) := by decide +kernel
theorem dX11_readsGroup_117 : decode cX11_readsGroup 117 = .ok (.iload_n 3, 1) := by decide +kernel
theorem dX11_readsGroup_118 : decode cX11_readsGroup 118 = .ok (.imul, 1) := by decide +kernel
theorem dX11_readsGroup_119 : decode cX11_readsGroup 119 = .ok (.iload 6, 2) := by decide +kernel
theorem dX11_readsGroup_121 : decode cX11_readsGroup 121 = .ok (.iadd, 1) := by decide +kernel
theorem dX11_readsGroup_122 : decode cX11_readsGroup 122 = .ok (.iconst 1, 1) := by decide +kernel
theorem dX11_readsGroup_123 : decode cX11_readsGroup 123 = .ok (.iadd, 1) := by decide +kernel
theorem dX11_readsGroup_124 : decode cX11_readsGroup 124 = .ok (.istore_n 3, 1) := by decide +kernel
theorem dX11_readsGroup_125 : decode cX11_readsGroup 125 = .ok (.aload_n 0, 1) := by decide +kernel
theorem dX11_readsGroup_126 : decode cX11_readsGroup 126 = .ok (.dup, 1) := by decide +kernel
theorem dX11_readsGroup_127 : decode cX11_readsGroup 127 = .ok (.getfield 286, 3) := by decide +kernel
theorem dX11_readsGroup_130 : decode cX11_readsGroup 130 = .ok (.iconst 1, 1) := by decide +kernel
theorem dX11_readsGroup_131 : decode cX11_readsGroup 131 = .ok (.iadd, 1) := by decide +kernel
theorem dX11_readsGroup_132 : decode cX11_readsGroup 132 = .ok (.putfield 286, 3) := by decide +kernel
theorem dX11_readsGroup_135 : decode cX11_readsGroup 135 = .ok (.aload_n 0, 1) := by decide +kernel
theorem dX11_readsGroup_136 : decode cX11_readsGroup 136 = .ok (.invokevirtual 289, 3) := by decide +kernel
theorem dX11_readsGroup_139 : decode cX11_readsGroup 139 = .ok (.bipush 62, 2) := by decide +kernel
theorem dX11_readsGroup_141 : decode cX11_readsGroup 141 = .ok (.if_icmp .ne 7, 3) := by decide +kernel
theorem dX11_readsGroup_144 : decode cX11_readsGroup 144 = .ok (.iconst 1, 1) := by decide +kernel
theorem dX11_readsGroup_145 : decode cX11_readsGroup 145 = .ok (.goto 4, 3) := by decide +kernel
theorem dX11_readsGroup_148 : decode cX11_readsGroup 148 = .ok (.iconst 0, 1) := by decide +kernel
theorem dX11_readsGroup_149 : decode cX11_readsGroup 149 = .ok (.istore 5, 2) := by decide +kernel
theorem dX11_readsGroup_151 : decode cX11_readsGroup 151 = .ok (.goto (-89), 3) := by decide +kernel
theorem dX11_readsGroup_154 : decode cX11_readsGroup 154 = .ok (.aload_n 0, 1) := by decide +kernel
theorem dX11_readsGroup_155 : decode cX11_readsGroup 155 = .ok (.getfield 292, 3) := by decide +kernel
theorem dX11_readsGroup_158 : decode cX11_readsGroup 158 = .ok (.ifCond .eq 9, 3) := by decide +kernel
theorem dX11_readsGroup_161 : decode cX11_readsGroup 161 = .ok (.aload_n 0, 1) := by decide +kernel
theorem dX11_readsGroup_162 : decode cX11_readsGroup 162 = .ok (.iload_n 2, 1) := by decide +kernel
theorem dX11_readsGroup_163 : decode cX11_readsGroup 163 = .ok (.iload_n 3, 1) := by decide +kernel
theorem dX11_readsGroup_164 : decode cX11_readsGroup 164 = .ok (.invokevirtual 230, 3) := by decide +kernel
theorem dX11_readsGroup_167 : decode cX11_readsGroup 167 = .ok (.aload_n 0, 1) := by decide +kernel
theorem dX11_readsGroup_168 : decode cX11_readsGroup 168 = .ok (.dup, 1) := by decide +kernel
theorem dX11_readsGroup_169 : decode cX11_readsGroup 169 = .ok (.getfield 296, 3) := by decide +kernel
theorem dX11_readsGroup_172 : decode cX11_readsGroup 172 = .ok (.iconst 1, 1) := by decide +kernel
theorem dX11_readsGroup_173 : decode cX11_readsGroup 173 = .ok (.iadd, 1) := by decide +kernel
theorem dX11_readsGroup_174 : decode cX11_readsGroup 174 = .ok (.putfield 296, 3) := by decide +kernel
theorem dX11_readsGroup_177 : decode cX11_readsGroup 177 = .ok (.iconst 1, 1) := by decide +kernel
theorem dX11_readsGroup_178 : decode cX11_readsGroup 178 = .ok (.ireturn, 1) := by decide +kernel
theorem dX11_readsAll_0 : decode cX11_readsAll 0 = .ok (.aload_n 0, 1) := by decide +kernel
theorem dX11_readsAll_1 : decode cX11_readsAll 1 = .ok (.iload_n 1, 1) := by decide +kernel
theorem dX11_readsAll_2 : decode cX11_readsAll 2 = .ok (.putfield 292, 3) := by decide +kernel
theorem dX11_readsAll_5 : decode cX11_readsAll 5 = .ok (.aload_n 0, 1) := by decide +kernel
theorem dX11_readsAll_6 : decode cX11_readsAll 6 = .ok (.iconst 0, 1) := by decide +kernel
theorem dX11_readsAll_7 : decode cX11_readsAll 7 = .ok (.putfield 286, 3) := by decide +kernel
theorem dX11_readsAll_10 : decode cX11_readsAll 10 = .ok (.aload_n 0, 1) := by decide +kernel
theorem dX11_readsAll_11 : decode cX11_readsAll 11 = .ok (.iconst 0, 1) := by decide +kernel
theorem dX11_readsAll_12 : decode cX11_readsAll 12 = .ok (.putfield 296, 3) := by decide +kernel
theorem dX11_readsAll_15 : decode cX11_readsAll 15 = .ok (.aload_n 0, 1) := by decide +kernel
theorem dX11_readsAll_16 : decode cX11_readsAll 16 = .ok (.invokevirtual 302, 3) := by decide +kernel
theorem dX11_readsAll_19 : decode cX11_readsAll 19 = .ok (.istore_n 2, 1) := by decide +kernel
theorem dX11_readsAll_20 : decode cX11_readsAll 20 = .ok (.aload_n 0, 1) := by decide +kernel
theorem dX11_readsAll_21 : decode cX11_readsAll 21 = .ok (.invokevirtual 289, 3) := by decide +kernel
theorem dX11_readsAll_24 : decode cX11_readsAll 24 = .ok (.istore_n 3, 1) := by decide +kernel
theorem dX11_readsAll_25 : decode cX11_readsAll 25 = .ok (.iload_n 2, 1) := by decide +kernel
theorem dX11_readsAll_26 : decode cX11_readsAll 26 = .ok (.ifCond .eq 47, 3) := by decide +kernel
theorem dX11_readsAll_29 : decode cX11_readsAll 29 = .ok (.iload_n 3, 1) := by decide +kernel
theorem dX11_readsAll_30 : decode cX11_readsAll 30 = .ok (.iconst (-1), 1) := by decide +kernel
theorem dX11_readsAll_31 : decode cX11_readsAll 31 = .ok (.if_icmp .eq 42, 3) := by decide +kernel
theorem dX11_readsAll_34 : decode cX11_readsAll 34 = .ok (.iload_n 3, 1) := by decide +kernel
theorem dX11_readsAll_35 : decode cX11_readsAll 35 = .ok (.bipush 59, 2) := by decide +kernel
theorem dX11_readsAll_37 : decode cX11_readsAll 37 = .ok (.if_icmp .ne 7, 3) := by decide +kernel
theorem dX11_readsAll_40 : decode cX11_readsAll 40 = .ok (.iconst 1, 1) := by decide +kernel
theorem dX11_readsAll_41 : decode cX11_readsAll 41 = .ok (.goto 4, 3) := by decide +kernel
theorem dX11_readsAll_44 : decode cX11_readsAll 44 = .ok (.iconst 0, 1) := by decide +kernel
theorem dX11_readsAll_45 : decode cX11_readsAll 45 = .ok (.istore_n 2, 1) := by decide +kernel
theorem dX11_readsAll_46 : decode cX11_readsAll 46 = .ok (.iload_n 2, 1) := by decide +kernel
theorem dX11_readsAll_47 : decode cX11_readsAll 47 = .ok (.ifCond .eq (-22), 3) := by decide +kernel
theorem dX11_readsAll_50 : decode cX11_readsAll 50 = .ok (.aload_n 0, 1) := by decide +kernel
theorem dX11_readsAll_51 : decode cX11_readsAll 51 = .ok (.dup, 1) := by decide +kernel
theorem dX11_readsAll_52 : decode cX11_readsAll 52 = .ok (.getfield 286, 3) := by decide +kernel
theorem dX11_readsAll_55 : decode cX11_readsAll 55 = .ok (.iconst 1, 1) := by decide +kernel
theorem dX11_readsAll_56 : decode cX11_readsAll 56 = .ok (.iadd, 1) := by decide +kernel
theorem dX11_readsAll_57 : decode cX11_readsAll 57 = .ok (.putfield 286, 3) := by decide +kernel
theorem dX11_readsAll_60 : decode cX11_readsAll 60 = .ok (.aload_n 0, 1) := by decide +kernel
theorem dX11_readsAll_61 : decode cX11_readsAll 61 = .ok (.invokevirtual 302, 3) := by decide +kernel
theorem dX11_readsAll_64 : decode cX11_readsAll 64 = .ok (.istore_n 2, 1) := by decide +kernel
theorem dX11_readsAll_65 : decode cX11_readsAll 65 = .ok (.aload_n 0, 1) := by decide +kernel
theorem dX11_readsAll_66 : decode cX11_readsAll 66 = .ok (.invokevirtual 289, 3) := by decide +kernel
theorem dX11_readsAll_69 : decode cX11_readsAll 69 = .ok (.istore_n 3, 1) := by decide +kernel
theorem dX11_readsAll_70 : decode cX11_readsAll 70 = .ok (.goto (-45), 3) := by decide +kernel
theorem dX11_readsAll_73 : decode cX11_readsAll 73 = .ok (.iload_n 2, 1) := by decide +kernel
theorem dX11_readsAll_74 : decode cX11_readsAll 74 = .ok (.ireturn, 1) := by decide +kernel
theorem dX11_textFault_0 : decode cX11_textFault 0 = .ok (.aload_n 0, 1) := by decide +kernel
theorem dX11_textFault_1 : decode cX11_textFault 1 = .ok (.iconst 0, 1) := by decide +kernel
theorem dX11_textFault_2 : decode cX11_textFault 2 = .ok (.invokevirtual 306, 3) := by decide +kernel
theorem dX11_textFault_5 : decode cX11_textFault 5 = .ok (.ifCond .eq 8, 3) := by decide +kernel
theorem dX11_textFault_8 : decode cX11_textFault 8 = .ok (.ldc 250, 2) := by decide +kernel
theorem dX11_textFault_10 : decode cX11_textFault 10 = .ok (.goto 7, 3) := by decide +kernel
theorem dX11_textFault_13 : decode cX11_textFault 13 = .ok (.aload_n 0, 1) := by decide +kernel
theorem dX11_textFault_14 : decode cX11_textFault 14 = .ok (.getfield 286, 3) := by decide +kernel
theorem dX11_textFault_17 : decode cX11_textFault 17 = .ok (.ireturn, 1) := by decide +kernel
theorem dX11_load_0 : decode cX11_load 0 = .ok (.aload_n 0, 1) := by decide +kernel
theorem dX11_load_1 : decode cX11_load 1 = .ok (.iconst 0, 1) := by decide +kernel
theorem dX11_load_2 : decode cX11_load 2 = .ok (.invokevirtual 306, 3) := by decide +kernel
theorem dX11_load_5 : decode cX11_load 5 = .ok (.ifCond .ne 6, 3) := by decide +kernel
theorem dX11_load_8 : decode cX11_load 8 = .ok (.ldc 240, 2) := by decide +kernel
theorem dX11_load_10 : decode cX11_load 10 = .ok (.ireturn, 1) := by decide +kernel
theorem dX11_load_11 : decode cX11_load 11 = .ok (.aload_n 0, 1) := by decide +kernel
theorem dX11_load_12 : decode cX11_load 12 = .ok (.invokevirtual 227, 3) := by decide +kernel
theorem dX11_load_15 : decode cX11_load 15 = .ok (.aload_n 0, 1) := by decide +kernel
theorem dX11_load_16 : decode cX11_load 16 = .ok (.iconst 1, 1) := by decide +kernel
theorem dX11_load_17 : decode cX11_load 17 = .ok (.invokevirtual 306, 3) := by decide +kernel
theorem dX11_load_20 : decode cX11_load 20 = .ok (.pop, 1) := by decide +kernel
theorem dX11_load_21 : decode cX11_load 21 = .ok (.aload_n 0, 1) := by decide +kernel
theorem dX11_load_22 : decode cX11_load 22 = .ok (.getfield 7, 3) := by decide +kernel
theorem dX11_load_25 : decode cX11_load 25 = .ok (.iconst 0, 1) := by decide +kernel
theorem dX11_load_26 : decode cX11_load 26 = .ok (.iaload, 1) := by decide +kernel
theorem dX11_load_27 : decode cX11_load 27 = .ok (.ireturn, 1) := by decide +kernel
theorem dJ6_bitCount_0f7a4_0 : decode cJ6_bitCount_0f7a4 0 = .ok (.iload_n 0, 1) := by decide +kernel
theorem dJ6_bitCount_0f7a4_1 : decode cJ6_bitCount_0f7a4 1 = .ok (.iload_n 0, 1) := by decide +kernel
theorem dJ6_bitCount_0f7a4_2 : decode cJ6_bitCount_0f7a4 2 = .ok (.iconst 1, 1) := by decide +kernel
theorem dJ6_bitCount_0f7a4_3 : decode cJ6_bitCount_0f7a4 3 = .ok (.iushr, 1) := by decide +kernel
theorem dJ6_bitCount_0f7a4_4 : decode cJ6_bitCount_0f7a4 4 = .ok (.ldc_w 265, 3) := by decide +kernel
theorem dJ6_bitCount_0f7a4_7 : decode cJ6_bitCount_0f7a4 7 = .ok (.iand, 1) := by decide +kernel
theorem dJ6_bitCount_0f7a4_8 : decode cJ6_bitCount_0f7a4 8 = .ok (.isub, 1) := by decide +kernel
theorem dJ6_bitCount_0f7a4_9 : decode cJ6_bitCount_0f7a4 9 = .ok (.istore_n 0, 1) := by decide +kernel
theorem dJ6_bitCount_0f7a4_10 : decode cJ6_bitCount_0f7a4 10 = .ok (.iload_n 0, 1) := by decide +kernel
theorem dJ6_bitCount_0f7a4_11 : decode cJ6_bitCount_0f7a4 11 = .ok (.ldc_w 266, 3) := by decide +kernel
theorem dJ6_bitCount_0f7a4_14 : decode cJ6_bitCount_0f7a4 14 = .ok (.iand, 1) := by decide +kernel
theorem dJ6_bitCount_0f7a4_15 : decode cJ6_bitCount_0f7a4 15 = .ok (.iload_n 0, 1) := by decide +kernel
theorem dJ6_bitCount_0f7a4_16 : decode cJ6_bitCount_0f7a4 16 = .ok (.iconst 2, 1) := by decide +kernel
theorem dJ6_bitCount_0f7a4_17 : decode cJ6_bitCount_0f7a4 17 = .ok (.iushr, 1) := by decide +kernel
theorem dJ6_bitCount_0f7a4_18 : decode cJ6_bitCount_0f7a4 18 = .ok (.ldc_w 266, 3) := by decide +kernel
theorem dJ6_bitCount_0f7a4_21 : decode cJ6_bitCount_0f7a4 21 = .ok (.iand, 1) := by decide +kernel
theorem dJ6_bitCount_0f7a4_22 : decode cJ6_bitCount_0f7a4 22 = .ok (.iadd, 1) := by decide +kernel
theorem dJ6_bitCount_0f7a4_23 : decode cJ6_bitCount_0f7a4 23 = .ok (.istore_n 0, 1) := by decide +kernel
theorem dJ6_bitCount_0f7a4_24 : decode cJ6_bitCount_0f7a4 24 = .ok (.iload_n 0, 1) := by decide +kernel
theorem dJ6_bitCount_0f7a4_25 : decode cJ6_bitCount_0f7a4 25 = .ok (.iload_n 0, 1) := by decide +kernel
theorem dJ6_bitCount_0f7a4_26 : decode cJ6_bitCount_0f7a4 26 = .ok (.iconst 4, 1) := by decide +kernel
theorem dJ6_bitCount_0f7a4_27 : decode cJ6_bitCount_0f7a4 27 = .ok (.iushr, 1) := by decide +kernel
theorem dJ6_bitCount_0f7a4_28 : decode cJ6_bitCount_0f7a4 28 = .ok (.iadd, 1) := by decide +kernel
theorem dJ6_bitCount_0f7a4_29 : decode cJ6_bitCount_0f7a4 29 = .ok (.ldc_w 267, 3) := by decide +kernel
theorem dJ6_bitCount_0f7a4_32 : decode cJ6_bitCount_0f7a4 32 = .ok (.iand, 1) := by decide +kernel
theorem dJ6_bitCount_0f7a4_33 : decode cJ6_bitCount_0f7a4 33 = .ok (.istore_n 0, 1) := by decide +kernel
theorem dJ6_bitCount_0f7a4_34 : decode cJ6_bitCount_0f7a4 34 = .ok (.iload_n 0, 1) := by decide +kernel
theorem dJ6_bitCount_0f7a4_35 : decode cJ6_bitCount_0f7a4 35 = .ok (.iload_n 0, 1) := by decide +kernel
theorem dJ6_bitCount_0f7a4_36 : decode cJ6_bitCount_0f7a4 36 = .ok (.bipush 8, 2) := by decide +kernel
theorem dJ6_bitCount_0f7a4_38 : decode cJ6_bitCount_0f7a4 38 = .ok (.iushr, 1) := by decide +kernel
theorem dJ6_bitCount_0f7a4_39 : decode cJ6_bitCount_0f7a4 39 = .ok (.iadd, 1) := by decide +kernel
theorem dJ6_bitCount_0f7a4_40 : decode cJ6_bitCount_0f7a4 40 = .ok (.istore_n 0, 1) := by decide +kernel
theorem dJ6_bitCount_0f7a4_41 : decode cJ6_bitCount_0f7a4 41 = .ok (.iload_n 0, 1) := by decide +kernel
theorem dJ6_bitCount_0f7a4_42 : decode cJ6_bitCount_0f7a4 42 = .ok (.iload_n 0, 1) := by decide +kernel
theorem dJ6_bitCount_0f7a4_43 : decode cJ6_bitCount_0f7a4 43 = .ok (.bipush 16, 2) := by decide +kernel
theorem dJ6_bitCount_0f7a4_45 : decode cJ6_bitCount_0f7a4 45 = .ok (.iushr, 1) := by decide +kernel
theorem dJ6_bitCount_0f7a4_46 : decode cJ6_bitCount_0f7a4 46 = .ok (.iadd, 1) := by decide +kernel
theorem dJ6_bitCount_0f7a4_47 : decode cJ6_bitCount_0f7a4 47 = .ok (.istore_n 0, 1) := by decide +kernel
theorem dJ6_bitCount_0f7a4_48 : decode cJ6_bitCount_0f7a4 48 = .ok (.iload_n 0, 1) := by decide +kernel
theorem dJ6_bitCount_0f7a4_49 : decode cJ6_bitCount_0f7a4 49 = .ok (.bipush 63, 2) := by decide +kernel
theorem dJ6_bitCount_0f7a4_51 : decode cJ6_bitCount_0f7a4 51 = .ok (.iand, 1) := by decide +kernel
theorem dJ6_bitCount_0f7a4_52 : decode cJ6_bitCount_0f7a4 52 = .ok (.ireturn, 1) := by decide +kernel
theorem dJ9_max_7cf53_0 : decode cJ9_max_7cf53 0 = .ok (.iload_n 0, 1) := by decide +kernel
theorem dJ9_max_7cf53_1 : decode cJ9_max_7cf53 1 = .ok (.iload_n 1, 1) := by decide +kernel
theorem dJ9_max_7cf53_2 : decode cJ9_max_7cf53 2 = .ok (.if_icmp .lt 7, 3) := by decide +kernel
theorem dJ9_max_7cf53_5 : decode cJ9_max_7cf53 5 = .ok (.iload_n 0, 1) := by decide +kernel
theorem dJ9_max_7cf53_6 : decode cJ9_max_7cf53 6 = .ok (.goto 4, 3) := by decide +kernel
theorem dJ9_max_7cf53_9 : decode cJ9_max_7cf53 9 = .ok (.iload_n 1, 1) := by decide +kernel
theorem dJ9_max_7cf53_10 : decode cJ9_max_7cf53 10 = .ok (.ireturn, 1) := by decide +kernel
theorem dJ9_min_7cf53_0 : decode cJ9_min_7cf53 0 = .ok (.iload_n 0, 1) := by decide +kernel
theorem dJ9_min_7cf53_1 : decode cJ9_min_7cf53 1 = .ok (.iload_n 1, 1) := by decide +kernel
theorem dJ9_min_7cf53_2 : decode cJ9_min_7cf53 2 = .ok (.if_icmp .gt 7, 3) := by decide +kernel
theorem dJ9_min_7cf53_5 : decode cJ9_min_7cf53 5 = .ok (.iload_n 0, 1) := by decide +kernel
theorem dJ9_min_7cf53_6 : decode cJ9_min_7cf53 6 = .ok (.goto 4, 3) := by decide +kernel
theorem dJ9_min_7cf53_9 : decode cJ9_min_7cf53 9 = .ok (.iload_n 1, 1) := by decide +kernel
theorem dJ9_min_7cf53_10 : decode cJ9_min_7cf53 10 = .ok (.ireturn, 1) := by decide +kernel
theorem dL_law_0 : decode cL_law 0 = .ok (.new 7, 3) := by decide +kernel
theorem dL_law_3 : decode cL_law 3 = .ok (.dup, 1) := by decide +kernel
theorem dL_law_4 : decode cL_law 4 = .ok (.invokespecial 9, 3) := by decide +kernel
theorem dL_law_7 : decode cL_law 7 = .ok (.astore_n 1, 1) := by decide +kernel
theorem dL_law_8 : decode cL_law 8 = .ok (.new 10, 3) := by decide +kernel
theorem dL_law_11 : decode cL_law 11 = .ok (.dup, 1) := by decide +kernel
theorem dL_law_12 : decode cL_law 12 = .ok (.invokespecial 12, 3) := by decide +kernel
theorem dL_law_15 : decode cL_law 15 = .ok (.astore_n 2, 1) := by decide +kernel
theorem dL_law_16 : decode cL_law 16 = .ok (.iconst 0, 1) := by decide +kernel
theorem dL_law_17 : decode cL_law 17 = .ok (.istore_n 3, 1) := by decide +kernel
theorem dL_law_18 : decode cL_law 18 = .ok (.iload_n 3, 1) := by decide +kernel
theorem dL_law_19 : decode cL_law 19 = .ok (.aload_n 0, 1) := by decide +kernel
theorem dL_law_20 : decode cL_law 20 = .ok (.arraylength, 1) := by decide +kernel
theorem dL_law_21 : decode cL_law 21 = .ok (.iconst 5, 1) := by decide +kernel
theorem dL_law_22 : decode cL_law 22 = .ok (.isub, 1) := by decide +kernel
theorem dL_law_23 : decode cL_law 23 = .ok (.if_icmp .gt 1197, 3) := by decide +kernel
theorem dL_law_26 : decode cL_law 26 = .ok (.aload_n 0, 1) := by decide +kernel
theorem dL_law_27 : decode cL_law 27 = .ok (.iload_n 3, 1) := by decide +kernel
theorem dL_law_28 : decode cL_law 28 = .ok (.iaload, 1) := by decide +kernel
theorem dL_law_29 : decode cL_law 29 = .ok (.bipush 63, 2) := by decide +kernel
theorem dL_law_31 : decode cL_law 31 = .ok (.iand, 1) := by decide +kernel
theorem dL_law_32 : decode cL_law 32 = .ok (.tableswitch 1182 0 39 #[176, 209, 232, 265, 298, 347, 360, 373, 396, 419, 432, 465, 488, 511, 544, 557, 570, 583, 616, 649, 672, 705, 748, 761, 784, 797, 830, 873, 896, 919, 942, 965, 988, 1011, 1054, 1107, 1120, 1143, 1156, 1169], 176) := by decide +kernel
theorem dL_law_208 : decode cL_law 208 = .ok (.aload_n 1, 1) := by decide +kernel
theorem dL_law_209 : decode cL_law 209 = .ok (.aload_n 0, 1) := by decide +kernel
theorem dL_law_210 : decode cL_law 210 = .ok (.iload_n 3, 1) := by decide +kernel
theorem dL_law_211 : decode cL_law 211 = .ok (.iconst 1, 1) := by decide +kernel
theorem dL_law_212 : decode cL_law 212 = .ok (.iadd, 1) := by decide +kernel
theorem dL_law_213 : decode cL_law 213 = .ok (.iaload, 1) := by decide +kernel
theorem dL_law_214 : decode cL_law 214 = .ok (.aload_n 0, 1) := by decide +kernel
theorem dL_law_215 : decode cL_law 215 = .ok (.iload_n 3, 1) := by decide +kernel
theorem dL_law_216 : decode cL_law 216 = .ok (.iconst 2, 1) := by decide +kernel
theorem dL_law_217 : decode cL_law 217 = .ok (.iadd, 1) := by decide +kernel
theorem dL_law_218 : decode cL_law 218 = .ok (.iaload, 1) := by decide +kernel
theorem dL_law_219 : decode cL_law 219 = .ok (.invokevirtual 13, 3) := by decide +kernel
theorem dL_law_222 : decode cL_law 222 = .ok (.aload_n 2, 1) := by decide +kernel
theorem dL_law_223 : decode cL_law 223 = .ok (.aload_n 0, 1) := by decide +kernel
theorem dL_law_224 : decode cL_law 224 = .ok (.iload_n 3, 1) := by decide +kernel
theorem dL_law_225 : decode cL_law 225 = .ok (.iconst 1, 1) := by decide +kernel
theorem dL_law_226 : decode cL_law 226 = .ok (.iadd, 1) := by decide +kernel
theorem dL_law_227 : decode cL_law 227 = .ok (.iaload, 1) := by decide +kernel
theorem dL_law_228 : decode cL_law 228 = .ok (.aload_n 0, 1) := by decide +kernel
theorem dL_law_229 : decode cL_law 229 = .ok (.iload_n 3, 1) := by decide +kernel
theorem dL_law_230 : decode cL_law 230 = .ok (.iconst 2, 1) := by decide +kernel
theorem dL_law_231 : decode cL_law 231 = .ok (.iadd, 1) := by decide +kernel
theorem dL_law_232 : decode cL_law 232 = .ok (.iaload, 1) := by decide +kernel
theorem dL_law_233 : decode cL_law 233 = .ok (.invokevirtual 17, 3) := by decide +kernel
theorem dL_law_236 : decode cL_law 236 = .ok (.if_icmp .eq 978, 3) := by decide +kernel
theorem dL_law_239 : decode cL_law 239 = .ok (.iconst 0, 1) := by decide +kernel
theorem dL_law_240 : decode cL_law 240 = .ok (.ireturn, 1) := by decide +kernel
theorem dL_law_241 : decode cL_law 241 = .ok (.aload_n 1, 1) := by decide +kernel
theorem dL_law_242 : decode cL_law 242 = .ok (.aload_n 0, 1) := by decide +kernel
theorem dL_law_243 : decode cL_law 243 = .ok (.iload_n 3, 1) := by decide +kernel
theorem dL_law_244 : decode cL_law 244 = .ok (.iconst 1, 1) := by decide +kernel
theorem dL_law_245 : decode cL_law 245 = .ok (.iadd, 1) := by decide +kernel
theorem dL_law_246 : decode cL_law 246 = .ok (.iaload, 1) := by decide +kernel
theorem dL_law_247 : decode cL_law 247 = .ok (.invokevirtual 18, 3) := by decide +kernel
theorem dL_law_250 : decode cL_law 250 = .ok (.aload_n 2, 1) := by decide +kernel
theorem dL_law_251 : decode cL_law 251 = .ok (.aload_n 0, 1) := by decide +kernel
theorem dL_law_252 : decode cL_law 252 = .ok (.iload_n 3, 1) := by decide +kernel
theorem dL_law_253 : decode cL_law 253 = .ok (.iconst 1, 1) := by decide +kernel
theorem dL_law_254 : decode cL_law 254 = .ok (.iadd, 1) := by decide +kernel
theorem dL_law_255 : decode cL_law 255 = .ok (.iaload, 1) := by decide +kernel
theorem dL_law_256 : decode cL_law 256 = .ok (.invokevirtual 22, 3) := by decide +kernel
theorem dL_law_259 : decode cL_law 259 = .ok (.if_icmp .eq 955, 3) := by decide +kernel
theorem dL_law_262 : decode cL_law 262 = .ok (.iconst 0, 1) := by decide +kernel
theorem dL_law_263 : decode cL_law 263 = .ok (.ireturn, 1) := by decide +kernel
theorem dL_law_264 : decode cL_law 264 = .ok (.aload_n 1, 1) := by decide +kernel
theorem dL_law_265 : decode cL_law 265 = .ok (.aload_n 0, 1) := by decide +kernel
theorem dL_law_266 : decode cL_law 266 = .ok (.iload_n 3, 1) := by decide +kernel
theorem dL_law_267 : decode cL_law 267 = .ok (.iconst 1, 1) := by decide +kernel
theorem dL_law_268 : decode cL_law 268 = .ok (.iadd, 1) := by decide +kernel
theorem dL_law_269 : decode cL_law 269 = .ok (.iaload, 1) := by decide +kernel
theorem dL_law_270 : decode cL_law 270 = .ok (.aload_n 0, 1) := by decide +kernel
theorem dL_law_271 : decode cL_law 271 = .ok (.iload_n 3, 1) := by decide +kernel
theorem dL_law_272 : decode cL_law 272 = .ok (.iconst 2, 1) := by decide +kernel
theorem dL_law_273 : decode cL_law 273 = .ok (.iadd, 1) := by decide +kernel
theorem dL_law_274 : decode cL_law 274 = .ok (.iaload, 1) := by decide +kernel
theorem dL_law_275 : decode cL_law 275 = .ok (.invokevirtual 23, 3) := by decide +kernel
theorem dL_law_278 : decode cL_law 278 = .ok (.aload_n 2, 1) := by decide +kernel
theorem dL_law_279 : decode cL_law 279 = .ok (.aload_n 0, 1) := by decide +kernel
theorem dL_law_280 : decode cL_law 280 = .ok (.iload_n 3, 1) := by decide +kernel
theorem dL_law_281 : decode cL_law 281 = .ok (.iconst 1, 1) := by decide +kernel
theorem dL_law_282 : decode cL_law 282 = .ok (.iadd, 1) := by decide +kernel
theorem dL_law_283 : decode cL_law 283 = .ok (.iaload, 1) := by decide +kernel
theorem dL_law_284 : decode cL_law 284 = .ok (.aload_n 0, 1) := by decide +kernel
theorem dL_law_285 : decode cL_law 285 = .ok (.iload_n 3, 1) := by decide +kernel
theorem dL_law_286 : decode cL_law 286 = .ok (.iconst 2, 1) := by decide +kernel
theorem dL_law_287 : decode cL_law 287 = .ok (.iadd, 1) := by decide +kernel
theorem dL_law_288 : decode cL_law 288 = .ok (.iaload, 1) := by decide +kernel
theorem dL_law_289 : decode cL_law 289 = .ok (.invokevirtual 26, 3) := by decide +kernel
theorem dL_law_292 : decode cL_law 292 = .ok (.if_icmp .eq 922, 3) := by decide +kernel
theorem dL_law_295 : decode cL_law 295 = .ok (.iconst 0, 1) := by decide +kernel
theorem dL_law_296 : decode cL_law 296 = .ok (.ireturn, 1) := by decide +kernel
theorem dL_law_297 : decode cL_law 297 = .ok (.aload_n 1, 1) := by decide +kernel
theorem dL_law_298 : decode cL_law 298 = .ok (.aload_n 0, 1) := by decide +kernel
theorem dL_law_299 : decode cL_law 299 = .ok (.iload_n 3, 1) := by decide +kernel
theorem dL_law_300 : decode cL_law 300 = .ok (.iconst 1, 1) := by decide +kernel
theorem dL_law_301 : decode cL_law 301 = .ok (.iadd, 1) := by decide +kernel
theorem dL_law_302 : decode cL_law 302 = .ok (.iaload, 1) := by decide +kernel
theorem dL_law_303 : decode cL_law 303 = .ok (.aload_n 0, 1) := by decide +kernel
theorem dL_law_304 : decode cL_law 304 = .ok (.iload_n 3, 1) := by decide +kernel
theorem dL_law_305 : decode cL_law 305 = .ok (.iconst 2, 1) := by decide +kernel
theorem dL_law_306 : decode cL_law 306 = .ok (.iadd, 1) := by decide +kernel
theorem dL_law_307 : decode cL_law 307 = .ok (.iaload, 1) := by decide +kernel
theorem dL_law_308 : decode cL_law 308 = .ok (.invokevirtual 27, 3) := by decide +kernel
theorem dL_law_311 : decode cL_law 311 = .ok (.aload_n 2, 1) := by decide +kernel
theorem dL_law_312 : decode cL_law 312 = .ok (.aload_n 0, 1) := by decide +kernel
theorem dL_law_313 : decode cL_law 313 = .ok (.iload_n 3, 1) := by decide +kernel
theorem dL_law_314 : decode cL_law 314 = .ok (.iconst 1, 1) := by decide +kernel
theorem dL_law_315 : decode cL_law 315 = .ok (.iadd, 1) := by decide +kernel
theorem dL_law_316 : decode cL_law 316 = .ok (.iaload, 1) := by decide +kernel
theorem dL_law_317 : decode cL_law 317 = .ok (.aload_n 0, 1) := by decide +kernel
theorem dL_law_318 : decode cL_law 318 = .ok (.iload_n 3, 1) := by decide +kernel
theorem dL_law_319 : decode cL_law 319 = .ok (.iconst 2, 1) := by decide +kernel
theorem dL_law_320 : decode cL_law 320 = .ok (.iadd, 1) := by decide +kernel
theorem dL_law_321 : decode cL_law 321 = .ok (.iaload, 1) := by decide +kernel
theorem dL_law_322 : decode cL_law 322 = .ok (.invokevirtual 30, 3) := by decide +kernel
theorem dL_law_325 : decode cL_law 325 = .ok (.if_icmp .eq 889, 3) := by decide +kernel
theorem dL_law_328 : decode cL_law 328 = .ok (.iconst 0, 1) := by decide +kernel
theorem dL_law_329 : decode cL_law 329 = .ok (.ireturn, 1) := by decide +kernel
theorem dL_law_330 : decode cL_law 330 = .ok (.aload_n 1, 1) := by decide +kernel
theorem dL_law_331 : decode cL_law 331 = .ok (.aload_n 0, 1) := by decide +kernel
theorem dL_law_332 : decode cL_law 332 = .ok (.iload_n 3, 1) := by decide +kernel
theorem dL_law_333 : decode cL_law 333 = .ok (.iconst 1, 1) := by decide +kernel
theorem dL_law_334 : decode cL_law 334 = .ok (.iadd, 1) := by decide +kernel
theorem dL_law_335 : decode cL_law 335 = .ok (.iaload, 1) := by decide +kernel
theorem dL_law_336 : decode cL_law 336 = .ok (.aload_n 0, 1) := by decide +kernel
theorem dL_law_337 : decode cL_law 337 = .ok (.iload_n 3, 1) := by decide +kernel
theorem dL_law_338 : decode cL_law 338 = .ok (.iconst 2, 1) := by decide +kernel
theorem dL_law_339 : decode cL_law 339 = .ok (.iadd, 1) := by decide +kernel
theorem dL_law_340 : decode cL_law 340 = .ok (.iaload, 1) := by decide +kernel
theorem dL_law_341 : decode cL_law 341 = .ok (.ifCond .eq 7, 3) := by decide +kernel
theorem dL_law_344 : decode cL_law 344 = .ok (.iconst 1, 1) := by decide +kernel
theorem dL_law_345 : decode cL_law 345 = .ok (.goto 4, 3) := by decide +kernel
theorem dL_law_348 : decode cL_law 348 = .ok (.iconst 0, 1) := by decide +kernel
theorem dL_law_349 : decode cL_law 349 = .ok (.invokevirtual 31, 3) := by decide +kernel
theorem dL_law_352 : decode cL_law 352 = .ok (.aload_n 2, 1) := by decide +kernel
theorem dL_law_353 : decode cL_law 353 = .ok (.aload_n 0, 1) := by decide +kernel
theorem dL_law_354 : decode cL_law 354 = .ok (.iload_n 3, 1) := by decide +kernel
theorem dL_law_355 : decode cL_law 355 = .ok (.iconst 1, 1) := by decide +kernel
theorem dL_law_356 : decode cL_law 356 = .ok (.iadd, 1) := by decide +kernel
theorem dL_law_357 : decode cL_law 357 = .ok (.iaload, 1) := by decide +kernel
theorem dL_law_358 : decode cL_law 358 = .ok (.aload_n 0, 1) := by decide +kernel
theorem dL_law_359 : decode cL_law 359 = .ok (.iload_n 3, 1) := by decide +kernel
theorem dL_law_360 : decode cL_law 360 = .ok (.iconst 2, 1) := by decide +kernel
theorem dL_law_361 : decode cL_law 361 = .ok (.iadd, 1) := by decide +kernel
theorem dL_law_362 : decode cL_law 362 = .ok (.iaload, 1) := by decide +kernel
theorem dL_law_363 : decode cL_law 363 = .ok (.ifCond .eq 7, 3) := by decide +kernel
theorem dL_law_366 : decode cL_law 366 = .ok (.iconst 1, 1) := by decide +kernel
theorem dL_law_367 : decode cL_law 367 = .ok (.goto 4, 3) := by decide +kernel
theorem dL_law_370 : decode cL_law 370 = .ok (.iconst 0, 1) := by decide +kernel
theorem dL_law_371 : decode cL_law 371 = .ok (.invokevirtual 35, 3) := by decide +kernel
theorem dL_law_374 : decode cL_law 374 = .ok (.if_icmp .eq 840, 3) := by decide +kernel
theorem dL_law_377 : decode cL_law 377 = .ok (.iconst 0, 1) := by decide +kernel
theorem dL_law_378 : decode cL_law 378 = .ok (.ireturn, 1) := by decide +kernel
theorem dL_law_379 : decode cL_law 379 = .ok (.aload_n 1, 1) := by decide +kernel
theorem dL_law_380 : decode cL_law 380 = .ok (.invokevirtual 36, 3) := by decide +kernel
theorem dL_law_383 : decode cL_law 383 = .ok (.aload_n 2, 1) := by decide +kernel
theorem dL_law_384 : decode cL_law 384 = .ok (.invokevirtual 40, 3) := by decide +kernel
theorem dL_law_387 : decode cL_law 387 = .ok (.if_icmp .eq 827, 3) := by decide +kernel
theorem dL_law_390 : decode cL_law 390 = .ok (.iconst 0, 1) := by decide +kernel
theorem dL_law_391 : decode cL_law 391 = .ok (.ireturn, 1) := by decide +kernel
theorem dL_law_392 : decode cL_law 392 = .ok (.aload_n 1, 1) := by decide +kernel
theorem dL_law_393 : decode cL_law 393 = .ok (.invokevirtual 41, 3) := by decide +kernel
theorem dL_law_396 : decode cL_law 396 = .ok (.aload_n 2, 1) := by decide +kernel
theorem dL_law_397 : decode cL_law 397 = .ok (.invokevirtual 44, 3) := by decide +kernel
theorem dL_law_400 : decode cL_law 400 = .ok (.if_icmp .eq 814, 3) := by decide +kernel
theorem dL_law_403 : decode cL_law 403 = .ok (.iconst 0, 1) := by decide +kernel
theorem dL_law_404 : decode cL_law 404 = .ok (.ireturn, 1) := by decide +kernel
theorem dL_law_405 : decode cL_law 405 = .ok (.aload_n 1, 1) := by decide +kernel
theorem dL_law_406 : decode cL_law 406 = .ok (.aload_n 0, 1) := by decide +kernel
theorem dL_law_407 : decode cL_law 407 = .ok (.iload_n 3, 1) := by decide +kernel
theorem dL_law_408 : decode cL_law 408 = .ok (.iconst 1, 1) := by decide +kernel
theorem dL_law_409 : decode cL_law 409 = .ok (.iadd, 1) := by decide +kernel
theorem dL_law_410 : decode cL_law 410 = .ok (.iaload, 1) := by decide +kernel
theorem dL_law_411 : decode cL_law 411 = .ok (.invokevirtual 45, 3) := by decide +kernel
theorem dL_law_414 : decode cL_law 414 = .ok (.aload_n 2, 1) := by decide +kernel
theorem dL_law_415 : decode cL_law 415 = .ok (.aload_n 0, 1) := by decide +kernel
theorem dL_law_416 : decode cL_law 416 = .ok (.iload_n 3, 1) := by decide +kernel
theorem dL_law_417 : decode cL_law 417 = .ok (.iconst 1, 1) := by decide +kernel
theorem dL_law_418 : decode cL_law 418 = .ok (.iadd, 1) := by decide +kernel
theorem dL_law_419 : decode cL_law 419 = .ok (.iaload, 1) := by decide +kernel
theorem dL_law_420 : decode cL_law 420 = .ok (.invokevirtual 48, 3) := by decide +kernel
theorem dL_law_423 : decode cL_law 423 = .ok (.if_icmp .eq 791, 3) := by decide +kernel
theorem dL_law_426 : decode cL_law 426 = .ok (.iconst 0, 1) := by decide +kernel
theorem dL_law_427 : decode cL_law 427 = .ok (.ireturn, 1) := by decide +kernel
theorem dL_law_428 : decode cL_law 428 = .ok (.aload_n 1, 1) := by decide +kernel
theorem dL_law_429 : decode cL_law 429 = .ok (.aload_n 0, 1) := by decide +kernel
theorem dL_law_430 : decode cL_law 430 = .ok (.iload_n 3, 1) := by decide +kernel
theorem dL_law_431 : decode cL_law 431 = .ok (.iconst 1, 1) := by decide +kernel
theorem dL_law_432 : decode cL_law 432 = .ok (.iadd, 1) := by decide +kernel
theorem dL_law_433 : decode cL_law 433 = .ok (.iaload, 1) := by decide +kernel
theorem dL_law_434 : decode cL_law 434 = .ok (.invokevirtual 49, 3) := by decide +kernel
theorem dL_law_437 : decode cL_law 437 = .ok (.aload_n 2, 1) := by decide +kernel
theorem dL_law_438 : decode cL_law 438 = .ok (.aload_n 0, 1) := by decide +kernel
theorem dL_law_439 : decode cL_law 439 = .ok (.iload_n 3, 1) := by decide +kernel
theorem dL_law_440 : decode cL_law 440 = .ok (.iconst 1, 1) := by decide +kernel
theorem dL_law_441 : decode cL_law 441 = .ok (.iadd, 1) := by decide +kernel
theorem dL_law_442 : decode cL_law 442 = .ok (.iaload, 1) := by decide +kernel
theorem dL_law_443 : decode cL_law 443 = .ok (.invokevirtual 52, 3) := by decide +kernel
theorem dL_law_446 : decode cL_law 446 = .ok (.if_icmp .eq 768, 3) := by decide +kernel
theorem dL_law_449 : decode cL_law 449 = .ok (.iconst 0, 1) := by decide +kernel
theorem dL_law_450 : decode cL_law 450 = .ok (.ireturn, 1) := by decide +kernel
theorem dL_law_451 : decode cL_law 451 = .ok (.aload_n 1, 1) := by decide +kernel
theorem dL_law_452 : decode cL_law 452 = .ok (.invokevirtual 53, 3) := by decide +kernel
theorem dL_law_455 : decode cL_law 455 = .ok (.aload_n 2, 1) := by decide +kernel
theorem dL_law_456 : decode cL_law 456 = .ok (.invokevirtual 56, 3) := by decide +kernel
theorem dL_law_459 : decode cL_law 459 = .ok (.if_icmp .eq 755, 3) := by decide +kernel
theorem dL_law_462 : decode cL_law 462 = .ok (.iconst 0, 1) := by decide +kernel
theorem dL_law_463 : decode cL_law 463 = .ok (.ireturn, 1) := by decide +kernel
theorem dL_law_464 : decode cL_law 464 = .ok (.aload_n 1, 1) := by decide +kernel
theorem dL_law_465 : decode cL_law 465 = .ok (.aload_n 0, 1) := by decide +kernel
theorem dL_law_466 : decode cL_law 466 = .ok (.iload_n 3, 1) := by decide +kernel
theorem dL_law_467 : decode cL_law 467 = .ok (.iconst 1, 1) := by decide +kernel
theorem dL_law_468 : decode cL_law 468 = .ok (.iadd, 1) := by decide +kernel
theorem dL_law_469 : decode cL_law 469 = .ok (.iaload, 1) := by decide +kernel
theorem dL_law_470 : decode cL_law 470 = .ok (.aload_n 0, 1) := by decide +kernel
theorem dL_law_471 : decode cL_law 471 = .ok (.iload_n 3, 1) := by decide +kernel
theorem dL_law_472 : decode cL_law 472 = .ok (.iconst 2, 1) := by decide +kernel
theorem dL_law_473 : decode cL_law 473 = .ok (.iadd, 1) := by decide +kernel
theorem dL_law_474 : decode cL_law 474 = .ok (.iaload, 1) := by decide +kernel
theorem dL_law_475 : decode cL_law 475 = .ok (.invokevirtual 57, 3) := by decide +kernel
theorem dL_law_478 : decode cL_law 478 = .ok (.aload_n 2, 1) := by decide +kernel
theorem dL_law_479 : decode cL_law 479 = .ok (.aload_n 0, 1) := by decide +kernel
theorem dL_law_480 : decode cL_law 480 = .ok (.iload_n 3, 1) := by decide +kernel
theorem dL_law_481 : decode cL_law 481 = .ok (.iconst 1, 1) := by decide +kernel
theorem dL_law_482 : decode cL_law 482 = .ok (.iadd, 1) := by decide +kernel
theorem dL_law_483 : decode cL_law 483 = .ok (.iaload, 1) := by decide +kernel
theorem dL_law_484 : decode cL_law 484 = .ok (.aload_n 0, 1) := by decide +kernel
theorem dL_law_485 : decode cL_law 485 = .ok (.iload_n 3, 1) := by decide +kernel
theorem dL_law_486 : decode cL_law 486 = .ok (.iconst 2, 1) := by decide +kernel
theorem dL_law_487 : decode cL_law 487 = .ok (.iadd, 1) := by decide +kernel
theorem dL_law_488 : decode cL_law 488 = .ok (.iaload, 1) := by decide +kernel
theorem dL_law_489 : decode cL_law 489 = .ok (.invokevirtual 60, 3) := by decide +kernel
theorem dL_law_492 : decode cL_law 492 = .ok (.if_icmp .eq 722, 3) := by decide +kernel
theorem dL_law_495 : decode cL_law 495 = .ok (.iconst 0, 1) := by decide +kernel
theorem dL_law_496 : decode cL_law 496 = .ok (.ireturn, 1) := by decide +kernel
theorem dL_law_497 : decode cL_law 497 = .ok (.aload_n 1, 1) := by decide +kernel
theorem dL_law_498 : decode cL_law 498 = .ok (.aload_n 0, 1) := by decide +kernel
theorem dL_law_499 : decode cL_law 499 = .ok (.iload_n 3, 1) := by decide +kernel
theorem dL_law_500 : decode cL_law 500 = .ok (.iconst 1, 1) := by decide +kernel
theorem dL_law_501 : decode cL_law 501 = .ok (.iadd, 1) := by decide +kernel
theorem dL_law_502 : decode cL_law 502 = .ok (.iaload, 1) := by decide +kernel
theorem dL_law_503 : decode cL_law 503 = .ok (.invokevirtual 61, 3) := by decide +kernel
theorem dL_law_506 : decode cL_law 506 = .ok (.aload_n 2, 1) := by decide +kernel
theorem dL_law_507 : decode cL_law 507 = .ok (.aload_n 0, 1) := by decide +kernel
theorem dL_law_508 : decode cL_law 508 = .ok (.iload_n 3, 1) := by decide +kernel
theorem dL_law_509 : decode cL_law 509 = .ok (.iconst 1, 1) := by decide +kernel
theorem dL_law_510 : decode cL_law 510 = .ok (.iadd, 1) := by decide +kernel
theorem dL_law_511 : decode cL_law 511 = .ok (.iaload, 1) := by decide +kernel
theorem dL_law_512 : decode cL_law 512 = .ok (.invokevirtual 64, 3) := by decide +kernel
theorem dL_law_515 : decode cL_law 515 = .ok (.if_icmp .eq 699, 3) := by decide +kernel
theorem dL_law_518 : decode cL_law 518 = .ok (.iconst 0, 1) := by decide +kernel
theorem dL_law_519 : decode cL_law 519 = .ok (.ireturn, 1) := by decide +kernel
theorem dL_law_520 : decode cL_law 520 = .ok (.aload_n 1, 1) := by decide +kernel
theorem dL_law_521 : decode cL_law 521 = .ok (.aload_n 0, 1) := by decide +kernel
theorem dL_law_522 : decode cL_law 522 = .ok (.iload_n 3, 1) := by decide +kernel
theorem dL_law_523 : decode cL_law 523 = .ok (.iconst 1, 1) := by decide +kernel
theorem dL_law_524 : decode cL_law 524 = .ok (.iadd, 1) := by decide +kernel
theorem dL_law_525 : decode cL_law 525 = .ok (.iaload, 1) := by decide +kernel
theorem dL_law_526 : decode cL_law 526 = .ok (.invokevirtual 65, 3) := by decide +kernel
theorem dL_law_529 : decode cL_law 529 = .ok (.aload_n 2, 1) := by decide +kernel
theorem dL_law_530 : decode cL_law 530 = .ok (.aload_n 0, 1) := by decide +kernel
theorem dL_law_531 : decode cL_law 531 = .ok (.iload_n 3, 1) := by decide +kernel
theorem dL_law_532 : decode cL_law 532 = .ok (.iconst 1, 1) := by decide +kernel
theorem dL_law_533 : decode cL_law 533 = .ok (.iadd, 1) := by decide +kernel
theorem dL_law_534 : decode cL_law 534 = .ok (.iaload, 1) := by decide +kernel
theorem dL_law_535 : decode cL_law 535 = .ok (.invokevirtual 68, 3) := by decide +kernel
theorem dL_law_538 : decode cL_law 538 = .ok (.if_icmp .eq 676, 3) := by decide +kernel
theorem dL_law_541 : decode cL_law 541 = .ok (.iconst 0, 1) := by decide +kernel
theorem dL_law_542 : decode cL_law 542 = .ok (.ireturn, 1) := by decide +kernel
theorem dL_law_543 : decode cL_law 543 = .ok (.aload_n 1, 1) := by decide +kernel
theorem dL_law_544 : decode cL_law 544 = .ok (.aload_n 0, 1) := by decide +kernel
theorem dL_law_545 : decode cL_law 545 = .ok (.iload_n 3, 1) := by decide +kernel
theorem dL_law_546 : decode cL_law 546 = .ok (.iconst 1, 1) := by decide +kernel
theorem dL_law_547 : decode cL_law 547 = .ok (.iadd, 1) := by decide +kernel
theorem dL_law_548 : decode cL_law 548 = .ok (.iaload, 1) := by decide +kernel
theorem dL_law_549 : decode cL_law 549 = .ok (.aload_n 0, 1) := by decide +kernel
theorem dL_law_550 : decode cL_law 550 = .ok (.iload_n 3, 1) := by decide +kernel
theorem dL_law_551 : decode cL_law 551 = .ok (.iconst 2, 1) := by decide +kernel
theorem dL_law_552 : decode cL_law 552 = .ok (.iadd, 1) := by decide +kernel
theorem dL_law_553 : decode cL_law 553 = .ok (.iaload, 1) := by decide +kernel
theorem dL_law_554 : decode cL_law 554 = .ok (.invokevirtual 69, 3) := by decide +kernel
theorem dL_law_557 : decode cL_law 557 = .ok (.aload_n 2, 1) := by decide +kernel
theorem dL_law_558 : decode cL_law 558 = .ok (.aload_n 0, 1) := by decide +kernel
theorem dL_law_559 : decode cL_law 559 = .ok (.iload_n 3, 1) := by decide +kernel
theorem dL_law_560 : decode cL_law 560 = .ok (.iconst 1, 1) := by decide +kernel
theorem dL_law_561 : decode cL_law 561 = .ok (.iadd, 1) := by decide +kernel
theorem dL_law_562 : decode cL_law 562 = .ok (.iaload, 1) := by decide +kernel
theorem dL_law_563 : decode cL_law 563 = .ok (.aload_n 0, 1) := by decide +kernel
theorem dL_law_564 : decode cL_law 564 = .ok (.iload_n 3, 1) := by decide +kernel
theorem dL_law_565 : decode cL_law 565 = .ok (.iconst 2, 1) := by decide +kernel
theorem dL_law_566 : decode cL_law 566 = .ok (.iadd, 1) := by decide +kernel
theorem dL_law_567 : decode cL_law 567 = .ok (.iaload, 1) := by decide +kernel
theorem dL_law_568 : decode cL_law 568 = .ok (.invokevirtual 72, 3) := by decide +kernel
theorem dL_law_571 : decode cL_law 571 = .ok (.if_icmp .eq 643, 3) := by decide +kernel
theorem dL_law_574 : decode cL_law 574 = .ok (.iconst 0, 1) := by decide +kernel
theorem dL_law_575 : decode cL_law 575 = .ok (.ireturn, 1) := by decide +kernel
theorem dL_law_576 : decode cL_law 576 = .ok (.aload_n 1, 1) := by decide +kernel
theorem dL_law_577 : decode cL_law 577 = .ok (.invokevirtual 73, 3) := by decide +kernel
theorem dL_law_580 : decode cL_law 580 = .ok (.aload_n 2, 1) := by decide +kernel
theorem dL_law_581 : decode cL_law 581 = .ok (.invokevirtual 76, 3) := by decide +kernel
theorem dL_law_584 : decode cL_law 584 = .ok (.if_icmp .eq 630, 3) := by decide +kernel
theorem dL_law_587 : decode cL_law 587 = .ok (.iconst 0, 1) := by decide +kernel
theorem dL_law_588 : decode cL_law 588 = .ok (.ireturn, 1) := by decide +kernel
theorem dL_law_589 : decode cL_law 589 = .ok (.aload_n 1, 1) := by decide +kernel
theorem dL_law_590 : decode cL_law 590 = .ok (.invokevirtual 77, 3) := by decide +kernel
theorem dL_law_593 : decode cL_law 593 = .ok (.aload_n 2, 1) := by decide +kernel
theorem dL_law_594 : decode cL_law 594 = .ok (.invokevirtual 80, 3) := by decide +kernel
theorem dL_law_597 : decode cL_law 597 = .ok (.if_icmp .eq 617, 3) := by decide +kernel
theorem dL_law_600 : decode cL_law 600 = .ok (.iconst 0, 1) := by decide +kernel
theorem dL_law_601 : decode cL_law 601 = .ok (.ireturn, 1) := by decide +kernel
theorem dL_law_602 : decode cL_law 602 = .ok (.aload_n 1, 1) := by decide +kernel
theorem dL_law_603 : decode cL_law 603 = .ok (.invokevirtual 81, 3) := by decide +kernel
theorem dL_law_606 : decode cL_law 606 = .ok (.aload_n 2, 1) := by decide +kernel
theorem dL_law_607 : decode cL_law 607 = .ok (.invokevirtual 84, 3) := by decide +kernel
theorem dL_law_610 : decode cL_law 610 = .ok (.if_icmp .eq 604, 3) := by decide +kernel
theorem dL_law_613 : decode cL_law 613 = .ok (.iconst 0, 1) := by decide +kernel
theorem dL_law_614 : decode cL_law 614 = .ok (.ireturn, 1) := by decide +kernel
theorem dL_law_615 : decode cL_law 615 = .ok (.aload_n 1, 1) := by decide +kernel
theorem dL_law_616 : decode cL_law 616 = .ok (.aload_n 0, 1) := by decide +kernel
theorem dL_law_617 : decode cL_law 617 = .ok (.iload_n 3, 1) := by decide +kernel
theorem dL_law_618 : decode cL_law 618 = .ok (.iconst 1, 1) := by decide +kernel
theorem dL_law_619 : decode cL_law 619 = .ok (.iadd, 1) := by decide +kernel
theorem dL_law_620 : decode cL_law 620 = .ok (.iaload, 1) := by decide +kernel
theorem dL_law_621 : decode cL_law 621 = .ok (.aload_n 0, 1) := by decide +kernel
theorem dL_law_622 : decode cL_law 622 = .ok (.iload_n 3, 1) := by decide +kernel
theorem dL_law_623 : decode cL_law 623 = .ok (.iconst 2, 1) := by decide +kernel
theorem dL_law_624 : decode cL_law 624 = .ok (.iadd, 1) := by decide +kernel
theorem dL_law_625 : decode cL_law 625 = .ok (.iaload, 1) := by decide +kernel
theorem dL_law_626 : decode cL_law 626 = .ok (.invokevirtual 85, 3) := by decide +kernel
theorem dL_law_629 : decode cL_law 629 = .ok (.aload_n 2, 1) := by decide +kernel
theorem dL_law_630 : decode cL_law 630 = .ok (.aload_n 0, 1) := by decide +kernel
theorem dL_law_631 : decode cL_law 631 = .ok (.iload_n 3, 1) := by decide +kernel
theorem dL_law_632 : decode cL_law 632 = .ok (.iconst 1, 1) := by decide +kernel
theorem dL_law_633 : decode cL_law 633 = .ok (.iadd, 1) := by decide +kernel
theorem dL_law_634 : decode cL_law 634 = .ok (.iaload, 1) := by decide +kernel
theorem dL_law_635 : decode cL_law 635 = .ok (.aload_n 0, 1) := by decide +kernel
theorem dL_law_636 : decode cL_law 636 = .ok (.iload_n 3, 1) := by decide +kernel
theorem dL_law_637 : decode cL_law 637 = .ok (.iconst 2, 1) := by decide +kernel
theorem dL_law_638 : decode cL_law 638 = .ok (.iadd, 1) := by decide +kernel
theorem dL_law_639 : decode cL_law 639 = .ok (.iaload, 1) := by decide +kernel
theorem dL_law_640 : decode cL_law 640 = .ok (.invokevirtual 88, 3) := by decide +kernel
theorem dL_law_643 : decode cL_law 643 = .ok (.if_icmp .eq 571, 3) := by decide +kernel
theorem dL_law_646 : decode cL_law 646 = .ok (.iconst 0, 1) := by decide +kernel
theorem dL_law_647 : decode cL_law 647 = .ok (.ireturn, 1) := by decide +kernel
theorem dL_law_648 : decode cL_law 648 = .ok (.aload_n 1, 1) := by decide +kernel
theorem dL_law_649 : decode cL_law 649 = .ok (.aload_n 0, 1) := by decide +kernel
theorem dL_law_650 : decode cL_law 650 = .ok (.iload_n 3, 1) := by decide +kernel
theorem dL_law_651 : decode cL_law 651 = .ok (.iconst 1, 1) := by decide +kernel
theorem dL_law_652 : decode cL_law 652 = .ok (.iadd, 1) := by decide +kernel
theorem dL_law_653 : decode cL_law 653 = .ok (.iaload, 1) := by decide +kernel
theorem dL_law_654 : decode cL_law 654 = .ok (.aload_n 0, 1) := by decide +kernel
theorem dL_law_655 : decode cL_law 655 = .ok (.iload_n 3, 1) := by decide +kernel
theorem dL_law_656 : decode cL_law 656 = .ok (.iconst 2, 1) := by decide +kernel
theorem dL_law_657 : decode cL_law 657 = .ok (.iadd, 1) := by decide +kernel
theorem dL_law_658 : decode cL_law 658 = .ok (.iaload, 1) := by decide +kernel
theorem dL_law_659 : decode cL_law 659 = .ok (.invokevirtual 89, 3) := by decide +kernel
theorem dL_law_662 : decode cL_law 662 = .ok (.aload_n 2, 1) := by decide +kernel
theorem dL_law_663 : decode cL_law 663 = .ok (.aload_n 0, 1) := by decide +kernel
theorem dL_law_664 : decode cL_law 664 = .ok (.iload_n 3, 1) := by decide +kernel
theorem dL_law_665 : decode cL_law 665 = .ok (.iconst 1, 1) := by decide +kernel
theorem dL_law_666 : decode cL_law 666 = .ok (.iadd, 1) := by decide +kernel
theorem dL_law_667 : decode cL_law 667 = .ok (.iaload, 1) := by decide +kernel
theorem dL_law_668 : decode cL_law 668 = .ok (.aload_n 0, 1) := by decide +kernel
theorem dL_law_669 : decode cL_law 669 = .ok (.iload_n 3, 1) := by decide +kernel
theorem dL_law_670 : decode cL_law 670 = .ok (.iconst 2, 1) := by decide +kernel
theorem dL_law_671 : decode cL_law 671 = .ok (.iadd, 1) := by decide +kernel
theorem dL_law_672 : decode cL_law 672 = .ok (.iaload, 1) := by decide +kernel
theorem dL_law_673 : decode cL_law 673 = .ok (.invokevirtual 92, 3) := by decide +kernel
theorem dL_law_676 : decode cL_law 676 = .ok (.if_icmp .eq 538, 3) := by decide +kernel
theorem dL_law_679 : decode cL_law 679 = .ok (.iconst 0, 1) := by decide +kernel
theorem dL_law_680 : decode cL_law 680 = .ok (.ireturn, 1) := by decide +kernel
theorem dL_law_681 : decode cL_law 681 = .ok (.aload_n 1, 1) := by decide +kernel
theorem dL_law_682 : decode cL_law 682 = .ok (.aload_n 0, 1) := by decide +kernel
theorem dL_law_683 : decode cL_law 683 = .ok (.iload_n 3, 1) := by decide +kernel
theorem dL_law_684 : decode cL_law 684 = .ok (.iconst 1, 1) := by decide +kernel
theorem dL_law_685 : decode cL_law 685 = .ok (.iadd, 1) := by decide +kernel
theorem dL_law_686 : decode cL_law 686 = .ok (.iaload, 1) := by decide +kernel
theorem dL_law_687 : decode cL_law 687 = .ok (.invokevirtual 93, 3) := by decide +kernel
theorem dL_law_690 : decode cL_law 690 = .ok (.aload_n 2, 1) := by decide +kernel
theorem dL_law_691 : decode cL_law 691 = .ok (.aload_n 0, 1) := by decide +kernel
theorem dL_law_692 : decode cL_law 692 = .ok (.iload_n 3, 1) := by decide +kernel
theorem dL_law_693 : decode cL_law 693 = .ok (.iconst 1, 1) := by decide +kernel
theorem dL_law_694 : decode cL_law 694 = .ok (.iadd, 1) := by decide +kernel
theorem dL_law_695 : decode cL_law 695 = .ok (.iaload, 1) := by decide +kernel
theorem dL_law_696 : decode cL_law 696 = .ok (.invokevirtual 96, 3) := by decide +kernel
theorem dL_law_699 : decode cL_law 699 = .ok (.if_icmp .eq 515, 3) := by decide +kernel
theorem dL_law_702 : decode cL_law 702 = .ok (.iconst 0, 1) := by decide +kernel
theorem dL_law_703 : decode cL_law 703 = .ok (.ireturn, 1) := by decide +kernel
theorem dL_law_704 : decode cL_law 704 = .ok (.aload_n 1, 1) := by decide +kernel
theorem dL_law_705 : decode cL_law 705 = .ok (.aload_n 0, 1) := by decide +kernel
theorem dL_law_706 : decode cL_law 706 = .ok (.iload_n 3, 1) := by decide +kernel
theorem dL_law_707 : decode cL_law 707 = .ok (.iconst 1, 1) := by decide +kernel
theorem dL_law_708 : decode cL_law 708 = .ok (.iadd, 1) := by decide +kernel
theorem dL_law_709 : decode cL_law 709 = .ok (.iaload, 1) := by decide +kernel
theorem dL_law_710 : decode cL_law 710 = .ok (.aload_n 0, 1) := by decide +kernel
theorem dL_law_711 : decode cL_law 711 = .ok (.iload_n 3, 1) := by decide +kernel
theorem dL_law_712 : decode cL_law 712 = .ok (.iconst 2, 1) := by decide +kernel
theorem dL_law_713 : decode cL_law 713 = .ok (.iadd, 1) := by decide +kernel
theorem dL_law_714 : decode cL_law 714 = .ok (.iaload, 1) := by decide +kernel
theorem dL_law_715 : decode cL_law 715 = .ok (.invokevirtual 97, 3) := by decide +kernel
theorem dL_law_718 : decode cL_law 718 = .ok (.aload_n 2, 1) := by decide +kernel
theorem dL_law_719 : decode cL_law 719 = .ok (.aload_n 0, 1) := by decide +kernel
theorem dL_law_720 : decode cL_law 720 = .ok (.iload_n 3, 1) := by decide +kernel
theorem dL_law_721 : decode cL_law 721 = .ok (.iconst 1, 1) := by decide +kernel
theorem dL_law_722 : decode cL_law 722 = .ok (.iadd, 1) := by decide +kernel
theorem dL_law_723 : decode cL_law 723 = .ok (.iaload, 1) := by decide +kernel
theorem dL_law_724 : decode cL_law 724 = .ok (.aload_n 0, 1) := by decide +kernel
theorem dL_law_725 : decode cL_law 725 = .ok (.iload_n 3, 1) := by decide +kernel
theorem dL_law_726 : decode cL_law 726 = .ok (.iconst 2, 1) := by decide +kernel
theorem dL_law_727 : decode cL_law 727 = .ok (.iadd, 1) := by decide +kernel
theorem dL_law_728 : decode cL_law 728 = .ok (.iaload, 1) := by decide +kernel
theorem dL_law_729 : decode cL_law 729 = .ok (.invokevirtual 100, 3) := by decide +kernel
theorem dL_law_732 : decode cL_law 732 = .ok (.if_icmp .eq 482, 3) := by decide +kernel
theorem dL_law_735 : decode cL_law 735 = .ok (.iconst 0, 1) := by decide +kernel
theorem dL_law_736 : decode cL_law 736 = .ok (.ireturn, 1) := by decide +kernel
theorem dL_law_737 : decode cL_law 737 = .ok (.aload_n 1, 1) := by decide +kernel
theorem dL_law_738 : decode cL_law 738 = .ok (.aload_n 0, 1) := by decide +kernel
theorem dL_law_739 : decode cL_law 739 = .ok (.iload_n 3, 1) := by decide +kernel
theorem dL_law_740 : decode cL_law 740 = .ok (.iconst 1, 1) := by decide +kernel
theorem dL_law_741 : decode cL_law 741 = .ok (.iadd, 1) := by decide +kernel
theorem dL_law_742 : decode cL_law 742 = .ok (.iaload, 1) := by decide +kernel
theorem dL_law_743 : decode cL_law 743 = .ok (.aload_n 0, 1) := by decide +kernel
theorem dL_law_744 : decode cL_law 744 = .ok (.iload_n 3, 1) := by decide +kernel
theorem dL_law_745 : decode cL_law 745 = .ok (.iconst 2, 1) := by decide +kernel
theorem dL_law_746 : decode cL_law 746 = .ok (.iadd, 1) := by decide +kernel
theorem dL_law_747 : decode cL_law 747 = .ok (.iaload, 1) := by decide +kernel
theorem dL_law_748 : decode cL_law 748 = .ok (.aload_n 0, 1) := by decide +kernel
theorem dL_law_749 : decode cL_law 749 = .ok (.iload_n 3, 1) := by decide +kernel
theorem dL_law_750 : decode cL_law 750 = .ok (.iconst 3, 1) := by decide +kernel
theorem dL_law_751 : decode cL_law 751 = .ok (.iadd, 1) := by decide +kernel
theorem dL_law_752 : decode cL_law 752 = .ok (.iaload, 1) := by decide +kernel
theorem dL_law_753 : decode cL_law 753 = .ok (.invokevirtual 101, 3) := by decide +kernel
theorem dL_law_756 : decode cL_law 756 = .ok (.aload_n 2, 1) := by decide +kernel
theorem dL_law_757 : decode cL_law 757 = .ok (.aload_n 0, 1) := by decide +kernel
theorem dL_law_758 : decode cL_law 758 = .ok (.iload_n 3, 1) := by decide +kernel
theorem dL_law_759 : decode cL_law 759 = .ok (.iconst 1, 1) := by decide +kernel
theorem dL_law_760 : decode cL_law 760 = .ok (.iadd, 1) := by decide +kernel
theorem dL_law_761 : decode cL_law 761 = .ok (.iaload, 1) := by decide +kernel
theorem dL_law_762 : decode cL_law 762 = .ok (.aload_n 0, 1) := by decide +kernel
theorem dL_law_763 : decode cL_law 763 = .ok (.iload_n 3, 1) := by decide +kernel
theorem dL_law_764 : decode cL_law 764 = .ok (.iconst 2, 1) := by decide +kernel
theorem dL_law_765 : decode cL_law 765 = .ok (.iadd, 1) := by decide +kernel
theorem dL_law_766 : decode cL_law 766 = .ok (.iaload, 1) := by decide +kernel
theorem dL_law_767 : decode cL_law 767 = .ok (.aload_n 0, 1) := by decide +kernel
theorem dL_law_768 : decode cL_law 768 = .ok (.iload_n 3, 1) := by decide +kernel
theorem dL_law_769 : decode cL_law 769 = .ok (.iconst 3, 1) := by decide +kernel
theorem dL_law_770 : decode cL_law 770 = .ok (.iadd, 1) := by decide +kernel
theorem dL_law_771 : decode cL_law 771 = .ok (.iaload, 1) := by decide +kernel
theorem dL_law_772 : decode cL_law 772 = .ok (.invokevirtual 105, 3) := by decide +kernel
theorem dL_law_775 : decode cL_law 775 = .ok (.if_icmp .eq 439, 3) := by decide +kernel
theorem dL_law_778 : decode cL_law 778 = .ok (.iconst 0, 1) := by decide +kernel
theorem dL_law_779 : decode cL_law 779 = .ok (.ireturn, 1) := by decide +kernel
theorem dL_law_780 : decode cL_law 780 = .ok (.aload_n 1, 1) := by decide +kernel
theorem dL_law_781 : decode cL_law 781 = .ok (.invokevirtual 106, 3) := by decide +kernel
theorem dL_law_784 : decode cL_law 784 = .ok (.aload_n 2, 1) := by decide +kernel
theorem dL_law_785 : decode cL_law 785 = .ok (.invokevirtual 109, 3) := by decide +kernel
theorem dL_law_788 : decode cL_law 788 = .ok (.if_icmp .eq 426, 3) := by decide +kernel
theorem dL_law_791 : decode cL_law 791 = .ok (.iconst 0, 1) := by decide +kernel
theorem dL_law_792 : decode cL_law 792 = .ok (.ireturn, 1) := by decide +kernel
theorem dL_law_793 : decode cL_law 793 = .ok (.aload_n 1, 1) := by decide +kernel
theorem dL_law_794 : decode cL_law 794 = .ok (.aload_n 0, 1) := by decide +kernel
theorem dL_law_795 : decode cL_law 795 = .ok (.iload_n 3, 1) := by decide +kernel
theorem dL_law_796 : decode cL_law 796 = .ok (.iconst 1, 1) := by decide +kernel
theorem dL_law_797 : decode cL_law 797 = .ok (.iadd, 1) := by decide +kernel
theorem dL_law_798 : decode cL_law 798 = .ok (.iaload, 1) := by decide +kernel
theorem dL_law_799 : decode cL_law 799 = .ok (.invokevirtual 110, 3) := by decide +kernel
theorem dL_law_802 : decode cL_law 802 = .ok (.aload_n 2, 1) := by decide +kernel
theorem dL_law_803 : decode cL_law 803 = .ok (.aload_n 0, 1) := by decide +kernel
theorem dL_law_804 : decode cL_law 804 = .ok (.iload_n 3, 1) := by decide +kernel
theorem dL_law_805 : decode cL_law 805 = .ok (.iconst 1, 1) := by decide +kernel
theorem dL_law_806 : decode cL_law 806 = .ok (.iadd, 1) := by decide +kernel
theorem dL_law_807 : decode cL_law 807 = .ok (.iaload, 1) := by decide +kernel
theorem dL_law_808 : decode cL_law 808 = .ok (.invokevirtual 113, 3) := by decide +kernel
theorem dL_law_811 : decode cL_law 811 = .ok (.if_icmp .eq 403, 3) := by decide +kernel
theorem dL_law_814 : decode cL_law 814 = .ok (.iconst 0, 1) := by decide +kernel
theorem dL_law_815 : decode cL_law 815 = .ok (.ireturn, 1) := by decide +kernel
theorem dL_law_816 : decode cL_law 816 = .ok (.aload_n 1, 1) := by decide +kernel
theorem dL_law_817 : decode cL_law 817 = .ok (.invokevirtual 114, 3) := by decide +kernel
theorem dL_law_820 : decode cL_law 820 = .ok (.aload_n 2, 1) := by decide +kernel
theorem dL_law_821 : decode cL_law 821 = .ok (.invokevirtual 117, 3) := by decide +kernel
theorem dL_law_824 : decode cL_law 824 = .ok (.if_icmp .eq 390, 3) := by decide +kernel
theorem dL_law_827 : decode cL_law 827 = .ok (.iconst 0, 1) := by decide +kernel
theorem dL_law_828 : decode cL_law 828 = .ok (.ireturn, 1) := by decide +kernel
theorem dL_law_829 : decode cL_law 829 = .ok (.aload_n 1, 1) := by decide +kernel
theorem dL_law_830 : decode cL_law 830 = .ok (.aload_n 0, 1) := by decide +kernel
theorem dL_law_831 : decode cL_law 831 = .ok (.iload_n 3, 1) := by decide +kernel
theorem dL_law_832 : decode cL_law 832 = .ok (.iconst 1, 1) := by decide +kernel
theorem dL_law_833 : decode cL_law 833 = .ok (.iadd, 1) := by decide +kernel
theorem dL_law_834 : decode cL_law 834 = .ok (.iaload, 1) := by decide +kernel
theorem dL_law_835 : decode cL_law 835 = .ok (.aload_n 0, 1) := by decide +kernel
theorem dL_law_836 : decode cL_law 836 = .ok (.iload_n 3, 1) := by decide +kernel
theorem dL_law_837 : decode cL_law 837 = .ok (.iconst 2, 1) := by decide +kernel
theorem dL_law_838 : decode cL_law 838 = .ok (.iadd, 1) := by decide +kernel
theorem dL_law_839 : decode cL_law 839 = .ok (.iaload, 1) := by decide +kernel
theorem dL_law_840 : decode cL_law 840 = .ok (.invokevirtual 118, 3) := by decide +kernel
theorem dL_law_843 : decode cL_law 843 = .ok (.aload_n 2, 1) := by decide +kernel
theorem dL_law_844 : decode cL_law 844 = .ok (.aload_n 0, 1) := by decide +kernel
theorem dL_law_845 : decode cL_law 845 = .ok (.iload_n 3, 1) := by decide +kernel
theorem dL_law_846 : decode cL_law 846 = .ok (.iconst 1, 1) := by decide +kernel
theorem dL_law_847 : decode cL_law 847 = .ok (.iadd, 1) := by decide +kernel
theorem dL_law_848 : decode cL_law 848 = .ok (.iaload, 1) := by decide +kernel
theorem dL_law_849 : decode cL_law 849 = .ok (.aload_n 0, 1) := by decide +kernel
theorem dL_law_850 : decode cL_law 850 = .ok (.iload_n 3, 1) := by decide +kernel
theorem dL_law_851 : decode cL_law 851 = .ok (.iconst 2, 1) := by decide +kernel
theorem dL_law_852 : decode cL_law 852 = .ok (.iadd, 1) := by decide +kernel
theorem dL_law_853 : decode cL_law 853 = .ok (.iaload, 1) := by decide +kernel
theorem dL_law_854 : decode cL_law 854 = .ok (.invokevirtual 121, 3) := by decide +kernel
theorem dL_law_857 : decode cL_law 857 = .ok (.if_icmp .eq 357, 3) := by decide +kernel
theorem dL_law_860 : decode cL_law 860 = .ok (.iconst 0, 1) := by decide +kernel
theorem dL_law_861 : decode cL_law 861 = .ok (.ireturn, 1) := by decide +kernel
theorem dL_law_862 : decode cL_law 862 = .ok (.aload_n 1, 1) := by decide +kernel
theorem dL_law_863 : decode cL_law 863 = .ok (.aload_n 0, 1) := by decide +kernel
theorem dL_law_864 : decode cL_law 864 = .ok (.iload_n 3, 1) := by decide +kernel
theorem dL_law_865 : decode cL_law 865 = .ok (.iconst 1, 1) := by decide +kernel
theorem dL_law_866 : decode cL_law 866 = .ok (.iadd, 1) := by decide +kernel
theorem dL_law_867 : decode cL_law 867 = .ok (.iaload, 1) := by decide +kernel
theorem dL_law_868 : decode cL_law 868 = .ok (.aload_n 0, 1) := by decide +kernel
theorem dL_law_869 : decode cL_law 869 = .ok (.iload_n 3, 1) := by decide +kernel
theorem dL_law_870 : decode cL_law 870 = .ok (.iconst 2, 1) := by decide +kernel
theorem dL_law_871 : decode cL_law 871 = .ok (.iadd, 1) := by decide +kernel
theorem dL_law_872 : decode cL_law 872 = .ok (.iaload, 1) := by decide +kernel
theorem dL_law_873 : decode cL_law 873 = .ok (.aload_n 0, 1) := by decide +kernel
theorem dL_law_874 : decode cL_law 874 = .ok (.iload_n 3, 1) := by decide +kernel
theorem dL_law_875 : decode cL_law 875 = .ok (.iconst 3, 1) := by decide +kernel
theorem dL_law_876 : decode cL_law 876 = .ok (.iadd, 1) := by decide +kernel
theorem dL_law_877 : decode cL_law 877 = .ok (.iaload, 1) := by decide +kernel
theorem dL_law_878 : decode cL_law 878 = .ok (.invokevirtual 122, 3) := by decide +kernel
theorem dL_law_881 : decode cL_law 881 = .ok (.aload_n 2, 1) := by decide +kernel
theorem dL_law_882 : decode cL_law 882 = .ok (.aload_n 0, 1) := by decide +kernel
theorem dL_law_883 : decode cL_law 883 = .ok (.iload_n 3, 1) := by decide +kernel
theorem dL_law_884 : decode cL_law 884 = .ok (.iconst 1, 1) := by decide +kernel
theorem dL_law_885 : decode cL_law 885 = .ok (.iadd, 1) := by decide +kernel
theorem dL_law_886 : decode cL_law 886 = .ok (.iaload, 1) := by decide +kernel
theorem dL_law_887 : decode cL_law 887 = .ok (.aload_n 0, 1) := by decide +kernel
theorem dL_law_888 : decode cL_law 888 = .ok (.iload_n 3, 1) := by decide +kernel
theorem dL_law_889 : decode cL_law 889 = .ok (.iconst 2, 1) := by decide +kernel
theorem dL_law_890 : decode cL_law 890 = .ok (.iadd, 1) := by decide +kernel
theorem dL_law_891 : decode cL_law 891 = .ok (.iaload, 1) := by decide +kernel
theorem dL_law_892 : decode cL_law 892 = .ok (.aload_n 0, 1) := by decide +kernel
theorem dL_law_893 : decode cL_law 893 = .ok (.iload_n 3, 1) := by decide +kernel
theorem dL_law_894 : decode cL_law 894 = .ok (.iconst 3, 1) := by decide +kernel
theorem dL_law_895 : decode cL_law 895 = .ok (.iadd, 1) := by decide +kernel
theorem dL_law_896 : decode cL_law 896 = .ok (.iaload, 1) := by decide +kernel
theorem dL_law_897 : decode cL_law 897 = .ok (.invokevirtual 125, 3) := by decide +kernel
theorem dL_law_900 : decode cL_law 900 = .ok (.if_icmp .eq 314, 3) := by decide +kernel
theorem dL_law_903 : decode cL_law 903 = .ok (.iconst 0, 1) := by decide +kernel
theorem dL_law_904 : decode cL_law 904 = .ok (.ireturn, 1) := by decide +kernel
theorem dL_law_905 : decode cL_law 905 = .ok (.aload_n 1, 1) := by decide +kernel
theorem dL_law_906 : decode cL_law 906 = .ok (.aload_n 0, 1) := by decide +kernel
theorem dL_law_907 : decode cL_law 907 = .ok (.iload_n 3, 1) := by decide +kernel
theorem dL_law_908 : decode cL_law 908 = .ok (.iconst 1, 1) := by decide +kernel
theorem dL_law_909 : decode cL_law 909 = .ok (.iadd, 1) := by decide +kernel
theorem dL_law_910 : decode cL_law 910 = .ok (.iaload, 1) := by decide +kernel
theorem dL_law_911 : decode cL_law 911 = .ok (.invokevirtual 126, 3) := by decide +kernel
theorem dL_law_914 : decode cL_law 914 = .ok (.aload_n 2, 1) := by decide +kernel
theorem dL_law_915 : decode cL_law 915 = .ok (.aload_n 0, 1) := by decide +kernel
theorem dL_law_916 : decode cL_law 916 = .ok (.iload_n 3, 1) := by decide +kernel
theorem dL_law_917 : decode cL_law 917 = .ok (.iconst 1, 1) := by decide +kernel
theorem dL_law_918 : decode cL_law 918 = .ok (.iadd, 1) := by decide +kernel
theorem dL_law_919 : decode cL_law 919 = .ok (.iaload, 1) := by decide +kernel
theorem dL_law_920 : decode cL_law 920 = .ok (.invokevirtual 129, 3) := by decide +kernel
theorem dL_law_923 : decode cL_law 923 = .ok (.if_icmp .eq 291, 3) := by decide +kernel
theorem dL_law_926 : decode cL_law 926 = .ok (.iconst 0, 1) := by decide +kernel
theorem dL_law_927 : decode cL_law 927 = .ok (.ireturn, 1) := by decide +kernel
theorem dL_law_928 : decode cL_law 928 = .ok (.aload_n 1, 1) := by decide +kernel
theorem dL_law_929 : decode cL_law 929 = .ok (.aload_n 0, 1) := by decide +kernel
theorem dL_law_930 : decode cL_law 930 = .ok (.iload_n 3, 1) := by decide +kernel
theorem dL_law_931 : decode cL_law 931 = .ok (.iconst 1, 1) := by decide +kernel
theorem dL_law_932 : decode cL_law 932 = .ok (.iadd, 1) := by decide +kernel
theorem dL_law_933 : decode cL_law 933 = .ok (.iaload, 1) := by decide +kernel
theorem dL_law_934 : decode cL_law 934 = .ok (.invokevirtual 130, 3) := by decide +kernel
theorem dL_law_937 : decode cL_law 937 = .ok (.aload_n 2, 1) := by decide +kernel
theorem dL_law_938 : decode cL_law 938 = .ok (.aload_n 0, 1) := by decide +kernel
theorem dL_law_939 : decode cL_law 939 = .ok (.iload_n 3, 1) := by decide +kernel
theorem dL_law_940 : decode cL_law 940 = .ok (.iconst 1, 1) := by decide +kernel
theorem dL_law_941 : decode cL_law 941 = .ok (.iadd, 1) := by decide +kernel
theorem dL_law_942 : decode cL_law 942 = .ok (.iaload, 1) := by decide +kernel
theorem dL_law_943 : decode cL_law 943 = .ok (.invokevirtual 133, 3) := by decide +kernel
theorem dL_law_946 : decode cL_law 946 = .ok (.if_icmp .eq 268, 3) := by decide +kernel
theorem dL_law_949 : decode cL_law 949 = .ok (.iconst 0, 1) := by decide +kernel
theorem dL_law_950 : decode cL_law 950 = .ok (.ireturn, 1) := by decide +kernel
theorem dL_law_951 : decode cL_law 951 = .ok (.aload_n 1, 1) := by decide +kernel
theorem dL_law_952 : decode cL_law 952 = .ok (.aload_n 0, 1) := by decide +kernel
theorem dL_law_953 : decode cL_law 953 = .ok (.iload_n 3, 1) := by decide +kernel
theorem dL_law_954 : decode cL_law 954 = .ok (.iconst 1, 1) := by decide +kernel
theorem dL_law_955 : decode cL_law 955 = .ok (.iadd, 1) := by decide +kernel
theorem dL_law_956 : decode cL_law 956 = .ok (.iaload, 1) := by decide +kernel
theorem dL_law_957 : decode cL_law 957 = .ok (.invokevirtual 134, 3) := by decide +kernel
theorem dL_law_960 : decode cL_law 960 = .ok (.aload_n 2, 1) := by decide +kernel
theorem dL_law_961 : decode cL_law 961 = .ok (.aload_n 0, 1) := by decide +kernel
theorem dL_law_962 : decode cL_law 962 = .ok (.iload_n 3, 1) := by decide +kernel
theorem dL_law_963 : decode cL_law 963 = .ok (.iconst 1, 1) := by decide +kernel
theorem dL_law_964 : decode cL_law 964 = .ok (.iadd, 1) := by decide +kernel
theorem dL_law_965 : decode cL_law 965 = .ok (.iaload, 1) := by decide +kernel
theorem dL_law_966 : decode cL_law 966 = .ok (.invokevirtual 137, 3) := by decide +kernel
theorem dL_law_969 : decode cL_law 969 = .ok (.if_icmp .eq 245, 3) := by decide +kernel
theorem dL_law_972 : decode cL_law 972 = .ok (.iconst 0, 1) := by decide +kernel
theorem dL_law_973 : decode cL_law 973 = .ok (.ireturn, 1) := by decide +kernel
theorem dL_law_974 : decode cL_law 974 = .ok (.aload_n 1, 1) := by decide +kernel
theorem dL_law_975 : decode cL_law 975 = .ok (.aload_n 0, 1) := by decide +kernel
theorem dL_law_976 : decode cL_law 976 = .ok (.iload_n 3, 1) := by decide +kernel
theorem dL_law_977 : decode cL_law 977 = .ok (.iconst 1, 1) := by decide +kernel
theorem dL_law_978 : decode cL_law 978 = .ok (.iadd, 1) := by decide +kernel
theorem dL_law_979 : decode cL_law 979 = .ok (.iaload, 1) := by decide +kernel
theorem dL_law_980 : decode cL_law 980 = .ok (.invokevirtual 138, 3) := by decide +kernel
theorem dL_law_983 : decode cL_law 983 = .ok (.aload_n 2, 1) := by decide +kernel
theorem dL_law_984 : decode cL_law 984 = .ok (.aload_n 0, 1) := by decide +kernel
theorem dL_law_985 : decode cL_law 985 = .ok (.iload_n 3, 1) := by decide +kernel
theorem dL_law_986 : decode cL_law 986 = .ok (.iconst 1, 1) := by decide +kernel
theorem dL_law_987 : decode cL_law 987 = .ok (.iadd, 1) := by decide +kernel
theorem dL_law_988 : decode cL_law 988 = .ok (.iaload, 1) := by decide +kernel
theorem dL_law_989 : decode cL_law 989 = .ok (.invokevirtual 141, 3) := by decide +kernel
theorem dL_law_992 : decode cL_law 992 = .ok (.if_icmp .eq 222, 3) := by decide +kernel
theorem dL_law_995 : decode cL_law 995 = .ok (.iconst 0, 1) := by decide +kernel
theorem dL_law_996 : decode cL_law 996 = .ok (.ireturn, 1) := by decide +kernel
theorem dL_law_997 : decode cL_law 997 = .ok (.aload_n 1, 1) := by decide +kernel
theorem dL_law_998 : decode cL_law 998 = .ok (.aload_n 0, 1) := by decide +kernel
theorem dL_law_999 : decode cL_law 999 = .ok (.iload_n 3, 1) := by decide +kernel
theorem dL_law_1000 : decode cL_law 1000 = .ok (.iconst 1, 1) := by decide +kernel
theorem dL_law_1001 : decode cL_law 1001 = .ok (.iadd, 1) := by decide +kernel
theorem dL_law_1002 : decode cL_law 1002 = .ok (.iaload, 1) := by decide +kernel
theorem dL_law_1003 : decode cL_law 1003 = .ok (.invokevirtual 142, 3) := by decide +kernel
theorem dL_law_1006 : decode cL_law 1006 = .ok (.aload_n 2, 1) := by decide +kernel
theorem dL_law_1007 : decode cL_law 1007 = .ok (.aload_n 0, 1) := by decide +kernel
theorem dL_law_1008 : decode cL_law 1008 = .ok (.iload_n 3, 1) := by decide +kernel
theorem dL_law_1009 : decode cL_law 1009 = .ok (.iconst 1, 1) := by decide +kernel
theorem dL_law_1010 : decode cL_law 1010 = .ok (.iadd, 1) := by decide +kernel
theorem dL_law_1011 : decode cL_law 1011 = .ok (.iaload, 1) := by decide +kernel
theorem dL_law_1012 : decode cL_law 1012 = .ok (.invokevirtual 145, 3) := by decide +kernel
theorem dL_law_1015 : decode cL_law 1015 = .ok (.if_icmp .eq 199, 3) := by decide +kernel
theorem dL_law_1018 : decode cL_law 1018 = .ok (.iconst 0, 1) := by decide +kernel
theorem dL_law_1019 : decode cL_law 1019 = .ok (.ireturn, 1) := by decide +kernel
theorem dL_law_1020 : decode cL_law 1020 = .ok (.aload_n 1, 1) := by decide +kernel
theorem dL_law_1021 : decode cL_law 1021 = .ok (.aload_n 0, 1) := by decide +kernel
theorem dL_law_1022 : decode cL_law 1022 = .ok (.iload_n 3, 1) := by decide +kernel
theorem dL_law_1023 : decode cL_law 1023 = .ok (.iconst 1, 1) := by decide +kernel
theorem dL_law_1024 : decode cL_law 1024 = .ok (.iadd, 1) := by decide +kernel
theorem dL_law_1025 : decode cL_law 1025 = .ok (.iaload, 1) := by decide +kernel
theorem dL_law_1026 : decode cL_law 1026 = .ok (.invokevirtual 146, 3) := by decide +kernel
theorem dL_law_1029 : decode cL_law 1029 = .ok (.aload_n 2, 1) := by decide +kernel
theorem dL_law_1030 : decode cL_law 1030 = .ok (.aload_n 0, 1) := by decide +kernel
theorem dL_law_1031 : decode cL_law 1031 = .ok (.iload_n 3, 1) := by decide +kernel
theorem dL_law_1032 : decode cL_law 1032 = .ok (.iconst 1, 1) := by decide +kernel
theorem dL_law_1033 : decode cL_law 1033 = .ok (.iadd, 1) := by decide +kernel
theorem dL_law_1034 : decode cL_law 1034 = .ok (.iaload, 1) := by decide +kernel
theorem dL_law_1035 : decode cL_law 1035 = .ok (.invokevirtual 149, 3) := by decide +kernel
theorem dL_law_1038 : decode cL_law 1038 = .ok (.if_icmp .eq 176, 3) := by decide +kernel
theorem dL_law_1041 : decode cL_law 1041 = .ok (.iconst 0, 1) := by decide +kernel
theorem dL_law_1042 : decode cL_law 1042 = .ok (.ireturn, 1) := by decide +kernel
theorem dL_law_1043 : decode cL_law 1043 = .ok (.aload_n 1, 1) := by decide +kernel
theorem dL_law_1044 : decode cL_law 1044 = .ok (.aload_n 0, 1) := by decide +kernel
theorem dL_law_1045 : decode cL_law 1045 = .ok (.iload_n 3, 1) := by decide +kernel
theorem dL_law_1046 : decode cL_law 1046 = .ok (.iconst 1, 1) := by decide +kernel
theorem dL_law_1047 : decode cL_law 1047 = .ok (.iadd, 1) := by decide +kernel
theorem dL_law_1048 : decode cL_law 1048 = .ok (.iaload, 1) := by decide +kernel
theorem dL_law_1049 : decode cL_law 1049 = .ok (.aload_n 0, 1) := by decide +kernel
theorem dL_law_1050 : decode cL_law 1050 = .ok (.iload_n 3, 1) := by decide +kernel
theorem dL_law_1051 : decode cL_law 1051 = .ok (.iconst 2, 1) := by decide +kernel
theorem dL_law_1052 : decode cL_law 1052 = .ok (.iadd, 1) := by decide +kernel
theorem dL_law_1053 : decode cL_law 1053 = .ok (.iaload, 1) := by decide +kernel
theorem dL_law_1054 : decode cL_law 1054 = .ok (.aload_n 0, 1) := by decide +kernel
theorem dL_law_1055 : decode cL_law 1055 = .ok (.iload_n 3, 1) := by decide +kernel
theorem dL_law_1056 : decode cL_law 1056 = .ok (.iconst 3, 1) := by decide +kernel
theorem dL_law_1057 : decode cL_law 1057 = .ok (.iadd, 1) := by decide +kernel
theorem dL_law_1058 : decode cL_law 1058 = .ok (.iaload, 1) := by decide +kernel
theorem dL_law_1059 : decode cL_law 1059 = .ok (.invokevirtual 150, 3) := by decide +kernel
theorem dL_law_1062 : decode cL_law 1062 = .ok (.aload_n 2, 1) := by decide +kernel
theorem dL_law_1063 : decode cL_law 1063 = .ok (.aload_n 0, 1) := by decide +kernel
theorem dL_law_1064 : decode cL_law 1064 = .ok (.iload_n 3, 1) := by decide +kernel
theorem dL_law_1065 : decode cL_law 1065 = .ok (.iconst 1, 1) := by decide +kernel
theorem dL_law_1066 : decode cL_law 1066 = .ok (.iadd, 1) := by decide +kernel
theorem dL_law_1067 : decode cL_law 1067 = .ok (.iaload, 1) := by decide +kernel
theorem dL_law_1068 : decode cL_law 1068 = .ok (.aload_n 0, 1) := by decide +kernel
theorem dL_law_1069 : decode cL_law 1069 = .ok (.iload_n 3, 1) := by decide +kernel
theorem dL_law_1070 : decode cL_law 1070 = .ok (.iconst 2, 1) := by decide +kernel
theorem dL_law_1071 : decode cL_law 1071 = .ok (.iadd, 1) := by decide +kernel
theorem dL_law_1072 : decode cL_law 1072 = .ok (.iaload, 1) := by decide +kernel
theorem dL_law_1073 : decode cL_law 1073 = .ok (.aload_n 0, 1) := by decide +kernel
theorem dL_law_1074 : decode cL_law 1074 = .ok (.iload_n 3, 1) := by decide +kernel
theorem dL_law_1075 : decode cL_law 1075 = .ok (.iconst 3, 1) := by decide +kernel
theorem dL_law_1076 : decode cL_law 1076 = .ok (.iadd, 1) := by decide +kernel
theorem dL_law_1077 : decode cL_law 1077 = .ok (.iaload, 1) := by decide +kernel
theorem dL_law_1078 : decode cL_law 1078 = .ok (.invokevirtual 153, 3) := by decide +kernel
theorem dL_law_1081 : decode cL_law 1081 = .ok (.if_icmp .eq 133, 3) := by decide +kernel
theorem dL_law_1084 : decode cL_law 1084 = .ok (.iconst 0, 1) := by decide +kernel
theorem dL_law_1085 : decode cL_law 1085 = .ok (.ireturn, 1) := by decide +kernel
theorem dL_law_1086 : decode cL_law 1086 = .ok (.aload_n 1, 1) := by decide +kernel
theorem dL_law_1087 : decode cL_law 1087 = .ok (.aload_n 0, 1) := by decide +kernel
theorem dL_law_1088 : decode cL_law 1088 = .ok (.iload_n 3, 1) := by decide +kernel
theorem dL_law_1089 : decode cL_law 1089 = .ok (.iconst 1, 1) := by decide +kernel
theorem dL_law_1090 : decode cL_law 1090 = .ok (.iadd, 1) := by decide +kernel
theorem dL_law_1091 : decode cL_law 1091 = .ok (.iaload, 1) := by decide +kernel
theorem dL_law_1092 : decode cL_law 1092 = .ok (.aload_n 0, 1) := by decide +kernel
theorem dL_law_1093 : decode cL_law 1093 = .ok (.iload_n 3, 1) := by decide +kernel
theorem dL_law_1094 : decode cL_law 1094 = .ok (.iconst 2, 1) := by decide +kernel
theorem dL_law_1095 : decode cL_law 1095 = .ok (.iadd, 1) := by decide +kernel
theorem dL_law_1096 : decode cL_law 1096 = .ok (.iaload, 1) := by decide +kernel
theorem dL_law_1097 : decode cL_law 1097 = .ok (.aload_n 0, 1) := by decide +kernel
theorem dL_law_1098 : decode cL_law 1098 = .ok (.iload_n 3, 1) := by decide +kernel
theorem dL_law_1099 : decode cL_law 1099 = .ok (.iconst 3, 1) := by decide +kernel
theorem dL_law_1100 : decode cL_law 1100 = .ok (.iadd, 1) := by decide +kernel
theorem dL_law_1101 : decode cL_law 1101 = .ok (.iaload, 1) := by decide +kernel
theorem dL_law_1102 : decode cL_law 1102 = .ok (.aload_n 0, 1) := by decide +kernel
theorem dL_law_1103 : decode cL_law 1103 = .ok (.iload_n 3, 1) := by decide +kernel
theorem dL_law_1104 : decode cL_law 1104 = .ok (.iconst 4, 1) := by decide +kernel
theorem dL_law_1105 : decode cL_law 1105 = .ok (.iadd, 1) := by decide +kernel
theorem dL_law_1106 : decode cL_law 1106 = .ok (.iaload, 1) := by decide +kernel
theorem dL_law_1107 : decode cL_law 1107 = .ok (.invokevirtual 154, 3) := by decide +kernel
theorem dL_law_1110 : decode cL_law 1110 = .ok (.aload_n 2, 1) := by decide +kernel
theorem dL_law_1111 : decode cL_law 1111 = .ok (.aload_n 0, 1) := by decide +kernel
theorem dL_law_1112 : decode cL_law 1112 = .ok (.iload_n 3, 1) := by decide +kernel
theorem dL_law_1113 : decode cL_law 1113 = .ok (.iconst 1, 1) := by decide +kernel
theorem dL_law_1114 : decode cL_law 1114 = .ok (.iadd, 1) := by decide +kernel
theorem dL_law_1115 : decode cL_law 1115 = .ok (.iaload, 1) := by decide +kernel
theorem dL_law_1116 : decode cL_law 1116 = .ok (.aload_n 0, 1) := by decide +kernel
theorem dL_law_1117 : decode cL_law 1117 = .ok (.iload_n 3, 1) := by decide +kernel
theorem dL_law_1118 : decode cL_law 1118 = .ok (.iconst 2, 1) := by decide +kernel
theorem dL_law_1119 : decode cL_law 1119 = .ok (.iadd, 1) := by decide +kernel
theorem dL_law_1120 : decode cL_law 1120 = .ok (.iaload, 1) := by decide +kernel
theorem dL_law_1121 : decode cL_law 1121 = .ok (.aload_n 0, 1) := by decide +kernel
theorem dL_law_1122 : decode cL_law 1122 = .ok (.iload_n 3, 1) := by decide +kernel
theorem dL_law_1123 : decode cL_law 1123 = .ok (.iconst 3, 1) := by decide +kernel
theorem dL_law_1124 : decode cL_law 1124 = .ok (.iadd, 1) := by decide +kernel
theorem dL_law_1125 : decode cL_law 1125 = .ok (.iaload, 1) := by decide +kernel
theorem dL_law_1126 : decode cL_law 1126 = .ok (.aload_n 0, 1) := by decide +kernel
theorem dL_law_1127 : decode cL_law 1127 = .ok (.iload_n 3, 1) := by decide +kernel
theorem dL_law_1128 : decode cL_law 1128 = .ok (.iconst 4, 1) := by decide +kernel
theorem dL_law_1129 : decode cL_law 1129 = .ok (.iadd, 1) := by decide +kernel
theorem dL_law_1130 : decode cL_law 1130 = .ok (.iaload, 1) := by decide +kernel
theorem dL_law_1131 : decode cL_law 1131 = .ok (.invokevirtual 158, 3) := by decide +kernel
theorem dL_law_1134 : decode cL_law 1134 = .ok (.if_icmp .eq 80, 3) := by decide +kernel
theorem dL_law_1137 : decode cL_law 1137 = .ok (.iconst 0, 1) := by decide +kernel
theorem dL_law_1138 : decode cL_law 1138 = .ok (.ireturn, 1) := by decide +kernel
theorem dL_law_1139 : decode cL_law 1139 = .ok (.aload_n 1, 1) := by decide +kernel
theorem dL_law_1140 : decode cL_law 1140 = .ok (.invokevirtual 159, 3) := by decide +kernel
theorem dL_law_1143 : decode cL_law 1143 = .ok (.aload_n 2, 1) := by decide +kernel
theorem dL_law_1144 : decode cL_law 1144 = .ok (.invokevirtual 162, 3) := by decide +kernel
theorem dL_law_1147 : decode cL_law 1147 = .ok (.if_icmp .eq 67, 3) := by decide +kernel
theorem dL_law_1150 : decode cL_law 1150 = .ok (.iconst 0, 1) := by decide +kernel
theorem dL_law_1151 : decode cL_law 1151 = .ok (.ireturn, 1) := by decide +kernel
theorem dL_law_1152 : decode cL_law 1152 = .ok (.aload_n 1, 1) := by decide +kernel
theorem dL_law_1153 : decode cL_law 1153 = .ok (.aload_n 0, 1) := by decide +kernel
theorem dL_law_1154 : decode cL_law 1154 = .ok (.iload_n 3, 1) := by decide +kernel
theorem dL_law_1155 : decode cL_law 1155 = .ok (.iconst 1, 1) := by decide +kernel
theorem dL_law_1156 : decode cL_law 1156 = .ok (.iadd, 1) := by decide +kernel
theorem dL_law_1157 : decode cL_law 1157 = .ok (.iaload, 1) := by decide +kernel
theorem dL_law_1158 : decode cL_law 1158 = .ok (.invokevirtual 163, 3) := by decide +kernel
theorem dL_law_1161 : decode cL_law 1161 = .ok (.aload_n 2, 1) := by decide +kernel
theorem dL_law_1162 : decode cL_law 1162 = .ok (.aload_n 0, 1) := by decide +kernel
theorem dL_law_1163 : decode cL_law 1163 = .ok (.iload_n 3, 1) := by decide +kernel
theorem dL_law_1164 : decode cL_law 1164 = .ok (.iconst 1, 1) := by decide +kernel
theorem dL_law_1165 : decode cL_law 1165 = .ok (.iadd, 1) := by decide +kernel
theorem dL_law_1166 : decode cL_law 1166 = .ok (.iaload, 1) := by decide +kernel
theorem dL_law_1167 : decode cL_law 1167 = .ok (.invokevirtual 166, 3) := by decide +kernel
theorem dL_law_1170 : decode cL_law 1170 = .ok (.if_icmp .eq 44, 3) := by decide +kernel
theorem dL_law_1173 : decode cL_law 1173 = .ok (.iconst 0, 1) := by decide +kernel
theorem dL_law_1174 : decode cL_law 1174 = .ok (.ireturn, 1) := by decide +kernel
theorem dL_law_1175 : decode cL_law 1175 = .ok (.aload_n 1, 1) := by decide +kernel
theorem dL_law_1176 : decode cL_law 1176 = .ok (.invokevirtual 167, 3) := by decide +kernel
theorem dL_law_1179 : decode cL_law 1179 = .ok (.aload_n 2, 1) := by decide +kernel
theorem dL_law_1180 : decode cL_law 1180 = .ok (.invokevirtual 170, 3) := by decide +kernel
theorem dL_law_1183 : decode cL_law 1183 = .ok (.if_icmp .eq 31, 3) := by decide +kernel
theorem dL_law_1186 : decode cL_law 1186 = .ok (.iconst 0, 1) := by decide +kernel
theorem dL_law_1187 : decode cL_law 1187 = .ok (.ireturn, 1) := by decide +kernel
theorem dL_law_1188 : decode cL_law 1188 = .ok (.aload_n 1, 1) := by decide +kernel
theorem dL_law_1189 : decode cL_law 1189 = .ok (.invokevirtual 171, 3) := by decide +kernel
theorem dL_law_1192 : decode cL_law 1192 = .ok (.aload_n 2, 1) := by decide +kernel
theorem dL_law_1193 : decode cL_law 1193 = .ok (.invokevirtual 174, 3) := by decide +kernel
theorem dL_law_1196 : decode cL_law 1196 = .ok (.if_icmp .eq 18, 3) := by decide +kernel
theorem dL_law_1199 : decode cL_law 1199 = .ok (.iconst 0, 1) := by decide +kernel
theorem dL_law_1200 : decode cL_law 1200 = .ok (.ireturn, 1) := by decide +kernel
theorem dL_law_1201 : decode cL_law 1201 = .ok (.aload_n 1, 1) := by decide +kernel
theorem dL_law_1202 : decode cL_law 1202 = .ok (.invokevirtual 175, 3) := by decide +kernel
theorem dL_law_1205 : decode cL_law 1205 = .ok (.aload_n 2, 1) := by decide +kernel
theorem dL_law_1206 : decode cL_law 1206 = .ok (.invokevirtual 178, 3) := by decide +kernel
theorem dL_law_1209 : decode cL_law 1209 = .ok (.if_icmp .eq 5, 3) := by decide +kernel
theorem dL_law_1212 : decode cL_law 1212 = .ok (.iconst 0, 1) := by decide +kernel
theorem dL_law_1213 : decode cL_law 1213 = .ok (.ireturn, 1) := by decide +kernel
theorem dL_law_1214 : decode cL_law 1214 = .ok (.iinc 3 5, 3) := by decide +kernel
theorem dL_law_1217 : decode cL_law 1217 = .ok (.goto (-1199), 3) := by decide +kernel
theorem dL_law_1220 : decode cL_law 1220 = .ok (.iconst 1, 1) := by decide +kernel
theorem dL_law_1221 : decode cL_law 1221 = .ok (.ireturn, 1) := by decide +kernel
