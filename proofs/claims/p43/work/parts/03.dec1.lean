theorem dX4_take_80 : decode cX4_take 80 = .ok (.aload_n 2, 1) := by decide +kernel
theorem dX4_take_81 : decode cX4_take 81 = .ok (.invokevirtual 39, 3) := by decide +kernel
theorem dX4_take_84 : decode cX4_take 84 = .ok (.return_, 1) := by decide +kernel
theorem dX4_clear_0 : decode cX4_clear 0 = .ok (.iconst 0, 1) := by decide +kernel
theorem dX4_clear_1 : decode cX4_clear 1 = .ok (.istore_n 1, 1) := by decide +kernel
theorem dX4_clear_2 : decode cX4_clear 2 = .ok (.iload_n 1, 1) := by decide +kernel
theorem dX4_clear_3 : decode cX4_clear 3 = .ok (.aload_n 0, 1) := by decide +kernel
theorem dX4_clear_4 : decode cX4_clear 4 = .ok (.getfield 9, 3) := by decide +kernel
theorem dX4_clear_7 : decode cX4_clear 7 = .ok (.arraylength, 1) := by decide +kernel
theorem dX4_clear_8 : decode cX4_clear 8 = .ok (.if_icmp .ge 16, 3) := by decide +kernel
theorem dX4_clear_11 : decode cX4_clear 11 = .ok (.aload_n 0, 1) := by decide +kernel
theorem dX4_clear_12 : decode cX4_clear 12 = .ok (.getfield 9, 3) := by decide +kernel
theorem dX4_clear_15 : decode cX4_clear 15 = .ok (.iload_n 1, 1) := by decide +kernel
theorem dX4_clear_16 : decode cX4_clear 16 = .ok (.iconst 0, 1) := by decide +kernel
theorem dX4_clear_17 : decode cX4_clear 17 = .ok (.iastore, 1) := by decide +kernel
theorem dX4_clear_18 : decode cX4_clear 18 = .ok (.iinc 1 1, 3) := by decide +kernel
theorem dX4_clear_21 : decode cX4_clear 21 = .ok (.goto (-19), 3) := by decide +kernel
theorem dX4_clear_24 : decode cX4_clear 24 = .ok (.return_, 1) := by decide +kernel
theorem dX4_borda_0 : decode cX4_borda 0 = .ok (.iconst 0, 1) := by decide +kernel
theorem dX4_borda_1 : decode cX4_borda 1 = .ok (.istore_n 3, 1) := by decide +kernel
theorem dX4_borda_2 : decode cX4_borda 2 = .ok (.iload_n 3, 1) := by decide +kernel
theorem dX4_borda_3 : decode cX4_borda 3 = .ok (.iconst 5, 1) := by decide +kernel
theorem dX4_borda_4 : decode cX4_borda 4 = .ok (.if_icmp .ge 79, 3) := by decide +kernel
theorem dX4_borda_7 : decode cX4_borda 7 = .ok (.aload_n 0, 1) := by decide +kernel
theorem dX4_borda_8 : decode cX4_borda 8 = .ok (.getfield 9, 3) := by decide +kernel
theorem dX4_borda_11 : decode cX4_borda 11 = .ok (.iload_n 3, 1) := by decide +kernel
theorem dX4_borda_12 : decode cX4_borda 12 = .ok (.iconst 0, 1) := by decide +kernel
theorem dX4_borda_13 : decode cX4_borda 13 = .ok (.iastore, 1) := by decide +kernel
theorem dX4_borda_14 : decode cX4_borda 14 = .ok (.iconst 0, 1) := by decide +kernel
theorem dX4_borda_15 : decode cX4_borda 15 = .ok (.istore 4, 2) := by decide +kernel
theorem dX4_borda_17 : decode cX4_borda 17 = .ok (.iload 4, 2) := by decide +kernel
theorem dX4_borda_19 : decode cX4_borda 19 = .ok (.iconst 5, 1) := by decide +kernel
theorem dX4_borda_20 : decode cX4_borda 20 = .ok (.if_icmp .ge 57, 3) := by decide +kernel
theorem dX4_borda_23 : decode cX4_borda 23 = .ok (.iload_n 3, 1) := by decide +kernel
theorem dX4_borda_24 : decode cX4_borda 24 = .ok (.iload 4, 2) := by decide +kernel
theorem dX4_borda_26 : decode cX4_borda 26 = .ok (.if_icmp .eq 45, 3) := by decide +kernel
theorem dX4_borda_29 : decode cX4_borda 29 = .ok (.iload_n 2, 1) := by decide +kernel
theorem dX4_borda_30 : decode cX4_borda 30 = .ok (.iload 4, 2) := by decide +kernel
theorem dX4_borda_32 : decode cX4_borda 32 = .ok (.invokestatic 42, 3) := by decide +kernel
theorem dX4_borda_35 : decode cX4_borda 35 = .ok (.ifCond .eq 36, 3) := by decide +kernel
theorem dX4_borda_38 : decode cX4_borda 38 = .ok (.aload_n 0, 1) := by decide +kernel
theorem dX4_borda_39 : decode cX4_borda 39 = .ok (.getfield 9, 3) := by decide +kernel
theorem dX4_borda_42 : decode cX4_borda 42 = .ok (.iload_n 3, 1) := by decide +kernel
theorem dX4_borda_43 : decode cX4_borda 43 = .ok (.dup2, 1) := by decide +kernel
theorem dX4_borda_44 : decode cX4_borda 44 = .ok (.iaload, 1) := by decide +kernel
theorem dX4_borda_45 : decode cX4_borda 45 = .ok (.aload_n 1, 1) := by decide +kernel
theorem dX4_borda_46 : decode cX4_borda 46 = .ok (.getfield 48, 3) := by decide +kernel
theorem dX4_borda_49 : decode cX4_borda 49 = .ok (.aload_n 1, 1) := by decide +kernel
theorem dX4_borda_50 : decode cX4_borda 50 = .ok (.getfield 51, 3) := by decide +kernel
theorem dX4_borda_53 : decode cX4_borda 53 = .ok (.iload_n 3, 1) := by decide +kernel
theorem dX4_borda_54 : decode cX4_borda 54 = .ok (.aaload, 1) := by decide +kernel
theorem dX4_borda_55 : decode cX4_borda 55 = .ok (.iload 4, 2) := by decide +kernel
theorem dX4_borda_57 : decode cX4_borda 57 = .ok (.iaload, 1) := by decide +kernel
theorem dX4_borda_58 : decode cX4_borda 58 = .ok (.iadd, 1) := by decide +kernel
theorem dX4_borda_59 : decode cX4_borda 59 = .ok (.aload_n 1, 1) := by decide +kernel
theorem dX4_borda_60 : decode cX4_borda 60 = .ok (.getfield 51, 3) := by decide +kernel
theorem dX4_borda_63 : decode cX4_borda 63 = .ok (.iload 4, 2) := by decide +kernel
theorem dX4_borda_65 : decode cX4_borda 65 = .ok (.aaload, 1) := by decide +kernel
theorem dX4_borda_66 : decode cX4_borda 66 = .ok (.iload_n 3, 1) := by decide +kernel
theorem dX4_borda_67 : decode cX4_borda 67 = .ok (.iaload, 1) := by decide +kernel
theorem dX4_borda_68 : decode cX4_borda 68 = .ok (.isub, 1) := by decide +kernel
theorem dX4_borda_69 : decode cX4_borda 69 = .ok (.iadd, 1) := by decide +kernel
theorem dX4_borda_70 : decode cX4_borda 70 = .ok (.iastore, 1) := by decide +kernel
theorem dX4_borda_71 : decode cX4_borda 71 = .ok (.iinc 4 1, 3) := by decide +kernel
theorem dX4_borda_74 : decode cX4_borda 74 = .ok (.goto (-57), 3) := by decide +kernel
theorem dX4_borda_77 : decode cX4_borda 77 = .ok (.iinc 3 1, 3) := by decide +kernel
theorem dX4_borda_80 : decode cX4_borda 80 = .ok (.goto (-78), 3) := by decide +kernel
theorem dX4_borda_83 : decode cX4_borda 83 = .ok (.return_, 1) := by decide +kernel
theorem dX4_copeland_0 : decode cX4_copeland 0 = .ok (.iconst 0, 1) := by decide +kernel
theorem dX4_copeland_1 : decode cX4_copeland 1 = .ok (.istore_n 2, 1) := by decide +kernel
theorem dX4_copeland_2 : decode cX4_copeland 2 = .ok (.iload_n 2, 1) := by decide +kernel
theorem dX4_copeland_3 : decode cX4_copeland 3 = .ok (.iconst 5, 1) := by decide +kernel
theorem dX4_copeland_4 : decode cX4_copeland 4 = .ok (.if_icmp .ge 85, 3) := by decide +kernel
theorem dX4_copeland_7 : decode cX4_copeland 7 = .ok (.iconst 0, 1) := by decide +kernel
theorem dX4_copeland_8 : decode cX4_copeland 8 = .ok (.istore_n 3, 1) := by decide +kernel
theorem dX4_copeland_9 : decode cX4_copeland 9 = .ok (.iload_n 3, 1) := by decide +kernel
theorem dX4_copeland_10 : decode cX4_copeland 10 = .ok (.iconst 5, 1) := by decide +kernel
theorem dX4_copeland_11 : decode cX4_copeland 11 = .ok (.if_icmp .ge 72, 3) := by decide +kernel
theorem dX4_copeland_14 : decode cX4_copeland 14 = .ok (.iload_n 2, 1) := by decide +kernel
theorem dX4_copeland_15 : decode cX4_copeland 15 = .ok (.iload_n 3, 1) := by decide +kernel
theorem dX4_copeland_16 : decode cX4_copeland 16 = .ok (.if_icmp .eq 61, 3) := by decide +kernel
theorem dX4_copeland_19 : decode cX4_copeland 19 = .ok (.aload_n 1, 1) := by decide +kernel
theorem dX4_copeland_20 : decode cX4_copeland 20 = .ok (.getfield 18, 3) := by decide +kernel
theorem dX4_copeland_23 : decode cX4_copeland 23 = .ok (.iload_n 3, 1) := by decide +kernel
theorem dX4_copeland_24 : decode cX4_copeland 24 = .ok (.invokestatic 42, 3) := by decide +kernel
theorem dX4_copeland_27 : decode cX4_copeland 27 = .ok (.ifCond .eq 50, 3) := by decide +kernel
theorem dX4_copeland_30 : decode cX4_copeland 30 = .ok (.aload_n 1, 1) := by decide +kernel
theorem dX4_copeland_31 : decode cX4_copeland 31 = .ok (.getfield 51, 3) := by decide +kernel
theorem dX4_copeland_34 : decode cX4_copeland 34 = .ok (.iload_n 2, 1) := by decide +kernel
theorem dX4_copeland_35 : decode cX4_copeland 35 = .ok (.aaload, 1) := by decide +kernel
theorem dX4_copeland_36 : decode cX4_copeland 36 = .ok (.iload_n 3, 1) := by decide +kernel
theorem dX4_copeland_37 : decode cX4_copeland 37 = .ok (.iaload, 1) := by decide +kernel
theorem dX4_copeland_38 : decode cX4_copeland 38 = .ok (.aload_n 1, 1) := by decide +kernel
theorem dX4_copeland_39 : decode cX4_copeland 39 = .ok (.getfield 51, 3) := by decide +kernel
theorem dX4_copeland_42 : decode cX4_copeland 42 = .ok (.iload_n 3, 1) := by decide +kernel
theorem dX4_copeland_43 : decode cX4_copeland 43 = .ok (.aaload, 1) := by decide +kernel
theorem dX4_copeland_44 : decode cX4_copeland 44 = .ok (.iload_n 2, 1) := by decide +kernel
theorem dX4_copeland_45 : decode cX4_copeland 45 = .ok (.iaload, 1) := by decide +kernel
theorem dX4_copeland_46 : decode cX4_copeland 46 = .ok (.isub, 1) := by decide +kernel
theorem dX4_copeland_47 : decode cX4_copeland 47 = .ok (.istore 4, 2) := by decide +kernel
theorem dX4_copeland_49 : decode cX4_copeland 49 = .ok (.aload_n 0, 1) := by decide +kernel
theorem dX4_copeland_50 : decode cX4_copeland 50 = .ok (.getfield 9, 3) := by decide +kernel
theorem dX4_copeland_53 : decode cX4_copeland 53 = .ok (.iload_n 2, 1) := by decide +kernel
theorem dX4_copeland_54 : decode cX4_copeland 54 = .ok (.dup2, 1) := by decide +kernel
theorem dX4_copeland_55 : decode cX4_copeland 55 = .ok (.iaload, 1) := by decide +kernel
theorem dX4_copeland_56 : decode cX4_copeland 56 = .ok (.iload 4, 2) := by decide +kernel
theorem dX4_copeland_58 : decode cX4_copeland 58 = .ok (.ifCond .le 7, 3) := by decide +kernel
theorem dX4_copeland_61 : decode cX4_copeland 61 = .ok (.iconst 2, 1) := by decide +kernel
theorem dX4_copeland_62 : decode cX4_copeland 62 = .ok (.goto 13, 3) := by decide +kernel
theorem dX4_copeland_65 : decode cX4_copeland 65 = .ok (.iload 4, 2) := by decide +kernel
theorem dX4_copeland_67 : decode cX4_copeland 67 = .ok (.ifCond .ne 7, 3) := by decide +kernel
theorem dX4_copeland_70 : decode cX4_copeland 70 = .ok (.iconst 1, 1) := by decide +kernel
theorem dX4_copeland_71 : decode cX4_copeland 71 = .ok (.goto 4, 3) := by decide +kernel
theorem dX4_copeland_74 : decode cX4_copeland 74 = .ok (.iconst 0, 1) := by decide +kernel
theorem dX4_copeland_75 : decode cX4_copeland 75 = .ok (.iadd, 1) := by decide +kernel
theorem dX4_copeland_76 : decode cX4_copeland 76 = .ok (.iastore, 1) := by decide +kernel
theorem dX4_copeland_77 : decode cX4_copeland 77 = .ok (.iinc 3 1, 3) := by decide +kernel
theorem dX4_copeland_80 : decode cX4_copeland 80 = .ok (.goto (-71), 3) := by decide +kernel
theorem dX4_copeland_83 : decode cX4_copeland 83 = .ok (.iinc 2 1, 3) := by decide +kernel
theorem dX4_copeland_86 : decode cX4_copeland 86 = .ok (.goto (-84), 3) := by decide +kernel
theorem dX4_copeland_89 : decode cX4_copeland 89 = .ok (.return_, 1) := by decide +kernel
theorem dX4_minimax_0 : decode cX4_minimax 0 = .ok (.iconst 0, 1) := by decide +kernel
theorem dX4_minimax_1 : decode cX4_minimax 1 = .ok (.istore_n 2, 1) := by decide +kernel
theorem dX4_minimax_2 : decode cX4_minimax 2 = .ok (.iload_n 2, 1) := by decide +kernel
theorem dX4_minimax_3 : decode cX4_minimax 3 = .ok (.iconst 5, 1) := by decide +kernel
theorem dX4_minimax_4 : decode cX4_minimax 4 = .ok (.if_icmp .ge 96, 3) := by decide +kernel
theorem dX4_minimax_7 : decode cX4_minimax 7 = .ok (.iconst 1, 1) := by decide +kernel
theorem dX4_minimax_8 : decode cX4_minimax 8 = .ok (.istore_n 3, 1) := by decide +kernel
theorem dX4_minimax_9 : decode cX4_minimax 9 = .ok (.iconst 0, 1) := by decide +kernel
theorem dX4_minimax_10 : decode cX4_minimax 10 = .ok (.istore 4, 2) := by decide +kernel
theorem dX4_minimax_12 : decode cX4_minimax 12 = .ok (.iload 4, 2) := by decide +kernel
theorem dX4_minimax_14 : decode cX4_minimax 14 = .ok (.iconst 5, 1) := by decide +kernel
theorem dX4_minimax_15 : decode cX4_minimax 15 = .ok (.if_icmp .ge 79, 3) := by decide +kernel
theorem dX4_minimax_18 : decode cX4_minimax 18 = .ok (.iload_n 2, 1) := by decide +kernel
theorem dX4_minimax_19 : decode cX4_minimax 19 = .ok (.iload 4, 2) := by decide +kernel
theorem dX4_minimax_21 : decode cX4_minimax 21 = .ok (.if_icmp .eq 67, 3) := by decide +kernel
theorem dX4_minimax_24 : decode cX4_minimax 24 = .ok (.aload_n 1, 1) := by decide +kernel
theorem dX4_minimax_25 : decode cX4_minimax 25 = .ok (.getfield 18, 3) := by decide +kernel
theorem dX4_minimax_28 : decode cX4_minimax 28 = .ok (.iload 4, 2) := by decide +kernel
theorem dX4_minimax_30 : decode cX4_minimax 30 = .ok (.invokestatic 42, 3) := by decide +kernel
theorem dX4_minimax_33 : decode cX4_minimax 33 = .ok (.ifCond .ne 6, 3) := by decide +kernel
theorem dX4_minimax_36 : decode cX4_minimax 36 = .ok (.goto 52, 3) := by decide +kernel
theorem dX4_minimax_39 : decode cX4_minimax 39 = .ok (.aload_n 1, 1) := by decide +kernel
theorem dX4_minimax_40 : decode cX4_minimax 40 = .ok (.getfield 51, 3) := by decide +kernel
theorem dX4_minimax_43 : decode cX4_minimax 43 = .ok (.iload 4, 2) := by decide +kernel
theorem dX4_minimax_45 : decode cX4_minimax 45 = .ok (.aaload, 1) := by decide +kernel
theorem dX4_minimax_46 : decode cX4_minimax 46 = .ok (.iload_n 2, 1) := by decide +kernel
theorem dX4_minimax_47 : decode cX4_minimax 47 = .ok (.iaload, 1) := by decide +kernel
theorem dX4_minimax_48 : decode cX4_minimax 48 = .ok (.aload_n 1, 1) := by decide +kernel
theorem dX4_minimax_49 : decode cX4_minimax 49 = .ok (.getfield 51, 3) := by decide +kernel
theorem dX4_minimax_52 : decode cX4_minimax 52 = .ok (.iload_n 2, 1) := by decide +kernel
theorem dX4_minimax_53 : decode cX4_minimax 53 = .ok (.aaload, 1) := by decide +kernel
theorem dX4_minimax_54 : decode cX4_minimax 54 = .ok (.iload 4, 2) := by decide +kernel
theorem dX4_minimax_56 : decode cX4_minimax 56 = .ok (.iaload, 1) := by decide +kernel
theorem dX4_minimax_57 : decode cX4_minimax 57 = .ok (.isub, 1) := by decide +kernel
theorem dX4_minimax_58 : decode cX4_minimax 58 = .ok (.istore 5, 2) := by decide +kernel
theorem dX4_minimax_60 : decode cX4_minimax 60 = .ok (.aload_n 0, 1) := by decide +kernel
theorem dX4_minimax_61 : decode cX4_minimax 61 = .ok (.getfield 9, 3) := by decide +kernel
theorem dX4_minimax_64 : decode cX4_minimax 64 = .ok (.iload_n 2, 1) := by decide +kernel
theorem dX4_minimax_65 : decode cX4_minimax 65 = .ok (.iload_n 3, 1) := by decide +kernel
theorem dX4_minimax_66 : decode cX4_minimax 66 = .ok (.ifCond .eq 8, 3) := by decide +kernel
theorem dX4_minimax_69 : decode cX4_minimax 69 = .ok (.iload 5, 2) := by decide +kernel
theorem dX4_minimax_71 : decode cX4_minimax 71 = .ok (.goto 14, 3) := by decide +kernel
theorem dX4_minimax_74 : decode cX4_minimax 74 = .ok (.aload_n 0, 1) := by decide +kernel
theorem dX4_minimax_75 : decode cX4_minimax 75 = .ok (.getfield 9, 3) := by decide +kernel
theorem dX4_minimax_78 : decode cX4_minimax 78 = .ok (.iload_n 2, 1) := by decide +kernel
theorem dX4_minimax_79 : decode cX4_minimax 79 = .ok (.iaload, 1) := by decide +kernel
theorem dX4_minimax_80 : decode cX4_minimax 80 = .ok (.iload 5, 2) := by decide +kernel
theorem dX4_minimax_82 : decode cX4_minimax 82 = .ok (.invokestatic 55, 3) := by decide +kernel
theorem dX4_minimax_85 : decode cX4_minimax 85 = .ok (.iastore, 1) := by decide +kernel
theorem dX4_minimax_86 : decode cX4_minimax 86 = .ok (.iconst 0, 1) := by decide +kernel
theorem dX4_minimax_87 : decode cX4_minimax 87 = .ok (.istore_n 3, 1) := by decide +kernel
theorem dX4_minimax_88 : decode cX4_minimax 88 = .ok (.iinc 4 1, 3) := by decide +kernel
theorem dX4_minimax_91 : decode cX4_minimax 91 = .ok (.goto (-79), 3) := by decide +kernel
theorem dX4_minimax_94 : decode cX4_minimax 94 = .ok (.iinc 2 1, 3) := by decide +kernel
theorem dX4_minimax_97 : decode cX4_minimax 97 = .ok (.goto (-95), 3) := by decide +kernel
theorem dX4_minimax_100 : decode cX4_minimax 100 = .ok (.return_, 1) := by decide +kernel
theorem dX4_bucklin_0 : decode cX4_bucklin 0 = .ok (.aload_n 1, 1) := by decide +kernel
theorem dX4_bucklin_1 : decode cX4_bucklin 1 = .ok (.getfield 18, 3) := by decide +kernel
theorem dX4_bucklin_4 : decode cX4_bucklin 4 = .ok (.invokestatic 61, 3) := by decide +kernel
theorem dX4_bucklin_7 : decode cX4_bucklin 7 = .ok (.istore_n 2, 1) := by decide +kernel
theorem dX4_bucklin_8 : decode cX4_bucklin 8 = .ok (.iconst 1, 1) := by decide +kernel
theorem dX4_bucklin_9 : decode cX4_bucklin 9 = .ok (.istore_n 3, 1) := by decide +kernel
theorem dX4_bucklin_10 : decode cX4_bucklin 10 = .ok (.iload_n 3, 1) := by decide +kernel
theorem dX4_bucklin_11 : decode cX4_bucklin 11 = .ok (.iload_n 2, 1) := by decide +kernel
theorem dX4_bucklin_12 : decode cX4_bucklin 12 = .ok (.if_icmp .gt 56, 3) := by decide +kernel
theorem dX4_bucklin_15 : decode cX4_bucklin 15 = .ok (.aload_n 1, 1) := by decide +kernel
theorem dX4_bucklin_16 : decode cX4_bucklin 16 = .ok (.iload_n 3, 1) := by decide +kernel
theorem dX4_bucklin_17 : decode cX4_bucklin 17 = .ok (.iconst 1, 1) := by decide +kernel
theorem dX4_bucklin_18 : decode cX4_bucklin 18 = .ok (.isub, 1) := by decide +kernel
theorem dX4_bucklin_19 : decode cX4_bucklin 19 = .ok (.aload_n 0, 1) := by decide +kernel
theorem dX4_bucklin_20 : decode cX4_bucklin 20 = .ok (.getfield 9, 3) := by decide +kernel
theorem dX4_bucklin_23 : decode cX4_bucklin 23 = .ok (.invokevirtual 67, 3) := by decide +kernel
theorem dX4_bucklin_26 : decode cX4_bucklin 26 = .ok (.iconst 0, 1) := by decide +kernel
theorem dX4_bucklin_27 : decode cX4_bucklin 27 = .ok (.istore 4, 2) := by decide +kernel
theorem dX4_bucklin_29 : decode cX4_bucklin 29 = .ok (.iload 4, 2) := by decide +kernel
theorem dX4_bucklin_31 : decode cX4_bucklin 31 = .ok (.aload_n 0, 1) := by decide +kernel
theorem dX4_bucklin_32 : decode cX4_bucklin 32 = .ok (.getfield 9, 3) := by decide +kernel
theorem dX4_bucklin_35 : decode cX4_bucklin 35 = .ok (.arraylength, 1) := by decide +kernel
theorem dX4_bucklin_36 : decode cX4_bucklin 36 = .ok (.if_icmp .ge 26, 3) := by decide +kernel
theorem dX4_bucklin_39 : decode cX4_bucklin 39 = .ok (.iconst 2, 1) := by decide +kernel
theorem dX4_bucklin_40 : decode cX4_bucklin 40 = .ok (.aload_n 0, 1) := by decide +kernel
theorem dX4_bucklin_41 : decode cX4_bucklin 41 = .ok (.getfield 9, 3) := by decide +kernel
theorem dX4_bucklin_44 : decode cX4_bucklin 44 = .ok (.iload 4, 2) := by decide +kernel
theorem dX4_bucklin_46 : decode cX4_bucklin 46 = .ok (.iaload, 1) := by decide +kernel
theorem dX4_bucklin_47 : decode cX4_bucklin 47 = .ok (.imul, 1) := by decide +kernel
theorem dX4_bucklin_48 : decode cX4_bucklin 48 = .ok (.aload_n 1, 1) := by decide +kernel
theorem dX4_bucklin_49 : decode cX4_bucklin 49 = .ok (.getfield 48, 3) := by decide +kernel
theorem dX4_bucklin_52 : decode cX4_bucklin 52 = .ok (.if_icmp .le 4, 3) := by decide +kernel
theorem dX4_bucklin_55 : decode cX4_bucklin 55 = .ok (.return_, 1) := by decide +kernel
theorem dX4_bucklin_56 : decode cX4_bucklin 56 = .ok (.iinc 4 1, 3) := by decide +kernel
theorem dX4_bucklin_59 : decode cX4_bucklin 59 = .ok (.goto (-30), 3) := by decide +kernel
theorem dX4_bucklin_62 : decode cX4_bucklin 62 = .ok (.iinc 3 1, 3) := by decide +kernel
theorem dX4_bucklin_65 : decode cX4_bucklin 65 = .ok (.goto (-55), 3) := by decide +kernel
theorem dX4_bucklin_68 : decode cX4_bucklin 68 = .ok (.return_, 1) := by decide +kernel
theorem dX4_most_0 : decode cX4_most 0 = .ok (.aload_n 0, 1) := by decide +kernel
theorem dX4_most_1 : decode cX4_most 1 = .ok (.iload_n 1, 1) := by decide +kernel
theorem dX4_most_2 : decode cX4_most 2 = .ok (.iconst 1, 1) := by decide +kernel
theorem dX4_most_3 : decode cX4_most 3 = .ok (.invokevirtual 70, 3) := by decide +kernel
theorem dX4_most_6 : decode cX4_most 6 = .ok (.ireturn, 1) := by decide +kernel
theorem dX4_fewest_0 : decode cX4_fewest 0 = .ok (.aload_n 0, 1) := by decide +kernel
theorem dX4_fewest_1 : decode cX4_fewest 1 = .ok (.iload_n 1, 1) := by decide +kernel
theorem dX4_fewest_2 : decode cX4_fewest 2 = .ok (.iconst (-1), 1) := by decide +kernel
theorem dX4_fewest_3 : decode cX4_fewest 3 = .ok (.invokevirtual 70, 3) := by decide +kernel
theorem dX4_fewest_6 : decode cX4_fewest 6 = .ok (.ireturn, 1) := by decide +kernel
theorem dX4_best_0 : decode cX4_best 0 = .ok (.iconst 0, 1) := by decide +kernel
theorem dX4_best_1 : decode cX4_best 1 = .ok (.istore_n 3, 1) := by decide +kernel
theorem dX4_best_2 : decode cX4_best 2 = .ok (.iconst 0, 1) := by decide +kernel
theorem dX4_best_3 : decode cX4_best 3 = .ok (.istore 4, 2) := by decide +kernel
theorem dX4_best_5 : decode cX4_best 5 = .ok (.iconst 0, 1) := by decide +kernel
theorem dX4_best_6 : decode cX4_best 6 = .ok (.istore 5, 2) := by decide +kernel
theorem dX4_best_8 : decode cX4_best 8 = .ok (.iload 5, 2) := by decide +kernel
theorem dX4_best_10 : decode cX4_best 10 = .ok (.aload_n 0, 1) := by decide +kernel
theorem dX4_best_11 : decode cX4_best 11 = .ok (.getfield 9, 3) := by decide +kernel
theorem dX4_best_14 : decode cX4_best 14 = .ok (.arraylength, 1) := by decide +kernel
theorem dX4_best_15 : decode cX4_best 15 = .ok (.if_icmp .ge 73, 3) := by decide +kernel
theorem dX4_best_18 : decode cX4_best 18 = .ok (.iload_n 1, 1) := by decide +kernel
theorem dX4_best_19 : decode cX4_best 19 = .ok (.iload 5, 2) := by decide +kernel
theorem dX4_best_21 : decode cX4_best 21 = .ok (.invokestatic 42, 3) := by decide +kernel
theorem dX4_best_24 : decode cX4_best 24 = .ok (.ifCond .ne 6, 3) := by decide +kernel
theorem dX4_best_27 : decode cX4_best 27 = .ok (.goto 55, 3) := by decide +kernel
theorem dX4_best_30 : decode cX4_best 30 = .ok (.iload_n 3, 1) := by decide +kernel
theorem dX4_best_31 : decode cX4_best 31 = .ok (.ifCond .eq 17, 3) := by decide +kernel
theorem dX4_best_34 : decode cX4_best 34 = .ok (.iload_n 2, 1) := by decide +kernel
theorem dX4_best_35 : decode cX4_best 35 = .ok (.aload_n 0, 1) := by decide +kernel
theorem dX4_best_36 : decode cX4_best 36 = .ok (.getfield 9, 3) := by decide +kernel
theorem dX4_best_39 : decode cX4_best 39 = .ok (.iload 5, 2) := by decide +kernel
theorem dX4_best_41 : decode cX4_best 41 = .ok (.iaload, 1) := by decide +kernel
theorem dX4_best_42 : decode cX4_best 42 = .ok (.imul, 1) := by decide +kernel
theorem dX4_best_43 : decode cX4_best 43 = .ok (.iload 4, 2) := by decide +kernel
theorem dX4_best_45 : decode cX4_best 45 = .ok (.if_icmp .le 16, 3) := by decide +kernel
theorem dX4_best_48 : decode cX4_best 48 = .ok (.iconst 0, 1) := by decide +kernel
theorem dX4_best_49 : decode cX4_best 49 = .ok (.istore_n 3, 1) := by decide +kernel
theorem dX4_best_50 : decode cX4_best 50 = .ok (.iload_n 2, 1) := by decide +kernel
theorem dX4_best_51 : decode cX4_best 51 = .ok (.aload_n 0, 1) := by decide +kernel
theorem dX4_best_52 : decode cX4_best 52 = .ok (.getfield 9, 3) := by decide +kernel
theorem dX4_best_55 : decode cX4_best 55 = .ok (.iload 5, 2) := by decide +kernel
theorem dX4_best_57 : decode cX4_best 57 = .ok (.iaload, 1) := by decide +kernel
theorem dX4_best_58 : decode cX4_best 58 = .ok (.imul, 1) := by decide +kernel
theorem dX4_best_59 : decode cX4_best 59 = .ok (.istore 4, 2) := by decide +kernel
theorem dX4_best_61 : decode cX4_best 61 = .ok (.iload_n 2, 1) := by decide +kernel
theorem dX4_best_62 : decode cX4_best 62 = .ok (.aload_n 0, 1) := by decide +kernel
theorem dX4_best_63 : decode cX4_best 63 = .ok (.getfield 9, 3) := by decide +kernel
theorem dX4_best_66 : decode cX4_best 66 = .ok (.iload 5, 2) := by decide +kernel
theorem dX4_best_68 : decode cX4_best 68 = .ok (.iaload, 1) := by decide +kernel
theorem dX4_best_69 : decode cX4_best 69 = .ok (.imul, 1) := by decide +kernel
theorem dX4_best_70 : decode cX4_best 70 = .ok (.iload 4, 2) := by decide +kernel
theorem dX4_best_72 : decode cX4_best 72 = .ok (.if_icmp .ne 10, 3) := by decide +kernel
theorem dX4_best_75 : decode cX4_best 75 = .ok (.iload_n 3, 1) := by decide +kernel
theorem dX4_best_76 : decode cX4_best 76 = .ok (.iconst 1, 1) := by decide +kernel
theorem dX4_best_77 : decode cX4_best 77 = .ok (.iload 5, 2) := by decide +kernel
theorem dX4_best_79 : decode cX4_best 79 = .ok (.ishl, 1) := by decide +kernel
theorem dX4_best_80 : decode cX4_best 80 = .ok (.ior, 1) := by decide +kernel
theorem dX4_best_81 : decode cX4_best 81 = .ok (.istore_n 3, 1) := by decide +kernel
theorem dX4_best_82 : decode cX4_best 82 = .ok (.iinc 5 1, 3) := by decide +kernel
theorem dX4_best_85 : decode cX4_best 85 = .ok (.goto (-77), 3) := by decide +kernel
theorem dX4_best_88 : decode cX4_best 88 = .ok (.iload_n 3, 1) := by decide +kernel
theorem dX4_best_89 : decode cX4_best 89 = .ok (.ireturn, 1) := by decide +kernel
theorem dX4_nanson_0 : decode cX4_nanson 0 = .ok (.aload_n 1, 1) := by decide +kernel
theorem dX4_nanson_1 : decode cX4_nanson 1 = .ok (.getfield 18, 3) := by decide +kernel
theorem dX4_nanson_4 : decode cX4_nanson 4 = .ok (.istore_n 2, 1) := by decide +kernel
theorem dX4_nanson_5 : decode cX4_nanson 5 = .ok (.iconst 0, 1) := by decide +kernel
theorem dX4_nanson_6 : decode cX4_nanson 6 = .ok (.istore_n 3, 1) := by decide +kernel
theorem dX4_nanson_7 : decode cX4_nanson 7 = .ok (.iload_n 3, 1) := by decide +kernel
theorem dX4_nanson_8 : decode cX4_nanson 8 = .ok (.iconst 5, 1) := by decide +kernel
theorem dX4_nanson_9 : decode cX4_nanson 9 = .ok (.if_icmp .ge 36, 3) := by decide +kernel
theorem dX4_nanson_12 : decode cX4_nanson 12 = .ok (.aload_n 0, 1) := by decide +kernel
theorem dX4_nanson_13 : decode cX4_nanson 13 = .ok (.aload_n 1, 1) := by decide +kernel
theorem dX4_nanson_14 : decode cX4_nanson 14 = .ok (.iload_n 2, 1) := by decide +kernel
theorem dX4_nanson_15 : decode cX4_nanson 15 = .ok (.invokevirtual 28, 3) := by decide +kernel
theorem dX4_nanson_18 : decode cX4_nanson 18 = .ok (.aload_n 0, 1) := by decide +kernel
theorem dX4_nanson_19 : decode cX4_nanson 19 = .ok (.iload_n 2, 1) := by decide +kernel
theorem dX4_nanson_20 : decode cX4_nanson 20 = .ok (.invokevirtual 73, 3) := by decide +kernel
theorem dX4_nanson_23 : decode cX4_nanson 23 = .ok (.istore 4, 2) := by decide +kernel
theorem dX4_nanson_25 : decode cX4_nanson 25 = .ok (.iload 4, 2) := by decide +kernel
theorem dX4_nanson_27 : decode cX4_nanson 27 = .ok (.ifCond .ne 5, 3) := by decide +kernel
theorem dX4_nanson_30 : decode cX4_nanson 30 = .ok (.iload_n 2, 1) := by decide +kernel
theorem dX4_nanson_31 : decode cX4_nanson 31 = .ok (.ireturn, 1) := by decide +kernel
theorem dX4_nanson_32 : decode cX4_nanson 32 = .ok (.iload_n 2, 1) := by decide +kernel
theorem dX4_nanson_33 : decode cX4_nanson 33 = .ok (.iload 4, 2) := by decide +kernel
theorem dX4_nanson_35 : decode cX4_nanson 35 = .ok (.iconst (-1), 1) := by decide +kernel
theorem dX4_nanson_36 : decode cX4_nanson 36 = .ok (.ixor, 1) := by decide +kernel
theorem dX4_nanson_37 : decode cX4_nanson 37 = .ok (.iand, 1) := by decide +kernel
theorem dX4_nanson_38 : decode cX4_nanson 38 = .ok (.istore_n 2, 1) := by decide +kernel
theorem dX4_nanson_39 : decode cX4_nanson 39 = .ok (.iinc 3 1, 3) := by decide +kernel
theorem dX4_nanson_42 : decode cX4_nanson 42 = .ok (.goto (-35), 3) := by decide +kernel
theorem dX4_nanson_45 : decode cX4_nanson 45 = .ok (.iload_n 2, 1) := by decide +kernel
theorem dX4_nanson_46 : decode cX4_nanson 46 = .ok (.ireturn, 1) := by decide +kernel
theorem dX4_belowAverage_0 : decode cX4_belowAverage 0 = .ok (.iconst 0, 1) := by decide +kernel
theorem dX4_belowAverage_1 : decode cX4_belowAverage 1 = .ok (.istore_n 2, 1) := by decide +kernel
theorem dX4_belowAverage_2 : decode cX4_belowAverage 2 = .ok (.iconst 0, 1) := by decide +kernel
theorem dX4_belowAverage_3 : decode cX4_belowAverage 3 = .ok (.istore_n 3, 1) := by decide +kernel
theorem dX4_belowAverage_4 : decode cX4_belowAverage 4 = .ok (.iload_n 3, 1) := by decide +kernel
theorem dX4_belowAverage_5 : decode cX4_belowAverage 5 = .ok (.aload_n 0, 1) := by decide +kernel
theorem dX4_belowAverage_6 : decode cX4_belowAverage 6 = .ok (.getfield 9, 3) := by decide +kernel
theorem dX4_belowAverage_9 : decode cX4_belowAverage 9 = .ok (.arraylength, 1) := by decide +kernel
theorem dX4_belowAverage_10 : decode cX4_belowAverage 10 = .ok (.if_icmp .ge 30, 3) := by decide +kernel
theorem dX4_belowAverage_13 : decode cX4_belowAverage 13 = .ok (.iload_n 2, 1) := by decide +kernel
theorem dX4_belowAverage_14 : decode cX4_belowAverage 14 = .ok (.iload_n 1, 1) := by decide +kernel
theorem dX4_belowAverage_15 : decode cX4_belowAverage 15 = .ok (.iload_n 3, 1) := by decide +kernel
theorem dX4_belowAverage_16 : decode cX4_belowAverage 16 = .ok (.invokestatic 42, 3) := by decide +kernel
theorem dX4_belowAverage_19 : decode cX4_belowAverage 19 = .ok (.ifCond .eq 12, 3) := by decide +kernel
theorem dX4_belowAverage_22 : decode cX4_belowAverage 22 = .ok (.aload_n 0, 1) := by decide +kernel
theorem dX4_belowAverage_23 : decode cX4_belowAverage 23 = .ok (.getfield 9, 3) := by decide +kernel
theorem dX4_belowAverage_26 : decode cX4_belowAverage 26 = .ok (.iload_n 3, 1) := by decide +kernel
theorem dX4_belowAverage_27 : decode cX4_belowAverage 27 = .ok (.iaload, 1) := by decide +kernel
theorem dX4_belowAverage_28 : decode cX4_belowAverage 28 = .ok (.goto 4, 3) := by decide +kernel
theorem dX4_belowAverage_31 : decode cX4_belowAverage 31 = .ok (.iconst 0, 1) := by decide +kernel
theorem dX4_belowAverage_32 : decode cX4_belowAverage 32 = .ok (.iadd, 1) := by decide +kernel
theorem dX4_belowAverage_33 : decode cX4_belowAverage 33 = .ok (.istore_n 2, 1) := by decide +kernel
theorem dX4_belowAverage_34 : decode cX4_belowAverage 34 = .ok (.iinc 3 1, 3) := by decide +kernel
theorem dX4_belowAverage_37 : decode cX4_belowAverage 37 = .ok (.goto (-33), 3) := by decide +kernel
theorem dX4_belowAverage_40 : decode cX4_belowAverage 40 = .ok (.iload_n 1, 1) := by decide +kernel
theorem dX4_belowAverage_41 : decode cX4_belowAverage 41 = .ok (.invokestatic 61, 3) := by decide +kernel
theorem dX4_belowAverage_44 : decode cX4_belowAverage 44 = .ok (.istore_n 3, 1) := by decide +kernel
theorem dX4_belowAverage_45 : decode cX4_belowAverage 45 = .ok (.iconst 0, 1) := by decide +kernel
theorem dX4_belowAverage_46 : decode cX4_belowAverage 46 = .ok (.istore 4, 2) := by decide +kernel
theorem dX4_belowAverage_48 : decode cX4_belowAverage 48 = .ok (.iconst 0, 1) := by decide +kernel
theorem dX4_belowAverage_49 : decode cX4_belowAverage 49 = .ok (.istore 5, 2) := by decide +kernel
theorem dX4_belowAverage_51 : decode cX4_belowAverage 51 = .ok (.iload 5, 2) := by decide +kernel
theorem dX4_belowAverage_53 : decode cX4_belowAverage 53 = .ok (.aload_n 0, 1) := by decide +kernel
theorem dX4_belowAverage_54 : decode cX4_belowAverage 54 = .ok (.getfield 9, 3) := by decide +kernel
theorem dX4_belowAverage_57 : decode cX4_belowAverage 57 = .ok (.arraylength, 1) := by decide +kernel
theorem dX4_belowAverage_58 : decode cX4_belowAverage 58 = .ok (.if_icmp .ge 40, 3) := by decide +kernel
theorem dX4_belowAverage_61 : decode cX4_belowAverage 61 = .ok (.iload_n 1, 1) := by decide +kernel
theorem dX4_belowAverage_62 : decode cX4_belowAverage 62 = .ok (.iload 5, 2) := by decide +kernel
theorem dX4_belowAverage_64 : decode cX4_belowAverage 64 = .ok (.invokestatic 42, 3) := by decide +kernel
theorem dX4_belowAverage_67 : decode cX4_belowAverage 67 = .ok (.ifCond .eq 25, 3) := by decide +kernel
theorem dX4_belowAverage_70 : decode cX4_belowAverage 70 = .ok (.aload_n 0, 1) := by decide +kernel
theorem dX4_belowAverage_71 : decode cX4_belowAverage 71 = .ok (.getfield 9, 3) := by decide +kernel
theorem dX4_belowAverage_74 : decode cX4_belowAverage 74 = .ok (.iload 5, 2) := by decide +kernel
theorem dX4_belowAverage_76 : decode cX4_belowAverage 76 = .ok (.iaload, 1) := by decide +kernel
theorem dX4_belowAverage_77 : decode cX4_belowAverage 77 = .ok (.iload_n 3, 1) := by decide +kernel
theorem dX4_belowAverage_78 : decode cX4_belowAverage 78 = .ok (.imul, 1) := by decide +kernel
theorem dX4_belowAverage_79 : decode cX4_belowAverage 79 = .ok (.iload_n 2, 1) := by decide +kernel
theorem dX4_belowAverage_80 : decode cX4_belowAverage 80 = .ok (.if_icmp .ge 12, 3) := by decide +kernel
theorem dX4_belowAverage_83 : decode cX4_belowAverage 83 = .ok (.iload 4, 2) := by decide +kernel
theorem dX4_belowAverage_85 : decode cX4_belowAverage 85 = .ok (.iconst 1, 1) := by decide +kernel
theorem dX4_belowAverage_86 : decode cX4_belowAverage 86 = .ok (.iload 5, 2) := by decide +kernel
theorem dX4_belowAverage_88 : decode cX4_belowAverage 88 = .ok (.ishl, 1) := by decide +kernel
theorem dX4_belowAverage_89 : decode cX4_belowAverage 89 = .ok (.ior, 1) := by decide +kernel
theorem dX4_belowAverage_90 : decode cX4_belowAverage 90 = .ok (.istore 4, 2) := by decide +kernel
theorem dX4_belowAverage_92 : decode cX4_belowAverage 92 = .ok (.iinc 5 1, 3) := by decide +kernel
theorem dX4_belowAverage_95 : decode cX4_belowAverage 95 = .ok (.goto (-44), 3) := by decide +kernel
theorem dX4_belowAverage_98 : decode cX4_belowAverage 98 = .ok (.iload 4, 2) := by decide +kernel
theorem dX4_belowAverage_100 : decode cX4_belowAverage 100 = .ok (.ireturn, 1) := by decide +kernel
theorem dX5_init_0 : decode cX5_init 0 = .ok (.aload_n 0, 1) := by decide +kernel
theorem dX5_init_1 : decode cX5_init 1 = .ok (.invokespecial 3, 3) := by decide +kernel
theorem dX5_init_4 : decode cX5_init 4 = .ok (.aload_n 0, 1) := by decide +kernel
theorem dX5_init_5 : decode cX5_init 5 = .ok (.iconst 5, 1) := by decide +kernel
theorem dX5_init_6 : decode cX5_init 6 = .ok (.iconst 5, 1) := by decide +kernel
theorem dX5_init_7 : decode cX5_init 7 = .ok (.multianewarray 9 2, 4) := by decide +kernel
theorem dX5_init_11 : decode cX5_init 11 = .ok (.putfield 11, 3) := by decide +kernel
theorem dX5_init_14 : decode cX5_init 14 = .ok (.aload_n 0, 1) := by decide +kernel
theorem dX5_init_15 : decode cX5_init 15 = .ok (.bipush 20, 2) := by decide +kernel
theorem dX5_init_17 : decode cX5_init 17 = .ok (.newarray .int, 2) := by decide +kernel
theorem dX5_init_19 : decode cX5_init 19 = .ok (.putfield 16, 3) := by decide +kernel
theorem dX5_init_22 : decode cX5_init 22 = .ok (.aload_n 0, 1) := by decide +kernel
theorem dX5_init_23 : decode cX5_init 23 = .ok (.bipush 20, 2) := by decide +kernel
theorem dX5_init_25 : decode cX5_init 25 = .ok (.iconst 5, 1) := by decide +kernel
theorem dX5_init_26 : decode cX5_init 26 = .ok (.multianewarray 9 2, 4) := by decide +kernel
theorem dX5_init_30 : decode cX5_init 30 = .ok (.putfield 20, 3) := by decide +kernel
theorem dX5_init_33 : decode cX5_init 33 = .ok (.return_, 1) := by decide +kernel
theorem dX5_open_0 : decode cX5_open 0 = .ok (.aload_n 0, 1) := by decide +kernel
theorem dX5_open_1 : decode cX5_open 1 = .ok (.iload_n 1, 1) := by decide +kernel
theorem dX5_open_2 : decode cX5_open 2 = .ok (.putfield 23, 3) := by decide +kernel
theorem dX5_open_5 : decode cX5_open 5 = .ok (.aload_n 0, 1) := by decide +kernel
theorem dX5_open_6 : decode cX5_open 6 = .ok (.iconst 0, 1) := by decide +kernel
theorem dX5_open_7 : decode cX5_open 7 = .ok (.putfield 27, 3) := by decide +kernel
theorem dX5_open_10 : decode cX5_open 10 = .ok (.iconst 0, 1) := by decide +kernel
theorem dX5_open_11 : decode cX5_open 11 = .ok (.istore_n 2, 1) := by decide +kernel
theorem dX5_open_12 : decode cX5_open 12 = .ok (.iload_n 2, 1) := by decide +kernel
theorem dX5_open_13 : decode cX5_open 13 = .ok (.bipush 20, 2) := by decide +kernel
theorem dX5_open_15 : decode cX5_open 15 = .ok (.if_icmp .ge 16, 3) := by decide +kernel
theorem dX5_open_18 : decode cX5_open 18 = .ok (.aload_n 0, 1) := by decide +kernel
theorem dX5_open_19 : decode cX5_open 19 = .ok (.getfield 16, 3) := by decide +kernel
theorem dX5_open_22 : decode cX5_open 22 = .ok (.iload_n 2, 1) := by decide +kernel
theorem dX5_open_23 : decode cX5_open 23 = .ok (.iconst 0, 1) := by decide +kernel
theorem dX5_open_24 : decode cX5_open 24 = .ok (.iastore, 1) := by decide +kernel
theorem dX5_open_25 : decode cX5_open 25 = .ok (.iinc 2 1, 3) := by decide +kernel
theorem dX5_open_28 : decode cX5_open 28 = .ok (.goto (-16), 3) := by decide +kernel
theorem dX5_open_31 : decode cX5_open 31 = .ok (.iconst 0, 1) := by decide +kernel
theorem dX5_open_32 : decode cX5_open 32 = .ok (.istore_n 2, 1) := by decide +kernel
theorem dX5_open_33 : decode cX5_open 33 = .ok (.iload_n 2, 1) := by decide +kernel
theorem dX5_open_34 : decode cX5_open 34 = .ok (.iconst 5, 1) := by decide +kernel
theorem dX5_open_35 : decode cX5_open 35 = .ok (.if_icmp .ge 31, 3) := by decide +kernel
theorem dX5_open_38 : decode cX5_open 38 = .ok (.iconst 0, 1) := by decide +kernel
theorem dX5_open_39 : decode cX5_open 39 = .ok (.istore_n 3, 1) := by decide +kernel
theorem dX5_open_40 : decode cX5_open 40 = .ok (.iload_n 3, 1) := by decide +kernel
theorem dX5_open_41 : decode cX5_open 41 = .ok (.iconst 5, 1) := by decide +kernel
theorem dX5_open_42 : decode cX5_open 42 = .ok (.if_icmp .ge 18, 3) := by decide +kernel
theorem dX5_open_45 : decode cX5_open 45 = .ok (.aload_n 0, 1) := by decide +kernel
theorem dX5_open_46 : decode cX5_open 46 = .ok (.getfield 11, 3) := by decide +kernel
theorem dX5_open_49 : decode cX5_open 49 = .ok (.iload_n 2, 1) := by decide +kernel
theorem dX5_open_50 : decode cX5_open 50 = .ok (.aaload, 1) := by decide +kernel
theorem dX5_open_51 : decode cX5_open 51 = .ok (.iload_n 3, 1) := by decide +kernel
theorem dX5_open_52 : decode cX5_open 52 = .ok (.iconst 0, 1) := by decide +kernel
theorem dX5_open_53 : decode cX5_open 53 = .ok (.iastore, 1) := by decide +kernel
theorem dX5_open_54 : decode cX5_open 54 = .ok (.iinc 3 1, 3) := by decide +kernel
theorem dX5_open_57 : decode cX5_open 57 = .ok (.goto (-17), 3) := by decide +kernel
theorem dX5_open_60 : decode cX5_open 60 = .ok (.iinc 2 1, 3) := by decide +kernel
theorem dX5_open_63 : decode cX5_open 63 = .ok (.goto (-30), 3) := by decide +kernel
theorem dX5_open_66 : decode cX5_open 66 = .ok (.return_, 1) := by decide +kernel
theorem dX5_votersOf_0 : decode cX5_votersOf 0 = .ok (.iload_n 1, 1) := by decide +kernel
theorem dX5_votersOf_1 : decode cX5_votersOf 1 = .ok (.ifCond .lt 21, 3) := by decide +kernel
theorem dX5_votersOf_4 : decode cX5_votersOf 4 = .ok (.iload_n 1, 1) := by decide +kernel
theorem dX5_votersOf_5 : decode cX5_votersOf 5 = .ok (.aload_n 0, 1) := by decide +kernel
theorem dX5_votersOf_6 : decode cX5_votersOf 6 = .ok (.getfield 16, 3) := by decide +kernel
theorem dX5_votersOf_9 : decode cX5_votersOf 9 = .ok (.arraylength, 1) := by decide +kernel
theorem dX5_votersOf_10 : decode cX5_votersOf 10 = .ok (.if_icmp .ge 12, 3) := by decide +kernel
theorem dX5_votersOf_13 : decode cX5_votersOf 13 = .ok (.aload_n 0, 1) := by decide +kernel
theorem dX5_votersOf_14 : decode cX5_votersOf 14 = .ok (.getfield 16, 3) := by decide +kernel
theorem dX5_votersOf_17 : decode cX5_votersOf 17 = .ok (.iload_n 1, 1) := by decide +kernel
theorem dX5_votersOf_18 : decode cX5_votersOf 18 = .ok (.iaload, 1) := by decide +kernel
theorem dX5_votersOf_19 : decode cX5_votersOf 19 = .ok (.goto 4, 3) := by decide +kernel
theorem dX5_votersOf_22 : decode cX5_votersOf 22 = .ok (.iconst 0, 1) := by decide +kernel
theorem dX5_votersOf_23 : decode cX5_votersOf 23 = .ok (.ireturn, 1) := by decide +kernel
theorem dX5_cast_0 : decode cX5_cast 0 = .ok (.iload_n 1, 1) := by decide +kernel
theorem dX5_cast_1 : decode cX5_cast 1 = .ok (.ifCond .lt 9, 3) := by decide +kernel
theorem dX5_cast_4 : decode cX5_cast 4 = .ok (.iload_n 1, 1) := by decide +kernel
theorem dX5_cast_5 : decode cX5_cast 5 = .ok (.bipush 20, 2) := by decide +kernel
theorem dX5_cast_7 : decode cX5_cast 7 = .ok (.if_icmp .lt 4, 3) := by decide +kernel
theorem dX5_cast_10 : decode cX5_cast 10 = .ok (.return_, 1) := by decide +kernel
theorem dX5_cast_11 : decode cX5_cast 11 = .ok (.aload_n 0, 1) := by decide +kernel
theorem dX5_cast_12 : decode cX5_cast 12 = .ok (.aload_n 0, 1) := by decide +kernel
theorem dX5_cast_13 : decode cX5_cast 13 = .ok (.getfield 20, 3) := by decide +kernel
theorem dX5_cast_16 : decode cX5_cast 16 = .ok (.iload_n 1, 1) := by decide +kernel
theorem dX5_cast_17 : decode cX5_cast 17 = .ok (.aaload, 1) := by decide +kernel
theorem dX5_cast_18 : decode cX5_cast 18 = .ok (.aload_n 0, 1) := by decide +kernel
theorem dX5_cast_19 : decode cX5_cast 19 = .ok (.getfield 16, 3) := by decide +kernel
theorem dX5_cast_22 : decode cX5_cast 22 = .ok (.iload_n 1, 1) := by decide +kernel
theorem dX5_cast_23 : decode cX5_cast 23 = .ok (.iaload, 1) := by decide +kernel
theorem dX5_cast_24 : decode cX5_cast 24 = .ok (.ineg, 1) := by decide +kernel
theorem dX5_cast_25 : decode cX5_cast 25 = .ok (.invokevirtual 30, 3) := by decide +kernel
theorem dX5_cast_28 : decode cX5_cast 28 = .ok (.aload_n 0, 1) := by decide +kernel
theorem dX5_cast_29 : decode cX5_cast 29 = .ok (.getfield 16, 3) := by decide +kernel
theorem dX5_cast_32 : decode cX5_cast 32 = .ok (.iload_n 1, 1) := by decide +kernel
theorem dX5_cast_33 : decode cX5_cast 33 = .ok (.iload_n 2, 1) := by decide +kernel
theorem dX5_cast_34 : decode cX5_cast 34 = .ok (.iastore, 1) := by decide +kernel
theorem dX5_cast_35 : decode cX5_cast 35 = .ok (.iload_n 3, 1) := by decide +kernel
theorem dX5_cast_36 : decode cX5_cast 36 = .ok (.aload_n 0, 1) := by decide +kernel
theorem dX5_cast_37 : decode cX5_cast 37 = .ok (.getfield 23, 3) := by decide +kernel
theorem dX5_cast_40 : decode cX5_cast 40 = .ok (.invokestatic 34, 3) := by decide +kernel
theorem dX5_cast_43 : decode cX5_cast 43 = .ok (.istore 4, 2) := by decide +kernel
theorem dX5_cast_45 : decode cX5_cast 45 = .ok (.iconst 0, 1) := by decide +kernel
theorem dX5_cast_46 : decode cX5_cast 46 = .ok (.istore 5, 2) := by decide +kernel
theorem dX5_cast_48 : decode cX5_cast 48 = .ok (.iload 5, 2) := by decide +kernel
theorem dX5_cast_50 : decode cX5_cast 50 = .ok (.iconst 5, 1) := by decide +kernel
theorem dX5_cast_51 : decode cX5_cast 51 = .ok (.if_icmp .ge 25, 3) := by decide +kernel
theorem dX5_cast_54 : decode cX5_cast 54 = .ok (.aload_n 0, 1) := by decide +kernel
theorem dX5_cast_55 : decode cX5_cast 55 = .ok (.getfield 20, 3) := by decide +kernel
theorem dX5_cast_58 : decode cX5_cast 58 = .ok (.iload_n 1, 1) := by decide +kernel
theorem dX5_cast_59 : decode cX5_cast 59 = .ok (.aaload, 1) := by decide +kernel
theorem dX5_cast_60 : decode cX5_cast 60 = .ok (.iload 5, 2) := by decide +kernel
theorem dX5_cast_62 : decode cX5_cast 62 = .ok (.iload 4, 2) := by decide +kernel
theorem dX5_cast_64 : decode cX5_cast 64 = .ok (.iload 5, 2) := by decide +kernel
theorem dX5_cast_66 : decode cX5_cast 66 = .ok (.invokestatic 40, 3) := by decide +kernel
theorem dX5_cast_69 : decode cX5_cast 69 = .ok (.iastore, 1) := by decide +kernel
theorem dX5_cast_70 : decode cX5_cast 70 = .ok (.iinc 5 1, 3) := by decide +kernel
theorem dX5_cast_73 : decode cX5_cast 73 = .ok (.goto (-25), 3) := by decide +kernel
theorem dX5_cast_76 : decode cX5_cast 76 = .ok (.aload_n 0, 1) := by decide +kernel
theorem dX5_cast_77 : decode cX5_cast 77 = .ok (.aload_n 0, 1) := by decide +kernel
theorem dX5_cast_78 : decode cX5_cast 78 = .ok (.getfield 20, 3) := by decide +kernel
theorem dX5_cast_81 : decode cX5_cast 81 = .ok (.iload_n 1, 1) := by decide +kernel
theorem dX5_cast_82 : decode cX5_cast 82 = .ok (.aaload, 1) := by decide +kernel
theorem dX5_cast_83 : decode cX5_cast 83 = .ok (.iload_n 2, 1) := by decide +kernel
theorem dX5_cast_84 : decode cX5_cast 84 = .ok (.invokevirtual 30, 3) := by decide +kernel
theorem dX5_cast_87 : decode cX5_cast 87 = .ok (.return_, 1) := by decide +kernel
theorem dX5_compare_0 : decode cX5_compare 0 = .ok (.aload_n 0, 1) := by decide +kernel
theorem dX5_compare_1 : decode cX5_compare 1 = .ok (.dup, 1) := by decide +kernel
theorem dX5_compare_2 : decode cX5_compare 2 = .ok (.getfield 27, 3) := by decide +kernel
theorem dX5_compare_5 : decode cX5_compare 5 = .ok (.iload_n 2, 1) := by decide +kernel
theorem dX5_compare_6 : decode cX5_compare 6 = .ok (.iadd, 1) := by decide +kernel
theorem dX5_compare_7 : decode cX5_compare 7 = .ok (.putfield 27, 3) := by decide +kernel
theorem dX5_compare_10 : decode cX5_compare 10 = .ok (.aload_n 0, 1) := by decide +kernel
theorem dX5_compare_11 : decode cX5_compare 11 = .ok (.getfield 23, 3) := by decide +kernel
theorem dX5_compare_14 : decode cX5_compare 14 = .ok (.istore_n 3, 1) := by decide +kernel
theorem dX5_compare_15 : decode cX5_compare 15 = .ok (.iconst 0, 1) := by decide +kernel
theorem dX5_compare_16 : decode cX5_compare 16 = .ok (.istore 4, 2) := by decide +kernel
theorem dX5_compare_18 : decode cX5_compare 18 = .ok (.iload 4, 2) := by decide +kernel
theorem dX5_compare_20 : decode cX5_compare 20 = .ok (.aload_n 1, 1) := by decide +kernel
theorem dX5_compare_21 : decode cX5_compare 21 = .ok (.arraylength, 1) := by decide +kernel
theorem dX5_compare_22 : decode cX5_compare 22 = .ok (.if_icmp .ge 76, 3) := by decide +kernel
theorem dX5_compare_25 : decode cX5_compare 25 = .ok (.iload_n 2, 1) := by decide +kernel
theorem dX5_compare_26 : decode cX5_compare 26 = .ok (.ifCond .eq 72, 3) := by decide +kernel
theorem dX5_compare_29 : decode cX5_compare 29 = .ok (.aload_n 1, 1) := by decide +kernel
theorem dX5_compare_30 : decode cX5_compare 30 = .ok (.iload 4, 2) := by decide +kernel
theorem dX5_compare_32 : decode cX5_compare 32 = .ok (.iaload, 1) := by decide +kernel
theorem dX5_compare_33 : decode cX5_compare 33 = .ok (.istore 5, 2) := by decide +kernel
theorem dX5_compare_35 : decode cX5_compare 35 = .ok (.iload 5, 2) := by decide +kernel
theorem dX5_compare_37 : decode cX5_compare 37 = .ok (.ifCond .lt 9, 3) := by decide +kernel
theorem dX5_compare_40 : decode cX5_compare 40 = .ok (.iload 5, 2) := by decide +kernel
theorem dX5_compare_42 : decode cX5_compare 42 = .ok (.iconst 5, 1) := by decide +kernel
theorem dX5_compare_43 : decode cX5_compare 43 = .ok (.if_icmp .lt 4, 3) := by decide +kernel
theorem dX5_compare_46 : decode cX5_compare 46 = .ok (.return_, 1) := by decide +kernel
theorem dX5_compare_47 : decode cX5_compare 47 = .ok (.iload_n 3, 1) := by decide +kernel
theorem dX5_compare_48 : decode cX5_compare 48 = .ok (.iload 5, 2) := by decide +kernel
theorem dX5_compare_50 : decode cX5_compare 50 = .ok (.invokestatic 43, 3) := by decide +kernel
theorem dX5_compare_53 : decode cX5_compare 53 = .ok (.istore_n 3, 1) := by decide +kernel
theorem dX5_compare_54 : decode cX5_compare 54 = .ok (.iconst 0, 1) := by decide +kernel
theorem dX5_compare_55 : decode cX5_compare 55 = .ok (.istore 6, 2) := by decide +kernel
theorem dX5_compare_57 : decode cX5_compare 57 = .ok (.iload 6, 2) := by decide +kernel
theorem dX5_compare_59 : decode cX5_compare 59 = .ok (.iconst 5, 1) := by decide +kernel
theorem dX5_compare_60 : decode cX5_compare 60 = .ok (.if_icmp .ge 32, 3) := by decide +kernel
theorem dX5_compare_63 : decode cX5_compare 63 = .ok (.iload_n 3, 1) := by decide +kernel
theorem dX5_compare_64 : decode cX5_compare 64 = .ok (.iload 6, 2) := by decide +kernel
theorem dX5_compare_66 : decode cX5_compare 66 = .ok (.invokestatic 48, 3) := by decide +kernel
theorem dX5_compare_69 : decode cX5_compare 69 = .ok (.ifCond .eq 17, 3) := by decide +kernel
theorem dX5_compare_72 : decode cX5_compare 72 = .ok (.aload_n 0, 1) := by decide +kernel
theorem dX5_compare_73 : decode cX5_compare 73 = .ok (.getfield 11, 3) := by decide +kernel
theorem dX5_compare_76 : decode cX5_compare 76 = .ok (.iload 5, 2) := by decide +kernel
theorem dX5_compare_78 : decode cX5_compare 78 = .ok (.aaload, 1) := by decide +kernel
theorem dX5_compare_79 : decode cX5_compare 79 = .ok (.iload 6, 2) := by decide +kernel
theorem dX5_compare_81 : decode cX5_compare 81 = .ok (.dup2, 1) := by decide +kernel
theorem dX5_compare_82 : decode cX5_compare 82 = .ok (.iaload, 1) := by decide +kernel
theorem dX5_compare_83 : decode cX5_compare 83 = .ok (.iload_n 2, 1) := by decide +kernel
theorem dX5_compare_84 : decode cX5_compare 84 = .ok (.iadd, 1) := by decide +kernel
theorem dX5_compare_85 : decode cX5_compare 85 = .ok (.iastore, 1) := by decide +kernel
theorem dX5_compare_86 : decode cX5_compare 86 = .ok (.iinc 6 1, 3) := by decide +kernel
theorem dX5_compare_89 : decode cX5_compare 89 = .ok (.goto (-32), 3) := by decide +kernel
theorem dX5_compare_92 : decode cX5_compare 92 = .ok (.iinc 4 1, 3) := by decide +kernel
theorem dX5_compare_95 : decode cX5_compare 95 = .ok (.goto (-77), 3) := by decide +kernel
theorem dX5_compare_98 : decode cX5_compare 98 = .ok (.return_, 1) := by decide +kernel
theorem dX5_votesFor_0 : decode cX5_votesFor 0 = .ok (.iload_n 1, 1) := by decide +kernel
theorem dX5_votesFor_1 : decode cX5_votesFor 1 = .ok (.invokestatic 52, 3) := by decide +kernel
theorem dX5_votesFor_4 : decode cX5_votesFor 4 = .ok (.ifCond .eq 21, 3) := by decide +kernel
theorem dX5_votesFor_7 : decode cX5_votesFor 7 = .ok (.iload_n 2, 1) := by decide +kernel
theorem dX5_votesFor_8 : decode cX5_votesFor 8 = .ok (.invokestatic 52, 3) := by decide +kernel
theorem dX5_votesFor_11 : decode cX5_votesFor 11 = .ok (.ifCond .eq 14, 3) := by decide +kernel
theorem dX5_votesFor_14 : decode cX5_votesFor 14 = .ok (.aload_n 0, 1) := by decide +kernel
theorem dX5_votesFor_15 : decode cX5_votesFor 15 = .ok (.getfield 11, 3) := by decide +kernel
theorem dX5_votesFor_18 : decode cX5_votesFor 18 = .ok (.iload_n 1, 1) := by decide +kernel
theorem dX5_votesFor_19 : decode cX5_votesFor 19 = .ok (.aaload, 1) := by decide +kernel
theorem dX5_votesFor_20 : decode cX5_votesFor 20 = .ok (.iload_n 2, 1) := by decide +kernel
theorem dX5_votesFor_21 : decode cX5_votesFor 21 = .ok (.iaload, 1) := by decide +kernel
theorem dX5_votesFor_22 : decode cX5_votesFor 22 = .ok (.goto 4, 3) := by decide +kernel
theorem dX5_votesFor_25 : decode cX5_votesFor 25 = .ok (.iconst 0, 1) := by decide +kernel
theorem dX5_votesFor_26 : decode cX5_votesFor 26 = .ok (.ireturn, 1) := by decide +kernel
theorem dX5_addFirsts_0 : decode cX5_addFirsts 0 = .ok (.iconst 0, 1) := by decide +kernel
theorem dX5_addFirsts_1 : decode cX5_addFirsts 1 = .ok (.istore_n 3, 1) := by decide +kernel
theorem dX5_addFirsts_2 : decode cX5_addFirsts 2 = .ok (.iload_n 3, 1) := by decide +kernel
theorem dX5_addFirsts_3 : decode cX5_addFirsts 3 = .ok (.bipush 20, 2) := by decide +kernel
theorem dX5_addFirsts_5 : decode cX5_addFirsts 5 = .ok (.if_icmp .ge 72, 3) := by decide +kernel
theorem dX5_addFirsts_8 : decode cX5_addFirsts 8 = .ok (.iconst 0, 1) := by decide +kernel
theorem dX5_addFirsts_9 : decode cX5_addFirsts 9 = .ok (.istore 4, 2) := by decide +kernel
theorem dX5_addFirsts_11 : decode cX5_addFirsts 11 = .ok (.iload 4, 2) := by decide +kernel
theorem dX5_addFirsts_13 : decode cX5_addFirsts 13 = .ok (.iconst 5, 1) := by decide +kernel
theorem dX5_addFirsts_14 : decode cX5_addFirsts 14 = .ok (.if_icmp .ge 57, 3) := by decide +kernel
theorem dX5_addFirsts_17 : decode cX5_addFirsts 17 = .ok (.aload_n 0, 1) := by decide +kernel
theorem dX5_addFirsts_18 : decode cX5_addFirsts 18 = .ok (.getfield 20, 3) := by decide +kernel
theorem dX5_addFirsts_21 : decode cX5_addFirsts 21 = .ok (.iload_n 3, 1) := by decide +kernel
theorem dX5_addFirsts_22 : decode cX5_addFirsts 22 = .ok (.aaload, 1) := by decide +kernel
theorem dX5_addFirsts_23 : decode cX5_addFirsts 23 = .ok (.iload 4, 2) := by decide +kernel
theorem dX5_addFirsts_25 : decode cX5_addFirsts 25 = .ok (.iaload, 1) := by decide +kernel
theorem dX5_addFirsts_26 : decode cX5_addFirsts 26 = .ok (.istore 5, 2) := by decide +kernel
theorem dX5_addFirsts_28 : decode cX5_addFirsts 28 = .ok (.iload_n 1, 1) := by decide +kernel
theorem dX5_addFirsts_29 : decode cX5_addFirsts 29 = .ok (.iload 5, 2) := by decide +kernel
theorem dX5_addFirsts_31 : decode cX5_addFirsts 31 = .ok (.invokestatic 48, 3) := by decide +kernel
theorem dX5_addFirsts_34 : decode cX5_addFirsts 34 = .ok (.ifCond .eq 31, 3) := by decide +kernel
theorem dX5_addFirsts_37 : decode cX5_addFirsts 37 = .ok (.iload 5, 2) := by decide +kernel
theorem dX5_addFirsts_39 : decode cX5_addFirsts 39 = .ok (.ifCond .lt 26, 3) := by decide +kernel
theorem dX5_addFirsts_42 : decode cX5_addFirsts 42 = .ok (.iload 5, 2) := by decide +kernel
theorem dX5_addFirsts_44 : decode cX5_addFirsts 44 = .ok (.aload_n 2, 1) := by decide +kernel
theorem dX5_addFirsts_45 : decode cX5_addFirsts 45 = .ok (.arraylength, 1) := by decide +kernel
theorem dX5_addFirsts_46 : decode cX5_addFirsts 46 = .ok (.if_icmp .ge 19, 3) := by decide +kernel
theorem dX5_addFirsts_49 : decode cX5_addFirsts 49 = .ok (.aload_n 2, 1) := by decide +kernel
theorem dX5_addFirsts_50 : decode cX5_addFirsts 50 = .ok (.iload 5, 2) := by decide +kernel
theorem dX5_addFirsts_52 : decode cX5_addFirsts 52 = .ok (.dup2, 1) := by decide +kernel
theorem dX5_addFirsts_53 : decode cX5_addFirsts 53 = .ok (.iaload, 1) := by decide +kernel
theorem dX5_addFirsts_54 : decode cX5_addFirsts 54 = .ok (.aload_n 0, 1) := by decide +kernel
theorem dX5_addFirsts_55 : decode cX5_addFirsts 55 = .ok (.getfield 16, 3) := by decide +kernel
theorem dX5_addFirsts_58 : decode cX5_addFirsts 58 = .ok (.iload_n 3, 1) := by decide +kernel
theorem dX5_addFirsts_59 : decode cX5_addFirsts 59 = .ok (.iaload, 1) := by decide +kernel
theorem dX5_addFirsts_60 : decode cX5_addFirsts 60 = .ok (.iadd, 1) := by decide +kernel
theorem dX5_addFirsts_61 : decode cX5_addFirsts 61 = .ok (.iastore, 1) := by decide +kernel
theorem dX5_addFirsts_62 : decode cX5_addFirsts 62 = .ok (.goto 9, 3) := by decide +kernel
theorem dX5_addFirsts_65 : decode cX5_addFirsts 65 = .ok (.iinc 4 1, 3) := by decide +kernel
theorem dX5_addFirsts_68 : decode cX5_addFirsts 68 = .ok (.goto (-57), 3) := by decide +kernel
theorem dX5_addFirsts_71 : decode cX5_addFirsts 71 = .ok (.iinc 3 1, 3) := by decide +kernel
theorem dX5_addFirsts_74 : decode cX5_addFirsts 74 = .ok (.goto (-72), 3) := by decide +kernel
theorem dX5_addFirsts_77 : decode cX5_addFirsts 77 = .ok (.return_, 1) := by decide +kernel
theorem dX5_addLasts_0 : decode cX5_addLasts 0 = .ok (.iconst 0, 1) := by decide +kernel
theorem dX5_addLasts_1 : decode cX5_addLasts 1 = .ok (.istore_n 3, 1) := by decide +kernel
theorem dX5_addLasts_2 : decode cX5_addLasts 2 = .ok (.iload_n 3, 1) := by decide +kernel
theorem dX5_addLasts_3 : decode cX5_addLasts 3 = .ok (.bipush 20, 2) := by decide +kernel
theorem dX5_addLasts_5 : decode cX5_addLasts 5 = .ok (.if_icmp .ge 127, 3) := by decide +kernel
theorem dX5_addLasts_8 : decode cX5_addLasts 8 = .ok (.iconst (-1), 1) := by decide +kernel
theorem dX5_addLasts_9 : decode cX5_addLasts 9 = .ok (.istore 4, 2) := by decide +kernel
theorem dX5_addLasts_11 : decode cX5_addLasts 11 = .ok (.iload_n 1, 1) := by decide +kernel
theorem dX5_addLasts_12 : decode cX5_addLasts 12 = .ok (.istore 5, 2) := by decide +kernel
theorem dX5_addLasts_14 : decode cX5_addLasts 14 = .ok (.iconst 0, 1) := by decide +kernel
theorem dX5_addLasts_15 : decode cX5_addLasts 15 = .ok (.istore 6, 2) := by decide +kernel
theorem dX5_addLasts_17 : decode cX5_addLasts 17 = .ok (.iload 6, 2) := by decide +kernel
theorem dX5_addLasts_19 : decode cX5_addLasts 19 = .ok (.iconst 5, 1) := by decide +kernel
theorem dX5_addLasts_20 : decode cX5_addLasts 20 = .ok (.if_icmp .ge 47, 3) := by decide +kernel
theorem dX5_addLasts_23 : decode cX5_addLasts 23 = .ok (.aload_n 0, 1) := by decide +kernel
theorem dX5_addLasts_24 : decode cX5_addLasts 24 = .ok (.getfield 20, 3) := by decide +kernel
theorem dX5_addLasts_27 : decode cX5_addLasts 27 = .ok (.iload_n 3, 1) := by decide +kernel
theorem dX5_addLasts_28 : decode cX5_addLasts 28 = .ok (.aaload, 1) := by decide +kernel
theorem dX5_addLasts_29 : decode cX5_addLasts 29 = .ok (.iload 6, 2) := by decide +kernel
theorem dX5_addLasts_31 : decode cX5_addLasts 31 = .ok (.iaload, 1) := by decide +kernel
theorem dX5_addLasts_32 : decode cX5_addLasts 32 = .ok (.istore 7, 2) := by decide +kernel
theorem dX5_addLasts_34 : decode cX5_addLasts 34 = .ok (.iload_n 1, 1) := by decide +kernel
theorem dX5_addLasts_35 : decode cX5_addLasts 35 = .ok (.iload 7, 2) := by decide +kernel
theorem dX5_addLasts_37 : decode cX5_addLasts 37 = .ok (.invokestatic 48, 3) := by decide +kernel
theorem dX5_addLasts_40 : decode cX5_addLasts 40 = .ok (.ifCond .eq 8, 3) := by decide +kernel
theorem dX5_addLasts_43 : decode cX5_addLasts 43 = .ok (.iload 7, 2) := by decide +kernel
theorem dX5_addLasts_45 : decode cX5_addLasts 45 = .ok (.goto 5, 3) := by decide +kernel
theorem dX5_addLasts_48 : decode cX5_addLasts 48 = .ok (.iload 4, 2) := by decide +kernel
theorem dX5_addLasts_50 : decode cX5_addLasts 50 = .ok (.istore 4, 2) := by decide +kernel
theorem dX5_addLasts_52 : decode cX5_addLasts 52 = .ok (.iload 5, 2) := by decide +kernel
theorem dX5_addLasts_54 : decode cX5_addLasts 54 = .ok (.iload 7, 2) := by decide +kernel
theorem dX5_addLasts_56 : decode cX5_addLasts 56 = .ok (.invokestatic 43, 3) := by decide +kernel
theorem dX5_addLasts_59 : decode cX5_addLasts 59 = .ok (.istore 5, 2) := by decide +kernel
theorem dX5_addLasts_61 : decode cX5_addLasts 61 = .ok (.iinc 6 1, 3) := by decide +kernel
theorem dX5_addLasts_64 : decode cX5_addLasts 64 = .ok (.goto (-47), 3) := by decide +kernel
theorem dX5_addLasts_67 : decode cX5_addLasts 67 = .ok (.iconst 0, 1) := by decide +kernel
theorem dX5_addLasts_68 : decode cX5_addLasts 68 = .ok (.istore 6, 2) := by decide +kernel
theorem dX5_addLasts_70 : decode cX5_addLasts 70 = .ok (.iload 6, 2) := by decide +kernel
theorem dX5_addLasts_72 : decode cX5_addLasts 72 = .ok (.iconst 5, 1) := by decide +kernel
theorem dX5_addLasts_73 : decode cX5_addLasts 73 = .ok (.if_icmp .ge 28, 3) := by decide +kernel
theorem dX5_addLasts_76 : decode cX5_addLasts 76 = .ok (.iload 5, 2) := by decide +kernel
theorem dX5_addLasts_78 : decode cX5_addLasts 78 = .ok (.iload 6, 2) := by decide +kernel
theorem dX5_addLasts_80 : decode cX5_addLasts 80 = .ok (.invokestatic 48, 3) := by decide +kernel
theorem dX5_addLasts_83 : decode cX5_addLasts 83 = .ok (.ifCond .eq 8, 3) := by decide +kernel
theorem dX5_addLasts_86 : decode cX5_addLasts 86 = .ok (.iload 6, 2) := by decide +kernel
theorem dX5_addLasts_88 : decode cX5_addLasts 88 = .ok (.goto 5, 3) := by decide +kernel
theorem dX5_addLasts_91 : decode cX5_addLasts 91 = .ok (.iload 4, 2) := by decide +kernel
theorem dX5_addLasts_93 : decode cX5_addLasts 93 = .ok (.istore 4, 2) := by decide +kernel
theorem dX5_addLasts_95 : decode cX5_addLasts 95 = .ok (.iinc 6 1, 3) := by decide +kernel
theorem dX5_addLasts_98 : decode cX5_addLasts 98 = .ok (.goto (-28), 3) := by decide +kernel
theorem dX5_addLasts_101 : decode cX5_addLasts 101 = .ok (.iload 4, 2) := by decide +kernel
theorem dX5_addLasts_103 : decode cX5_addLasts 103 = .ok (.ifCond .lt 23, 3) := by decide +kernel
theorem dX5_addLasts_106 : decode cX5_addLasts 106 = .ok (.iload 4, 2) := by decide +kernel
theorem dX5_addLasts_108 : decode cX5_addLasts 108 = .ok (.aload_n 2, 1) := by decide +kernel
theorem dX5_addLasts_109 : decode cX5_addLasts 109 = .ok (.arraylength, 1) := by decide +kernel
theorem dX5_addLasts_110 : decode cX5_addLasts 110 = .ok (.if_icmp .ge 16, 3) := by decide +kernel
theorem dX5_addLasts_113 : decode cX5_addLasts 113 = .ok (.aload_n 2, 1) := by decide +kernel
theorem dX5_addLasts_114 : decode cX5_addLasts 114 = .ok (.iload 4, 2) := by decide +kernel
theorem dX5_addLasts_116 : decode cX5_addLasts 116 = .ok (.dup2, 1) := by decide +kernel
theorem dX5_addLasts_117 : decode cX5_addLasts 117 = .ok (.iaload, 1) := by decide +kernel
theorem dX5_addLasts_118 : decode cX5_addLasts 118 = .ok (.aload_n 0, 1) := by decide +kernel
theorem dX5_addLasts_119 : decode cX5_addLasts 119 = .ok (.getfield 16, 3) := by decide +kernel
theorem dX5_addLasts_122 : decode cX5_addLasts 122 = .ok (.iload_n 3, 1) := by decide +kernel
theorem dX5_addLasts_123 : decode cX5_addLasts 123 = .ok (.iaload, 1) := by decide +kernel
theorem dX5_addLasts_124 : decode cX5_addLasts 124 = .ok (.iadd, 1) := by decide +kernel
theorem dX5_addLasts_125 : decode cX5_addLasts 125 = .ok (.iastore, 1) := by decide +kernel
theorem dX5_addLasts_126 : decode cX5_addLasts 126 = .ok (.iinc 3 1, 3) := by decide +kernel
theorem dX5_addLasts_129 : decode cX5_addLasts 129 = .ok (.goto (-127), 3) := by decide +kernel
theorem dX5_addLasts_132 : decode cX5_addLasts 132 = .ok (.return_, 1) := by decide +kernel
theorem dX5_addPlace_0 : decode cX5_addPlace 0 = .ok (.iconst 0, 1) := by decide +kernel
theorem dX5_addPlace_1 : decode cX5_addPlace 1 = .ok (.istore_n 3, 1) := by decide +kernel
theorem dX5_addPlace_2 : decode cX5_addPlace 2 = .ok (.iload_n 3, 1) := by decide +kernel
theorem dX5_addPlace_3 : decode cX5_addPlace 3 = .ok (.bipush 20, 2) := by decide +kernel
theorem dX5_addPlace_5 : decode cX5_addPlace 5 = .ok (.if_icmp .ge 53, 3) := by decide +kernel
theorem dX5_addPlace_8 : decode cX5_addPlace 8 = .ok (.iload_n 1, 1) := by decide +kernel
theorem dX5_addPlace_9 : decode cX5_addPlace 9 = .ok (.ifCond .lt 49, 3) := by decide +kernel
theorem dX5_addPlace_12 : decode cX5_addPlace 12 = .ok (.iload_n 1, 1) := by decide +kernel
theorem dX5_addPlace_13 : decode cX5_addPlace 13 = .ok (.iconst 5, 1) := by decide +kernel
theorem dX5_addPlace_14 : decode cX5_addPlace 14 = .ok (.if_icmp .ge 44, 3) := by decide +kernel
theorem dX5_addPlace_17 : decode cX5_addPlace 17 = .ok (.aload_n 0, 1) := by decide +kernel
theorem dX5_addPlace_18 : decode cX5_addPlace 18 = .ok (.getfield 20, 3) := by decide +kernel
theorem dX5_addPlace_21 : decode cX5_addPlace 21 = .ok (.iload_n 3, 1) := by decide +kernel
theorem dX5_addPlace_22 : decode cX5_addPlace 22 = .ok (.aaload, 1) := by decide +kernel
theorem dX5_addPlace_23 : decode cX5_addPlace 23 = .ok (.iload_n 1, 1) := by decide +kernel
theorem dX5_addPlace_24 : decode cX5_addPlace 24 = .ok (.iaload, 1) := by decide +kernel
theorem dX5_addPlace_25 : decode cX5_addPlace 25 = .ok (.istore 4, 2) := by decide +kernel
theorem dX5_addPlace_27 : decode cX5_addPlace 27 = .ok (.iload 4, 2) := by decide +kernel
theorem dX5_addPlace_29 : decode cX5_addPlace 29 = .ok (.ifCond .lt 23, 3) := by decide +kernel
theorem dX5_addPlace_32 : decode cX5_addPlace 32 = .ok (.iload 4, 2) := by decide +kernel
theorem dX5_addPlace_34 : decode cX5_addPlace 34 = .ok (.aload_n 2, 1) := by decide +kernel
theorem dX5_addPlace_35 : decode cX5_addPlace 35 = .ok (.arraylength, 1) := by decide +kernel
theorem dX5_addPlace_36 : decode cX5_addPlace 36 = .ok (.if_icmp .ge 16, 3) := by decide +kernel
theorem dX5_addPlace_39 : decode cX5_addPlace 39 = .ok (.aload_n 2, 1) := by decide +kernel
theorem dX5_addPlace_40 : decode cX5_addPlace 40 = .ok (.iload 4, 2) := by decide +kernel
theorem dX5_addPlace_42 : decode cX5_addPlace 42 = .ok (.dup2, 1) := by decide +kernel
theorem dX5_addPlace_43 : decode cX5_addPlace 43 = .ok (.iaload, 1) := by decide +kernel
theorem dX5_addPlace_44 : decode cX5_addPlace 44 = .ok (.aload_n 0, 1) := by decide +kernel
theorem dX5_addPlace_45 : decode cX5_addPlace 45 = .ok (.getfield 16, 3) := by decide +kernel
theorem dX5_addPlace_48 : decode cX5_addPlace 48 = .ok (.iload_n 3, 1) := by decide +kernel
theorem dX5_addPlace_49 : decode cX5_addPlace 49 = .ok (.iaload, 1) := by decide +kernel
theorem dX5_addPlace_50 : decode cX5_addPlace 50 = .ok (.iadd, 1) := by decide +kernel
theorem dX5_addPlace_51 : decode cX5_addPlace 51 = .ok (.iastore, 1) := by decide +kernel
theorem dX5_addPlace_52 : decode cX5_addPlace 52 = .ok (.iinc 3 1, 3) := by decide +kernel
theorem dX5_addPlace_55 : decode cX5_addPlace 55 = .ok (.goto (-53), 3) := by decide +kernel
theorem dX5_addPlace_58 : decode cX5_addPlace 58 = .ok (.return_, 1) := by decide +kernel
theorem dX6_init_0 : decode cX6_init 0 = .ok (.aload_n 0, 1) := by decide +kernel
theorem dX6_init_1 : decode cX6_init 1 = .ok (.invokespecial 3, 3) := by decide +kernel
theorem dX6_init_4 : decode cX6_init 4 = .ok (.aload_n 0, 1) := by decide +kernel
theorem dX6_init_5 : decode cX6_init 5 = .ok (.iconst 5, 1) := by decide +kernel
theorem dX6_init_6 : decode cX6_init 6 = .ok (.newarray .int, 2) := by decide +kernel
theorem dX6_init_8 : decode cX6_init 8 = .ok (.putfield 9, 3) := by decide +kernel
theorem dX6_init_11 : decode cX6_init 11 = .ok (.aload_n 0, 1) := by decide +kernel
theorem dX6_init_12 : decode cX6_init 12 = .ok (.iconst 5, 1) := by decide +kernel
theorem dX6_init_13 : decode cX6_init 13 = .ok (.newarray .int, 2) := by decide +kernel
theorem dX6_init_15 : decode cX6_init 15 = .ok (.putfield 15, 3) := by decide +kernel
theorem dX6_init_18 : decode cX6_init 18 = .ok (.aload_n 0, 1) := by decide +kernel
theorem dX6_init_19 : decode cX6_init 19 = .ok (.iconst 5, 1) := by decide +kernel
theorem dX6_init_20 : decode cX6_init 20 = .ok (.iconst 5, 1) := by decide +kernel
theorem dX6_init_21 : decode cX6_init 21 = .ok (.multianewarray 18 2, 4) := by decide +kernel
theorem dX6_init_25 : decode cX6_init 25 = .ok (.putfield 20, 3) := by decide +kernel
theorem dX6_init_28 : decode cX6_init 28 = .ok (.aload_n 0, 1) := by decide +kernel
theorem dX6_init_29 : decode cX6_init 29 = .ok (.iconst 5, 1) := by decide +kernel
theorem dX6_init_30 : decode cX6_init 30 = .ok (.newarray .int, 2) := by decide +kernel
theorem dX6_init_32 : decode cX6_init 32 = .ok (.putfield 23, 3) := by decide +kernel
theorem dX6_init_35 : decode cX6_init 35 = .ok (.return_, 1) := by decide +kernel
theorem dX6_play_0 : decode cX6_play 0 = .ok (.aload_n 2, 1) := by decide +kernel
theorem dX6_play_1 : decode cX6_play 1 = .ok (.getfield 37, 3) := by decide +kernel
theorem dX6_play_4 : decode cX6_play 4 = .ok (.istore_n 3, 1) := by decide +kernel
theorem dX6_play_5 : decode cX6_play 5 = .ok (.aload_n 0, 1) := by decide +kernel
theorem dX6_play_6 : decode cX6_play 6 = .ok (.iconst 0, 1) := by decide +kernel
theorem dX6_play_7 : decode cX6_play 7 = .ok (.putfield 26, 3) := by decide +kernel
theorem dX6_play_10 : decode cX6_play 10 = .ok (.iconst 0, 1) := by decide +kernel
theorem dX6_play_11 : decode cX6_play 11 = .ok (.istore 4, 2) := by decide +kernel
theorem dX6_play_13 : decode cX6_play 13 = .ok (.iload 4, 2) := by decide +kernel
theorem dX6_play_15 : decode cX6_play 15 = .ok (.iconst 5, 1) := by decide +kernel
theorem dX6_play_16 : decode cX6_play 16 = .ok (.if_icmp .ge 147, 3) := by decide +kernel
theorem dX6_play_19 : decode cX6_play 19 = .ok (.iload_n 3, 1) := by decide +kernel
theorem dX6_play_20 : decode cX6_play 20 = .ok (.invokestatic 42, 3) := by decide +kernel
theorem dX6_play_23 : decode cX6_play 23 = .ok (.iconst 1, 1) := by decide +kernel
theorem dX6_play_24 : decode cX6_play 24 = .ok (.if_icmp .le 139, 3) := by decide +kernel
theorem dX6_play_27 : decode cX6_play 27 = .ok (.iload_n 1, 1) := by decide +kernel
theorem dX6_play_28 : decode cX6_play 28 = .ok (.bipush 7, 2) := by decide +kernel
theorem dX6_play_30 : decode cX6_play 30 = .ok (.if_icmp .ne 36, 3) := by decide +kernel
theorem dX6_play_33 : decode cX6_play 33 = .ok (.aload_n 0, 1) := by decide +kernel
theorem dX6_play_34 : decode cX6_play 34 = .ok (.getfield 23, 3) := by decide +kernel
theorem dX6_play_37 : decode cX6_play 37 = .ok (.invokestatic 48, 3) := by decide +kernel
theorem dX6_play_40 : decode cX6_play 40 = .ok (.aload_n 2, 1) := by decide +kernel
theorem dX6_play_41 : decode cX6_play 41 = .ok (.iload_n 3, 1) := by decide +kernel
theorem dX6_play_42 : decode cX6_play 42 = .ok (.aload_n 0, 1) := by decide +kernel
theorem dX6_play_43 : decode cX6_play 43 = .ok (.getfield 23, 3) := by decide +kernel
theorem dX6_play_46 : decode cX6_play 46 = .ok (.invokevirtual 52, 3) := by decide +kernel
theorem dX6_play_49 : decode cX6_play 49 = .ok (.aload_n 0, 1) := by decide +kernel
theorem dX6_play_50 : decode cX6_play 50 = .ok (.invokevirtual 56, 3) := by decide +kernel
theorem dX6_play_53 : decode cX6_play 53 = .ok (.istore 5, 2) := by decide +kernel
theorem dX6_play_55 : decode cX6_play 55 = .ok (.iload 5, 2) := by decide +kernel
theorem dX6_play_57 : decode cX6_play 57 = .ok (.iconst (-1), 1) := by decide +kernel
theorem dX6_play_58 : decode cX6_play 58 = .ok (.if_icmp .eq 8, 3) := by decide +kernel
theorem dX6_play_61 : decode cX6_play 61 = .ok (.iconst 1, 1) := by decide +kernel
theorem dX6_play_62 : decode cX6_play 62 = .ok (.iload 5, 2) := by decide +kernel
theorem dX6_play_64 : decode cX6_play 64 = .ok (.ishl, 1) := by decide +kernel
theorem dX6_play_65 : decode cX6_play 65 = .ok (.ireturn, 1) := by decide +kernel
theorem dX6_play_66 : decode cX6_play 66 = .ok (.aload_n 0, 1) := by decide +kernel
theorem dX6_play_67 : decode cX6_play 67 = .ok (.getfield 20, 3) := by decide +kernel
theorem dX6_play_70 : decode cX6_play 70 = .ok (.iload 4, 2) := by decide +kernel
theorem dX6_play_72 : decode cX6_play 72 = .ok (.aaload, 1) := by decide +kernel
theorem dX6_play_73 : decode cX6_play 73 = .ok (.astore 5, 2) := by decide +kernel
theorem dX6_play_75 : decode cX6_play 75 = .ok (.aload 5, 2) := by decide +kernel
theorem dX6_play_77 : decode cX6_play 77 = .ok (.invokestatic 48, 3) := by decide +kernel
theorem dX6_play_80 : decode cX6_play 80 = .ok (.iload_n 1, 1) := by decide +kernel
theorem dX6_play_81 : decode cX6_play 81 = .ok (.bipush 7, 2) := by decide +kernel
theorem dX6_play_83 : decode cX6_play 83 = .ok (.if_icmp .ne 26, 3) := by decide +kernel
theorem dX6_play_86 : decode cX6_play 86 = .ok (.aload_n 2, 1) := by decide +kernel
theorem dX6_play_87 : decode cX6_play 87 = .ok (.iload_n 3, 1) := by decide +kernel
theorem dX6_play_88 : decode cX6_play 88 = .ok (.aload 5, 2) := by decide +kernel
theorem dX6_play_90 : decode cX6_play 90 = .ok (.invokevirtual 60, 3) := by decide +kernel
theorem dX6_play_93 : decode cX6_play 93 = .ok (.aload_n 0, 1) := by decide +kernel
theorem dX6_play_94 : decode cX6_play 94 = .ok (.getfield 9, 3) := by decide +kernel
theorem dX6_play_97 : decode cX6_play 97 = .ok (.iload 4, 2) := by decide +kernel
theorem dX6_play_99 : decode cX6_play 99 = .ok (.aload 5, 2) := by decide +kernel
theorem dX6_play_101 : decode cX6_play 101 = .ok (.iload_n 3, 1) := by decide +kernel
theorem dX6_play_102 : decode cX6_play 102 = .ok (.invokestatic 63, 3) := by decide +kernel
theorem dX6_play_105 : decode cX6_play 105 = .ok (.iastore, 1) := by decide +kernel
theorem dX6_play_106 : decode cX6_play 106 = .ok (.goto 23, 3) := by decide +kernel
theorem dX6_play_109 : decode cX6_play 109 = .ok (.aload_n 2, 1) := by decide +kernel
theorem dX6_play_110 : decode cX6_play 110 = .ok (.iload_n 3, 1) := by decide +kernel
theorem dX6_play_111 : decode cX6_play 111 = .ok (.aload 5, 2) := by decide +kernel
theorem dX6_play_113 : decode cX6_play 113 = .ok (.invokevirtual 52, 3) := by decide +kernel
theorem dX6_play_116 : decode cX6_play 116 = .ok (.aload_n 0, 1) := by decide +kernel
theorem dX6_play_117 : decode cX6_play 117 = .ok (.getfield 9, 3) := by decide +kernel
theorem dX6_play_120 : decode cX6_play 120 = .ok (.iload 4, 2) := by decide +kernel
theorem dX6_play_122 : decode cX6_play 122 = .ok (.aload 5, 2) := by decide +kernel
theorem dX6_play_124 : decode cX6_play 124 = .ok (.iload_n 3, 1) := by decide +kernel
theorem dX6_play_125 : decode cX6_play 125 = .ok (.invokestatic 67, 3) := by decide +kernel
theorem dX6_play_128 : decode cX6_play 128 = .ok (.iastore, 1) := by decide +kernel
theorem dX6_play_129 : decode cX6_play 129 = .ok (.aload_n 0, 1) := by decide +kernel
theorem dX6_play_130 : decode cX6_play 130 = .ok (.getfield 15, 3) := by decide +kernel
theorem dX6_play_133 : decode cX6_play 133 = .ok (.iload 4, 2) := by decide +kernel
theorem dX6_play_135 : decode cX6_play 135 = .ok (.iload_n 3, 1) := by decide +kernel
theorem dX6_play_136 : decode cX6_play 136 = .ok (.iastore, 1) := by decide +kernel
theorem dX6_play_137 : decode cX6_play 137 = .ok (.iload_n 3, 1) := by decide +kernel
theorem dX6_play_138 : decode cX6_play 138 = .ok (.aload_n 0, 1) := by decide +kernel
theorem dX6_play_139 : decode cX6_play 139 = .ok (.getfield 9, 3) := by decide +kernel
theorem dX6_play_142 : decode cX6_play 142 = .ok (.iload 4, 2) := by decide +kernel
theorem dX6_play_144 : decode cX6_play 144 = .ok (.iaload, 1) := by decide +kernel
theorem dX6_play_145 : decode cX6_play 145 = .ok (.invokestatic 70, 3) := by decide +kernel
theorem dX6_play_148 : decode cX6_play 148 = .ok (.istore_n 3, 1) := by decide +kernel
theorem dX6_play_149 : decode cX6_play 149 = .ok (.aload_n 0, 1) := by decide +kernel
theorem dX6_play_150 : decode cX6_play 150 = .ok (.iload 4, 2) := by decide +kernel
theorem dX6_play_152 : decode cX6_play 152 = .ok (.iconst 1, 1) := by decide +kernel
theorem dX6_play_153 : decode cX6_play 153 = .ok (.iadd, 1) := by decide +kernel
theorem dX6_play_154 : decode cX6_play 154 = .ok (.putfield 26, 3) := by decide +kernel
theorem dX6_play_157 : decode cX6_play 157 = .ok (.iinc 4 1, 3) := by decide +kernel
theorem dX6_play_160 : decode cX6_play 160 = .ok (.goto (-147), 3) := by decide +kernel
theorem dX6_play_163 : decode cX6_play 163 = .ok (.iload_n 3, 1) := by decide +kernel
theorem dX6_play_164 : decode cX6_play 164 = .ok (.ireturn, 1) := by decide +kernel
theorem dX6_majority_0 : decode cX6_majority 0 = .ok (.iconst 0, 1) := by decide +kernel
theorem dX6_majority_1 : decode cX6_majority 1 = .ok (.istore_n 1, 1) := by decide +kernel
theorem dX6_majority_2 : decode cX6_majority 2 = .ok (.iconst 0, 1) := by decide +kernel
theorem dX6_majority_3 : decode cX6_majority 3 = .ok (.istore_n 2, 1) := by decide +kernel
theorem dX6_majority_4 : decode cX6_majority 4 = .ok (.iload_n 2, 1) := by decide +kernel
theorem dX6_majority_5 : decode cX6_majority 5 = .ok (.aload_n 0, 1) := by decide +kernel
theorem dX6_majority_6 : decode cX6_majority 6 = .ok (.getfield 23, 3) := by decide +kernel
theorem dX6_majority_9 : decode cX6_majority 9 = .ok (.arraylength, 1) := by decide +kernel
theorem dX6_majority_10 : decode cX6_majority 10 = .ok (.if_icmp .ge 18, 3) := by decide +kernel
theorem dX6_majority_13 : decode cX6_majority 13 = .ok (.iload_n 1, 1) := by decide +kernel
theorem dX6_majority_14 : decode cX6_majority 14 = .ok (.aload_n 0, 1) := by decide +kernel
theorem dX6_majority_15 : decode cX6_majority 15 = .ok (.getfield 23, 3) := by decide +kernel
theorem dX6_majority_18 : decode cX6_majority 18 = .ok (.iload_n 2, 1) := by decide +kernel
theorem dX6_majority_19 : decode cX6_majority 19 = .ok (.iaload, 1) := by decide +kernel
theorem dX6_majority_20 : decode cX6_majority 20 = .ok (.iadd, 1) := by decide +kernel
theorem dX6_majority_21 : decode cX6_majority 21 = .ok (.istore_n 1, 1) := by decide +kernel
theorem dX6_majority_22 : decode cX6_majority 22 = .ok (.iinc 2 1, 3) := by decide +kernel
theorem dX6_majority_25 : decode cX6_majority 25 = .ok (.goto (-21), 3) := by decide +kernel
theorem dX6_majority_28 : decode cX6_majority 28 = .ok (.iconst 0, 1) := by decide +kernel
theorem dX6_majority_29 : decode cX6_majority 29 = .ok (.istore_n 2, 1) := by decide +kernel
theorem dX6_majority_30 : decode cX6_majority 30 = .ok (.iload_n 2, 1) := by decide +kernel
theorem dX6_majority_31 : decode cX6_majority 31 = .ok (.aload_n 0, 1) := by decide +kernel
theorem dX6_majority_32 : decode cX6_majority 32 = .ok (.getfield 23, 3) := by decide +kernel
theorem dX6_majority_35 : decode cX6_majority 35 = .ok (.arraylength, 1) := by decide +kernel
theorem dX6_majority_36 : decode cX6_majority 36 = .ok (.if_icmp .ge 23, 3) := by decide +kernel
theorem dX6_majority_39 : decode cX6_majority 39 = .ok (.iconst 2, 1) := by decide +kernel
theorem dX6_majority_40 : decode cX6_majority 40 = .ok (.aload_n 0, 1) := by decide +kernel
theorem dX6_majority_41 : decode cX6_majority 41 = .ok (.getfield 23, 3) := by decide +kernel
theorem dX6_majority_44 : decode cX6_majority 44 = .ok (.iload_n 2, 1) := by decide +kernel
theorem dX6_majority_45 : decode cX6_majority 45 = .ok (.iaload, 1) := by decide +kernel
theorem dX6_majority_46 : decode cX6_majority 46 = .ok (.imul, 1) := by decide +kernel
theorem dX6_majority_47 : decode cX6_majority 47 = .ok (.iload_n 1, 1) := by decide +kernel
theorem dX6_majority_48 : decode cX6_majority 48 = .ok (.if_icmp .le 5, 3) := by decide +kernel
theorem dX6_majority_51 : decode cX6_majority 51 = .ok (.iload_n 2, 1) := by decide +kernel
theorem dX6_majority_52 : decode cX6_majority 52 = .ok (.ireturn, 1) := by decide +kernel
theorem dX6_majority_53 : decode cX6_majority 53 = .ok (.iinc 2 1, 3) := by decide +kernel
theorem dX6_majority_56 : decode cX6_majority 56 = .ok (.goto (-26), 3) := by decide +kernel
theorem dX6_majority_59 : decode cX6_majority 59 = .ok (.iconst (-1), 1) := by decide +kernel
theorem dX6_majority_60 : decode cX6_majority 60 = .ok (.ireturn, 1) := by decide +kernel
theorem dX6_clear_0 : decode cX6_clear 0 = .ok (.iconst 0, 1) := by decide +kernel
theorem dX6_clear_1 : decode cX6_clear 1 = .ok (.istore_n 1, 1) := by decide +kernel
theorem dX6_clear_2 : decode cX6_clear 2 = .ok (.iload_n 1, 1) := by decide +kernel
theorem dX6_clear_3 : decode cX6_clear 3 = .ok (.aload_n 0, 1) := by decide +kernel
theorem dX6_clear_4 : decode cX6_clear 4 = .ok (.arraylength, 1) := by decide +kernel
theorem dX6_clear_5 : decode cX6_clear 5 = .ok (.if_icmp .ge 13, 3) := by decide +kernel
theorem dX6_clear_8 : decode cX6_clear 8 = .ok (.aload_n 0, 1) := by decide +kernel
theorem dX6_clear_9 : decode cX6_clear 9 = .ok (.iload_n 1, 1) := by decide +kernel
theorem dX6_clear_10 : decode cX6_clear 10 = .ok (.iconst 0, 1) := by decide +kernel
theorem dX6_clear_11 : decode cX6_clear 11 = .ok (.iastore, 1) := by decide +kernel
theorem dX6_clear_12 : decode cX6_clear 12 = .ok (.iinc 1 1, 3) := by decide +kernel
theorem dX6_clear_15 : decode cX6_clear 15 = .ok (.goto (-13), 3) := by decide +kernel
theorem dX6_clear_18 : decode cX6_clear 18 = .ok (.return_, 1) := by decide +kernel
theorem dX6_smallest_0 : decode cX6_smallest 0 = .ok (.iconst (-1), 1) := by decide +kernel
theorem dX6_smallest_1 : decode cX6_smallest 1 = .ok (.istore_n 2, 1) := by decide +kernel
theorem dX6_smallest_2 : decode cX6_smallest 2 = .ok (.iconst 0, 1) := by decide +kernel
theorem dX6_smallest_3 : decode cX6_smallest 3 = .ok (.istore_n 3, 1) := by decide +kernel
theorem dX6_smallest_4 : decode cX6_smallest 4 = .ok (.iconst 0, 1) := by decide +kernel
theorem dX6_smallest_5 : decode cX6_smallest 5 = .ok (.istore 4, 2) := by decide +kernel
theorem dX6_smallest_7 : decode cX6_smallest 7 = .ok (.iload 4, 2) := by decide +kernel
theorem dX6_smallest_9 : decode cX6_smallest 9 = .ok (.aload_n 0, 1) := by decide +kernel
theorem dX6_smallest_10 : decode cX6_smallest 10 = .ok (.arraylength, 1) := by decide +kernel
theorem dX6_smallest_11 : decode cX6_smallest 11 = .ok (.if_icmp .ge 39, 3) := by decide +kernel
theorem dX6_smallest_14 : decode cX6_smallest 14 = .ok (.iload_n 1, 1) := by decide +kernel
theorem dX6_smallest_15 : decode cX6_smallest 15 = .ok (.iload 4, 2) := by decide +kernel
theorem dX6_smallest_17 : decode cX6_smallest 17 = .ok (.invokestatic 30, 3) := by decide +kernel
theorem dX6_smallest_20 : decode cX6_smallest 20 = .ok (.ifCond .eq 24, 3) := by decide +kernel
theorem dX6_smallest_23 : decode cX6_smallest 23 = .ok (.iload_n 2, 1) := by decide +kernel
theorem dX6_smallest_24 : decode cX6_smallest 24 = .ok (.iconst (-1), 1) := by decide +kernel
theorem dX6_smallest_25 : decode cX6_smallest 25 = .ok (.if_icmp .eq 11, 3) := by decide +kernel
theorem dX6_smallest_28 : decode cX6_smallest 28 = .ok (.aload_n 0, 1) := by decide +kernel
theorem dX6_smallest_29 : decode cX6_smallest 29 = .ok (.iload 4, 2) := by decide +kernel
theorem dX6_smallest_31 : decode cX6_smallest 31 = .ok (.iaload, 1) := by decide +kernel
theorem dX6_smallest_32 : decode cX6_smallest 32 = .ok (.iload_n 3, 1) := by decide +kernel
theorem dX6_smallest_33 : decode cX6_smallest 33 = .ok (.if_icmp .gt 11, 3) := by decide +kernel
theorem dX6_smallest_36 : decode cX6_smallest 36 = .ok (.iload 4, 2) := by decide +kernel
theorem dX6_smallest_38 : decode cX6_smallest 38 = .ok (.istore_n 2, 1) := by decide +kernel
theorem dX6_smallest_39 : decode cX6_smallest 39 = .ok (.aload_n 0, 1) := by decide +kernel
theorem dX6_smallest_40 : decode cX6_smallest 40 = .ok (.iload 4, 2) := by decide +kernel
theorem dX6_smallest_42 : decode cX6_smallest 42 = .ok (.iaload, 1) := by decide +kernel
theorem dX6_smallest_43 : decode cX6_smallest 43 = .ok (.istore_n 3, 1) := by decide +kernel
theorem dX6_smallest_44 : decode cX6_smallest 44 = .ok (.iinc 4 1, 3) := by decide +kernel
theorem dX6_smallest_47 : decode cX6_smallest 47 = .ok (.goto (-40), 3) := by decide +kernel
theorem dX6_smallest_50 : decode cX6_smallest 50 = .ok (.iload_n 2, 1) := by decide +kernel
theorem dX6_smallest_51 : decode cX6_smallest 51 = .ok (.ireturn, 1) := by decide +kernel
theorem dX6_greatest_0 : decode cX6_greatest 0 = .ok (.iconst (-1), 1) := by decide +kernel
theorem dX6_greatest_1 : decode cX6_greatest 1 = .ok (.istore_n 2, 1) := by decide +kernel
theorem dX6_greatest_2 : decode cX6_greatest 2 = .ok (.iconst 0, 1) := by decide +kernel
theorem dX6_greatest_3 : decode cX6_greatest 3 = .ok (.istore_n 3, 1) := by decide +kernel
theorem dX6_greatest_4 : decode cX6_greatest 4 = .ok (.iconst 0, 1) := by decide +kernel
theorem dX6_greatest_5 : decode cX6_greatest 5 = .ok (.istore 4, 2) := by decide +kernel
theorem dX6_greatest_7 : decode cX6_greatest 7 = .ok (.iload 4, 2) := by decide +kernel
theorem dX6_greatest_9 : decode cX6_greatest 9 = .ok (.aload_n 0, 1) := by decide +kernel
theorem dX6_greatest_10 : decode cX6_greatest 10 = .ok (.arraylength, 1) := by decide +kernel
theorem dX6_greatest_11 : decode cX6_greatest 11 = .ok (.if_icmp .ge 34, 3) := by decide +kernel
theorem dX6_greatest_14 : decode cX6_greatest 14 = .ok (.iload_n 1, 1) := by decide +kernel
theorem dX6_greatest_15 : decode cX6_greatest 15 = .ok (.iload 4, 2) := by decide +kernel
theorem dX6_greatest_17 : decode cX6_greatest 17 = .ok (.invokestatic 30, 3) := by decide +kernel
theorem dX6_greatest_20 : decode cX6_greatest 20 = .ok (.ifCond .eq 19, 3) := by decide +kernel
theorem dX6_greatest_23 : decode cX6_greatest 23 = .ok (.aload_n 0, 1) := by decide +kernel
theorem dX6_greatest_24 : decode cX6_greatest 24 = .ok (.iload 4, 2) := by decide +kernel
theorem dX6_greatest_26 : decode cX6_greatest 26 = .ok (.iaload, 1) := by decide +kernel
theorem dX6_greatest_27 : decode cX6_greatest 27 = .ok (.iload_n 3, 1) := by decide +kernel
theorem dX6_greatest_28 : decode cX6_greatest 28 = .ok (.if_icmp .lt 11, 3) := by decide +kernel
theorem dX6_greatest_31 : decode cX6_greatest 31 = .ok (.iload 4, 2) := by decide +kernel
theorem dX6_greatest_33 : decode cX6_greatest 33 = .ok (.istore_n 2, 1) := by decide +kernel
theorem dX6_greatest_34 : decode cX6_greatest 34 = .ok (.aload_n 0, 1) := by decide +kernel
theorem dX6_greatest_35 : decode cX6_greatest 35 = .ok (.iload 4, 2) := by decide +kernel
theorem dX6_greatest_37 : decode cX6_greatest 37 = .ok (.iaload, 1) := by decide +kernel
theorem dX6_greatest_38 : decode cX6_greatest 38 = .ok (.istore_n 3, 1) := by decide +kernel
theorem dX6_greatest_39 : decode cX6_greatest 39 = .ok (.iinc 4 1, 3) := by decide +kernel
theorem dX6_greatest_42 : decode cX6_greatest 42 = .ok (.goto (-35), 3) := by decide +kernel
theorem dX6_greatest_45 : decode cX6_greatest 45 = .ok (.iload_n 2, 1) := by decide +kernel
theorem dX6_greatest_46 : decode cX6_greatest 46 = .ok (.ireturn, 1) := by decide +kernel
theorem dX7_init_0 : decode cX7_init 0 = .ok (.aload_n 0, 1) := by decide +kernel
theorem dX7_init_1 : decode cX7_init 1 = .ok (.invokespecial 3, 3) := by decide +kernel
theorem dX7_init_4 : decode cX7_init 4 = .ok (.aload_n 0, 1) := by decide +kernel
theorem dX7_init_5 : decode cX7_init 5 = .ok (.new 9, 3) := by decide +kernel
theorem dX7_init_8 : decode cX7_init 8 = .ok (.dup, 1) := by decide +kernel
theorem dX7_init_9 : decode cX7_init 9 = .ok (.invokespecial 11, 3) := by decide +kernel
theorem dX7_init_12 : decode cX7_init 12 = .ok (.putfield 12, 3) := by decide +kernel
theorem dX7_init_15 : decode cX7_init 15 = .ok (.aload_n 0, 1) := by decide +kernel
theorem dX7_init_16 : decode cX7_init 16 = .ok (.new 18, 3) := by decide +kernel
theorem dX7_init_19 : decode cX7_init 19 = .ok (.dup, 1) := by decide +kernel
theorem dX7_init_20 : decode cX7_init 20 = .ok (.invokespecial 20, 3) := by decide +kernel
theorem dX7_init_23 : decode cX7_init 23 = .ok (.putfield 21, 3) := by decide +kernel
theorem dX7_init_26 : decode cX7_init 26 = .ok (.aload_n 0, 1) := by decide +kernel
theorem dX7_init_27 : decode cX7_init 27 = .ok (.new 25, 3) := by decide +kernel
theorem dX7_init_30 : decode cX7_init 30 = .ok (.dup, 1) := by decide +kernel
theorem dX7_init_31 : decode cX7_init 31 = .ok (.invokespecial 27, 3) := by decide +kernel
theorem dX7_init_34 : decode cX7_init 34 = .ok (.putfield 28, 3) := by decide +kernel
theorem dX7_init_37 : decode cX7_init 37 = .ok (.aload_n 0, 1) := by decide +kernel
theorem dX7_init_38 : decode cX7_init 38 = .ok (.new 32, 3) := by decide +kernel
theorem dX7_init_41 : decode cX7_init 41 = .ok (.dup, 1) := by decide +kernel
theorem dX7_init_42 : decode cX7_init 42 = .ok (.invokespecial 34, 3) := by decide +kernel
theorem dX7_init_45 : decode cX7_init 45 = .ok (.putfield 35, 3) := by decide +kernel
theorem dX7_init_48 : decode cX7_init 48 = .ok (.return_, 1) := by decide +kernel
theorem dX7_winnerBy_0 : decode cX7_winnerBy 0 = .ok (.aload_n 0, 1) := by decide +kernel
theorem dX7_winnerBy_1 : decode cX7_winnerBy 1 = .ok (.iload_n 1, 1) := by decide +kernel
theorem dX7_winnerBy_2 : decode cX7_winnerBy 2 = .ok (.aload_n 2, 1) := by decide +kernel
theorem dX7_winnerBy_3 : decode cX7_winnerBy 3 = .ok (.invokevirtual 39, 3) := by decide +kernel
theorem dX7_winnerBy_6 : decode cX7_winnerBy 6 = .ok (.invokestatic 43, 3) := by decide +kernel
theorem dX7_winnerBy_9 : decode cX7_winnerBy 9 = .ok (.istore_n 3, 1) := by decide +kernel
theorem dX7_winnerBy_10 : decode cX7_winnerBy 10 = .ok (.iload_n 3, 1) := by decide +kernel
theorem dX7_winnerBy_11 : decode cX7_winnerBy 11 = .ok (.iconst (-1), 1) := by decide +kernel
theorem dX7_winnerBy_12 : decode cX7_winnerBy 12 = .ok (.if_icmp .ne 8, 3) := by decide +kernel
theorem dX7_winnerBy_15 : decode cX7_winnerBy 15 = .ok (.ldc 49, 2) := by decide +kernel
theorem dX7_winnerBy_17 : decode cX7_winnerBy 17 = .ok (.goto 4, 3) := by decide +kernel
theorem dX7_winnerBy_20 : decode cX7_winnerBy 20 = .ok (.iload_n 3, 1) := by decide +kernel
theorem dX7_winnerBy_21 : decode cX7_winnerBy 21 = .ok (.ireturn, 1) := by decide +kernel
theorem dX7_winnersBy_0 : decode cX7_winnersBy 0 = .ok (.iload_n 1, 1) := by decide +kernel
theorem dX7_winnersBy_1 : decode cX7_winnersBy 1 = .ok (.tableswitch 187 3 11 #[51, 72, 89, 106, 106, 187, 116, 157, 166], 51) := by decide +kernel
theorem dX7_winnersBy_52 : decode cX7_winnersBy 52 = .ok (.aload_n 0, 1) := by decide +kernel
theorem dX7_winnersBy_53 : decode cX7_winnersBy 53 = .ok (.getfield 12, 3) := by decide +kernel
theorem dX7_winnersBy_56 : decode cX7_winnersBy 56 = .ok (.iload_n 1, 1) := by decide +kernel
theorem dX7_winnersBy_57 : decode cX7_winnersBy 57 = .ok (.aload_n 2, 1) := by decide +kernel
theorem dX7_winnersBy_58 : decode cX7_winnersBy 58 = .ok (.invokevirtual 50, 3) := by decide +kernel
theorem dX7_winnersBy_61 : decode cX7_winnersBy 61 = .ok (.aload_n 0, 1) := by decide +kernel
theorem dX7_winnersBy_62 : decode cX7_winnersBy 62 = .ok (.getfield 12, 3) := by decide +kernel
theorem dX7_winnersBy_65 : decode cX7_winnersBy 65 = .ok (.aload_n 2, 1) := by decide +kernel
theorem dX7_winnersBy_66 : decode cX7_winnersBy 66 = .ok (.getfield 54, 3) := by decide +kernel
theorem dX7_winnersBy_69 : decode cX7_winnersBy 69 = .ok (.invokevirtual 60, 3) := by decide +kernel
theorem dX7_winnersBy_72 : decode cX7_winnersBy 72 = .ok (.ireturn, 1) := by decide +kernel
theorem dX7_winnersBy_73 : decode cX7_winnersBy 73 = .ok (.aload_n 0, 1) := by decide +kernel
theorem dX7_winnersBy_74 : decode cX7_winnersBy 74 = .ok (.getfield 28, 3) := by decide +kernel
theorem dX7_winnersBy_77 : decode cX7_winnersBy 77 = .ok (.aload_n 2, 1) := by decide +kernel
theorem dX7_winnersBy_78 : decode cX7_winnersBy 78 = .ok (.invokevirtual 63, 3) := by decide +kernel
theorem dX7_winnersBy_81 : decode cX7_winnersBy 81 = .ok (.aload_n 0, 1) := by decide +kernel
theorem dX7_winnersBy_82 : decode cX7_winnersBy 82 = .ok (.getfield 28, 3) := by decide +kernel
theorem dX7_winnersBy_85 : decode cX7_winnersBy 85 = .ok (.aload_n 2, 1) := by decide +kernel
theorem dX7_winnersBy_86 : decode cX7_winnersBy 86 = .ok (.invokevirtual 67, 3) := by decide +kernel
theorem dX7_winnersBy_89 : decode cX7_winnersBy 89 = .ok (.ireturn, 1) := by decide +kernel
theorem dX7_winnersBy_90 : decode cX7_winnersBy 90 = .ok (.aload_n 0, 1) := by decide +kernel
theorem dX7_winnersBy_91 : decode cX7_winnersBy 91 = .ok (.getfield 28, 3) := by decide +kernel
theorem dX7_winnersBy_94 : decode cX7_winnersBy 94 = .ok (.aload_n 2, 1) := by decide +kernel
theorem dX7_winnersBy_95 : decode cX7_winnersBy 95 = .ok (.invokevirtual 71, 3) := by decide +kernel
theorem dX7_winnersBy_98 : decode cX7_winnersBy 98 = .ok (.aload_n 0, 1) := by decide +kernel
theorem dX7_winnersBy_99 : decode cX7_winnersBy 99 = .ok (.getfield 28, 3) := by decide +kernel
theorem dX7_winnersBy_102 : decode cX7_winnersBy 102 = .ok (.aload_n 2, 1) := by decide +kernel
theorem dX7_winnersBy_103 : decode cX7_winnersBy 103 = .ok (.invokevirtual 74, 3) := by decide +kernel
theorem dX7_winnersBy_106 : decode cX7_winnersBy 106 = .ok (.ireturn, 1) := by decide +kernel
theorem dX7_winnersBy_107 : decode cX7_winnersBy 107 = .ok (.aload_n 0, 1) := by decide +kernel
theorem dX7_winnersBy_108 : decode cX7_winnersBy 108 = .ok (.getfield 21, 3) := by decide +kernel
theorem dX7_winnersBy_111 : decode cX7_winnersBy 111 = .ok (.iload_n 1, 1) := by decide +kernel
theorem dX7_winnersBy_112 : decode cX7_winnersBy 112 = .ok (.aload_n 2, 1) := by decide +kernel
theorem dX7_winnersBy_113 : decode cX7_winnersBy 113 = .ok (.invokevirtual 77, 3) := by decide +kernel
theorem dX7_winnersBy_116 : decode cX7_winnersBy 116 = .ok (.ireturn, 1) := by decide +kernel
theorem dX7_winnersBy_117 : decode cX7_winnersBy 117 = .ok (.aload_n 0, 1) := by decide +kernel
theorem dX7_winnersBy_118 : decode cX7_winnersBy 118 = .ok (.getfield 28, 3) := by decide +kernel
theorem dX7_winnersBy_121 : decode cX7_winnersBy 121 = .ok (.aload_n 2, 1) := by decide +kernel
theorem dX7_winnersBy_122 : decode cX7_winnersBy 122 = .ok (.invokevirtual 80, 3) := by decide +kernel
theorem dX7_winnersBy_125 : decode cX7_winnersBy 125 = .ok (.istore_n 3, 1) := by decide +kernel
theorem dX7_winnersBy_126 : decode cX7_winnersBy 126 = .ok (.aload_n 0, 1) := by decide +kernel
theorem dX7_winnersBy_127 : decode cX7_winnersBy 127 = .ok (.getfield 12, 3) := by decide +kernel
theorem dX7_winnersBy_130 : decode cX7_winnersBy 130 = .ok (.iconst 1, 1) := by decide +kernel
theorem dX7_winnersBy_131 : decode cX7_winnersBy 131 = .ok (.aload_n 2, 1) := by decide +kernel
theorem dX7_winnersBy_132 : decode cX7_winnersBy 132 = .ok (.invokevirtual 50, 3) := by decide +kernel
theorem dX7_winnersBy_135 : decode cX7_winnersBy 135 = .ok (.iload_n 3, 1) := by decide +kernel
theorem dX7_winnersBy_136 : decode cX7_winnersBy 136 = .ok (.iconst (-1), 1) := by decide +kernel
theorem dX7_winnersBy_137 : decode cX7_winnersBy 137 = .ok (.if_icmp .ne 17, 3) := by decide +kernel
theorem dX7_winnersBy_140 : decode cX7_winnersBy 140 = .ok (.aload_n 0, 1) := by decide +kernel
theorem dX7_winnersBy_141 : decode cX7_winnersBy 141 = .ok (.getfield 12, 3) := by decide +kernel
theorem dX7_winnersBy_144 : decode cX7_winnersBy 144 = .ok (.aload_n 2, 1) := by decide +kernel
theorem dX7_winnersBy_145 : decode cX7_winnersBy 145 = .ok (.getfield 54, 3) := by decide +kernel
theorem dX7_winnersBy_148 : decode cX7_winnersBy 148 = .ok (.invokevirtual 83, 3) := by decide +kernel
theorem dX7_winnersBy_151 : decode cX7_winnersBy 151 = .ok (.goto 6, 3) := by decide +kernel
theorem dX7_winnersBy_154 : decode cX7_winnersBy 154 = .ok (.iconst 1, 1) := by decide +kernel
theorem dX7_winnersBy_155 : decode cX7_winnersBy 155 = .ok (.iload_n 3, 1) := by decide +kernel
theorem dX7_winnersBy_156 : decode cX7_winnersBy 156 = .ok (.ishl, 1) := by decide +kernel
theorem dX7_winnersBy_157 : decode cX7_winnersBy 157 = .ok (.ireturn, 1) := by decide +kernel
theorem dX7_winnersBy_158 : decode cX7_winnersBy 158 = .ok (.aload_n 0, 1) := by decide +kernel
theorem dX7_winnersBy_159 : decode cX7_winnersBy 159 = .ok (.getfield 12, 3) := by decide +kernel
theorem dX7_winnersBy_162 : decode cX7_winnersBy 162 = .ok (.aload_n 2, 1) := by decide +kernel
theorem dX7_winnersBy_163 : decode cX7_winnersBy 163 = .ok (.invokevirtual 86, 3) := by decide +kernel
theorem dX7_winnersBy_166 : decode cX7_winnersBy 166 = .ok (.ireturn, 1) := by decide +kernel
theorem dX7_winnersBy_167 : decode cX7_winnersBy 167 = .ok (.aload_n 0, 1) := by decide +kernel
theorem dX7_winnersBy_168 : decode cX7_winnersBy 168 = .ok (.getfield 35, 3) := by decide +kernel
theorem dX7_winnersBy_171 : decode cX7_winnersBy 171 = .ok (.aload_n 2, 1) := by decide +kernel
theorem dX7_winnersBy_172 : decode cX7_winnersBy 172 = .ok (.invokevirtual 89, 3) := by decide +kernel
theorem dX7_winnersBy_175 : decode cX7_winnersBy 175 = .ok (.aload_n 0, 1) := by decide +kernel
theorem dX7_winnersBy_176 : decode cX7_winnersBy 176 = .ok (.getfield 35, 3) := by decide +kernel
theorem dX7_winnersBy_179 : decode cX7_winnersBy 179 = .ok (.aload_n 2, 1) := by decide +kernel
theorem dX7_winnersBy_180 : decode cX7_winnersBy 180 = .ok (.aload_n 2, 1) := by decide +kernel
theorem dX7_winnersBy_181 : decode cX7_winnersBy 181 = .ok (.getfield 54, 3) := by decide +kernel
theorem dX7_winnersBy_184 : decode cX7_winnersBy 184 = .ok (.invokevirtual 92, 3) := by decide +kernel
