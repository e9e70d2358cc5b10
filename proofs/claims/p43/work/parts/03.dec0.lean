theorem dX0_at_0 : decode cX0_at 0 = .ok (.iload_n 1, 1) := by decide +kernel
theorem dX0_at_1 : decode cX0_at 1 = .ok (.ifCond .lt 21, 3) := by decide +kernel
theorem dX0_at_4 : decode cX0_at 4 = .ok (.iload_n 1, 1) := by decide +kernel
theorem dX0_at_5 : decode cX0_at 5 = .ok (.iconst 5, 1) := by decide +kernel
theorem dX0_at_6 : decode cX0_at 6 = .ok (.if_icmp .ge 16, 3) := by decide +kernel
theorem dX0_at_9 : decode cX0_at 9 = .ok (.iload_n 0, 1) := by decide +kernel
theorem dX0_at_10 : decode cX0_at 10 = .ok (.iconst 3, 1) := by decide +kernel
theorem dX0_at_11 : decode cX0_at 11 = .ok (.iload_n 1, 1) := by decide +kernel
theorem dX0_at_12 : decode cX0_at 12 = .ok (.imul, 1) := by decide +kernel
theorem dX0_at_13 : decode cX0_at 13 = .ok (.iushr, 1) := by decide +kernel
theorem dX0_at_14 : decode cX0_at 14 = .ok (.bipush 7, 2) := by decide +kernel
theorem dX0_at_16 : decode cX0_at 16 = .ok (.iand, 1) := by decide +kernel
theorem dX0_at_17 : decode cX0_at 17 = .ok (.iconst 1, 1) := by decide +kernel
theorem dX0_at_18 : decode cX0_at 18 = .ok (.isub, 1) := by decide +kernel
theorem dX0_at_19 : decode cX0_at 19 = .ok (.goto 4, 3) := by decide +kernel
theorem dX0_at_22 : decode cX0_at 22 = .ok (.iconst (-1), 1) := by decide +kernel
theorem dX0_at_23 : decode cX0_at 23 = .ok (.ireturn, 1) := by decide +kernel
theorem dX0_length_0 : decode cX0_length 0 = .ok (.iconst 0, 1) := by decide +kernel
theorem dX0_length_1 : decode cX0_length 1 = .ok (.istore_n 1, 1) := by decide +kernel
theorem dX0_length_2 : decode cX0_length 2 = .ok (.iload_n 1, 1) := by decide +kernel
theorem dX0_length_3 : decode cX0_length 3 = .ok (.iconst 5, 1) := by decide +kernel
theorem dX0_length_4 : decode cX0_length 4 = .ok (.if_icmp .ge 18, 3) := by decide +kernel
theorem dX0_length_7 : decode cX0_length 7 = .ok (.iload_n 0, 1) := by decide +kernel
theorem dX0_length_8 : decode cX0_length 8 = .ok (.iload_n 1, 1) := by decide +kernel
theorem dX0_length_9 : decode cX0_length 9 = .ok (.invokestatic 9, 3) := by decide +kernel
theorem dX0_length_12 : decode cX0_length 12 = .ok (.iconst (-1), 1) := by decide +kernel
theorem dX0_length_13 : decode cX0_length 13 = .ok (.if_icmp .eq 9, 3) := by decide +kernel
theorem dX0_length_16 : decode cX0_length 16 = .ok (.iinc 1 1, 3) := by decide +kernel
theorem dX0_length_19 : decode cX0_length 19 = .ok (.goto (-17), 3) := by decide +kernel
theorem dX0_length_22 : decode cX0_length 22 = .ok (.iload_n 1, 1) := by decide +kernel
theorem dX0_length_23 : decode cX0_length 23 = .ok (.ireturn, 1) := by decide +kernel
theorem dX0_placeOf_0 : decode cX0_placeOf 0 = .ok (.iconst 0, 1) := by decide +kernel
theorem dX0_placeOf_1 : decode cX0_placeOf 1 = .ok (.istore_n 2, 1) := by decide +kernel
theorem dX0_placeOf_2 : decode cX0_placeOf 2 = .ok (.iload_n 2, 1) := by decide +kernel
theorem dX0_placeOf_3 : decode cX0_placeOf 3 = .ok (.iconst 5, 1) := by decide +kernel
theorem dX0_placeOf_4 : decode cX0_placeOf 4 = .ok (.if_icmp .ge 24, 3) := by decide +kernel
theorem dX0_placeOf_7 : decode cX0_placeOf 7 = .ok (.iload_n 1, 1) := by decide +kernel
theorem dX0_placeOf_8 : decode cX0_placeOf 8 = .ok (.ifCond .lt 20, 3) := by decide +kernel
theorem dX0_placeOf_11 : decode cX0_placeOf 11 = .ok (.iload_n 0, 1) := by decide +kernel
theorem dX0_placeOf_12 : decode cX0_placeOf 12 = .ok (.iload_n 2, 1) := by decide +kernel
theorem dX0_placeOf_13 : decode cX0_placeOf 13 = .ok (.invokestatic 9, 3) := by decide +kernel
theorem dX0_placeOf_16 : decode cX0_placeOf 16 = .ok (.iload_n 1, 1) := by decide +kernel
theorem dX0_placeOf_17 : decode cX0_placeOf 17 = .ok (.if_icmp .ne 5, 3) := by decide +kernel
theorem dX0_placeOf_20 : decode cX0_placeOf 20 = .ok (.iload_n 2, 1) := by decide +kernel
theorem dX0_placeOf_21 : decode cX0_placeOf 21 = .ok (.ireturn, 1) := by decide +kernel
theorem dX0_placeOf_22 : decode cX0_placeOf 22 = .ok (.iinc 2 1, 3) := by decide +kernel
theorem dX0_placeOf_25 : decode cX0_placeOf 25 = .ok (.goto (-23), 3) := by decide +kernel
theorem dX0_placeOf_28 : decode cX0_placeOf 28 = .ok (.iconst (-1), 1) := by decide +kernel
theorem dX0_placeOf_29 : decode cX0_placeOf 29 = .ok (.ireturn, 1) := by decide +kernel
theorem dX0_append_0 : decode cX0_append 0 = .ok (.iload_n 0, 1) := by decide +kernel
theorem dX0_append_1 : decode cX0_append 1 = .ok (.iload_n 1, 1) := by decide +kernel
theorem dX0_append_2 : decode cX0_append 2 = .ok (.iconst 1, 1) := by decide +kernel
theorem dX0_append_3 : decode cX0_append 3 = .ok (.iadd, 1) := by decide +kernel
theorem dX0_append_4 : decode cX0_append 4 = .ok (.iconst 3, 1) := by decide +kernel
theorem dX0_append_5 : decode cX0_append 5 = .ok (.iload_n 0, 1) := by decide +kernel
theorem dX0_append_6 : decode cX0_append 6 = .ok (.invokestatic 15, 3) := by decide +kernel
theorem dX0_append_9 : decode cX0_append 9 = .ok (.imul, 1) := by decide +kernel
theorem dX0_append_10 : decode cX0_append 10 = .ok (.ishl, 1) := by decide +kernel
theorem dX0_append_11 : decode cX0_append 11 = .ok (.ior, 1) := by decide +kernel
theorem dX0_append_12 : decode cX0_append 12 = .ok (.ireturn, 1) := by decide +kernel
theorem dX0_fromDigits_0 : decode cX0_fromDigits 0 = .ok (.iconst 0, 1) := by decide +kernel
theorem dX0_fromDigits_1 : decode cX0_fromDigits 1 = .ok (.istore_n 1, 1) := by decide +kernel
theorem dX0_fromDigits_2 : decode cX0_fromDigits 2 = .ok (.iconst 0, 1) := by decide +kernel
theorem dX0_fromDigits_3 : decode cX0_fromDigits 3 = .ok (.istore_n 2, 1) := by decide +kernel
theorem dX0_fromDigits_4 : decode cX0_fromDigits 4 = .ok (.iload_n 0, 1) := by decide +kernel
theorem dX0_fromDigits_5 : decode cX0_fromDigits 5 = .ok (.istore_n 3, 1) := by decide +kernel
theorem dX0_fromDigits_6 : decode cX0_fromDigits 6 = .ok (.iconst 0, 1) := by decide +kernel
theorem dX0_fromDigits_7 : decode cX0_fromDigits 7 = .ok (.istore 4, 2) := by decide +kernel
theorem dX0_fromDigits_9 : decode cX0_fromDigits 9 = .ok (.iload 4, 2) := by decide +kernel
theorem dX0_fromDigits_11 : decode cX0_fromDigits 11 = .ok (.iconst 5, 1) := by decide +kernel
theorem dX0_fromDigits_12 : decode cX0_fromDigits 12 = .ok (.if_icmp .ge 61, 3) := by decide +kernel
theorem dX0_fromDigits_15 : decode cX0_fromDigits 15 = .ok (.iload_n 3, 1) := by decide +kernel
theorem dX0_fromDigits_16 : decode cX0_fromDigits 16 = .ok (.ifCond .le 57, 3) := by decide +kernel
theorem dX0_fromDigits_19 : decode cX0_fromDigits 19 = .ok (.iload_n 3, 1) := by decide +kernel
theorem dX0_fromDigits_20 : decode cX0_fromDigits 20 = .ok (.bipush 10, 2) := by decide +kernel
theorem dX0_fromDigits_22 : decode cX0_fromDigits 22 = .ok (.irem, 1) := by decide +kernel
theorem dX0_fromDigits_23 : decode cX0_fromDigits 23 = .ok (.iconst 1, 1) := by decide +kernel
theorem dX0_fromDigits_24 : decode cX0_fromDigits 24 = .ok (.isub, 1) := by decide +kernel
theorem dX0_fromDigits_25 : decode cX0_fromDigits 25 = .ok (.istore 5, 2) := by decide +kernel
theorem dX0_fromDigits_27 : decode cX0_fromDigits 27 = .ok (.iload 5, 2) := by decide +kernel
theorem dX0_fromDigits_29 : decode cX0_fromDigits 29 = .ok (.invokestatic 19, 3) := by decide +kernel
theorem dX0_fromDigits_32 : decode cX0_fromDigits 32 = .ok (.ifCond .eq 12, 3) := by decide +kernel
theorem dX0_fromDigits_35 : decode cX0_fromDigits 35 = .ok (.iload_n 2, 1) := by decide +kernel
theorem dX0_fromDigits_36 : decode cX0_fromDigits 36 = .ok (.iload 5, 2) := by decide +kernel
theorem dX0_fromDigits_38 : decode cX0_fromDigits 38 = .ok (.invokestatic 25, 3) := by decide +kernel
theorem dX0_fromDigits_41 : decode cX0_fromDigits 41 = .ok (.ifCond .eq 5, 3) := by decide +kernel
theorem dX0_fromDigits_44 : decode cX0_fromDigits 44 = .ok (.iconst 0, 1) := by decide +kernel
theorem dX0_fromDigits_45 : decode cX0_fromDigits 45 = .ok (.ireturn, 1) := by decide +kernel
theorem dX0_fromDigits_46 : decode cX0_fromDigits 46 = .ok (.iload_n 2, 1) := by decide +kernel
theorem dX0_fromDigits_47 : decode cX0_fromDigits 47 = .ok (.iconst 1, 1) := by decide +kernel
theorem dX0_fromDigits_48 : decode cX0_fromDigits 48 = .ok (.iload 5, 2) := by decide +kernel
theorem dX0_fromDigits_50 : decode cX0_fromDigits 50 = .ok (.ishl, 1) := by decide +kernel
theorem dX0_fromDigits_51 : decode cX0_fromDigits 51 = .ok (.ior, 1) := by decide +kernel
theorem dX0_fromDigits_52 : decode cX0_fromDigits 52 = .ok (.istore_n 2, 1) := by decide +kernel
theorem dX0_fromDigits_53 : decode cX0_fromDigits 53 = .ok (.iload_n 1, 1) := by decide +kernel
theorem dX0_fromDigits_54 : decode cX0_fromDigits 54 = .ok (.iconst 3, 1) := by decide +kernel
theorem dX0_fromDigits_55 : decode cX0_fromDigits 55 = .ok (.ishl, 1) := by decide +kernel
theorem dX0_fromDigits_56 : decode cX0_fromDigits 56 = .ok (.iload 5, 2) := by decide +kernel
theorem dX0_fromDigits_58 : decode cX0_fromDigits 58 = .ok (.iconst 1, 1) := by decide +kernel
theorem dX0_fromDigits_59 : decode cX0_fromDigits 59 = .ok (.iadd, 1) := by decide +kernel
theorem dX0_fromDigits_60 : decode cX0_fromDigits 60 = .ok (.ior, 1) := by decide +kernel
theorem dX0_fromDigits_61 : decode cX0_fromDigits 61 = .ok (.istore_n 1, 1) := by decide +kernel
theorem dX0_fromDigits_62 : decode cX0_fromDigits 62 = .ok (.iload_n 3, 1) := by decide +kernel
theorem dX0_fromDigits_63 : decode cX0_fromDigits 63 = .ok (.bipush 10, 2) := by decide +kernel
theorem dX0_fromDigits_65 : decode cX0_fromDigits 65 = .ok (.idiv, 1) := by decide +kernel
theorem dX0_fromDigits_66 : decode cX0_fromDigits 66 = .ok (.istore_n 3, 1) := by decide +kernel
theorem dX0_fromDigits_67 : decode cX0_fromDigits 67 = .ok (.iinc 4 1, 3) := by decide +kernel
theorem dX0_fromDigits_70 : decode cX0_fromDigits 70 = .ok (.goto (-61), 3) := by decide +kernel
theorem dX0_fromDigits_73 : decode cX0_fromDigits 73 = .ok (.iload_n 3, 1) := by decide +kernel
theorem dX0_fromDigits_74 : decode cX0_fromDigits 74 = .ok (.ifCond .ne 7, 3) := by decide +kernel
theorem dX0_fromDigits_77 : decode cX0_fromDigits 77 = .ok (.iload_n 1, 1) := by decide +kernel
theorem dX0_fromDigits_78 : decode cX0_fromDigits 78 = .ok (.goto 4, 3) := by decide +kernel
theorem dX0_fromDigits_81 : decode cX0_fromDigits 81 = .ok (.iconst 0, 1) := by decide +kernel
theorem dX0_fromDigits_82 : decode cX0_fromDigits 82 = .ok (.ireturn, 1) := by decide +kernel
theorem dX0_toDigits_0 : decode cX0_toDigits 0 = .ok (.iconst 0, 1) := by decide +kernel
theorem dX0_toDigits_1 : decode cX0_toDigits 1 = .ok (.istore_n 1, 1) := by decide +kernel
theorem dX0_toDigits_2 : decode cX0_toDigits 2 = .ok (.iload_n 0, 1) := by decide +kernel
theorem dX0_toDigits_3 : decode cX0_toDigits 3 = .ok (.invokestatic 15, 3) := by decide +kernel
theorem dX0_toDigits_6 : decode cX0_toDigits 6 = .ok (.istore_n 2, 1) := by decide +kernel
theorem dX0_toDigits_7 : decode cX0_toDigits 7 = .ok (.iconst 0, 1) := by decide +kernel
theorem dX0_toDigits_8 : decode cX0_toDigits 8 = .ok (.istore_n 3, 1) := by decide +kernel
theorem dX0_toDigits_9 : decode cX0_toDigits 9 = .ok (.iload_n 3, 1) := by decide +kernel
theorem dX0_toDigits_10 : decode cX0_toDigits 10 = .ok (.iload_n 2, 1) := by decide +kernel
theorem dX0_toDigits_11 : decode cX0_toDigits 11 = .ok (.if_icmp .ge 22, 3) := by decide +kernel
theorem dX0_toDigits_14 : decode cX0_toDigits 14 = .ok (.iload_n 1, 1) := by decide +kernel
theorem dX0_toDigits_15 : decode cX0_toDigits 15 = .ok (.bipush 10, 2) := by decide +kernel
theorem dX0_toDigits_17 : decode cX0_toDigits 17 = .ok (.imul, 1) := by decide +kernel
theorem dX0_toDigits_18 : decode cX0_toDigits 18 = .ok (.iload_n 0, 1) := by decide +kernel
theorem dX0_toDigits_19 : decode cX0_toDigits 19 = .ok (.iload_n 3, 1) := by decide +kernel
theorem dX0_toDigits_20 : decode cX0_toDigits 20 = .ok (.invokestatic 9, 3) := by decide +kernel
theorem dX0_toDigits_23 : decode cX0_toDigits 23 = .ok (.iadd, 1) := by decide +kernel
theorem dX0_toDigits_24 : decode cX0_toDigits 24 = .ok (.iconst 1, 1) := by decide +kernel
theorem dX0_toDigits_25 : decode cX0_toDigits 25 = .ok (.iadd, 1) := by decide +kernel
theorem dX0_toDigits_26 : decode cX0_toDigits 26 = .ok (.istore_n 1, 1) := by decide +kernel
theorem dX0_toDigits_27 : decode cX0_toDigits 27 = .ok (.iinc 3 1, 3) := by decide +kernel
theorem dX0_toDigits_30 : decode cX0_toDigits 30 = .ok (.goto (-21), 3) := by decide +kernel
theorem dX0_toDigits_33 : decode cX0_toDigits 33 = .ok (.iload_n 1, 1) := by decide +kernel
theorem dX0_toDigits_34 : decode cX0_toDigits 34 = .ok (.ireturn, 1) := by decide +kernel
theorem dX0_within_0 : decode cX0_within 0 = .ok (.iconst 0, 1) := by decide +kernel
theorem dX0_within_1 : decode cX0_within 1 = .ok (.istore_n 2, 1) := by decide +kernel
theorem dX0_within_2 : decode cX0_within 2 = .ok (.iconst 0, 1) := by decide +kernel
theorem dX0_within_3 : decode cX0_within 3 = .ok (.istore_n 3, 1) := by decide +kernel
theorem dX0_within_4 : decode cX0_within 4 = .ok (.iconst 0, 1) := by decide +kernel
theorem dX0_within_5 : decode cX0_within 5 = .ok (.istore 4, 2) := by decide +kernel
theorem dX0_within_7 : decode cX0_within 7 = .ok (.iload 4, 2) := by decide +kernel
theorem dX0_within_9 : decode cX0_within 9 = .ok (.iconst 5, 1) := by decide +kernel
theorem dX0_within_10 : decode cX0_within 10 = .ok (.if_icmp .ge 38, 3) := by decide +kernel
theorem dX0_within_13 : decode cX0_within 13 = .ok (.iload_n 0, 1) := by decide +kernel
theorem dX0_within_14 : decode cX0_within 14 = .ok (.iload 4, 2) := by decide +kernel
theorem dX0_within_16 : decode cX0_within 16 = .ok (.invokestatic 9, 3) := by decide +kernel
theorem dX0_within_19 : decode cX0_within 19 = .ok (.istore 5, 2) := by decide +kernel
theorem dX0_within_21 : decode cX0_within 21 = .ok (.iload_n 1, 1) := by decide +kernel
theorem dX0_within_22 : decode cX0_within 22 = .ok (.iload 5, 2) := by decide +kernel
theorem dX0_within_24 : decode cX0_within 24 = .ok (.invokestatic 25, 3) := by decide +kernel
theorem dX0_within_27 : decode cX0_within 27 = .ok (.ifCond .eq 15, 3) := by decide +kernel
theorem dX0_within_30 : decode cX0_within 30 = .ok (.iload_n 2, 1) := by decide +kernel
theorem dX0_within_31 : decode cX0_within 31 = .ok (.iload 5, 2) := by decide +kernel
theorem dX0_within_33 : decode cX0_within 33 = .ok (.iconst 1, 1) := by decide +kernel
theorem dX0_within_34 : decode cX0_within 34 = .ok (.iadd, 1) := by decide +kernel
theorem dX0_within_35 : decode cX0_within 35 = .ok (.iload_n 3, 1) := by decide +kernel
theorem dX0_within_36 : decode cX0_within 36 = .ok (.ishl, 1) := by decide +kernel
theorem dX0_within_37 : decode cX0_within 37 = .ok (.ior, 1) := by decide +kernel
theorem dX0_within_38 : decode cX0_within 38 = .ok (.istore_n 2, 1) := by decide +kernel
theorem dX0_within_39 : decode cX0_within 39 = .ok (.iinc 3 3, 3) := by decide +kernel
theorem dX0_within_42 : decode cX0_within 42 = .ok (.iinc 4 1, 3) := by decide +kernel
theorem dX0_within_45 : decode cX0_within 45 = .ok (.goto (-38), 3) := by decide +kernel
theorem dX0_within_48 : decode cX0_within 48 = .ok (.iload_n 2, 1) := by decide +kernel
theorem dX0_within_49 : decode cX0_within 49 = .ok (.ireturn, 1) := by decide +kernel
theorem dX0_exchanged_0 : decode cX0_exchanged 0 = .ok (.iload_n 0, 1) := by decide +kernel
theorem dX0_exchanged_1 : decode cX0_exchanged 1 = .ok (.iload_n 1, 1) := by decide +kernel
theorem dX0_exchanged_2 : decode cX0_exchanged 2 = .ok (.invokestatic 9, 3) := by decide +kernel
theorem dX0_exchanged_5 : decode cX0_exchanged 5 = .ok (.iconst 1, 1) := by decide +kernel
theorem dX0_exchanged_6 : decode cX0_exchanged 6 = .ok (.iadd, 1) := by decide +kernel
theorem dX0_exchanged_7 : decode cX0_exchanged 7 = .ok (.istore_n 2, 1) := by decide +kernel
theorem dX0_exchanged_8 : decode cX0_exchanged 8 = .ok (.iload_n 0, 1) := by decide +kernel
theorem dX0_exchanged_9 : decode cX0_exchanged 9 = .ok (.iload_n 1, 1) := by decide +kernel
theorem dX0_exchanged_10 : decode cX0_exchanged 10 = .ok (.iconst 1, 1) := by decide +kernel
theorem dX0_exchanged_11 : decode cX0_exchanged 11 = .ok (.iadd, 1) := by decide +kernel
theorem dX0_exchanged_12 : decode cX0_exchanged 12 = .ok (.invokestatic 9, 3) := by decide +kernel
theorem dX0_exchanged_15 : decode cX0_exchanged 15 = .ok (.iconst 1, 1) := by decide +kernel
theorem dX0_exchanged_16 : decode cX0_exchanged 16 = .ok (.iadd, 1) := by decide +kernel
theorem dX0_exchanged_17 : decode cX0_exchanged 17 = .ok (.istore_n 3, 1) := by decide +kernel
theorem dX0_exchanged_18 : decode cX0_exchanged 18 = .ok (.iload_n 2, 1) := by decide +kernel
theorem dX0_exchanged_19 : decode cX0_exchanged 19 = .ok (.iload_n 3, 1) := by decide +kernel
theorem dX0_exchanged_20 : decode cX0_exchanged 20 = .ok (.ixor, 1) := by decide +kernel
theorem dX0_exchanged_21 : decode cX0_exchanged 21 = .ok (.istore 4, 2) := by decide +kernel
theorem dX0_exchanged_23 : decode cX0_exchanged 23 = .ok (.iload_n 0, 1) := by decide +kernel
theorem dX0_exchanged_24 : decode cX0_exchanged 24 = .ok (.iload 4, 2) := by decide +kernel
theorem dX0_exchanged_26 : decode cX0_exchanged 26 = .ok (.iconst 3, 1) := by decide +kernel
theorem dX0_exchanged_27 : decode cX0_exchanged 27 = .ok (.iload_n 1, 1) := by decide +kernel
theorem dX0_exchanged_28 : decode cX0_exchanged 28 = .ok (.imul, 1) := by decide +kernel
theorem dX0_exchanged_29 : decode cX0_exchanged 29 = .ok (.ishl, 1) := by decide +kernel
theorem dX0_exchanged_30 : decode cX0_exchanged 30 = .ok (.ixor, 1) := by decide +kernel
theorem dX0_exchanged_31 : decode cX0_exchanged 31 = .ok (.iload 4, 2) := by decide +kernel
theorem dX0_exchanged_33 : decode cX0_exchanged 33 = .ok (.iconst 3, 1) := by decide +kernel
theorem dX0_exchanged_34 : decode cX0_exchanged 34 = .ok (.iload_n 1, 1) := by decide +kernel
theorem dX0_exchanged_35 : decode cX0_exchanged 35 = .ok (.iconst 1, 1) := by decide +kernel
theorem dX0_exchanged_36 : decode cX0_exchanged 36 = .ok (.iadd, 1) := by decide +kernel
theorem dX0_exchanged_37 : decode cX0_exchanged 37 = .ok (.imul, 1) := by decide +kernel
theorem dX0_exchanged_38 : decode cX0_exchanged 38 = .ok (.ishl, 1) := by decide +kernel
theorem dX0_exchanged_39 : decode cX0_exchanged 39 = .ok (.ixor, 1) := by decide +kernel
theorem dX0_exchanged_40 : decode cX0_exchanged 40 = .ok (.ireturn, 1) := by decide +kernel
theorem dX0_prefers_0 : decode cX0_prefers 0 = .ok (.iload_n 0, 1) := by decide +kernel
theorem dX0_prefers_1 : decode cX0_prefers 1 = .ok (.iload_n 1, 1) := by decide +kernel
theorem dX0_prefers_2 : decode cX0_prefers 2 = .ok (.invokestatic 29, 3) := by decide +kernel
theorem dX0_prefers_5 : decode cX0_prefers 5 = .ok (.istore_n 3, 1) := by decide +kernel
theorem dX0_prefers_6 : decode cX0_prefers 6 = .ok (.iload_n 0, 1) := by decide +kernel
theorem dX0_prefers_7 : decode cX0_prefers 7 = .ok (.iload_n 2, 1) := by decide +kernel
theorem dX0_prefers_8 : decode cX0_prefers 8 = .ok (.invokestatic 29, 3) := by decide +kernel
theorem dX0_prefers_11 : decode cX0_prefers 11 = .ok (.istore 4, 2) := by decide +kernel
theorem dX0_prefers_13 : decode cX0_prefers 13 = .ok (.iload_n 3, 1) := by decide +kernel
theorem dX0_prefers_14 : decode cX0_prefers 14 = .ok (.ifCond .lt 18, 3) := by decide +kernel
theorem dX0_prefers_17 : decode cX0_prefers 17 = .ok (.iload 4, 2) := by decide +kernel
theorem dX0_prefers_19 : decode cX0_prefers 19 = .ok (.ifCond .lt 9, 3) := by decide +kernel
theorem dX0_prefers_22 : decode cX0_prefers 22 = .ok (.iload_n 3, 1) := by decide +kernel
theorem dX0_prefers_23 : decode cX0_prefers 23 = .ok (.iload 4, 2) := by decide +kernel
theorem dX0_prefers_25 : decode cX0_prefers 25 = .ok (.if_icmp .ge 7, 3) := by decide +kernel
theorem dX0_prefers_28 : decode cX0_prefers 28 = .ok (.iconst 1, 1) := by decide +kernel
theorem dX0_prefers_29 : decode cX0_prefers 29 = .ok (.goto 4, 3) := by decide +kernel
theorem dX0_prefers_32 : decode cX0_prefers 32 = .ok (.iconst 0, 1) := by decide +kernel
theorem dX0_prefers_33 : decode cX0_prefers 33 = .ok (.ireturn, 1) := by decide +kernel
theorem dX0_factorial_0 : decode cX0_factorial 0 = .ok (.iconst 1, 1) := by decide +kernel
theorem dX0_factorial_1 : decode cX0_factorial 1 = .ok (.istore_n 1, 1) := by decide +kernel
theorem dX0_factorial_2 : decode cX0_factorial 2 = .ok (.iconst 2, 1) := by decide +kernel
theorem dX0_factorial_3 : decode cX0_factorial 3 = .ok (.istore_n 2, 1) := by decide +kernel
theorem dX0_factorial_4 : decode cX0_factorial 4 = .ok (.iload_n 2, 1) := by decide +kernel
theorem dX0_factorial_5 : decode cX0_factorial 5 = .ok (.iload_n 0, 1) := by decide +kernel
theorem dX0_factorial_6 : decode cX0_factorial 6 = .ok (.if_icmp .gt 18, 3) := by decide +kernel
theorem dX0_factorial_9 : decode cX0_factorial 9 = .ok (.iload_n 2, 1) := by decide +kernel
theorem dX0_factorial_10 : decode cX0_factorial 10 = .ok (.iconst 5, 1) := by decide +kernel
theorem dX0_factorial_11 : decode cX0_factorial 11 = .ok (.if_icmp .gt 13, 3) := by decide +kernel
theorem dX0_factorial_14 : decode cX0_factorial 14 = .ok (.iload_n 1, 1) := by decide +kernel
theorem dX0_factorial_15 : decode cX0_factorial 15 = .ok (.iload_n 2, 1) := by decide +kernel
theorem dX0_factorial_16 : decode cX0_factorial 16 = .ok (.imul, 1) := by decide +kernel
theorem dX0_factorial_17 : decode cX0_factorial 17 = .ok (.istore_n 1, 1) := by decide +kernel
theorem dX0_factorial_18 : decode cX0_factorial 18 = .ok (.iinc 2 1, 3) := by decide +kernel
theorem dX0_factorial_21 : decode cX0_factorial 21 = .ok (.goto (-17), 3) := by decide +kernel
theorem dX0_factorial_24 : decode cX0_factorial 24 = .ok (.iload_n 1, 1) := by decide +kernel
theorem dX0_factorial_25 : decode cX0_factorial 25 = .ok (.ireturn, 1) := by decide +kernel
theorem dX0_order_0 : decode cX0_order 0 = .ok (.iconst 0, 1) := by decide +kernel
theorem dX0_order_1 : decode cX0_order 1 = .ok (.istore_n 2, 1) := by decide +kernel
theorem dX0_order_2 : decode cX0_order 2 = .ok (.iload_n 0, 1) := by decide +kernel
theorem dX0_order_3 : decode cX0_order 3 = .ok (.istore_n 3, 1) := by decide +kernel
theorem dX0_order_4 : decode cX0_order 4 = .ok (.iload_n 1, 1) := by decide +kernel
theorem dX0_order_5 : decode cX0_order 5 = .ok (.istore 4, 2) := by decide +kernel
theorem dX0_order_7 : decode cX0_order 7 = .ok (.iload_n 0, 1) := by decide +kernel
theorem dX0_order_8 : decode cX0_order 8 = .ok (.invokestatic 32, 3) := by decide +kernel
theorem dX0_order_11 : decode cX0_order 11 = .ok (.istore 5, 2) := by decide +kernel
theorem dX0_order_13 : decode cX0_order 13 = .ok (.iconst 0, 1) := by decide +kernel
theorem dX0_order_14 : decode cX0_order 14 = .ok (.istore 6, 2) := by decide +kernel
theorem dX0_order_16 : decode cX0_order 16 = .ok (.iload 6, 2) := by decide +kernel
theorem dX0_order_18 : decode cX0_order 18 = .ok (.iload 5, 2) := by decide +kernel
theorem dX0_order_20 : decode cX0_order 20 = .ok (.if_icmp .ge 84, 3) := by decide +kernel
theorem dX0_order_23 : decode cX0_order 23 = .ok (.iload 5, 2) := by decide +kernel
theorem dX0_order_25 : decode cX0_order 25 = .ok (.iconst 1, 1) := by decide +kernel
theorem dX0_order_26 : decode cX0_order 26 = .ok (.isub, 1) := by decide +kernel
theorem dX0_order_27 : decode cX0_order 27 = .ok (.iload 6, 2) := by decide +kernel
theorem dX0_order_29 : decode cX0_order 29 = .ok (.isub, 1) := by decide +kernel
theorem dX0_order_30 : decode cX0_order 30 = .ok (.invokestatic 37, 3) := by decide +kernel
theorem dX0_order_33 : decode cX0_order 33 = .ok (.istore 7, 2) := by decide +kernel
theorem dX0_order_35 : decode cX0_order 35 = .ok (.iconst 0, 1) := by decide +kernel
theorem dX0_order_36 : decode cX0_order 36 = .ok (.istore 8, 2) := by decide +kernel
theorem dX0_order_38 : decode cX0_order 38 = .ok (.iload 8, 2) := by decide +kernel
theorem dX0_order_40 : decode cX0_order 40 = .ok (.iconst 5, 1) := by decide +kernel
theorem dX0_order_41 : decode cX0_order 41 = .ok (.if_icmp .ge 57, 3) := by decide +kernel
theorem dX0_order_44 : decode cX0_order 44 = .ok (.iload_n 3, 1) := by decide +kernel
theorem dX0_order_45 : decode cX0_order 45 = .ok (.iload 8, 2) := by decide +kernel
theorem dX0_order_47 : decode cX0_order 47 = .ok (.invokestatic 25, 3) := by decide +kernel
theorem dX0_order_50 : decode cX0_order 50 = .ok (.ifCond .ne 6, 3) := by decide +kernel
theorem dX0_order_53 : decode cX0_order 53 = .ok (.goto 39, 3) := by decide +kernel
theorem dX0_order_56 : decode cX0_order 56 = .ok (.iload 4, 2) := by decide +kernel
theorem dX0_order_58 : decode cX0_order 58 = .ok (.iload 7, 2) := by decide +kernel
theorem dX0_order_60 : decode cX0_order 60 = .ok (.if_icmp .ge 25, 3) := by decide +kernel
theorem dX0_order_63 : decode cX0_order 63 = .ok (.iload_n 2, 1) := by decide +kernel
theorem dX0_order_64 : decode cX0_order 64 = .ok (.iload 8, 2) := by decide +kernel
theorem dX0_order_66 : decode cX0_order 66 = .ok (.iconst 1, 1) := by decide +kernel
theorem dX0_order_67 : decode cX0_order 67 = .ok (.iadd, 1) := by decide +kernel
theorem dX0_order_68 : decode cX0_order 68 = .ok (.iconst 3, 1) := by decide +kernel
theorem dX0_order_69 : decode cX0_order 69 = .ok (.iload 6, 2) := by decide +kernel
theorem dX0_order_71 : decode cX0_order 71 = .ok (.imul, 1) := by decide +kernel
theorem dX0_order_72 : decode cX0_order 72 = .ok (.ishl, 1) := by decide +kernel
theorem dX0_order_73 : decode cX0_order 73 = .ok (.ior, 1) := by decide +kernel
theorem dX0_order_74 : decode cX0_order 74 = .ok (.istore_n 2, 1) := by decide +kernel
theorem dX0_order_75 : decode cX0_order 75 = .ok (.iload_n 3, 1) := by decide +kernel
theorem dX0_order_76 : decode cX0_order 76 = .ok (.iload 8, 2) := by decide +kernel
theorem dX0_order_78 : decode cX0_order 78 = .ok (.invokestatic 40, 3) := by decide +kernel
theorem dX0_order_81 : decode cX0_order 81 = .ok (.istore_n 3, 1) := by decide +kernel
theorem dX0_order_82 : decode cX0_order 82 = .ok (.goto 16, 3) := by decide +kernel
theorem dX0_order_85 : decode cX0_order 85 = .ok (.iload 4, 2) := by decide +kernel
theorem dX0_order_87 : decode cX0_order 87 = .ok (.iload 7, 2) := by decide +kernel
theorem dX0_order_89 : decode cX0_order 89 = .ok (.isub, 1) := by decide +kernel
theorem dX0_order_90 : decode cX0_order 90 = .ok (.istore 4, 2) := by decide +kernel
theorem dX0_order_92 : decode cX0_order 92 = .ok (.iinc 8 1, 3) := by decide +kernel
theorem dX0_order_95 : decode cX0_order 95 = .ok (.goto (-57), 3) := by decide +kernel
theorem dX0_order_98 : decode cX0_order 98 = .ok (.iinc 6 1, 3) := by decide +kernel
theorem dX0_order_101 : decode cX0_order 101 = .ok (.goto (-85), 3) := by decide +kernel
theorem dX0_order_104 : decode cX0_order 104 = .ok (.iload_n 2, 1) := by decide +kernel
theorem dX0_order_105 : decode cX0_order 105 = .ok (.ireturn, 1) := by decide +kernel
theorem dX1_exists_0 : decode cX1_exists 0 = .ok (.iload_n 0, 1) := by decide +kernel
theorem dX1_exists_1 : decode cX1_exists 1 = .ok (.ifCond .lt 12, 3) := by decide +kernel
theorem dX1_exists_4 : decode cX1_exists 4 = .ok (.iload_n 0, 1) := by decide +kernel
theorem dX1_exists_5 : decode cX1_exists 5 = .ok (.iconst 5, 1) := by decide +kernel
theorem dX1_exists_6 : decode cX1_exists 6 = .ok (.if_icmp .ge 7, 3) := by decide +kernel
theorem dX1_exists_9 : decode cX1_exists 9 = .ok (.iconst 1, 1) := by decide +kernel
theorem dX1_exists_10 : decode cX1_exists 10 = .ok (.goto 4, 3) := by decide +kernel
theorem dX1_exists_13 : decode cX1_exists 13 = .ok (.iconst 0, 1) := by decide +kernel
theorem dX1_exists_14 : decode cX1_exists 14 = .ok (.ireturn, 1) := by decide +kernel
theorem dX1_has_0 : decode cX1_has 0 = .ok (.iload_n 1, 1) := by decide +kernel
theorem dX1_has_1 : decode cX1_has 1 = .ok (.ifCond .lt 20, 3) := by decide +kernel
theorem dX1_has_4 : decode cX1_has 4 = .ok (.iload_n 1, 1) := by decide +kernel
theorem dX1_has_5 : decode cX1_has 5 = .ok (.iconst 5, 1) := by decide +kernel
theorem dX1_has_6 : decode cX1_has 6 = .ok (.if_icmp .ge 15, 3) := by decide +kernel
theorem dX1_has_9 : decode cX1_has 9 = .ok (.iload_n 0, 1) := by decide +kernel
theorem dX1_has_10 : decode cX1_has 10 = .ok (.iload_n 1, 1) := by decide +kernel
theorem dX1_has_11 : decode cX1_has 11 = .ok (.iushr, 1) := by decide +kernel
theorem dX1_has_12 : decode cX1_has 12 = .ok (.iconst 1, 1) := by decide +kernel
theorem dX1_has_13 : decode cX1_has 13 = .ok (.iand, 1) := by decide +kernel
theorem dX1_has_14 : decode cX1_has 14 = .ok (.ifCond .eq 7, 3) := by decide +kernel
theorem dX1_has_17 : decode cX1_has 17 = .ok (.iconst 1, 1) := by decide +kernel
theorem dX1_has_18 : decode cX1_has 18 = .ok (.goto 4, 3) := by decide +kernel
theorem dX1_has_21 : decode cX1_has 21 = .ok (.iconst 0, 1) := by decide +kernel
theorem dX1_has_22 : decode cX1_has 22 = .ok (.ireturn, 1) := by decide +kernel
theorem dX1_without_0 : decode cX1_without 0 = .ok (.iload_n 1, 1) := by decide +kernel
theorem dX1_without_1 : decode cX1_without 1 = .ok (.ifCond .lt 18, 3) := by decide +kernel
theorem dX1_without_4 : decode cX1_without 4 = .ok (.iload_n 1, 1) := by decide +kernel
theorem dX1_without_5 : decode cX1_without 5 = .ok (.iconst 5, 1) := by decide +kernel
theorem dX1_without_6 : decode cX1_without 6 = .ok (.if_icmp .ge 13, 3) := by decide +kernel
theorem dX1_without_9 : decode cX1_without 9 = .ok (.iload_n 0, 1) := by decide +kernel
theorem dX1_without_10 : decode cX1_without 10 = .ok (.iconst 1, 1) := by decide +kernel
theorem dX1_without_11 : decode cX1_without 11 = .ok (.iload_n 1, 1) := by decide +kernel
theorem dX1_without_12 : decode cX1_without 12 = .ok (.ishl, 1) := by decide +kernel
theorem dX1_without_13 : decode cX1_without 13 = .ok (.iconst (-1), 1) := by decide +kernel
theorem dX1_without_14 : decode cX1_without 14 = .ok (.ixor, 1) := by decide +kernel
theorem dX1_without_15 : decode cX1_without 15 = .ok (.iand, 1) := by decide +kernel
theorem dX1_without_16 : decode cX1_without 16 = .ok (.goto 4, 3) := by decide +kernel
theorem dX1_without_19 : decode cX1_without 19 = .ok (.iload_n 0, 1) := by decide +kernel
theorem dX1_without_20 : decode cX1_without 20 = .ok (.ireturn, 1) := by decide +kernel
theorem dX1_lowest_0 : decode cX1_lowest 0 = .ok (.iconst 0, 1) := by decide +kernel
theorem dX1_lowest_1 : decode cX1_lowest 1 = .ok (.istore_n 1, 1) := by decide +kernel
theorem dX1_lowest_2 : decode cX1_lowest 2 = .ok (.iload_n 1, 1) := by decide +kernel
theorem dX1_lowest_3 : decode cX1_lowest 3 = .ok (.iconst 5, 1) := by decide +kernel
theorem dX1_lowest_4 : decode cX1_lowest 4 = .ok (.if_icmp .ge 19, 3) := by decide +kernel
theorem dX1_lowest_7 : decode cX1_lowest 7 = .ok (.iload_n 0, 1) := by decide +kernel
theorem dX1_lowest_8 : decode cX1_lowest 8 = .ok (.iload_n 1, 1) := by decide +kernel
theorem dX1_lowest_9 : decode cX1_lowest 9 = .ok (.invokestatic 9, 3) := by decide +kernel
theorem dX1_lowest_12 : decode cX1_lowest 12 = .ok (.ifCond .eq 5, 3) := by decide +kernel
theorem dX1_lowest_15 : decode cX1_lowest 15 = .ok (.iload_n 1, 1) := by decide +kernel
theorem dX1_lowest_16 : decode cX1_lowest 16 = .ok (.ireturn, 1) := by decide +kernel
theorem dX1_lowest_17 : decode cX1_lowest 17 = .ok (.iinc 1 1, 3) := by decide +kernel
theorem dX1_lowest_20 : decode cX1_lowest 20 = .ok (.goto (-18), 3) := by decide +kernel
theorem dX1_lowest_23 : decode cX1_lowest 23 = .ok (.iconst (-1), 1) := by decide +kernel
theorem dX1_lowest_24 : decode cX1_lowest 24 = .ok (.ireturn, 1) := by decide +kernel
theorem dX2_init_0 : decode cX2_init 0 = .ok (.aload_n 0, 1) := by decide +kernel
theorem dX2_init_1 : decode cX2_init 1 = .ok (.invokespecial 3, 3) := by decide +kernel
theorem dX2_init_4 : decode cX2_init 4 = .ok (.aload_n 0, 1) := by decide +kernel
theorem dX2_init_5 : decode cX2_init 5 = .ok (.iconst 5, 1) := by decide +kernel
theorem dX2_init_6 : decode cX2_init 6 = .ok (.iconst 5, 1) := by decide +kernel
theorem dX2_init_7 : decode cX2_init 7 = .ok (.multianewarray 9 2, 4) := by decide +kernel
theorem dX2_init_11 : decode cX2_init 11 = .ok (.putfield 11, 3) := by decide +kernel
theorem dX2_init_14 : decode cX2_init 14 = .ok (.aload_n 0, 1) := by decide +kernel
theorem dX2_init_15 : decode cX2_init 15 = .ok (.iconst 5, 1) := by decide +kernel
theorem dX2_init_16 : decode cX2_init 16 = .ok (.newarray .int, 2) := by decide +kernel
theorem dX2_init_18 : decode cX2_init 18 = .ok (.putfield 16, 3) := by decide +kernel
theorem dX2_init_21 : decode cX2_init 21 = .ok (.aload_n 0, 1) := by decide +kernel
theorem dX2_init_22 : decode cX2_init 22 = .ok (.iconst 5, 1) := by decide +kernel
theorem dX2_init_23 : decode cX2_init 23 = .ok (.newarray .int, 2) := by decide +kernel
theorem dX2_init_25 : decode cX2_init 25 = .ok (.putfield 20, 3) := by decide +kernel
theorem dX2_init_28 : decode cX2_init 28 = .ok (.return_, 1) := by decide +kernel
theorem dX2_champion_0 : decode cX2_champion 0 = .ok (.iconst 0, 1) := by decide +kernel
theorem dX2_champion_1 : decode cX2_champion 1 = .ok (.istore_n 2, 1) := by decide +kernel
theorem dX2_champion_2 : decode cX2_champion 2 = .ok (.iload_n 2, 1) := by decide +kernel
theorem dX2_champion_3 : decode cX2_champion 3 = .ok (.iconst 5, 1) := by decide +kernel
theorem dX2_champion_4 : decode cX2_champion 4 = .ok (.if_icmp .ge 33, 3) := by decide +kernel
theorem dX2_champion_7 : decode cX2_champion 7 = .ok (.aload_n 1, 1) := by decide +kernel
theorem dX2_champion_8 : decode cX2_champion 8 = .ok (.getfield 23, 3) := by decide +kernel
theorem dX2_champion_11 : decode cX2_champion 11 = .ok (.iload_n 2, 1) := by decide +kernel
theorem dX2_champion_12 : decode cX2_champion 12 = .ok (.invokestatic 29, 3) := by decide +kernel
theorem dX2_champion_15 : decode cX2_champion 15 = .ok (.ifCond .eq 16, 3) := by decide +kernel
theorem dX2_champion_18 : decode cX2_champion 18 = .ok (.aload_n 0, 1) := by decide +kernel
theorem dX2_champion_19 : decode cX2_champion 19 = .ok (.aload_n 1, 1) := by decide +kernel
theorem dX2_champion_20 : decode cX2_champion 20 = .ok (.iconst 1, 1) := by decide +kernel
theorem dX2_champion_21 : decode cX2_champion 21 = .ok (.iload_n 2, 1) := by decide +kernel
theorem dX2_champion_22 : decode cX2_champion 22 = .ok (.ishl, 1) := by decide +kernel
theorem dX2_champion_23 : decode cX2_champion 23 = .ok (.invokevirtual 35, 3) := by decide +kernel
theorem dX2_champion_26 : decode cX2_champion 26 = .ok (.ifCond .eq 5, 3) := by decide +kernel
theorem dX2_champion_29 : decode cX2_champion 29 = .ok (.iload_n 2, 1) := by decide +kernel
theorem dX2_champion_30 : decode cX2_champion 30 = .ok (.ireturn, 1) := by decide +kernel
theorem dX2_champion_31 : decode cX2_champion 31 = .ok (.iinc 2 1, 3) := by decide +kernel
theorem dX2_champion_34 : decode cX2_champion 34 = .ok (.goto (-32), 3) := by decide +kernel
theorem dX2_champion_37 : decode cX2_champion 37 = .ok (.iconst (-1), 1) := by decide +kernel
theorem dX2_champion_38 : decode cX2_champion 38 = .ok (.ireturn, 1) := by decide +kernel
theorem dX2_loser_0 : decode cX2_loser 0 = .ok (.iconst 0, 1) := by decide +kernel
theorem dX2_loser_1 : decode cX2_loser 1 = .ok (.istore_n 2, 1) := by decide +kernel
theorem dX2_loser_2 : decode cX2_loser 2 = .ok (.iload_n 2, 1) := by decide +kernel
theorem dX2_loser_3 : decode cX2_loser 3 = .ok (.iconst 5, 1) := by decide +kernel
theorem dX2_loser_4 : decode cX2_loser 4 = .ok (.if_icmp .ge 44, 3) := by decide +kernel
theorem dX2_loser_7 : decode cX2_loser 7 = .ok (.aload_n 1, 1) := by decide +kernel
theorem dX2_loser_8 : decode cX2_loser 8 = .ok (.getfield 23, 3) := by decide +kernel
theorem dX2_loser_11 : decode cX2_loser 11 = .ok (.iload_n 2, 1) := by decide +kernel
theorem dX2_loser_12 : decode cX2_loser 12 = .ok (.invokestatic 39, 3) := by decide +kernel
theorem dX2_loser_15 : decode cX2_loser 15 = .ok (.istore_n 3, 1) := by decide +kernel
theorem dX2_loser_16 : decode cX2_loser 16 = .ok (.aload_n 1, 1) := by decide +kernel
theorem dX2_loser_17 : decode cX2_loser 17 = .ok (.getfield 23, 3) := by decide +kernel
theorem dX2_loser_20 : decode cX2_loser 20 = .ok (.iload_n 2, 1) := by decide +kernel
theorem dX2_loser_21 : decode cX2_loser 21 = .ok (.invokestatic 29, 3) := by decide +kernel
theorem dX2_loser_24 : decode cX2_loser 24 = .ok (.ifCond .eq 18, 3) := by decide +kernel
theorem dX2_loser_27 : decode cX2_loser 27 = .ok (.iload_n 3, 1) := by decide +kernel
theorem dX2_loser_28 : decode cX2_loser 28 = .ok (.ifCond .eq 14, 3) := by decide +kernel
theorem dX2_loser_31 : decode cX2_loser 31 = .ok (.aload_n 0, 1) := by decide +kernel
theorem dX2_loser_32 : decode cX2_loser 32 = .ok (.aload_n 1, 1) := by decide +kernel
theorem dX2_loser_33 : decode cX2_loser 33 = .ok (.iload_n 3, 1) := by decide +kernel
theorem dX2_loser_34 : decode cX2_loser 34 = .ok (.invokevirtual 35, 3) := by decide +kernel
theorem dX2_loser_37 : decode cX2_loser 37 = .ok (.ifCond .eq 5, 3) := by decide +kernel
theorem dX2_loser_40 : decode cX2_loser 40 = .ok (.iload_n 2, 1) := by decide +kernel
theorem dX2_loser_41 : decode cX2_loser 41 = .ok (.ireturn, 1) := by decide +kernel
theorem dX2_loser_42 : decode cX2_loser 42 = .ok (.iinc 2 1, 3) := by decide +kernel
theorem dX2_loser_45 : decode cX2_loser 45 = .ok (.goto (-43), 3) := by decide +kernel
theorem dX2_loser_48 : decode cX2_loser 48 = .ok (.iconst (-1), 1) := by decide +kernel
theorem dX2_loser_49 : decode cX2_loser 49 = .ok (.ireturn, 1) := by decide +kernel
theorem dX2_smithSet_0 : decode cX2_smithSet 0 = .ok (.aload_n 1, 1) := by decide +kernel
theorem dX2_smithSet_1 : decode cX2_smithSet 1 = .ok (.getfield 23, 3) := by decide +kernel
theorem dX2_smithSet_4 : decode cX2_smithSet 4 = .ok (.istore_n 2, 1) := by decide +kernel
theorem dX2_smithSet_5 : decode cX2_smithSet 5 = .ok (.iconst 1, 1) := by decide +kernel
theorem dX2_smithSet_6 : decode cX2_smithSet 6 = .ok (.istore_n 3, 1) := by decide +kernel
theorem dX2_smithSet_7 : decode cX2_smithSet 7 = .ok (.iload_n 3, 1) := by decide +kernel
theorem dX2_smithSet_8 : decode cX2_smithSet 8 = .ok (.bipush 31, 2) := by decide +kernel
theorem dX2_smithSet_10 : decode cX2_smithSet 10 = .ok (.if_icmp .ge 42, 3) := by decide +kernel
theorem dX2_smithSet_13 : decode cX2_smithSet 13 = .ok (.iload_n 3, 1) := by decide +kernel
theorem dX2_smithSet_14 : decode cX2_smithSet 14 = .ok (.aload_n 1, 1) := by decide +kernel
theorem dX2_smithSet_15 : decode cX2_smithSet 15 = .ok (.getfield 23, 3) := by decide +kernel
theorem dX2_smithSet_18 : decode cX2_smithSet 18 = .ok (.iconst (-1), 1) := by decide +kernel
theorem dX2_smithSet_19 : decode cX2_smithSet 19 = .ok (.ixor, 1) := by decide +kernel
theorem dX2_smithSet_20 : decode cX2_smithSet 20 = .ok (.iand, 1) := by decide +kernel
theorem dX2_smithSet_21 : decode cX2_smithSet 21 = .ok (.ifCond .ne 25, 3) := by decide +kernel
theorem dX2_smithSet_24 : decode cX2_smithSet 24 = .ok (.aload_n 0, 1) := by decide +kernel
theorem dX2_smithSet_25 : decode cX2_smithSet 25 = .ok (.aload_n 1, 1) := by decide +kernel
theorem dX2_smithSet_26 : decode cX2_smithSet 26 = .ok (.iload_n 3, 1) := by decide +kernel
theorem dX2_smithSet_27 : decode cX2_smithSet 27 = .ok (.invokevirtual 35, 3) := by decide +kernel
theorem dX2_smithSet_30 : decode cX2_smithSet 30 = .ok (.ifCond .eq 16, 3) := by decide +kernel
theorem dX2_smithSet_33 : decode cX2_smithSet 33 = .ok (.iload_n 3, 1) := by decide +kernel
theorem dX2_smithSet_34 : decode cX2_smithSet 34 = .ok (.invokestatic 43, 3) := by decide +kernel
theorem dX2_smithSet_37 : decode cX2_smithSet 37 = .ok (.iload_n 2, 1) := by decide +kernel
theorem dX2_smithSet_38 : decode cX2_smithSet 38 = .ok (.invokestatic 43, 3) := by decide +kernel
theorem dX2_smithSet_41 : decode cX2_smithSet 41 = .ok (.if_icmp .ge 5, 3) := by decide +kernel
theorem dX2_smithSet_44 : decode cX2_smithSet 44 = .ok (.iload_n 3, 1) := by decide +kernel
theorem dX2_smithSet_45 : decode cX2_smithSet 45 = .ok (.istore_n 2, 1) := by decide +kernel
theorem dX2_smithSet_46 : decode cX2_smithSet 46 = .ok (.iinc 3 1, 3) := by decide +kernel
theorem dX2_smithSet_49 : decode cX2_smithSet 49 = .ok (.goto (-42), 3) := by decide +kernel
theorem dX2_smithSet_52 : decode cX2_smithSet 52 = .ok (.iload_n 2, 1) := by decide +kernel
theorem dX2_smithSet_53 : decode cX2_smithSet 53 = .ok (.ireturn, 1) := by decide +kernel
theorem dX2_dominates_0 : decode cX2_dominates 0 = .ok (.iconst 0, 1) := by decide +kernel
theorem dX2_dominates_1 : decode cX2_dominates 1 = .ok (.istore_n 3, 1) := by decide +kernel
theorem dX2_dominates_2 : decode cX2_dominates 2 = .ok (.iload_n 3, 1) := by decide +kernel
theorem dX2_dominates_3 : decode cX2_dominates 3 = .ok (.iconst 5, 1) := by decide +kernel
theorem dX2_dominates_4 : decode cX2_dominates 4 = .ok (.if_icmp .ge 71, 3) := by decide +kernel
theorem dX2_dominates_7 : decode cX2_dominates 7 = .ok (.iconst 0, 1) := by decide +kernel
theorem dX2_dominates_8 : decode cX2_dominates 8 = .ok (.istore 4, 2) := by decide +kernel
theorem dX2_dominates_10 : decode cX2_dominates 10 = .ok (.iload 4, 2) := by decide +kernel
theorem dX2_dominates_12 : decode cX2_dominates 12 = .ok (.iconst 5, 1) := by decide +kernel
theorem dX2_dominates_13 : decode cX2_dominates 13 = .ok (.if_icmp .ge 56, 3) := by decide +kernel
theorem dX2_dominates_16 : decode cX2_dominates 16 = .ok (.iload_n 2, 1) := by decide +kernel
theorem dX2_dominates_17 : decode cX2_dominates 17 = .ok (.iload_n 3, 1) := by decide +kernel
theorem dX2_dominates_18 : decode cX2_dominates 18 = .ok (.invokestatic 29, 3) := by decide +kernel
theorem dX2_dominates_21 : decode cX2_dominates 21 = .ok (.ifCond .eq 42, 3) := by decide +kernel
theorem dX2_dominates_24 : decode cX2_dominates 24 = .ok (.aload_n 1, 1) := by decide +kernel
theorem dX2_dominates_25 : decode cX2_dominates 25 = .ok (.getfield 23, 3) := by decide +kernel
theorem dX2_dominates_28 : decode cX2_dominates 28 = .ok (.iload_n 2, 1) := by decide +kernel
theorem dX2_dominates_29 : decode cX2_dominates 29 = .ok (.iconst (-1), 1) := by decide +kernel
theorem dX2_dominates_30 : decode cX2_dominates 30 = .ok (.ixor, 1) := by decide +kernel
theorem dX2_dominates_31 : decode cX2_dominates 31 = .ok (.iand, 1) := by decide +kernel
theorem dX2_dominates_32 : decode cX2_dominates 32 = .ok (.iload 4, 2) := by decide +kernel
theorem dX2_dominates_34 : decode cX2_dominates 34 = .ok (.invokestatic 29, 3) := by decide +kernel
theorem dX2_dominates_37 : decode cX2_dominates 37 = .ok (.ifCond .eq 26, 3) := by decide +kernel
theorem dX2_dominates_40 : decode cX2_dominates 40 = .ok (.aload_n 1, 1) := by decide +kernel
theorem dX2_dominates_41 : decode cX2_dominates 41 = .ok (.getfield 49, 3) := by decide +kernel
theorem dX2_dominates_44 : decode cX2_dominates 44 = .ok (.iload_n 3, 1) := by decide +kernel
theorem dX2_dominates_45 : decode cX2_dominates 45 = .ok (.aaload, 1) := by decide +kernel
theorem dX2_dominates_46 : decode cX2_dominates 46 = .ok (.iload 4, 2) := by decide +kernel
theorem dX2_dominates_48 : decode cX2_dominates 48 = .ok (.iaload, 1) := by decide +kernel
theorem dX2_dominates_49 : decode cX2_dominates 49 = .ok (.aload_n 1, 1) := by decide +kernel
theorem dX2_dominates_50 : decode cX2_dominates 50 = .ok (.getfield 49, 3) := by decide +kernel
theorem dX2_dominates_53 : decode cX2_dominates 53 = .ok (.iload 4, 2) := by decide +kernel
theorem dX2_dominates_55 : decode cX2_dominates 55 = .ok (.aaload, 1) := by decide +kernel
theorem dX2_dominates_56 : decode cX2_dominates 56 = .ok (.iload_n 3, 1) := by decide +kernel
theorem dX2_dominates_57 : decode cX2_dominates 57 = .ok (.iaload, 1) := by decide +kernel
theorem dX2_dominates_58 : decode cX2_dominates 58 = .ok (.if_icmp .gt 5, 3) := by decide +kernel
theorem dX2_dominates_61 : decode cX2_dominates 61 = .ok (.iconst 0, 1) := by decide +kernel
theorem dX2_dominates_62 : decode cX2_dominates 62 = .ok (.ireturn, 1) := by decide +kernel
theorem dX2_dominates_63 : decode cX2_dominates 63 = .ok (.iinc 4 1, 3) := by decide +kernel
theorem dX2_dominates_66 : decode cX2_dominates 66 = .ok (.goto (-56), 3) := by decide +kernel
theorem dX2_dominates_69 : decode cX2_dominates 69 = .ok (.iinc 3 1, 3) := by decide +kernel
theorem dX2_dominates_72 : decode cX2_dominates 72 = .ok (.goto (-70), 3) := by decide +kernel
theorem dX2_dominates_75 : decode cX2_dominates 75 = .ok (.iconst 1, 1) := by decide +kernel
theorem dX2_dominates_76 : decode cX2_dominates 76 = .ok (.ireturn, 1) := by decide +kernel
theorem dX2_strengthOf_0 : decode cX2_strengthOf 0 = .ok (.iload_n 1, 1) := by decide +kernel
theorem dX2_strengthOf_1 : decode cX2_strengthOf 1 = .ok (.invokestatic 52, 3) := by decide +kernel
theorem dX2_strengthOf_4 : decode cX2_strengthOf 4 = .ok (.ifCond .eq 21, 3) := by decide +kernel
theorem dX2_strengthOf_7 : decode cX2_strengthOf 7 = .ok (.iload_n 2, 1) := by decide +kernel
theorem dX2_strengthOf_8 : decode cX2_strengthOf 8 = .ok (.invokestatic 52, 3) := by decide +kernel
theorem dX2_strengthOf_11 : decode cX2_strengthOf 11 = .ok (.ifCond .eq 14, 3) := by decide +kernel
theorem dX2_strengthOf_14 : decode cX2_strengthOf 14 = .ok (.aload_n 0, 1) := by decide +kernel
theorem dX2_strengthOf_15 : decode cX2_strengthOf 15 = .ok (.getfield 11, 3) := by decide +kernel
theorem dX2_strengthOf_18 : decode cX2_strengthOf 18 = .ok (.iload_n 1, 1) := by decide +kernel
theorem dX2_strengthOf_19 : decode cX2_strengthOf 19 = .ok (.aaload, 1) := by decide +kernel
theorem dX2_strengthOf_20 : decode cX2_strengthOf 20 = .ok (.iload_n 2, 1) := by decide +kernel
theorem dX2_strengthOf_21 : decode cX2_strengthOf 21 = .ok (.iaload, 1) := by decide +kernel
theorem dX2_strengthOf_22 : decode cX2_strengthOf 22 = .ok (.goto 4, 3) := by decide +kernel
theorem dX2_strengthOf_25 : decode cX2_strengthOf 25 = .ok (.iconst 0, 1) := by decide +kernel
theorem dX2_strengthOf_26 : decode cX2_strengthOf 26 = .ok (.ireturn, 1) := by decide +kernel
theorem dX2_findStrengths_0 : decode cX2_findStrengths 0 = .ok (.iconst 0, 1) := by decide +kernel
theorem dX2_findStrengths_1 : decode cX2_findStrengths 1 = .ok (.istore_n 2, 1) := by decide +kernel
theorem dX2_findStrengths_2 : decode cX2_findStrengths 2 = .ok (.iload_n 2, 1) := by decide +kernel
theorem dX2_findStrengths_3 : decode cX2_findStrengths 3 = .ok (.iconst 5, 1) := by decide +kernel
theorem dX2_findStrengths_4 : decode cX2_findStrengths 4 = .ok (.if_icmp .ge 59, 3) := by decide +kernel
theorem dX2_findStrengths_7 : decode cX2_findStrengths 7 = .ok (.iconst 0, 1) := by decide +kernel
theorem dX2_findStrengths_8 : decode cX2_findStrengths 8 = .ok (.istore_n 3, 1) := by decide +kernel
theorem dX2_findStrengths_9 : decode cX2_findStrengths 9 = .ok (.iload_n 3, 1) := by decide +kernel
theorem dX2_findStrengths_10 : decode cX2_findStrengths 10 = .ok (.iconst 5, 1) := by decide +kernel
theorem dX2_findStrengths_11 : decode cX2_findStrengths 11 = .ok (.if_icmp .ge 46, 3) := by decide +kernel
theorem dX2_findStrengths_14 : decode cX2_findStrengths 14 = .ok (.aload_n 1, 1) := by decide +kernel
theorem dX2_findStrengths_15 : decode cX2_findStrengths 15 = .ok (.getfield 49, 3) := by decide +kernel
theorem dX2_findStrengths_18 : decode cX2_findStrengths 18 = .ok (.iload_n 2, 1) := by decide +kernel
theorem dX2_findStrengths_19 : decode cX2_findStrengths 19 = .ok (.aaload, 1) := by decide +kernel
theorem dX2_findStrengths_20 : decode cX2_findStrengths 20 = .ok (.iload_n 3, 1) := by decide +kernel
theorem dX2_findStrengths_21 : decode cX2_findStrengths 21 = .ok (.iaload, 1) := by decide +kernel
theorem dX2_findStrengths_22 : decode cX2_findStrengths 22 = .ok (.istore 4, 2) := by decide +kernel
theorem dX2_findStrengths_24 : decode cX2_findStrengths 24 = .ok (.aload_n 0, 1) := by decide +kernel
theorem dX2_findStrengths_25 : decode cX2_findStrengths 25 = .ok (.getfield 11, 3) := by decide +kernel
theorem dX2_findStrengths_28 : decode cX2_findStrengths 28 = .ok (.iload_n 2, 1) := by decide +kernel
theorem dX2_findStrengths_29 : decode cX2_findStrengths 29 = .ok (.aaload, 1) := by decide +kernel
theorem dX2_findStrengths_30 : decode cX2_findStrengths 30 = .ok (.iload_n 3, 1) := by decide +kernel
theorem dX2_findStrengths_31 : decode cX2_findStrengths 31 = .ok (.iload 4, 2) := by decide +kernel
theorem dX2_findStrengths_33 : decode cX2_findStrengths 33 = .ok (.aload_n 1, 1) := by decide +kernel
theorem dX2_findStrengths_34 : decode cX2_findStrengths 34 = .ok (.getfield 49, 3) := by decide +kernel
theorem dX2_findStrengths_37 : decode cX2_findStrengths 37 = .ok (.iload_n 3, 1) := by decide +kernel
theorem dX2_findStrengths_38 : decode cX2_findStrengths 38 = .ok (.aaload, 1) := by decide +kernel
theorem dX2_findStrengths_39 : decode cX2_findStrengths 39 = .ok (.iload_n 2, 1) := by decide +kernel
theorem dX2_findStrengths_40 : decode cX2_findStrengths 40 = .ok (.iaload, 1) := by decide +kernel
theorem dX2_findStrengths_41 : decode cX2_findStrengths 41 = .ok (.if_icmp .le 8, 3) := by decide +kernel
theorem dX2_findStrengths_44 : decode cX2_findStrengths 44 = .ok (.iload 4, 2) := by decide +kernel
theorem dX2_findStrengths_46 : decode cX2_findStrengths 46 = .ok (.goto 4, 3) := by decide +kernel
theorem dX2_findStrengths_49 : decode cX2_findStrengths 49 = .ok (.iconst 0, 1) := by decide +kernel
theorem dX2_findStrengths_50 : decode cX2_findStrengths 50 = .ok (.iastore, 1) := by decide +kernel
theorem dX2_findStrengths_51 : decode cX2_findStrengths 51 = .ok (.iinc 3 1, 3) := by decide +kernel
theorem dX2_findStrengths_54 : decode cX2_findStrengths 54 = .ok (.goto (-45), 3) := by decide +kernel
theorem dX2_findStrengths_57 : decode cX2_findStrengths 57 = .ok (.iinc 2 1, 3) := by decide +kernel
theorem dX2_findStrengths_60 : decode cX2_findStrengths 60 = .ok (.goto (-58), 3) := by decide +kernel
theorem dX2_findStrengths_63 : decode cX2_findStrengths 63 = .ok (.iconst 0, 1) := by decide +kernel
theorem dX2_findStrengths_64 : decode cX2_findStrengths 64 = .ok (.istore_n 2, 1) := by decide +kernel
theorem dX2_findStrengths_65 : decode cX2_findStrengths 65 = .ok (.iload_n 2, 1) := by decide +kernel
theorem dX2_findStrengths_66 : decode cX2_findStrengths 66 = .ok (.iconst 5, 1) := by decide +kernel
theorem dX2_findStrengths_67 : decode cX2_findStrengths 67 = .ok (.if_icmp .ge 82, 3) := by decide +kernel
theorem dX2_findStrengths_70 : decode cX2_findStrengths 70 = .ok (.iconst 0, 1) := by decide +kernel
theorem dX2_findStrengths_71 : decode cX2_findStrengths 71 = .ok (.istore_n 3, 1) := by decide +kernel
theorem dX2_findStrengths_72 : decode cX2_findStrengths 72 = .ok (.iload_n 3, 1) := by decide +kernel
theorem dX2_findStrengths_73 : decode cX2_findStrengths 73 = .ok (.iconst 5, 1) := by decide +kernel
theorem dX2_findStrengths_74 : decode cX2_findStrengths 74 = .ok (.if_icmp .ge 69, 3) := by decide +kernel
theorem dX2_findStrengths_77 : decode cX2_findStrengths 77 = .ok (.iconst 0, 1) := by decide +kernel
theorem dX2_findStrengths_78 : decode cX2_findStrengths 78 = .ok (.istore 4, 2) := by decide +kernel
theorem dX2_findStrengths_80 : decode cX2_findStrengths 80 = .ok (.iload 4, 2) := by decide +kernel
theorem dX2_findStrengths_82 : decode cX2_findStrengths 82 = .ok (.iconst 5, 1) := by decide +kernel
theorem dX2_findStrengths_83 : decode cX2_findStrengths 83 = .ok (.if_icmp .ge 54, 3) := by decide +kernel
theorem dX2_findStrengths_86 : decode cX2_findStrengths 86 = .ok (.aload_n 0, 1) := by decide +kernel
theorem dX2_findStrengths_87 : decode cX2_findStrengths 87 = .ok (.getfield 11, 3) := by decide +kernel
theorem dX2_findStrengths_90 : decode cX2_findStrengths 90 = .ok (.iload_n 3, 1) := by decide +kernel
theorem dX2_findStrengths_91 : decode cX2_findStrengths 91 = .ok (.aaload, 1) := by decide +kernel
theorem dX2_findStrengths_92 : decode cX2_findStrengths 92 = .ok (.iload_n 2, 1) := by decide +kernel
theorem dX2_findStrengths_93 : decode cX2_findStrengths 93 = .ok (.iaload, 1) := by decide +kernel
theorem dX2_findStrengths_94 : decode cX2_findStrengths 94 = .ok (.aload_n 0, 1) := by decide +kernel
theorem dX2_findStrengths_95 : decode cX2_findStrengths 95 = .ok (.getfield 11, 3) := by decide +kernel
theorem dX2_findStrengths_98 : decode cX2_findStrengths 98 = .ok (.iload_n 2, 1) := by decide +kernel
theorem dX2_findStrengths_99 : decode cX2_findStrengths 99 = .ok (.aaload, 1) := by decide +kernel
theorem dX2_findStrengths_100 : decode cX2_findStrengths 100 = .ok (.iload 4, 2) := by decide +kernel
theorem dX2_findStrengths_102 : decode cX2_findStrengths 102 = .ok (.iaload, 1) := by decide +kernel
theorem dX2_findStrengths_103 : decode cX2_findStrengths 103 = .ok (.invokestatic 56, 3) := by decide +kernel
theorem dX2_findStrengths_106 : decode cX2_findStrengths 106 = .ok (.istore 5, 2) := by decide +kernel
theorem dX2_findStrengths_108 : decode cX2_findStrengths 108 = .ok (.aload_n 0, 1) := by decide +kernel
theorem dX2_findStrengths_109 : decode cX2_findStrengths 109 = .ok (.getfield 11, 3) := by decide +kernel
theorem dX2_findStrengths_112 : decode cX2_findStrengths 112 = .ok (.iload_n 3, 1) := by decide +kernel
theorem dX2_findStrengths_113 : decode cX2_findStrengths 113 = .ok (.aaload, 1) := by decide +kernel
theorem dX2_findStrengths_114 : decode cX2_findStrengths 114 = .ok (.iload 4, 2) := by decide +kernel
theorem dX2_findStrengths_116 : decode cX2_findStrengths 116 = .ok (.aload_n 0, 1) := by decide +kernel
theorem dX2_findStrengths_117 : decode cX2_findStrengths 117 = .ok (.getfield 11, 3) := by decide +kernel
theorem dX2_findStrengths_120 : decode cX2_findStrengths 120 = .ok (.iload_n 3, 1) := by decide +kernel
theorem dX2_findStrengths_121 : decode cX2_findStrengths 121 = .ok (.aaload, 1) := by decide +kernel
theorem dX2_findStrengths_122 : decode cX2_findStrengths 122 = .ok (.iload 4, 2) := by decide +kernel
theorem dX2_findStrengths_124 : decode cX2_findStrengths 124 = .ok (.iaload, 1) := by decide +kernel
theorem dX2_findStrengths_125 : decode cX2_findStrengths 125 = .ok (.iload 5, 2) := by decide +kernel
theorem dX2_findStrengths_127 : decode cX2_findStrengths 127 = .ok (.invokestatic 61, 3) := by decide +kernel
theorem dX2_findStrengths_130 : decode cX2_findStrengths 130 = .ok (.iastore, 1) := by decide +kernel
theorem dX2_findStrengths_131 : decode cX2_findStrengths 131 = .ok (.iinc 4 1, 3) := by decide +kernel
theorem dX2_findStrengths_134 : decode cX2_findStrengths 134 = .ok (.goto (-54), 3) := by decide +kernel
theorem dX2_findStrengths_137 : decode cX2_findStrengths 137 = .ok (.iinc 3 1, 3) := by decide +kernel
theorem dX2_findStrengths_140 : decode cX2_findStrengths 140 = .ok (.goto (-68), 3) := by decide +kernel
theorem dX2_findStrengths_143 : decode cX2_findStrengths 143 = .ok (.iinc 2 1, 3) := by decide +kernel
theorem dX2_findStrengths_146 : decode cX2_findStrengths 146 = .ok (.goto (-81), 3) := by decide +kernel
theorem dX2_findStrengths_149 : decode cX2_findStrengths 149 = .ok (.return_, 1) := by decide +kernel
theorem dX2_strongest_0 : decode cX2_strongest 0 = .ok (.aload_n 1, 1) := by decide +kernel
theorem dX2_strongest_1 : decode cX2_strongest 1 = .ok (.getfield 23, 3) := by decide +kernel
theorem dX2_strongest_4 : decode cX2_strongest 4 = .ok (.istore_n 2, 1) := by decide +kernel
theorem dX2_strongest_5 : decode cX2_strongest 5 = .ok (.iconst 0, 1) := by decide +kernel
theorem dX2_strongest_6 : decode cX2_strongest 6 = .ok (.istore_n 3, 1) := by decide +kernel
theorem dX2_strongest_7 : decode cX2_strongest 7 = .ok (.iload_n 3, 1) := by decide +kernel
theorem dX2_strongest_8 : decode cX2_strongest 8 = .ok (.iconst 5, 1) := by decide +kernel
theorem dX2_strongest_9 : decode cX2_strongest 9 = .ok (.if_icmp .ge 51, 3) := by decide +kernel
theorem dX2_strongest_12 : decode cX2_strongest 12 = .ok (.iconst 0, 1) := by decide +kernel
theorem dX2_strongest_13 : decode cX2_strongest 13 = .ok (.istore 4, 2) := by decide +kernel
theorem dX2_strongest_15 : decode cX2_strongest 15 = .ok (.iload 4, 2) := by decide +kernel
theorem dX2_strongest_17 : decode cX2_strongest 17 = .ok (.iconst 5, 1) := by decide +kernel
theorem dX2_strongest_18 : decode cX2_strongest 18 = .ok (.if_icmp .ge 36, 3) := by decide +kernel
theorem dX2_strongest_21 : decode cX2_strongest 21 = .ok (.aload_n 0, 1) := by decide +kernel
theorem dX2_strongest_22 : decode cX2_strongest 22 = .ok (.getfield 11, 3) := by decide +kernel
theorem dX2_strongest_25 : decode cX2_strongest 25 = .ok (.iload_n 3, 1) := by decide +kernel
theorem dX2_strongest_26 : decode cX2_strongest 26 = .ok (.aaload, 1) := by decide +kernel
theorem dX2_strongest_27 : decode cX2_strongest 27 = .ok (.iload 4, 2) := by decide +kernel
theorem dX2_strongest_29 : decode cX2_strongest 29 = .ok (.iaload, 1) := by decide +kernel
theorem dX2_strongest_30 : decode cX2_strongest 30 = .ok (.aload_n 0, 1) := by decide +kernel
theorem dX2_strongest_31 : decode cX2_strongest 31 = .ok (.getfield 11, 3) := by decide +kernel
theorem dX2_strongest_34 : decode cX2_strongest 34 = .ok (.iload 4, 2) := by decide +kernel
theorem dX2_strongest_36 : decode cX2_strongest 36 = .ok (.aaload, 1) := by decide +kernel
theorem dX2_strongest_37 : decode cX2_strongest 37 = .ok (.iload_n 3, 1) := by decide +kernel
theorem dX2_strongest_38 : decode cX2_strongest 38 = .ok (.iaload, 1) := by decide +kernel
theorem dX2_strongest_39 : decode cX2_strongest 39 = .ok (.if_icmp .ge 9, 3) := by decide +kernel
theorem dX2_strongest_42 : decode cX2_strongest 42 = .ok (.iload_n 2, 1) := by decide +kernel
theorem dX2_strongest_43 : decode cX2_strongest 43 = .ok (.iload_n 3, 1) := by decide +kernel
theorem dX2_strongest_44 : decode cX2_strongest 44 = .ok (.invokestatic 39, 3) := by decide +kernel
theorem dX2_strongest_47 : decode cX2_strongest 47 = .ok (.istore_n 2, 1) := by decide +kernel
theorem dX2_strongest_48 : decode cX2_strongest 48 = .ok (.iinc 4 1, 3) := by decide +kernel
theorem dX2_strongest_51 : decode cX2_strongest 51 = .ok (.goto (-36), 3) := by decide +kernel
theorem dX2_strongest_54 : decode cX2_strongest 54 = .ok (.iinc 3 1, 3) := by decide +kernel
theorem dX2_strongest_57 : decode cX2_strongest 57 = .ok (.goto (-50), 3) := by decide +kernel
theorem dX2_strongest_60 : decode cX2_strongest 60 = .ok (.iload_n 2, 1) := by decide +kernel
theorem dX2_strongest_61 : decode cX2_strongest 61 = .ok (.ireturn, 1) := by decide +kernel
theorem dX2_hasLocked_0 : decode cX2_hasLocked 0 = .ok (.iload_n 1, 1) := by decide +kernel
theorem dX2_hasLocked_1 : decode cX2_hasLocked 1 = .ok (.ifCond .lt 29, 3) := by decide +kernel
theorem dX2_hasLocked_4 : decode cX2_hasLocked 4 = .ok (.iload_n 1, 1) := by decide +kernel
theorem dX2_hasLocked_5 : decode cX2_hasLocked 5 = .ok (.aload_n 0, 1) := by decide +kernel
theorem dX2_hasLocked_6 : decode cX2_hasLocked 6 = .ok (.getfield 16, 3) := by decide +kernel
theorem dX2_hasLocked_9 : decode cX2_hasLocked 9 = .ok (.arraylength, 1) := by decide +kernel
theorem dX2_hasLocked_10 : decode cX2_hasLocked 10 = .ok (.if_icmp .ge 20, 3) := by decide +kernel
theorem dX2_hasLocked_13 : decode cX2_hasLocked 13 = .ok (.aload_n 0, 1) := by decide +kernel
theorem dX2_hasLocked_14 : decode cX2_hasLocked 14 = .ok (.getfield 16, 3) := by decide +kernel
theorem dX2_hasLocked_17 : decode cX2_hasLocked 17 = .ok (.iload_n 1, 1) := by decide +kernel
theorem dX2_hasLocked_18 : decode cX2_hasLocked 18 = .ok (.iaload, 1) := by decide +kernel
theorem dX2_hasLocked_19 : decode cX2_hasLocked 19 = .ok (.iload_n 2, 1) := by decide +kernel
theorem dX2_hasLocked_20 : decode cX2_hasLocked 20 = .ok (.invokestatic 29, 3) := by decide +kernel
theorem dX2_hasLocked_23 : decode cX2_hasLocked 23 = .ok (.ifCond .eq 7, 3) := by decide +kernel
theorem dX2_hasLocked_26 : decode cX2_hasLocked 26 = .ok (.iconst 1, 1) := by decide +kernel
theorem dX2_hasLocked_27 : decode cX2_hasLocked 27 = .ok (.goto 4, 3) := by decide +kernel
theorem dX2_hasLocked_30 : decode cX2_hasLocked 30 = .ok (.iconst 0, 1) := by decide +kernel
theorem dX2_hasLocked_31 : decode cX2_hasLocked 31 = .ok (.ireturn, 1) := by decide +kernel
theorem dX2_lockPairs_0 : decode cX2_lockPairs 0 = .ok (.iconst 0, 1) := by decide +kernel
theorem dX2_lockPairs_1 : decode cX2_lockPairs 1 = .ok (.istore_n 2, 1) := by decide +kernel
theorem dX2_lockPairs_2 : decode cX2_lockPairs 2 = .ok (.iload_n 2, 1) := by decide +kernel
theorem dX2_lockPairs_3 : decode cX2_lockPairs 3 = .ok (.iconst 5, 1) := by decide +kernel
theorem dX2_lockPairs_4 : decode cX2_lockPairs 4 = .ok (.if_icmp .ge 23, 3) := by decide +kernel
theorem dX2_lockPairs_7 : decode cX2_lockPairs 7 = .ok (.aload_n 0, 1) := by decide +kernel
theorem dX2_lockPairs_8 : decode cX2_lockPairs 8 = .ok (.getfield 16, 3) := by decide +kernel
theorem dX2_lockPairs_11 : decode cX2_lockPairs 11 = .ok (.iload_n 2, 1) := by decide +kernel
theorem dX2_lockPairs_12 : decode cX2_lockPairs 12 = .ok (.iconst 0, 1) := by decide +kernel
theorem dX2_lockPairs_13 : decode cX2_lockPairs 13 = .ok (.iastore, 1) := by decide +kernel
theorem dX2_lockPairs_14 : decode cX2_lockPairs 14 = .ok (.aload_n 0, 1) := by decide +kernel
theorem dX2_lockPairs_15 : decode cX2_lockPairs 15 = .ok (.getfield 20, 3) := by decide +kernel
theorem dX2_lockPairs_18 : decode cX2_lockPairs 18 = .ok (.iload_n 2, 1) := by decide +kernel
theorem dX2_lockPairs_19 : decode cX2_lockPairs 19 = .ok (.iconst 0, 1) := by decide +kernel
theorem dX2_lockPairs_20 : decode cX2_lockPairs 20 = .ok (.iastore, 1) := by decide +kernel
theorem dX2_lockPairs_21 : decode cX2_lockPairs 21 = .ok (.iinc 2 1, 3) := by decide +kernel
theorem dX2_lockPairs_24 : decode cX2_lockPairs 24 = .ok (.goto (-22), 3) := by decide +kernel
theorem dX2_lockPairs_27 : decode cX2_lockPairs 27 = .ok (.iconst 0, 1) := by decide +kernel
theorem dX2_lockPairs_28 : decode cX2_lockPairs 28 = .ok (.istore_n 2, 1) := by decide +kernel
theorem dX2_lockPairs_29 : decode cX2_lockPairs 29 = .ok (.iconst 0, 1) := by decide +kernel
theorem dX2_lockPairs_30 : decode cX2_lockPairs 30 = .ok (.istore_n 3, 1) := by decide +kernel
theorem dX2_lockPairs_31 : decode cX2_lockPairs 31 = .ok (.iload_n 3, 1) := by decide +kernel
theorem dX2_lockPairs_32 : decode cX2_lockPairs 32 = .ok (.bipush 25, 2) := by decide +kernel
theorem dX2_lockPairs_34 : decode cX2_lockPairs 34 = .ok (.if_icmp .ge 42, 3) := by decide +kernel
theorem dX2_lockPairs_37 : decode cX2_lockPairs 37 = .ok (.aload_n 0, 1) := by decide +kernel
theorem dX2_lockPairs_38 : decode cX2_lockPairs 38 = .ok (.aload_n 1, 1) := by decide +kernel
theorem dX2_lockPairs_39 : decode cX2_lockPairs 39 = .ok (.iload_n 2, 1) := by decide +kernel
theorem dX2_lockPairs_40 : decode cX2_lockPairs 40 = .ok (.invokevirtual 64, 3) := by decide +kernel
theorem dX2_lockPairs_43 : decode cX2_lockPairs 43 = .ok (.istore 4, 2) := by decide +kernel
theorem dX2_lockPairs_45 : decode cX2_lockPairs 45 = .ok (.iload 4, 2) := by decide +kernel
theorem dX2_lockPairs_47 : decode cX2_lockPairs 47 = .ok (.ifCond .ge 4, 3) := by decide +kernel
theorem dX2_lockPairs_50 : decode cX2_lockPairs 50 = .ok (.return_, 1) := by decide +kernel
theorem dX2_lockPairs_51 : decode cX2_lockPairs 51 = .ok (.iload_n 2, 1) := by decide +kernel
theorem dX2_lockPairs_52 : decode cX2_lockPairs 52 = .ok (.iconst 1, 1) := by decide +kernel
theorem dX2_lockPairs_53 : decode cX2_lockPairs 53 = .ok (.iload 4, 2) := by decide +kernel
theorem dX2_lockPairs_55 : decode cX2_lockPairs 55 = .ok (.ishl, 1) := by decide +kernel
theorem dX2_lockPairs_56 : decode cX2_lockPairs 56 = .ok (.ior, 1) := by decide +kernel
theorem dX2_lockPairs_57 : decode cX2_lockPairs 57 = .ok (.istore_n 2, 1) := by decide +kernel
theorem dX2_lockPairs_58 : decode cX2_lockPairs 58 = .ok (.aload_n 0, 1) := by decide +kernel
theorem dX2_lockPairs_59 : decode cX2_lockPairs 59 = .ok (.iload 4, 2) := by decide +kernel
theorem dX2_lockPairs_61 : decode cX2_lockPairs 61 = .ok (.iconst 5, 1) := by decide +kernel
theorem dX2_lockPairs_62 : decode cX2_lockPairs 62 = .ok (.idiv, 1) := by decide +kernel
theorem dX2_lockPairs_63 : decode cX2_lockPairs 63 = .ok (.iload 4, 2) := by decide +kernel
theorem dX2_lockPairs_65 : decode cX2_lockPairs 65 = .ok (.iconst 5, 1) := by decide +kernel
theorem dX2_lockPairs_66 : decode cX2_lockPairs 66 = .ok (.irem, 1) := by decide +kernel
theorem dX2_lockPairs_67 : decode cX2_lockPairs 67 = .ok (.invokevirtual 68, 3) := by decide +kernel
theorem dX2_lockPairs_70 : decode cX2_lockPairs 70 = .ok (.iinc 3 1, 3) := by decide +kernel
theorem dX2_lockPairs_73 : decode cX2_lockPairs 73 = .ok (.goto (-42), 3) := by decide +kernel
theorem dX2_lockPairs_76 : decode cX2_lockPairs 76 = .ok (.return_, 1) := by decide +kernel
theorem dX2_clearestPair_0 : decode cX2_clearestPair 0 = .ok (.iconst (-1), 1) := by decide +kernel
theorem dX2_clearestPair_1 : decode cX2_clearestPair 1 = .ok (.istore_n 3, 1) := by decide +kernel
theorem dX2_clearestPair_2 : decode cX2_clearestPair 2 = .ok (.iconst 0, 1) := by decide +kernel
theorem dX2_clearestPair_3 : decode cX2_clearestPair 3 = .ok (.istore 4, 2) := by decide +kernel
theorem dX2_clearestPair_5 : decode cX2_clearestPair 5 = .ok (.iconst 0, 1) := by decide +kernel
theorem dX2_clearestPair_6 : decode cX2_clearestPair 6 = .ok (.istore 5, 2) := by decide +kernel
theorem dX2_clearestPair_8 : decode cX2_clearestPair 8 = .ok (.iload 5, 2) := by decide +kernel
theorem dX2_clearestPair_10 : decode cX2_clearestPair 10 = .ok (.iconst 5, 1) := by decide +kernel
theorem dX2_clearestPair_11 : decode cX2_clearestPair 11 = .ok (.if_icmp .ge 79, 3) := by decide +kernel
theorem dX2_clearestPair_14 : decode cX2_clearestPair 14 = .ok (.iconst 0, 1) := by decide +kernel
theorem dX2_clearestPair_15 : decode cX2_clearestPair 15 = .ok (.istore 6, 2) := by decide +kernel
theorem dX2_clearestPair_17 : decode cX2_clearestPair 17 = .ok (.iload 6, 2) := by decide +kernel
theorem dX2_clearestPair_19 : decode cX2_clearestPair 19 = .ok (.iconst 5, 1) := by decide +kernel
theorem dX2_clearestPair_20 : decode cX2_clearestPair 20 = .ok (.if_icmp .ge 64, 3) := by decide +kernel
theorem dX2_clearestPair_23 : decode cX2_clearestPair 23 = .ok (.iload 5, 2) := by decide +kernel
theorem dX2_clearestPair_25 : decode cX2_clearestPair 25 = .ok (.iconst 5, 1) := by decide +kernel
theorem dX2_clearestPair_26 : decode cX2_clearestPair 26 = .ok (.imul, 1) := by decide +kernel
theorem dX2_clearestPair_27 : decode cX2_clearestPair 27 = .ok (.iload 6, 2) := by decide +kernel
theorem dX2_clearestPair_29 : decode cX2_clearestPair 29 = .ok (.iadd, 1) := by decide +kernel
theorem dX2_clearestPair_30 : decode cX2_clearestPair 30 = .ok (.istore 7, 2) := by decide +kernel
theorem dX2_clearestPair_32 : decode cX2_clearestPair 32 = .ok (.aload_n 1, 1) := by decide +kernel
theorem dX2_clearestPair_33 : decode cX2_clearestPair 33 = .ok (.getfield 49, 3) := by decide +kernel
theorem dX2_clearestPair_36 : decode cX2_clearestPair 36 = .ok (.iload 5, 2) := by decide +kernel
theorem dX2_clearestPair_38 : decode cX2_clearestPair 38 = .ok (.aaload, 1) := by decide +kernel
theorem dX2_clearestPair_39 : decode cX2_clearestPair 39 = .ok (.iload 6, 2) := by decide +kernel
theorem dX2_clearestPair_41 : decode cX2_clearestPair 41 = .ok (.iaload, 1) := by decide +kernel
theorem dX2_clearestPair_42 : decode cX2_clearestPair 42 = .ok (.aload_n 1, 1) := by decide +kernel
theorem dX2_clearestPair_43 : decode cX2_clearestPair 43 = .ok (.getfield 49, 3) := by decide +kernel
theorem dX2_clearestPair_46 : decode cX2_clearestPair 46 = .ok (.iload 6, 2) := by decide +kernel
theorem dX2_clearestPair_48 : decode cX2_clearestPair 48 = .ok (.aaload, 1) := by decide +kernel
theorem dX2_clearestPair_49 : decode cX2_clearestPair 49 = .ok (.iload 5, 2) := by decide +kernel
theorem dX2_clearestPair_51 : decode cX2_clearestPair 51 = .ok (.iaload, 1) := by decide +kernel
theorem dX2_clearestPair_52 : decode cX2_clearestPair 52 = .ok (.isub, 1) := by decide +kernel
theorem dX2_clearestPair_53 : decode cX2_clearestPair 53 = .ok (.istore 8, 2) := by decide +kernel
theorem dX2_clearestPair_55 : decode cX2_clearestPair 55 = .ok (.iload 8, 2) := by decide +kernel
theorem dX2_clearestPair_57 : decode cX2_clearestPair 57 = .ok (.iload 4, 2) := by decide +kernel
theorem dX2_clearestPair_59 : decode cX2_clearestPair 59 = .ok (.if_icmp .le 19, 3) := by decide +kernel
theorem dX2_clearestPair_62 : decode cX2_clearestPair 62 = .ok (.iload_n 2, 1) := by decide +kernel
theorem dX2_clearestPair_63 : decode cX2_clearestPair 63 = .ok (.iload 7, 2) := by decide +kernel
theorem dX2_clearestPair_65 : decode cX2_clearestPair 65 = .ok (.iushr, 1) := by decide +kernel
theorem dX2_clearestPair_66 : decode cX2_clearestPair 66 = .ok (.iconst 1, 1) := by decide +kernel
theorem dX2_clearestPair_67 : decode cX2_clearestPair 67 = .ok (.iand, 1) := by decide +kernel
theorem dX2_clearestPair_68 : decode cX2_clearestPair 68 = .ok (.ifCond .ne 10, 3) := by decide +kernel
theorem dX2_clearestPair_71 : decode cX2_clearestPair 71 = .ok (.iload 7, 2) := by decide +kernel
theorem dX2_clearestPair_73 : decode cX2_clearestPair 73 = .ok (.istore_n 3, 1) := by decide +kernel
theorem dX2_clearestPair_74 : decode cX2_clearestPair 74 = .ok (.iload 8, 2) := by decide +kernel
theorem dX2_clearestPair_76 : decode cX2_clearestPair 76 = .ok (.istore 4, 2) := by decide +kernel
theorem dX2_clearestPair_78 : decode cX2_clearestPair 78 = .ok (.iinc 6 1, 3) := by decide +kernel
theorem dX2_clearestPair_81 : decode cX2_clearestPair 81 = .ok (.goto (-64), 3) := by decide +kernel
theorem dX2_clearestPair_84 : decode cX2_clearestPair 84 = .ok (.iinc 5 1, 3) := by decide +kernel
theorem dX2_clearestPair_87 : decode cX2_clearestPair 87 = .ok (.goto (-79), 3) := by decide +kernel
theorem dX2_clearestPair_90 : decode cX2_clearestPair 90 = .ok (.iload_n 3, 1) := by decide +kernel
theorem dX2_clearestPair_91 : decode cX2_clearestPair 91 = .ok (.ireturn, 1) := by decide +kernel
theorem dX2_lock_0 : decode cX2_lock 0 = .ok (.iload_n 1, 1) := by decide +kernel
theorem dX2_lock_1 : decode cX2_lock 1 = .ok (.invokestatic 52, 3) := by decide +kernel
theorem dX2_lock_4 : decode cX2_lock 4 = .ok (.ifCond .eq 23, 3) := by decide +kernel
theorem dX2_lock_7 : decode cX2_lock 7 = .ok (.iload_n 2, 1) := by decide +kernel
theorem dX2_lock_8 : decode cX2_lock 8 = .ok (.invokestatic 52, 3) := by decide +kernel
theorem dX2_lock_11 : decode cX2_lock 11 = .ok (.ifCond .eq 16, 3) := by decide +kernel
theorem dX2_lock_14 : decode cX2_lock 14 = .ok (.aload_n 0, 1) := by decide +kernel
theorem dX2_lock_15 : decode cX2_lock 15 = .ok (.getfield 20, 3) := by decide +kernel
theorem dX2_lock_18 : decode cX2_lock 18 = .ok (.iload_n 2, 1) := by decide +kernel
theorem dX2_lock_19 : decode cX2_lock 19 = .ok (.iaload, 1) := by decide +kernel
theorem dX2_lock_20 : decode cX2_lock 20 = .ok (.iload_n 1, 1) := by decide +kernel
theorem dX2_lock_21 : decode cX2_lock 21 = .ok (.invokestatic 29, 3) := by decide +kernel
theorem dX2_lock_24 : decode cX2_lock 24 = .ok (.ifCond .eq 4, 3) := by decide +kernel
theorem dX2_lock_27 : decode cX2_lock 27 = .ok (.return_, 1) := by decide +kernel
theorem dX2_lock_28 : decode cX2_lock 28 = .ok (.aload_n 0, 1) := by decide +kernel
theorem dX2_lock_29 : decode cX2_lock 29 = .ok (.getfield 16, 3) := by decide +kernel
theorem dX2_lock_32 : decode cX2_lock 32 = .ok (.iload_n 1, 1) := by decide +kernel
theorem dX2_lock_33 : decode cX2_lock 33 = .ok (.dup2, 1) := by decide +kernel
theorem dX2_lock_34 : decode cX2_lock 34 = .ok (.iaload, 1) := by decide +kernel
theorem dX2_lock_35 : decode cX2_lock 35 = .ok (.iconst 1, 1) := by decide +kernel
theorem dX2_lock_36 : decode cX2_lock 36 = .ok (.iload_n 2, 1) := by decide +kernel
theorem dX2_lock_37 : decode cX2_lock 37 = .ok (.ishl, 1) := by decide +kernel
theorem dX2_lock_38 : decode cX2_lock 38 = .ok (.ior, 1) := by decide +kernel
theorem dX2_lock_39 : decode cX2_lock 39 = .ok (.iastore, 1) := by decide +kernel
theorem dX2_lock_40 : decode cX2_lock 40 = .ok (.aload_n 0, 1) := by decide +kernel
theorem dX2_lock_41 : decode cX2_lock 41 = .ok (.getfield 20, 3) := by decide +kernel
theorem dX2_lock_44 : decode cX2_lock 44 = .ok (.iload_n 2, 1) := by decide +kernel
theorem dX2_lock_45 : decode cX2_lock 45 = .ok (.iaload, 1) := by decide +kernel
theorem dX2_lock_46 : decode cX2_lock 46 = .ok (.iconst 1, 1) := by decide +kernel
theorem dX2_lock_47 : decode cX2_lock 47 = .ok (.iload_n 2, 1) := by decide +kernel
theorem dX2_lock_48 : decode cX2_lock 48 = .ok (.ishl, 1) := by decide +kernel
theorem dX2_lock_49 : decode cX2_lock 49 = .ok (.ior, 1) := by decide +kernel
theorem dX2_lock_50 : decode cX2_lock 50 = .ok (.istore_n 3, 1) := by decide +kernel
theorem dX2_lock_51 : decode cX2_lock 51 = .ok (.iconst 0, 1) := by decide +kernel
theorem dX2_lock_52 : decode cX2_lock 52 = .ok (.istore 4, 2) := by decide +kernel
theorem dX2_lock_54 : decode cX2_lock 54 = .ok (.iload 4, 2) := by decide +kernel
theorem dX2_lock_56 : decode cX2_lock 56 = .ok (.iconst 5, 1) := by decide +kernel
theorem dX2_lock_57 : decode cX2_lock 57 = .ok (.if_icmp .ge 40, 3) := by decide +kernel
theorem dX2_lock_60 : decode cX2_lock 60 = .ok (.iload 4, 2) := by decide +kernel
theorem dX2_lock_62 : decode cX2_lock 62 = .ok (.iload_n 1, 1) := by decide +kernel
theorem dX2_lock_63 : decode cX2_lock 63 = .ok (.if_icmp .eq 17, 3) := by decide +kernel
theorem dX2_lock_66 : decode cX2_lock 66 = .ok (.aload_n 0, 1) := by decide +kernel
theorem dX2_lock_67 : decode cX2_lock 67 = .ok (.getfield 20, 3) := by decide +kernel
theorem dX2_lock_70 : decode cX2_lock 70 = .ok (.iload 4, 2) := by decide +kernel
theorem dX2_lock_72 : decode cX2_lock 72 = .ok (.iaload, 1) := by decide +kernel
theorem dX2_lock_73 : decode cX2_lock 73 = .ok (.iload_n 1, 1) := by decide +kernel
theorem dX2_lock_74 : decode cX2_lock 74 = .ok (.invokestatic 29, 3) := by decide +kernel
theorem dX2_lock_77 : decode cX2_lock 77 = .ok (.ifCond .eq 14, 3) := by decide +kernel
theorem dX2_lock_80 : decode cX2_lock 80 = .ok (.aload_n 0, 1) := by decide +kernel
theorem dX2_lock_81 : decode cX2_lock 81 = .ok (.getfield 20, 3) := by decide +kernel
theorem dX2_lock_84 : decode cX2_lock 84 = .ok (.iload 4, 2) := by decide +kernel
theorem dX2_lock_86 : decode cX2_lock 86 = .ok (.dup2, 1) := by decide +kernel
theorem dX2_lock_87 : decode cX2_lock 87 = .ok (.iaload, 1) := by decide +kernel
theorem dX2_lock_88 : decode cX2_lock 88 = .ok (.iload_n 3, 1) := by decide +kernel
theorem dX2_lock_89 : decode cX2_lock 89 = .ok (.ior, 1) := by decide +kernel
theorem dX2_lock_90 : decode cX2_lock 90 = .ok (.iastore, 1) := by decide +kernel
theorem dX2_lock_91 : decode cX2_lock 91 = .ok (.iinc 4 1, 3) := by decide +kernel
theorem dX2_lock_94 : decode cX2_lock 94 = .ok (.goto (-40), 3) := by decide +kernel
theorem dX2_lock_97 : decode cX2_lock 97 = .ok (.return_, 1) := by decide +kernel
theorem dX2_sources_0 : decode cX2_sources 0 = .ok (.aload_n 1, 1) := by decide +kernel
theorem dX2_sources_1 : decode cX2_sources 1 = .ok (.getfield 23, 3) := by decide +kernel
theorem dX2_sources_4 : decode cX2_sources 4 = .ok (.istore_n 2, 1) := by decide +kernel
theorem dX2_sources_5 : decode cX2_sources 5 = .ok (.iconst 0, 1) := by decide +kernel
theorem dX2_sources_6 : decode cX2_sources 6 = .ok (.istore_n 3, 1) := by decide +kernel
theorem dX2_sources_7 : decode cX2_sources 7 = .ok (.iload_n 3, 1) := by decide +kernel
theorem dX2_sources_8 : decode cX2_sources 8 = .ok (.iconst 5, 1) := by decide +kernel
theorem dX2_sources_9 : decode cX2_sources 9 = .ok (.if_icmp .ge 20, 3) := by decide +kernel
theorem dX2_sources_12 : decode cX2_sources 12 = .ok (.iload_n 2, 1) := by decide +kernel
theorem dX2_sources_13 : decode cX2_sources 13 = .ok (.aload_n 0, 1) := by decide +kernel
theorem dX2_sources_14 : decode cX2_sources 14 = .ok (.getfield 16, 3) := by decide +kernel
theorem dX2_sources_17 : decode cX2_sources 17 = .ok (.iload_n 3, 1) := by decide +kernel
theorem dX2_sources_18 : decode cX2_sources 18 = .ok (.iaload, 1) := by decide +kernel
theorem dX2_sources_19 : decode cX2_sources 19 = .ok (.iconst (-1), 1) := by decide +kernel
theorem dX2_sources_20 : decode cX2_sources 20 = .ok (.ixor, 1) := by decide +kernel
theorem dX2_sources_21 : decode cX2_sources 21 = .ok (.iand, 1) := by decide +kernel
theorem dX2_sources_22 : decode cX2_sources 22 = .ok (.istore_n 2, 1) := by decide +kernel
theorem dX2_sources_23 : decode cX2_sources 23 = .ok (.iinc 3 1, 3) := by decide +kernel
theorem dX2_sources_26 : decode cX2_sources 26 = .ok (.goto (-19), 3) := by decide +kernel
theorem dX2_sources_29 : decode cX2_sources 29 = .ok (.iload_n 2, 1) := by decide +kernel
theorem dX2_sources_30 : decode cX2_sources 30 = .ok (.ireturn, 1) := by decide +kernel
theorem dX3_init_0 : decode cX3_init 0 = .ok (.aload_n 0, 1) := by decide +kernel
theorem dX3_init_1 : decode cX3_init 1 = .ok (.invokespecial 3, 3) := by decide +kernel
theorem dX3_init_4 : decode cX3_init 4 = .ok (.aload_n 0, 1) := by decide +kernel
theorem dX3_init_5 : decode cX3_init 5 = .ok (.bipush 32, 2) := by decide +kernel
theorem dX3_init_7 : decode cX3_init 7 = .ok (.newarray .int, 2) := by decide +kernel
theorem dX3_init_9 : decode cX3_init 9 = .ok (.putfield 9, 3) := by decide +kernel
theorem dX3_init_12 : decode cX3_init 12 = .ok (.return_, 1) := by decide +kernel
theorem dX3_greatest_0 : decode cX3_greatest 0 = .ok (.iload_n 1, 1) := by decide +kernel
theorem dX3_greatest_1 : decode cX3_greatest 1 = .ok (.ifCond .lt 21, 3) := by decide +kernel
theorem dX3_greatest_4 : decode cX3_greatest 4 = .ok (.iload_n 1, 1) := by decide +kernel
theorem dX3_greatest_5 : decode cX3_greatest 5 = .ok (.aload_n 0, 1) := by decide +kernel
theorem dX3_greatest_6 : decode cX3_greatest 6 = .ok (.getfield 9, 3) := by decide +kernel
theorem dX3_greatest_9 : decode cX3_greatest 9 = .ok (.arraylength, 1) := by decide +kernel
theorem dX3_greatest_10 : decode cX3_greatest 10 = .ok (.if_icmp .ge 12, 3) := by decide +kernel
theorem dX3_greatest_13 : decode cX3_greatest 13 = .ok (.aload_n 0, 1) := by decide +kernel
theorem dX3_greatest_14 : decode cX3_greatest 14 = .ok (.getfield 9, 3) := by decide +kernel
theorem dX3_greatest_17 : decode cX3_greatest 17 = .ok (.iload_n 1, 1) := by decide +kernel
theorem dX3_greatest_18 : decode cX3_greatest 18 = .ok (.iaload, 1) := by decide +kernel
theorem dX3_greatest_19 : decode cX3_greatest 19 = .ok (.goto 4, 3) := by decide +kernel
theorem dX3_greatest_22 : decode cX3_greatest 22 = .ok (.iconst 0, 1) := by decide +kernel
theorem dX3_greatest_23 : decode cX3_greatest 23 = .ok (.ireturn, 1) := by decide +kernel
theorem dX3_weigh_0 : decode cX3_weigh 0 = .ok (.iconst 0, 1) := by decide +kernel
theorem dX3_weigh_1 : decode cX3_weigh 1 = .ok (.istore_n 2, 1) := by decide +kernel
theorem dX3_weigh_2 : decode cX3_weigh 2 = .ok (.iload_n 2, 1) := by decide +kernel
theorem dX3_weigh_3 : decode cX3_weigh 3 = .ok (.aload_n 0, 1) := by decide +kernel
theorem dX3_weigh_4 : decode cX3_weigh 4 = .ok (.getfield 9, 3) := by decide +kernel
theorem dX3_weigh_7 : decode cX3_weigh 7 = .ok (.arraylength, 1) := by decide +kernel
theorem dX3_weigh_8 : decode cX3_weigh 8 = .ok (.if_icmp .ge 70, 3) := by decide +kernel
theorem dX3_weigh_11 : decode cX3_weigh 11 = .ok (.aload_n 0, 1) := by decide +kernel
theorem dX3_weigh_12 : decode cX3_weigh 12 = .ok (.getfield 9, 3) := by decide +kernel
theorem dX3_weigh_15 : decode cX3_weigh 15 = .ok (.iload_n 2, 1) := by decide +kernel
theorem dX3_weigh_16 : decode cX3_weigh 16 = .ok (.iconst 0, 1) := by decide +kernel
theorem dX3_weigh_17 : decode cX3_weigh 17 = .ok (.iastore, 1) := by decide +kernel
theorem dX3_weigh_18 : decode cX3_weigh 18 = .ok (.iconst 0, 1) := by decide +kernel
theorem dX3_weigh_19 : decode cX3_weigh 19 = .ok (.istore_n 3, 1) := by decide +kernel
theorem dX3_weigh_20 : decode cX3_weigh 20 = .ok (.iload_n 3, 1) := by decide +kernel
theorem dX3_weigh_21 : decode cX3_weigh 21 = .ok (.iconst 5, 1) := by decide +kernel
theorem dX3_weigh_22 : decode cX3_weigh 22 = .ok (.if_icmp .ge 50, 3) := by decide +kernel
theorem dX3_weigh_25 : decode cX3_weigh 25 = .ok (.iload_n 2, 1) := by decide +kernel
theorem dX3_weigh_26 : decode cX3_weigh 26 = .ok (.aload_n 1, 1) := by decide +kernel
theorem dX3_weigh_27 : decode cX3_weigh 27 = .ok (.getfield 15, 3) := by decide +kernel
theorem dX3_weigh_30 : decode cX3_weigh 30 = .ok (.iconst (-1), 1) := by decide +kernel
theorem dX3_weigh_31 : decode cX3_weigh 31 = .ok (.ixor, 1) := by decide +kernel
theorem dX3_weigh_32 : decode cX3_weigh 32 = .ok (.iand, 1) := by decide +kernel
theorem dX3_weigh_33 : decode cX3_weigh 33 = .ok (.ifCond .ne 39, 3) := by decide +kernel
theorem dX3_weigh_36 : decode cX3_weigh 36 = .ok (.iload_n 2, 1) := by decide +kernel
theorem dX3_weigh_37 : decode cX3_weigh 37 = .ok (.iload_n 3, 1) := by decide +kernel
theorem dX3_weigh_38 : decode cX3_weigh 38 = .ok (.invokestatic 21, 3) := by decide +kernel
theorem dX3_weigh_41 : decode cX3_weigh 41 = .ok (.ifCond .eq 25, 3) := by decide +kernel
theorem dX3_weigh_44 : decode cX3_weigh 44 = .ok (.aload_n 0, 1) := by decide +kernel
theorem dX3_weigh_45 : decode cX3_weigh 45 = .ok (.getfield 9, 3) := by decide +kernel
theorem dX3_weigh_48 : decode cX3_weigh 48 = .ok (.iload_n 2, 1) := by decide +kernel
theorem dX3_weigh_49 : decode cX3_weigh 49 = .ok (.aload_n 0, 1) := by decide +kernel
theorem dX3_weigh_50 : decode cX3_weigh 50 = .ok (.getfield 9, 3) := by decide +kernel
theorem dX3_weigh_53 : decode cX3_weigh 53 = .ok (.iload_n 2, 1) := by decide +kernel
theorem dX3_weigh_54 : decode cX3_weigh 54 = .ok (.iaload, 1) := by decide +kernel
theorem dX3_weigh_55 : decode cX3_weigh 55 = .ok (.aload_n 0, 1) := by decide +kernel
theorem dX3_weigh_56 : decode cX3_weigh 56 = .ok (.aload_n 1, 1) := by decide +kernel
theorem dX3_weigh_57 : decode cX3_weigh 57 = .ok (.iload_n 2, 1) := by decide +kernel
theorem dX3_weigh_58 : decode cX3_weigh 58 = .ok (.iload_n 3, 1) := by decide +kernel
theorem dX3_weigh_59 : decode cX3_weigh 59 = .ok (.invokevirtual 27, 3) := by decide +kernel
theorem dX3_weigh_62 : decode cX3_weigh 62 = .ok (.invokestatic 31, 3) := by decide +kernel
theorem dX3_weigh_65 : decode cX3_weigh 65 = .ok (.iastore, 1) := by decide +kernel
theorem dX3_weigh_66 : decode cX3_weigh 66 = .ok (.iinc 3 1, 3) := by decide +kernel
theorem dX3_weigh_69 : decode cX3_weigh 69 = .ok (.goto (-49), 3) := by decide +kernel
theorem dX3_weigh_72 : decode cX3_weigh 72 = .ok (.iinc 2 1, 3) := by decide +kernel
theorem dX3_weigh_75 : decode cX3_weigh 75 = .ok (.goto (-73), 3) := by decide +kernel
theorem dX3_weigh_78 : decode cX3_weigh 78 = .ok (.return_, 1) := by decide +kernel
theorem dX3_valueWith_0 : decode cX3_valueWith 0 = .ok (.iload_n 2, 1) := by decide +kernel
theorem dX3_valueWith_1 : decode cX3_valueWith 1 = .ok (.iload_n 3, 1) := by decide +kernel
theorem dX3_valueWith_2 : decode cX3_valueWith 2 = .ok (.invokestatic 37, 3) := by decide +kernel
theorem dX3_valueWith_5 : decode cX3_valueWith 5 = .ok (.istore 4, 2) := by decide +kernel
theorem dX3_valueWith_7 : decode cX3_valueWith 7 = .ok (.aload_n 0, 1) := by decide +kernel
theorem dX3_valueWith_8 : decode cX3_valueWith 8 = .ok (.iload 4, 2) := by decide +kernel
theorem dX3_valueWith_10 : decode cX3_valueWith 10 = .ok (.invokevirtual 40, 3) := by decide +kernel
theorem dX3_valueWith_13 : decode cX3_valueWith 13 = .ok (.istore 5, 2) := by decide +kernel
theorem dX3_valueWith_15 : decode cX3_valueWith 15 = .ok (.iload_n 3, 1) := by decide +kernel
theorem dX3_valueWith_16 : decode cX3_valueWith 16 = .ok (.invokestatic 44, 3) := by decide +kernel
theorem dX3_valueWith_19 : decode cX3_valueWith 19 = .ok (.ifCond .ne 6, 3) := by decide +kernel
theorem dX3_valueWith_22 : decode cX3_valueWith 22 = .ok (.iload 5, 2) := by decide +kernel
theorem dX3_valueWith_24 : decode cX3_valueWith 24 = .ok (.ireturn, 1) := by decide +kernel
theorem dX3_valueWith_25 : decode cX3_valueWith 25 = .ok (.iconst 0, 1) := by decide +kernel
theorem dX3_valueWith_26 : decode cX3_valueWith 26 = .ok (.istore 6, 2) := by decide +kernel
theorem dX3_valueWith_28 : decode cX3_valueWith 28 = .ok (.iload 6, 2) := by decide +kernel
theorem dX3_valueWith_30 : decode cX3_valueWith 30 = .ok (.iconst 5, 1) := by decide +kernel
theorem dX3_valueWith_31 : decode cX3_valueWith 31 = .ok (.if_icmp .ge 33, 3) := by decide +kernel
theorem dX3_valueWith_34 : decode cX3_valueWith 34 = .ok (.iload 4, 2) := by decide +kernel
theorem dX3_valueWith_36 : decode cX3_valueWith 36 = .ok (.iload 6, 2) := by decide +kernel
theorem dX3_valueWith_38 : decode cX3_valueWith 38 = .ok (.invokestatic 21, 3) := by decide +kernel
theorem dX3_valueWith_41 : decode cX3_valueWith 41 = .ok (.ifCond .eq 17, 3) := by decide +kernel
theorem dX3_valueWith_44 : decode cX3_valueWith 44 = .ok (.iload 5, 2) := by decide +kernel
theorem dX3_valueWith_46 : decode cX3_valueWith 46 = .ok (.aload_n 1, 1) := by decide +kernel
theorem dX3_valueWith_47 : decode cX3_valueWith 47 = .ok (.getfield 48, 3) := by decide +kernel
theorem dX3_valueWith_50 : decode cX3_valueWith 50 = .ok (.iload_n 3, 1) := by decide +kernel
theorem dX3_valueWith_51 : decode cX3_valueWith 51 = .ok (.aaload, 1) := by decide +kernel
theorem dX3_valueWith_52 : decode cX3_valueWith 52 = .ok (.iload 6, 2) := by decide +kernel
theorem dX3_valueWith_54 : decode cX3_valueWith 54 = .ok (.iaload, 1) := by decide +kernel
theorem dX3_valueWith_55 : decode cX3_valueWith 55 = .ok (.iadd, 1) := by decide +kernel
theorem dX3_valueWith_56 : decode cX3_valueWith 56 = .ok (.istore 5, 2) := by decide +kernel
theorem dX3_valueWith_58 : decode cX3_valueWith 58 = .ok (.iinc 6 1, 3) := by decide +kernel
theorem dX3_valueWith_61 : decode cX3_valueWith 61 = .ok (.goto (-33), 3) := by decide +kernel
theorem dX3_valueWith_64 : decode cX3_valueWith 64 = .ok (.iload 5, 2) := by decide +kernel
theorem dX3_valueWith_66 : decode cX3_valueWith 66 = .ok (.ireturn, 1) := by decide +kernel
theorem dX3_leaders_0 : decode cX3_leaders 0 = .ok (.iconst 0, 1) := by decide +kernel
theorem dX3_leaders_1 : decode cX3_leaders 1 = .ok (.istore_n 3, 1) := by decide +kernel
theorem dX3_leaders_2 : decode cX3_leaders 2 = .ok (.iconst 0, 1) := by decide +kernel
theorem dX3_leaders_3 : decode cX3_leaders 3 = .ok (.istore 4, 2) := by decide +kernel
theorem dX3_leaders_5 : decode cX3_leaders 5 = .ok (.iload 4, 2) := by decide +kernel
theorem dX3_leaders_7 : decode cX3_leaders 7 = .ok (.iconst 5, 1) := by decide +kernel
theorem dX3_leaders_8 : decode cX3_leaders 8 = .ok (.if_icmp .ge 41, 3) := by decide +kernel
theorem dX3_leaders_11 : decode cX3_leaders 11 = .ok (.iload_n 2, 1) := by decide +kernel
theorem dX3_leaders_12 : decode cX3_leaders 12 = .ok (.iload 4, 2) := by decide +kernel
theorem dX3_leaders_14 : decode cX3_leaders 14 = .ok (.invokestatic 21, 3) := by decide +kernel
theorem dX3_leaders_17 : decode cX3_leaders 17 = .ok (.ifCond .eq 26, 3) := by decide +kernel
theorem dX3_leaders_20 : decode cX3_leaders 20 = .ok (.aload_n 0, 1) := by decide +kernel
theorem dX3_leaders_21 : decode cX3_leaders 21 = .ok (.aload_n 1, 1) := by decide +kernel
theorem dX3_leaders_22 : decode cX3_leaders 22 = .ok (.iload_n 2, 1) := by decide +kernel
theorem dX3_leaders_23 : decode cX3_leaders 23 = .ok (.iload 4, 2) := by decide +kernel
theorem dX3_leaders_25 : decode cX3_leaders 25 = .ok (.invokevirtual 27, 3) := by decide +kernel
theorem dX3_leaders_28 : decode cX3_leaders 28 = .ok (.aload_n 0, 1) := by decide +kernel
theorem dX3_leaders_29 : decode cX3_leaders 29 = .ok (.iload_n 2, 1) := by decide +kernel
theorem dX3_leaders_30 : decode cX3_leaders 30 = .ok (.invokevirtual 40, 3) := by decide +kernel
theorem dX3_leaders_33 : decode cX3_leaders 33 = .ok (.if_icmp .ne 10, 3) := by decide +kernel
theorem dX3_leaders_36 : decode cX3_leaders 36 = .ok (.iload_n 3, 1) := by decide +kernel
theorem dX3_leaders_37 : decode cX3_leaders 37 = .ok (.iconst 1, 1) := by decide +kernel
theorem dX3_leaders_38 : decode cX3_leaders 38 = .ok (.iload 4, 2) := by decide +kernel
theorem dX3_leaders_40 : decode cX3_leaders 40 = .ok (.ishl, 1) := by decide +kernel
theorem dX3_leaders_41 : decode cX3_leaders 41 = .ok (.ior, 1) := by decide +kernel
theorem dX3_leaders_42 : decode cX3_leaders 42 = .ok (.istore_n 3, 1) := by decide +kernel
theorem dX3_leaders_43 : decode cX3_leaders 43 = .ok (.iinc 4 1, 3) := by decide +kernel
theorem dX3_leaders_46 : decode cX3_leaders 46 = .ok (.goto (-41), 3) := by decide +kernel
theorem dX3_leaders_49 : decode cX3_leaders 49 = .ok (.iload_n 3, 1) := by decide +kernel
theorem dX3_leaders_50 : decode cX3_leaders 50 = .ok (.ireturn, 1) := by decide +kernel
theorem dX3_candidateAt_0 : decode cX3_candidateAt 0 = .ok (.aload_n 1, 1) := by decide +kernel
theorem dX3_candidateAt_1 : decode cX3_candidateAt 1 = .ok (.getfield 15, 3) := by decide +kernel
theorem dX3_candidateAt_4 : decode cX3_candidateAt 4 = .ok (.istore_n 3, 1) := by decide +kernel
theorem dX3_candidateAt_5 : decode cX3_candidateAt 5 = .ok (.iconst 0, 1) := by decide +kernel
theorem dX3_candidateAt_6 : decode cX3_candidateAt 6 = .ok (.istore 4, 2) := by decide +kernel
theorem dX3_candidateAt_8 : decode cX3_candidateAt 8 = .ok (.iload 4, 2) := by decide +kernel
theorem dX3_candidateAt_10 : decode cX3_candidateAt 10 = .ok (.iload_n 2, 1) := by decide +kernel
theorem dX3_candidateAt_11 : decode cX3_candidateAt 11 = .ok (.if_icmp .ge 29, 3) := by decide +kernel
theorem dX3_candidateAt_14 : decode cX3_candidateAt 14 = .ok (.iload 4, 2) := by decide +kernel
theorem dX3_candidateAt_16 : decode cX3_candidateAt 16 = .ok (.iconst 5, 1) := by decide +kernel
theorem dX3_candidateAt_17 : decode cX3_candidateAt 17 = .ok (.if_icmp .ge 23, 3) := by decide +kernel
theorem dX3_candidateAt_20 : decode cX3_candidateAt 20 = .ok (.iload_n 3, 1) := by decide +kernel
theorem dX3_candidateAt_21 : decode cX3_candidateAt 21 = .ok (.aload_n 0, 1) := by decide +kernel
theorem dX3_candidateAt_22 : decode cX3_candidateAt 22 = .ok (.aload_n 1, 1) := by decide +kernel
theorem dX3_candidateAt_23 : decode cX3_candidateAt 23 = .ok (.iload_n 3, 1) := by decide +kernel
theorem dX3_candidateAt_24 : decode cX3_candidateAt 24 = .ok (.invokevirtual 52, 3) := by decide +kernel
theorem dX3_candidateAt_27 : decode cX3_candidateAt 27 = .ok (.invokestatic 56, 3) := by decide +kernel
theorem dX3_candidateAt_30 : decode cX3_candidateAt 30 = .ok (.invokestatic 37, 3) := by decide +kernel
theorem dX3_candidateAt_33 : decode cX3_candidateAt 33 = .ok (.istore_n 3, 1) := by decide +kernel
theorem dX3_candidateAt_34 : decode cX3_candidateAt 34 = .ok (.iinc 4 1, 3) := by decide +kernel
theorem dX3_candidateAt_37 : decode cX3_candidateAt 37 = .ok (.goto (-29), 3) := by decide +kernel
theorem dX3_candidateAt_40 : decode cX3_candidateAt 40 = .ok (.aload_n 0, 1) := by decide +kernel
theorem dX3_candidateAt_41 : decode cX3_candidateAt 41 = .ok (.aload_n 1, 1) := by decide +kernel
theorem dX3_candidateAt_42 : decode cX3_candidateAt 42 = .ok (.iload_n 3, 1) := by decide +kernel
theorem dX3_candidateAt_43 : decode cX3_candidateAt 43 = .ok (.invokevirtual 52, 3) := by decide +kernel
theorem dX3_candidateAt_46 : decode cX3_candidateAt 46 = .ok (.invokestatic 56, 3) := by decide +kernel
theorem dX3_candidateAt_49 : decode cX3_candidateAt 49 = .ok (.ireturn, 1) := by decide +kernel
theorem dX4_init_0 : decode cX4_init 0 = .ok (.aload_n 0, 1) := by decide +kernel
theorem dX4_init_1 : decode cX4_init 1 = .ok (.invokespecial 3, 3) := by decide +kernel
theorem dX4_init_4 : decode cX4_init 4 = .ok (.aload_n 0, 1) := by decide +kernel
theorem dX4_init_5 : decode cX4_init 5 = .ok (.iconst 5, 1) := by decide +kernel
theorem dX4_init_6 : decode cX4_init 6 = .ok (.newarray .int, 2) := by decide +kernel
theorem dX4_init_8 : decode cX4_init 8 = .ok (.putfield 9, 3) := by decide +kernel
theorem dX4_init_11 : decode cX4_init 11 = .ok (.return_, 1) := by decide +kernel
theorem dX4_pointsOf_0 : decode cX4_pointsOf 0 = .ok (.iload_n 1, 1) := by decide +kernel
theorem dX4_pointsOf_1 : decode cX4_pointsOf 1 = .ok (.ifCond .lt 21, 3) := by decide +kernel
theorem dX4_pointsOf_4 : decode cX4_pointsOf 4 = .ok (.iload_n 1, 1) := by decide +kernel
theorem dX4_pointsOf_5 : decode cX4_pointsOf 5 = .ok (.aload_n 0, 1) := by decide +kernel
theorem dX4_pointsOf_6 : decode cX4_pointsOf 6 = .ok (.getfield 9, 3) := by decide +kernel
theorem dX4_pointsOf_9 : decode cX4_pointsOf 9 = .ok (.arraylength, 1) := by decide +kernel
theorem dX4_pointsOf_10 : decode cX4_pointsOf 10 = .ok (.if_icmp .ge 12, 3) := by decide +kernel
theorem dX4_pointsOf_13 : decode cX4_pointsOf 13 = .ok (.aload_n 0, 1) := by decide +kernel
theorem dX4_pointsOf_14 : decode cX4_pointsOf 14 = .ok (.getfield 9, 3) := by decide +kernel
theorem dX4_pointsOf_17 : decode cX4_pointsOf 17 = .ok (.iload_n 1, 1) := by decide +kernel
theorem dX4_pointsOf_18 : decode cX4_pointsOf 18 = .ok (.iaload, 1) := by decide +kernel
theorem dX4_pointsOf_19 : decode cX4_pointsOf 19 = .ok (.goto 4, 3) := by decide +kernel
theorem dX4_pointsOf_22 : decode cX4_pointsOf 22 = .ok (.iconst 0, 1) := by decide +kernel
theorem dX4_pointsOf_23 : decode cX4_pointsOf 23 = .ok (.ireturn, 1) := by decide +kernel
theorem dX4_take_0 : decode cX4_take 0 = .ok (.aload_n 0, 1) := by decide +kernel
theorem dX4_take_1 : decode cX4_take 1 = .ok (.invokevirtual 15, 3) := by decide +kernel
theorem dX4_take_4 : decode cX4_take 4 = .ok (.iload_n 1, 1) := by decide +kernel
theorem dX4_take_5 : decode cX4_take 5 = .ok (.tableswitch 74 0 3 #[31, 46, 58, 66], 31) := by decide +kernel
theorem dX4_take_36 : decode cX4_take 36 = .ok (.aload_n 2, 1) := by decide +kernel
theorem dX4_take_37 : decode cX4_take 37 = .ok (.aload_n 2, 1) := by decide +kernel
theorem dX4_take_38 : decode cX4_take 38 = .ok (.getfield 18, 3) := by decide +kernel
theorem dX4_take_41 : decode cX4_take 41 = .ok (.aload_n 0, 1) := by decide +kernel
theorem dX4_take_42 : decode cX4_take 42 = .ok (.getfield 9, 3) := by decide +kernel
theorem dX4_take_45 : decode cX4_take 45 = .ok (.invokevirtual 24, 3) := by decide +kernel
theorem dX4_take_48 : decode cX4_take 48 = .ok (.goto 36, 3) := by decide +kernel
theorem dX4_take_51 : decode cX4_take 51 = .ok (.aload_n 0, 1) := by decide +kernel
theorem dX4_take_52 : decode cX4_take 52 = .ok (.aload_n 2, 1) := by decide +kernel
theorem dX4_take_53 : decode cX4_take 53 = .ok (.aload_n 2, 1) := by decide +kernel
theorem dX4_take_54 : decode cX4_take 54 = .ok (.getfield 18, 3) := by decide +kernel
theorem dX4_take_57 : decode cX4_take 57 = .ok (.invokevirtual 28, 3) := by decide +kernel
theorem dX4_take_60 : decode cX4_take 60 = .ok (.goto 24, 3) := by decide +kernel
theorem dX4_take_63 : decode cX4_take 63 = .ok (.aload_n 0, 1) := by decide +kernel
theorem dX4_take_64 : decode cX4_take 64 = .ok (.aload_n 2, 1) := by decide +kernel
theorem dX4_take_65 : decode cX4_take 65 = .ok (.invokevirtual 32, 3) := by decide +kernel
theorem dX4_take_68 : decode cX4_take 68 = .ok (.goto 16, 3) := by decide +kernel
theorem dX4_take_71 : decode cX4_take 71 = .ok (.aload_n 0, 1) := by decide +kernel
theorem dX4_take_72 : decode cX4_take 72 = .ok (.aload_n 2, 1) := by decide +kernel
theorem dX4_take_73 : decode cX4_take 73 = .ok (.invokevirtual 36, 3) := by decide +kernel
theorem dX4_take_76 : decode cX4_take 76 = .ok (.goto 8, 3) := by decide +kernel
theorem dX4_take_79 : decode cX4_take 79 = .ok (.aload_n 0, 1) := by decide +kernel
