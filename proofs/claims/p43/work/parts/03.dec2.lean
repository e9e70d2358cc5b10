theorem dX7_winnersBy_187 : decode cX7_winnersBy 187 = .ok (.ireturn, 1) := by decide +kernel
theorem dX7_winnersBy_188 : decode cX7_winnersBy 188 = .ok (.aload_n 0, 1) := by decide +kernel
theorem dX7_winnersBy_189 : decode cX7_winnersBy 189 = .ok (.getfield 12, 3) := by decide +kernel
theorem dX7_winnersBy_192 : decode cX7_winnersBy 192 = .ok (.iload_n 1, 1) := by decide +kernel
theorem dX7_winnersBy_193 : decode cX7_winnersBy 193 = .ok (.aload_n 2, 1) := by decide +kernel
theorem dX7_winnersBy_194 : decode cX7_winnersBy 194 = .ok (.invokevirtual 50, 3) := by decide +kernel
theorem dX7_winnersBy_197 : decode cX7_winnersBy 197 = .ok (.aload_n 0, 1) := by decide +kernel
theorem dX7_winnersBy_198 : decode cX7_winnersBy 198 = .ok (.getfield 12, 3) := by decide +kernel
theorem dX7_winnersBy_201 : decode cX7_winnersBy 201 = .ok (.aload_n 2, 1) := by decide +kernel
theorem dX7_winnersBy_202 : decode cX7_winnersBy 202 = .ok (.getfield 54, 3) := by decide +kernel
theorem dX7_winnersBy_205 : decode cX7_winnersBy 205 = .ok (.invokevirtual 83, 3) := by decide +kernel
theorem dX7_winnersBy_208 : decode cX7_winnersBy 208 = .ok (.ireturn, 1) := by decide +kernel
theorem dX8_init_0 : decode cX8_init 0 = .ok (.aload_n 0, 1) := by decide +kernel
theorem dX8_init_1 : decode cX8_init 1 = .ok (.invokespecial 3, 3) := by decide +kernel
theorem dX8_init_4 : decode cX8_init 4 = .ok (.aload_n 0, 1) := by decide +kernel
theorem dX8_init_5 : decode cX8_init 5 = .ok (.bipush 31, 2) := by decide +kernel
theorem dX8_init_7 : decode cX8_init 7 = .ok (.putfield 9, 3) := by decide +kernel
theorem dX8_init_10 : decode cX8_init 10 = .ok (.aload_n 0, 1) := by decide +kernel
theorem dX8_init_11 : decode cX8_init 11 = .ok (.bipush 20, 2) := by decide +kernel
theorem dX8_init_13 : decode cX8_init 13 = .ok (.newarray .int, 2) := by decide +kernel
theorem dX8_init_15 : decode cX8_init 15 = .ok (.putfield 15, 3) := by decide +kernel
theorem dX8_init_18 : decode cX8_init 18 = .ok (.aload_n 0, 1) := by decide +kernel
theorem dX8_init_19 : decode cX8_init 19 = .ok (.bipush 20, 2) := by decide +kernel
theorem dX8_init_21 : decode cX8_init 21 = .ok (.newarray .int, 2) := by decide +kernel
theorem dX8_init_23 : decode cX8_init 23 = .ok (.putfield 19, 3) := by decide +kernel
theorem dX8_init_26 : decode cX8_init 26 = .ok (.return_, 1) := by decide +kernel
theorem dX8_holds_0 : decode cX8_holds 0 = .ok (.iload_n 1, 1) := by decide +kernel
theorem dX8_holds_1 : decode cX8_holds 1 = .ok (.ifCond .lt 15, 3) := by decide +kernel
theorem dX8_holds_4 : decode cX8_holds 4 = .ok (.iload_n 1, 1) := by decide +kernel
theorem dX8_holds_5 : decode cX8_holds 5 = .ok (.aload_n 0, 1) := by decide +kernel
theorem dX8_holds_6 : decode cX8_holds 6 = .ok (.getfield 22, 3) := by decide +kernel
theorem dX8_holds_9 : decode cX8_holds 9 = .ok (.if_icmp .ge 7, 3) := by decide +kernel
theorem dX8_holds_12 : decode cX8_holds 12 = .ok (.iconst 1, 1) := by decide +kernel
theorem dX8_holds_13 : decode cX8_holds 13 = .ok (.goto 4, 3) := by decide +kernel
theorem dX8_holds_16 : decode cX8_holds 16 = .ok (.iconst 0, 1) := by decide +kernel
theorem dX8_holds_17 : decode cX8_holds 17 = .ok (.ireturn, 1) := by decide +kernel
theorem dX8_room_0 : decode cX8_room 0 = .ok (.bipush 20, 2) := by decide +kernel
theorem dX8_room_2 : decode cX8_room 2 = .ok (.aload_n 0, 1) := by decide +kernel
theorem dX8_room_3 : decode cX8_room 3 = .ok (.getfield 22, 3) := by decide +kernel
theorem dX8_room_6 : decode cX8_room 6 = .ok (.isub, 1) := by decide +kernel
theorem dX8_room_7 : decode cX8_room 7 = .ok (.ireturn, 1) := by decide +kernel
theorem dX8_votersOf_0 : decode cX8_votersOf 0 = .ok (.iload_n 1, 1) := by decide +kernel
theorem dX8_votersOf_1 : decode cX8_votersOf 1 = .ok (.ifCond .lt 21, 3) := by decide +kernel
theorem dX8_votersOf_4 : decode cX8_votersOf 4 = .ok (.iload_n 1, 1) := by decide +kernel
theorem dX8_votersOf_5 : decode cX8_votersOf 5 = .ok (.aload_n 0, 1) := by decide +kernel
theorem dX8_votersOf_6 : decode cX8_votersOf 6 = .ok (.getfield 15, 3) := by decide +kernel
theorem dX8_votersOf_9 : decode cX8_votersOf 9 = .ok (.arraylength, 1) := by decide +kernel
theorem dX8_votersOf_10 : decode cX8_votersOf 10 = .ok (.if_icmp .ge 12, 3) := by decide +kernel
theorem dX8_votersOf_13 : decode cX8_votersOf 13 = .ok (.aload_n 0, 1) := by decide +kernel
theorem dX8_votersOf_14 : decode cX8_votersOf 14 = .ok (.getfield 15, 3) := by decide +kernel
theorem dX8_votersOf_17 : decode cX8_votersOf 17 = .ok (.iload_n 1, 1) := by decide +kernel
theorem dX8_votersOf_18 : decode cX8_votersOf 18 = .ok (.iaload, 1) := by decide +kernel
theorem dX8_votersOf_19 : decode cX8_votersOf 19 = .ok (.goto 4, 3) := by decide +kernel
theorem dX8_votersOf_22 : decode cX8_votersOf 22 = .ok (.iconst 0, 1) := by decide +kernel
theorem dX8_votersOf_23 : decode cX8_votersOf 23 = .ok (.ireturn, 1) := by decide +kernel
theorem dX8_ballotOf_0 : decode cX8_ballotOf 0 = .ok (.iload_n 1, 1) := by decide +kernel
theorem dX8_ballotOf_1 : decode cX8_ballotOf 1 = .ok (.ifCond .lt 21, 3) := by decide +kernel
theorem dX8_ballotOf_4 : decode cX8_ballotOf 4 = .ok (.iload_n 1, 1) := by decide +kernel
theorem dX8_ballotOf_5 : decode cX8_ballotOf 5 = .ok (.aload_n 0, 1) := by decide +kernel
theorem dX8_ballotOf_6 : decode cX8_ballotOf 6 = .ok (.getfield 19, 3) := by decide +kernel
theorem dX8_ballotOf_9 : decode cX8_ballotOf 9 = .ok (.arraylength, 1) := by decide +kernel
theorem dX8_ballotOf_10 : decode cX8_ballotOf 10 = .ok (.if_icmp .ge 12, 3) := by decide +kernel
theorem dX8_ballotOf_13 : decode cX8_ballotOf 13 = .ok (.aload_n 0, 1) := by decide +kernel
theorem dX8_ballotOf_14 : decode cX8_ballotOf 14 = .ok (.getfield 19, 3) := by decide +kernel
theorem dX8_ballotOf_17 : decode cX8_ballotOf 17 = .ok (.iload_n 1, 1) := by decide +kernel
theorem dX8_ballotOf_18 : decode cX8_ballotOf 18 = .ok (.iaload, 1) := by decide +kernel
theorem dX8_ballotOf_19 : decode cX8_ballotOf 19 = .ok (.goto 4, 3) := by decide +kernel
theorem dX8_ballotOf_22 : decode cX8_ballotOf 22 = .ok (.iconst 0, 1) := by decide +kernel
theorem dX8_ballotOf_23 : decode cX8_ballotOf 23 = .ok (.ireturn, 1) := by decide +kernel
theorem dX8_write_0 : decode cX8_write 0 = .ok (.iload_n 1, 1) := by decide +kernel
theorem dX8_write_1 : decode cX8_write 1 = .ok (.ifCond .lt 23, 3) := by decide +kernel
theorem dX8_write_4 : decode cX8_write 4 = .ok (.iload_n 1, 1) := by decide +kernel
theorem dX8_write_5 : decode cX8_write 5 = .ok (.bipush 20, 2) := by decide +kernel
theorem dX8_write_7 : decode cX8_write 7 = .ok (.if_icmp .ge 17, 3) := by decide +kernel
theorem dX8_write_10 : decode cX8_write 10 = .ok (.aload_n 0, 1) := by decide +kernel
theorem dX8_write_11 : decode cX8_write 11 = .ok (.getfield 15, 3) := by decide +kernel
theorem dX8_write_14 : decode cX8_write 14 = .ok (.iload_n 1, 1) := by decide +kernel
theorem dX8_write_15 : decode cX8_write 15 = .ok (.iload_n 2, 1) := by decide +kernel
theorem dX8_write_16 : decode cX8_write 16 = .ok (.iastore, 1) := by decide +kernel
theorem dX8_write_17 : decode cX8_write 17 = .ok (.aload_n 0, 1) := by decide +kernel
theorem dX8_write_18 : decode cX8_write 18 = .ok (.getfield 19, 3) := by decide +kernel
theorem dX8_write_21 : decode cX8_write 21 = .ok (.iload_n 1, 1) := by decide +kernel
theorem dX8_write_22 : decode cX8_write 22 = .ok (.iload_n 3, 1) := by decide +kernel
theorem dX8_write_23 : decode cX8_write 23 = .ok (.iastore, 1) := by decide +kernel
theorem dX8_write_24 : decode cX8_write 24 = .ok (.return_, 1) := by decide +kernel
theorem dX8_append_0 : decode cX8_append 0 = .ok (.aload_n 0, 1) := by decide +kernel
theorem dX8_append_1 : decode cX8_append 1 = .ok (.invokevirtual 27, 3) := by decide +kernel
theorem dX8_append_4 : decode cX8_append 4 = .ok (.ifCond .le 23, 3) := by decide +kernel
theorem dX8_append_7 : decode cX8_append 7 = .ok (.aload_n 0, 1) := by decide +kernel
theorem dX8_append_8 : decode cX8_append 8 = .ok (.aload_n 0, 1) := by decide +kernel
theorem dX8_append_9 : decode cX8_append 9 = .ok (.getfield 22, 3) := by decide +kernel
theorem dX8_append_12 : decode cX8_append 12 = .ok (.iload_n 1, 1) := by decide +kernel
theorem dX8_append_13 : decode cX8_append 13 = .ok (.iload_n 2, 1) := by decide +kernel
theorem dX8_append_14 : decode cX8_append 14 = .ok (.invokevirtual 31, 3) := by decide +kernel
theorem dX8_append_17 : decode cX8_append 17 = .ok (.aload_n 0, 1) := by decide +kernel
theorem dX8_append_18 : decode cX8_append 18 = .ok (.dup, 1) := by decide +kernel
theorem dX8_append_19 : decode cX8_append 19 = .ok (.getfield 22, 3) := by decide +kernel
theorem dX8_append_22 : decode cX8_append 22 = .ok (.iconst 1, 1) := by decide +kernel
theorem dX8_append_23 : decode cX8_append 23 = .ok (.iadd, 1) := by decide +kernel
theorem dX8_append_24 : decode cX8_append 24 = .ok (.putfield 22, 3) := by decide +kernel
theorem dX8_append_27 : decode cX8_append 27 = .ok (.return_, 1) := by decide +kernel
theorem dX8_drop_0 : decode cX8_drop 0 = .ok (.iload_n 1, 1) := by decide +kernel
theorem dX8_drop_1 : decode cX8_drop 1 = .ok (.iconst 1, 1) := by decide +kernel
theorem dX8_drop_2 : decode cX8_drop 2 = .ok (.iadd, 1) := by decide +kernel
theorem dX8_drop_3 : decode cX8_drop 3 = .ok (.istore_n 2, 1) := by decide +kernel
theorem dX8_drop_4 : decode cX8_drop 4 = .ok (.iload_n 2, 1) := by decide +kernel
theorem dX8_drop_5 : decode cX8_drop 5 = .ok (.aload_n 0, 1) := by decide +kernel
theorem dX8_drop_6 : decode cX8_drop 6 = .ok (.getfield 22, 3) := by decide +kernel
theorem dX8_drop_9 : decode cX8_drop 9 = .ok (.if_icmp .ge 26, 3) := by decide +kernel
theorem dX8_drop_12 : decode cX8_drop 12 = .ok (.aload_n 0, 1) := by decide +kernel
theorem dX8_drop_13 : decode cX8_drop 13 = .ok (.iload_n 2, 1) := by decide +kernel
theorem dX8_drop_14 : decode cX8_drop 14 = .ok (.iconst 1, 1) := by decide +kernel
theorem dX8_drop_15 : decode cX8_drop 15 = .ok (.isub, 1) := by decide +kernel
theorem dX8_drop_16 : decode cX8_drop 16 = .ok (.aload_n 0, 1) := by decide +kernel
theorem dX8_drop_17 : decode cX8_drop 17 = .ok (.iload_n 2, 1) := by decide +kernel
theorem dX8_drop_18 : decode cX8_drop 18 = .ok (.invokevirtual 35, 3) := by decide +kernel
theorem dX8_drop_21 : decode cX8_drop 21 = .ok (.aload_n 0, 1) := by decide +kernel
theorem dX8_drop_22 : decode cX8_drop 22 = .ok (.iload_n 2, 1) := by decide +kernel
theorem dX8_drop_23 : decode cX8_drop 23 = .ok (.invokevirtual 39, 3) := by decide +kernel
theorem dX8_drop_26 : decode cX8_drop 26 = .ok (.invokevirtual 31, 3) := by decide +kernel
theorem dX8_drop_29 : decode cX8_drop 29 = .ok (.iinc 2 1, 3) := by decide +kernel
theorem dX8_drop_32 : decode cX8_drop 32 = .ok (.goto (-28), 3) := by decide +kernel
theorem dX8_drop_35 : decode cX8_drop 35 = .ok (.aload_n 0, 1) := by decide +kernel
theorem dX8_drop_36 : decode cX8_drop 36 = .ok (.dup, 1) := by decide +kernel
theorem dX8_drop_37 : decode cX8_drop 37 = .ok (.getfield 22, 3) := by decide +kernel
theorem dX8_drop_40 : decode cX8_drop 40 = .ok (.iconst 1, 1) := by decide +kernel
theorem dX8_drop_41 : decode cX8_drop 41 = .ok (.isub, 1) := by decide +kernel
theorem dX8_drop_42 : decode cX8_drop 42 = .ok (.putfield 22, 3) := by decide +kernel
theorem dX8_drop_45 : decode cX8_drop 45 = .ok (.return_, 1) := by decide +kernel
theorem dX8_total_0 : decode cX8_total 0 = .ok (.iconst 0, 1) := by decide +kernel
theorem dX8_total_1 : decode cX8_total 1 = .ok (.istore_n 1, 1) := by decide +kernel
theorem dX8_total_2 : decode cX8_total 2 = .ok (.iconst 0, 1) := by decide +kernel
theorem dX8_total_3 : decode cX8_total 3 = .ok (.istore_n 2, 1) := by decide +kernel
theorem dX8_total_4 : decode cX8_total 4 = .ok (.iload_n 2, 1) := by decide +kernel
theorem dX8_total_5 : decode cX8_total 5 = .ok (.aload_n 0, 1) := by decide +kernel
theorem dX8_total_6 : decode cX8_total 6 = .ok (.getfield 22, 3) := by decide +kernel
theorem dX8_total_9 : decode cX8_total 9 = .ok (.if_icmp .ge 17, 3) := by decide +kernel
theorem dX8_total_12 : decode cX8_total 12 = .ok (.iload_n 1, 1) := by decide +kernel
theorem dX8_total_13 : decode cX8_total 13 = .ok (.aload_n 0, 1) := by decide +kernel
theorem dX8_total_14 : decode cX8_total 14 = .ok (.iload_n 2, 1) := by decide +kernel
theorem dX8_total_15 : decode cX8_total 15 = .ok (.invokevirtual 35, 3) := by decide +kernel
theorem dX8_total_18 : decode cX8_total 18 = .ok (.iadd, 1) := by decide +kernel
theorem dX8_total_19 : decode cX8_total 19 = .ok (.istore_n 1, 1) := by decide +kernel
theorem dX8_total_20 : decode cX8_total 20 = .ok (.iinc 2 1, 3) := by decide +kernel
theorem dX8_total_23 : decode cX8_total 23 = .ok (.goto (-19), 3) := by decide +kernel
theorem dX8_total_26 : decode cX8_total 26 = .ok (.iload_n 1, 1) := by decide +kernel
theorem dX8_total_27 : decode cX8_total 27 = .ok (.ireturn, 1) := by decide +kernel
theorem dX8_groupOf_0 : decode cX8_groupOf 0 = .ok (.iconst 0, 1) := by decide +kernel
theorem dX8_groupOf_1 : decode cX8_groupOf 1 = .ok (.istore_n 2, 1) := by decide +kernel
theorem dX8_groupOf_2 : decode cX8_groupOf 2 = .ok (.iconst 0, 1) := by decide +kernel
theorem dX8_groupOf_3 : decode cX8_groupOf 3 = .ok (.istore_n 3, 1) := by decide +kernel
theorem dX8_groupOf_4 : decode cX8_groupOf 4 = .ok (.iload_n 3, 1) := by decide +kernel
theorem dX8_groupOf_5 : decode cX8_groupOf 5 = .ok (.aload_n 0, 1) := by decide +kernel
theorem dX8_groupOf_6 : decode cX8_groupOf 6 = .ok (.getfield 22, 3) := by decide +kernel
theorem dX8_groupOf_9 : decode cX8_groupOf 9 = .ok (.if_icmp .ge 24, 3) := by decide +kernel
theorem dX8_groupOf_12 : decode cX8_groupOf 12 = .ok (.iload_n 2, 1) := by decide +kernel
theorem dX8_groupOf_13 : decode cX8_groupOf 13 = .ok (.aload_n 0, 1) := by decide +kernel
theorem dX8_groupOf_14 : decode cX8_groupOf 14 = .ok (.iload_n 3, 1) := by decide +kernel
theorem dX8_groupOf_15 : decode cX8_groupOf 15 = .ok (.invokevirtual 35, 3) := by decide +kernel
theorem dX8_groupOf_18 : decode cX8_groupOf 18 = .ok (.iadd, 1) := by decide +kernel
theorem dX8_groupOf_19 : decode cX8_groupOf 19 = .ok (.istore_n 2, 1) := by decide +kernel
theorem dX8_groupOf_20 : decode cX8_groupOf 20 = .ok (.iload_n 1, 1) := by decide +kernel
theorem dX8_groupOf_21 : decode cX8_groupOf 21 = .ok (.iload_n 2, 1) := by decide +kernel
theorem dX8_groupOf_22 : decode cX8_groupOf 22 = .ok (.if_icmp .ge 5, 3) := by decide +kernel
theorem dX8_groupOf_25 : decode cX8_groupOf 25 = .ok (.iload_n 3, 1) := by decide +kernel
theorem dX8_groupOf_26 : decode cX8_groupOf 26 = .ok (.ireturn, 1) := by decide +kernel
theorem dX8_groupOf_27 : decode cX8_groupOf 27 = .ok (.iinc 3 1, 3) := by decide +kernel
theorem dX8_groupOf_30 : decode cX8_groupOf 30 = .ok (.goto (-26), 3) := by decide +kernel
theorem dX8_groupOf_33 : decode cX8_groupOf 33 = .ok (.aload_n 0, 1) := by decide +kernel
theorem dX8_groupOf_34 : decode cX8_groupOf 34 = .ok (.getfield 22, 3) := by decide +kernel
theorem dX8_groupOf_37 : decode cX8_groupOf 37 = .ok (.iconst 1, 1) := by decide +kernel
theorem dX8_groupOf_38 : decode cX8_groupOf 38 = .ok (.isub, 1) := by decide +kernel
theorem dX8_groupOf_39 : decode cX8_groupOf 39 = .ok (.ireturn, 1) := by decide +kernel
theorem dX8_copy_0 : decode cX8_copy 0 = .ok (.aload_n 0, 1) := by decide +kernel
theorem dX8_copy_1 : decode cX8_copy 1 = .ok (.aload_n 1, 1) := by decide +kernel
theorem dX8_copy_2 : decode cX8_copy 2 = .ok (.getfield 9, 3) := by decide +kernel
theorem dX8_copy_5 : decode cX8_copy 5 = .ok (.putfield 9, 3) := by decide +kernel
theorem dX8_copy_8 : decode cX8_copy 8 = .ok (.aload_n 0, 1) := by decide +kernel
theorem dX8_copy_9 : decode cX8_copy 9 = .ok (.aload_n 1, 1) := by decide +kernel
theorem dX8_copy_10 : decode cX8_copy 10 = .ok (.getfield 22, 3) := by decide +kernel
theorem dX8_copy_13 : decode cX8_copy 13 = .ok (.putfield 22, 3) := by decide +kernel
theorem dX8_copy_16 : decode cX8_copy 16 = .ok (.iconst 0, 1) := by decide +kernel
theorem dX8_copy_17 : decode cX8_copy 17 = .ok (.istore_n 2, 1) := by decide +kernel
theorem dX8_copy_18 : decode cX8_copy 18 = .ok (.iload_n 2, 1) := by decide +kernel
theorem dX8_copy_19 : decode cX8_copy 19 = .ok (.bipush 20, 2) := by decide +kernel
theorem dX8_copy_21 : decode cX8_copy 21 = .ok (.if_icmp .ge 33, 3) := by decide +kernel
theorem dX8_copy_24 : decode cX8_copy 24 = .ok (.aload_n 0, 1) := by decide +kernel
theorem dX8_copy_25 : decode cX8_copy 25 = .ok (.getfield 15, 3) := by decide +kernel
theorem dX8_copy_28 : decode cX8_copy 28 = .ok (.iload_n 2, 1) := by decide +kernel
theorem dX8_copy_29 : decode cX8_copy 29 = .ok (.aload_n 1, 1) := by decide +kernel
theorem dX8_copy_30 : decode cX8_copy 30 = .ok (.getfield 15, 3) := by decide +kernel
theorem dX8_copy_33 : decode cX8_copy 33 = .ok (.iload_n 2, 1) := by decide +kernel
theorem dX8_copy_34 : decode cX8_copy 34 = .ok (.iaload, 1) := by decide +kernel
theorem dX8_copy_35 : decode cX8_copy 35 = .ok (.iastore, 1) := by decide +kernel
theorem dX8_copy_36 : decode cX8_copy 36 = .ok (.aload_n 0, 1) := by decide +kernel
theorem dX8_copy_37 : decode cX8_copy 37 = .ok (.getfield 19, 3) := by decide +kernel
theorem dX8_copy_40 : decode cX8_copy 40 = .ok (.iload_n 2, 1) := by decide +kernel
theorem dX8_copy_41 : decode cX8_copy 41 = .ok (.aload_n 1, 1) := by decide +kernel
theorem dX8_copy_42 : decode cX8_copy 42 = .ok (.getfield 19, 3) := by decide +kernel
theorem dX8_copy_45 : decode cX8_copy 45 = .ok (.iload_n 2, 1) := by decide +kernel
theorem dX8_copy_46 : decode cX8_copy 46 = .ok (.iaload, 1) := by decide +kernel
theorem dX8_copy_47 : decode cX8_copy 47 = .ok (.iastore, 1) := by decide +kernel
theorem dX8_copy_48 : decode cX8_copy 48 = .ok (.iinc 2 1, 3) := by decide +kernel
theorem dX8_copy_51 : decode cX8_copy 51 = .ok (.goto (-33), 3) := by decide +kernel
theorem dX8_copy_54 : decode cX8_copy 54 = .ok (.return_, 1) := by decide +kernel
theorem dX9_init_0 : decode cX9_init 0 = .ok (.aload_n 0, 1) := by decide +kernel
theorem dX9_init_1 : decode cX9_init 1 = .ok (.invokespecial 3, 3) := by decide +kernel
theorem dX9_init_4 : decode cX9_init 4 = .ok (.aload_n 0, 1) := by decide +kernel
theorem dX9_init_5 : decode cX9_init 5 = .ok (.bipush 100, 2) := by decide +kernel
theorem dX9_init_7 : decode cX9_init 7 = .ok (.newarray .char, 2) := by decide +kernel
theorem dX9_init_9 : decode cX9_init 9 = .ok (.putfield 9, 3) := by decide +kernel
theorem dX9_init_12 : decode cX9_init 12 = .ok (.aload_n 0, 1) := by decide +kernel
theorem dX9_init_13 : decode cX9_init 13 = .ok (.bipush 20, 2) := by decide +kernel
theorem dX9_init_15 : decode cX9_init 15 = .ok (.newarray .int, 2) := by decide +kernel
theorem dX9_init_17 : decode cX9_init 17 = .ok (.putfield 15, 3) := by decide +kernel
theorem dX9_init_20 : decode cX9_init 20 = .ok (.aload_n 0, 1) := by decide +kernel
theorem dX9_init_21 : decode cX9_init 21 = .ok (.bipush 20, 2) := by decide +kernel
theorem dX9_init_23 : decode cX9_init 23 = .ok (.newarray .int, 2) := by decide +kernel
theorem dX9_init_25 : decode cX9_init 25 = .ok (.putfield 19, 3) := by decide +kernel
theorem dX9_init_28 : decode cX9_init 28 = .ok (.return_, 1) := by decide +kernel
theorem dX9_votersOf_0 : decode cX9_votersOf 0 = .ok (.iload_n 1, 1) := by decide +kernel
theorem dX9_votersOf_1 : decode cX9_votersOf 1 = .ok (.ifCond .lt 21, 3) := by decide +kernel
theorem dX9_votersOf_4 : decode cX9_votersOf 4 = .ok (.iload_n 1, 1) := by decide +kernel
theorem dX9_votersOf_5 : decode cX9_votersOf 5 = .ok (.aload_n 0, 1) := by decide +kernel
theorem dX9_votersOf_6 : decode cX9_votersOf 6 = .ok (.getfield 15, 3) := by decide +kernel
theorem dX9_votersOf_9 : decode cX9_votersOf 9 = .ok (.arraylength, 1) := by decide +kernel
theorem dX9_votersOf_10 : decode cX9_votersOf 10 = .ok (.if_icmp .ge 12, 3) := by decide +kernel
theorem dX9_votersOf_13 : decode cX9_votersOf 13 = .ok (.aload_n 0, 1) := by decide +kernel
theorem dX9_votersOf_14 : decode cX9_votersOf 14 = .ok (.getfield 15, 3) := by decide +kernel
theorem dX9_votersOf_17 : decode cX9_votersOf 17 = .ok (.iload_n 1, 1) := by decide +kernel
theorem dX9_votersOf_18 : decode cX9_votersOf 18 = .ok (.iaload, 1) := by decide +kernel
theorem dX9_votersOf_19 : decode cX9_votersOf 19 = .ok (.goto 4, 3) := by decide +kernel
theorem dX9_votersOf_22 : decode cX9_votersOf 22 = .ok (.iconst 0, 1) := by decide +kernel
theorem dX9_votersOf_23 : decode cX9_votersOf 23 = .ok (.ireturn, 1) := by decide +kernel
theorem dX9_ballotOf_0 : decode cX9_ballotOf 0 = .ok (.iload_n 1, 1) := by decide +kernel
theorem dX9_ballotOf_1 : decode cX9_ballotOf 1 = .ok (.ifCond .lt 21, 3) := by decide +kernel
theorem dX9_ballotOf_4 : decode cX9_ballotOf 4 = .ok (.iload_n 1, 1) := by decide +kernel
theorem dX9_ballotOf_5 : decode cX9_ballotOf 5 = .ok (.aload_n 0, 1) := by decide +kernel
theorem dX9_ballotOf_6 : decode cX9_ballotOf 6 = .ok (.getfield 19, 3) := by decide +kernel
theorem dX9_ballotOf_9 : decode cX9_ballotOf 9 = .ok (.arraylength, 1) := by decide +kernel
theorem dX9_ballotOf_10 : decode cX9_ballotOf 10 = .ok (.if_icmp .ge 12, 3) := by decide +kernel
theorem dX9_ballotOf_13 : decode cX9_ballotOf 13 = .ok (.aload_n 0, 1) := by decide +kernel
theorem dX9_ballotOf_14 : decode cX9_ballotOf 14 = .ok (.getfield 19, 3) := by decide +kernel
theorem dX9_ballotOf_17 : decode cX9_ballotOf 17 = .ok (.iload_n 1, 1) := by decide +kernel
theorem dX9_ballotOf_18 : decode cX9_ballotOf 18 = .ok (.iaload, 1) := by decide +kernel
theorem dX9_ballotOf_19 : decode cX9_ballotOf 19 = .ok (.goto 4, 3) := by decide +kernel
theorem dX9_ballotOf_22 : decode cX9_ballotOf 22 = .ok (.iconst 0, 1) := by decide +kernel
theorem dX9_ballotOf_23 : decode cX9_ballotOf 23 = .ok (.ireturn, 1) := by decide +kernel
theorem dX9_read_0 : decode cX9_read 0 = .ok (.aload_n 0, 1) := by decide +kernel
theorem dX9_read_1 : decode cX9_read 1 = .ok (.iconst 0, 1) := by decide +kernel
theorem dX9_read_2 : decode cX9_read 2 = .ok (.putfield 28, 3) := by decide +kernel
theorem dX9_read_5 : decode cX9_read 5 = .ok (.aload_n 0, 1) := by decide +kernel
theorem dX9_read_6 : decode cX9_read 6 = .ok (.iconst 0, 1) := by decide +kernel
theorem dX9_read_7 : decode cX9_read 7 = .ok (.putfield 31, 3) := by decide +kernel
theorem dX9_read_10 : decode cX9_read 10 = .ok (.iconst 0, 1) := by decide +kernel
theorem dX9_read_11 : decode cX9_read 11 = .ok (.istore_n 2, 1) := by decide +kernel
theorem dX9_read_12 : decode cX9_read 12 = .ok (.iload_n 2, 1) := by decide +kernel
theorem dX9_read_13 : decode cX9_read 13 = .ok (.bipush 20, 2) := by decide +kernel
theorem dX9_read_15 : decode cX9_read 15 = .ok (.if_icmp .gt 47, 3) := by decide +kernel
theorem dX9_read_18 : decode cX9_read 18 = .ok (.aload_n 0, 1) := by decide +kernel
theorem dX9_read_19 : decode cX9_read 19 = .ok (.iload_n 1, 1) := by decide +kernel
theorem dX9_read_20 : decode cX9_read 20 = .ok (.invokevirtual 34, 3) := by decide +kernel
theorem dX9_read_23 : decode cX9_read 23 = .ok (.ifCond .ne 8, 3) := by decide +kernel
theorem dX9_read_26 : decode cX9_read 26 = .ok (.aload_n 0, 1) := by decide +kernel
theorem dX9_read_27 : decode cX9_read 27 = .ok (.getfield 28, 3) := by decide +kernel
theorem dX9_read_30 : decode cX9_read 30 = .ok (.ireturn, 1) := by decide +kernel
theorem dX9_read_31 : decode cX9_read 31 = .ok (.aload_n 0, 1) := by decide +kernel
theorem dX9_read_32 : decode cX9_read 32 = .ok (.invokevirtual 38, 3) := by decide +kernel
theorem dX9_read_35 : decode cX9_read 35 = .ok (.iconst (-1), 1) := by decide +kernel
theorem dX9_read_36 : decode cX9_read 36 = .ok (.if_icmp .ne 6, 3) := by decide +kernel
theorem dX9_read_39 : decode cX9_read 39 = .ok (.ldc 42, 2) := by decide +kernel
theorem dX9_read_41 : decode cX9_read 41 = .ok (.ireturn, 1) := by decide +kernel
theorem dX9_read_42 : decode cX9_read 42 = .ok (.aload_n 0, 1) := by decide +kernel
theorem dX9_read_43 : decode cX9_read 43 = .ok (.bipush 59, 2) := by decide +kernel
theorem dX9_read_45 : decode cX9_read 45 = .ok (.invokevirtual 43, 3) := by decide +kernel
theorem dX9_read_48 : decode cX9_read 48 = .ok (.ifCond .ne 8, 3) := by decide +kernel
theorem dX9_read_51 : decode cX9_read 51 = .ok (.aload_n 0, 1) := by decide +kernel
theorem dX9_read_52 : decode cX9_read 52 = .ok (.getfield 28, 3) := by decide +kernel
theorem dX9_read_55 : decode cX9_read 55 = .ok (.ireturn, 1) := by decide +kernel
theorem dX9_read_56 : decode cX9_read 56 = .ok (.iinc 2 1, 3) := by decide +kernel
theorem dX9_read_59 : decode cX9_read 59 = .ok (.goto (-47), 3) := by decide +kernel
theorem dX9_read_62 : decode cX9_read 62 = .ok (.aload_n 0, 1) := by decide +kernel
theorem dX9_read_63 : decode cX9_read 63 = .ok (.getfield 28, 3) := by decide +kernel
theorem dX9_read_66 : decode cX9_read 66 = .ok (.ireturn, 1) := by decide +kernel
theorem dX9_readGroup_0 : decode cX9_readGroup 0 = .ok (.aload_n 0, 1) := by decide +kernel
theorem dX9_readGroup_1 : decode cX9_readGroup 1 = .ok (.invokevirtual 38, 3) := by decide +kernel
theorem dX9_readGroup_4 : decode cX9_readGroup 4 = .ok (.istore_n 2, 1) := by decide +kernel
theorem dX9_readGroup_5 : decode cX9_readGroup 5 = .ok (.aload_n 0, 1) := by decide +kernel
theorem dX9_readGroup_6 : decode cX9_readGroup 6 = .ok (.getfield 31, 3) := by decide +kernel
theorem dX9_readGroup_9 : decode cX9_readGroup 9 = .ok (.ifCond .lt 27, 3) := by decide +kernel
theorem dX9_readGroup_12 : decode cX9_readGroup 12 = .ok (.aload_n 0, 1) := by decide +kernel
theorem dX9_readGroup_13 : decode cX9_readGroup 13 = .ok (.getfield 31, 3) := by decide +kernel
theorem dX9_readGroup_16 : decode cX9_readGroup 16 = .ok (.iload_n 1, 1) := by decide +kernel
theorem dX9_readGroup_17 : decode cX9_readGroup 17 = .ok (.if_icmp .ge 19, 3) := by decide +kernel
theorem dX9_readGroup_20 : decode cX9_readGroup 20 = .ok (.aload_n 0, 1) := by decide +kernel
theorem dX9_readGroup_21 : decode cX9_readGroup 21 = .ok (.getfield 31, 3) := by decide +kernel
theorem dX9_readGroup_24 : decode cX9_readGroup 24 = .ok (.bipush 20, 2) := by decide +kernel
theorem dX9_readGroup_26 : decode cX9_readGroup 26 = .ok (.if_icmp .ge 10, 3) := by decide +kernel
theorem dX9_readGroup_29 : decode cX9_readGroup 29 = .ok (.iload_n 2, 1) := by decide +kernel
theorem dX9_readGroup_30 : decode cX9_readGroup 30 = .ok (.invokestatic 47, 3) := by decide +kernel
theorem dX9_readGroup_33 : decode cX9_readGroup 33 = .ok (.ifCond .ne 5, 3) := by decide +kernel
theorem dX9_readGroup_36 : decode cX9_readGroup 36 = .ok (.iconst 0, 1) := by decide +kernel
theorem dX9_readGroup_37 : decode cX9_readGroup 37 = .ok (.ireturn, 1) := by decide +kernel
theorem dX9_readGroup_38 : decode cX9_readGroup 38 = .ok (.aload_n 0, 1) := by decide +kernel
theorem dX9_readGroup_39 : decode cX9_readGroup 39 = .ok (.invokevirtual 50, 3) := by decide +kernel
theorem dX9_readGroup_42 : decode cX9_readGroup 42 = .ok (.istore_n 3, 1) := by decide +kernel
theorem dX9_readGroup_43 : decode cX9_readGroup 43 = .ok (.iload_n 3, 1) := by decide +kernel
theorem dX9_readGroup_44 : decode cX9_readGroup 44 = .ok (.ifCond .eq 12, 3) := by decide +kernel
theorem dX9_readGroup_47 : decode cX9_readGroup 47 = .ok (.aload_n 0, 1) := by decide +kernel
theorem dX9_readGroup_48 : decode cX9_readGroup 48 = .ok (.bipush 58, 2) := by decide +kernel
theorem dX9_readGroup_50 : decode cX9_readGroup 50 = .ok (.invokevirtual 43, 3) := by decide +kernel
theorem dX9_readGroup_53 : decode cX9_readGroup 53 = .ok (.ifCond .ne 5, 3) := by decide +kernel
theorem dX9_readGroup_56 : decode cX9_readGroup 56 = .ok (.iconst 0, 1) := by decide +kernel
theorem dX9_readGroup_57 : decode cX9_readGroup 57 = .ok (.ireturn, 1) := by decide +kernel
theorem dX9_readGroup_58 : decode cX9_readGroup 58 = .ok (.aload_n 0, 1) := by decide +kernel
theorem dX9_readGroup_59 : decode cX9_readGroup 59 = .ok (.invokevirtual 53, 3) := by decide +kernel
theorem dX9_readGroup_62 : decode cX9_readGroup 62 = .ok (.istore 4, 2) := by decide +kernel
theorem dX9_readGroup_64 : decode cX9_readGroup 64 = .ok (.iload 4, 2) := by decide +kernel
theorem dX9_readGroup_66 : decode cX9_readGroup 66 = .ok (.ifCond .ne 5, 3) := by decide +kernel
theorem dX9_readGroup_69 : decode cX9_readGroup 69 = .ok (.iconst 0, 1) := by decide +kernel
theorem dX9_readGroup_70 : decode cX9_readGroup 70 = .ok (.ireturn, 1) := by decide +kernel
theorem dX9_readGroup_71 : decode cX9_readGroup 71 = .ok (.aload_n 0, 1) := by decide +kernel
theorem dX9_readGroup_72 : decode cX9_readGroup 72 = .ok (.getfield 15, 3) := by decide +kernel
theorem dX9_readGroup_75 : decode cX9_readGroup 75 = .ok (.aload_n 0, 1) := by decide +kernel
theorem dX9_readGroup_76 : decode cX9_readGroup 76 = .ok (.getfield 31, 3) := by decide +kernel
theorem dX9_readGroup_79 : decode cX9_readGroup 79 = .ok (.iload_n 3, 1) := by decide +kernel
theorem dX9_readGroup_80 : decode cX9_readGroup 80 = .ok (.iastore, 1) := by decide +kernel
theorem dX9_readGroup_81 : decode cX9_readGroup 81 = .ok (.aload_n 0, 1) := by decide +kernel
theorem dX9_readGroup_82 : decode cX9_readGroup 82 = .ok (.getfield 19, 3) := by decide +kernel
theorem dX9_readGroup_85 : decode cX9_readGroup 85 = .ok (.aload_n 0, 1) := by decide +kernel
theorem dX9_readGroup_86 : decode cX9_readGroup 86 = .ok (.getfield 31, 3) := by decide +kernel
theorem dX9_readGroup_89 : decode cX9_readGroup 89 = .ok (.iload 4, 2) := by decide +kernel
theorem dX9_readGroup_91 : decode cX9_readGroup 91 = .ok (.iastore, 1) := by decide +kernel
theorem dX9_readGroup_92 : decode cX9_readGroup 92 = .ok (.aload_n 0, 1) := by decide +kernel
theorem dX9_readGroup_93 : decode cX9_readGroup 93 = .ok (.dup, 1) := by decide +kernel
theorem dX9_readGroup_94 : decode cX9_readGroup 94 = .ok (.getfield 31, 3) := by decide +kernel
theorem dX9_readGroup_97 : decode cX9_readGroup 97 = .ok (.iconst 1, 1) := by decide +kernel
theorem dX9_readGroup_98 : decode cX9_readGroup 98 = .ok (.iadd, 1) := by decide +kernel
theorem dX9_readGroup_99 : decode cX9_readGroup 99 = .ok (.putfield 31, 3) := by decide +kernel
theorem dX9_readGroup_102 : decode cX9_readGroup 102 = .ok (.iconst 1, 1) := by decide +kernel
theorem dX9_readGroup_103 : decode cX9_readGroup 103 = .ok (.ireturn, 1) := by decide +kernel
theorem dX9_readNumber_0 : decode cX9_readNumber 0 = .ok (.aload_n 0, 1) := by decide +kernel
theorem dX9_readNumber_1 : decode cX9_readNumber 1 = .ok (.getfield 28, 3) := by decide +kernel
theorem dX9_readNumber_4 : decode cX9_readNumber 4 = .ok (.istore_n 1, 1) := by decide +kernel
theorem dX9_readNumber_5 : decode cX9_readNumber 5 = .ok (.iconst 0, 1) := by decide +kernel
theorem dX9_readNumber_6 : decode cX9_readNumber 6 = .ok (.istore_n 2, 1) := by decide +kernel
theorem dX9_readNumber_7 : decode cX9_readNumber 7 = .ok (.aload_n 0, 1) := by decide +kernel
theorem dX9_readNumber_8 : decode cX9_readNumber 8 = .ok (.getfield 28, 3) := by decide +kernel
theorem dX9_readNumber_11 : decode cX9_readNumber 11 = .ok (.aload_n 0, 1) := by decide +kernel
theorem dX9_readNumber_12 : decode cX9_readNumber 12 = .ok (.getfield 22, 3) := by decide +kernel
theorem dX9_readNumber_15 : decode cX9_readNumber 15 = .ok (.if_icmp .ge 57, 3) := by decide +kernel
theorem dX9_readNumber_18 : decode cX9_readNumber 18 = .ok (.aload_n 0, 1) := by decide +kernel
theorem dX9_readNumber_19 : decode cX9_readNumber 19 = .ok (.getfield 28, 3) := by decide +kernel
theorem dX9_readNumber_22 : decode cX9_readNumber 22 = .ok (.iload_n 1, 1) := by decide +kernel
theorem dX9_readNumber_23 : decode cX9_readNumber 23 = .ok (.iconst 4, 1) := by decide +kernel
theorem dX9_readNumber_24 : decode cX9_readNumber 24 = .ok (.iadd, 1) := by decide +kernel
theorem dX9_readNumber_25 : decode cX9_readNumber 25 = .ok (.if_icmp .ge 47, 3) := by decide +kernel
theorem dX9_readNumber_28 : decode cX9_readNumber 28 = .ok (.aload_n 0, 1) := by decide +kernel
theorem dX9_readNumber_29 : decode cX9_readNumber 29 = .ok (.aload_n 0, 1) := by decide +kernel
theorem dX9_readNumber_30 : decode cX9_readNumber 30 = .ok (.getfield 28, 3) := by decide +kernel
theorem dX9_readNumber_33 : decode cX9_readNumber 33 = .ok (.invokevirtual 56, 3) := by decide +kernel
theorem dX9_readNumber_36 : decode cX9_readNumber 36 = .ok (.invokestatic 47, 3) := by decide +kernel
theorem dX9_readNumber_39 : decode cX9_readNumber 39 = .ok (.ifCond .eq 33, 3) := by decide +kernel
theorem dX9_readNumber_42 : decode cX9_readNumber 42 = .ok (.iload_n 2, 1) := by decide +kernel
theorem dX9_readNumber_43 : decode cX9_readNumber 43 = .ok (.bipush 10, 2) := by decide +kernel
theorem dX9_readNumber_45 : decode cX9_readNumber 45 = .ok (.imul, 1) := by decide +kernel
theorem dX9_readNumber_46 : decode cX9_readNumber 46 = .ok (.aload_n 0, 1) := by decide +kernel
theorem dX9_readNumber_47 : decode cX9_readNumber 47 = .ok (.aload_n 0, 1) := by decide +kernel
theorem dX9_readNumber_48 : decode cX9_readNumber 48 = .ok (.getfield 28, 3) := by decide +kernel
theorem dX9_readNumber_51 : decode cX9_readNumber 51 = .ok (.invokevirtual 56, 3) := by decide +kernel
theorem dX9_readNumber_54 : decode cX9_readNumber 54 = .ok (.iadd, 1) := by decide +kernel
theorem dX9_readNumber_55 : decode cX9_readNumber 55 = .ok (.bipush 48, 2) := by decide +kernel
theorem dX9_readNumber_57 : decode cX9_readNumber 57 = .ok (.isub, 1) := by decide +kernel
theorem dX9_readNumber_58 : decode cX9_readNumber 58 = .ok (.istore_n 2, 1) := by decide +kernel
theorem dX9_readNumber_59 : decode cX9_readNumber 59 = .ok (.aload_n 0, 1) := by decide +kernel
theorem dX9_readNumber_60 : decode cX9_readNumber 60 = .ok (.dup, 1) := by decide +kernel
theorem dX9_readNumber_61 : decode cX9_readNumber 61 = .ok (.getfield 28, 3) := by decide +kernel
theorem dX9_readNumber_64 : decode cX9_readNumber 64 = .ok (.iconst 1, 1) := by decide +kernel
theorem dX9_readNumber_65 : decode cX9_readNumber 65 = .ok (.iadd, 1) := by decide +kernel
theorem dX9_readNumber_66 : decode cX9_readNumber 66 = .ok (.putfield 28, 3) := by decide +kernel
theorem dX9_readNumber_69 : decode cX9_readNumber 69 = .ok (.goto (-62), 3) := by decide +kernel
theorem dX9_readNumber_72 : decode cX9_readNumber 72 = .ok (.aload_n 0, 1) := by decide +kernel
theorem dX9_readNumber_73 : decode cX9_readNumber 73 = .ok (.getfield 28, 3) := by decide +kernel
theorem dX9_readNumber_76 : decode cX9_readNumber 76 = .ok (.iload_n 1, 1) := by decide +kernel
theorem dX9_readNumber_77 : decode cX9_readNumber 77 = .ok (.isub, 1) := by decide +kernel
theorem dX9_readNumber_78 : decode cX9_readNumber 78 = .ok (.iconst 3, 1) := by decide +kernel
theorem dX9_readNumber_79 : decode cX9_readNumber 79 = .ok (.if_icmp .gt 10, 3) := by decide +kernel
theorem dX9_readNumber_82 : decode cX9_readNumber 82 = .ok (.iload_n 2, 1) := by decide +kernel
theorem dX9_readNumber_83 : decode cX9_readNumber 83 = .ok (.invokestatic 60, 3) := by decide +kernel
theorem dX9_readNumber_86 : decode cX9_readNumber 86 = .ok (.ifCond .ne 10, 3) := by decide +kernel
theorem dX9_readNumber_89 : decode cX9_readNumber 89 = .ok (.aload_n 0, 1) := by decide +kernel
theorem dX9_readNumber_90 : decode cX9_readNumber 90 = .ok (.iload_n 1, 1) := by decide +kernel
theorem dX9_readNumber_91 : decode cX9_readNumber 91 = .ok (.putfield 28, 3) := by decide +kernel
theorem dX9_readNumber_94 : decode cX9_readNumber 94 = .ok (.iconst 0, 1) := by decide +kernel
theorem dX9_readNumber_95 : decode cX9_readNumber 95 = .ok (.ireturn, 1) := by decide +kernel
theorem dX9_readNumber_96 : decode cX9_readNumber 96 = .ok (.iload_n 2, 1) := by decide +kernel
theorem dX9_readNumber_97 : decode cX9_readNumber 97 = .ok (.ireturn, 1) := by decide +kernel
theorem dX9_readBallot_0 : decode cX9_readBallot 0 = .ok (.iconst 0, 1) := by decide +kernel
theorem dX9_readBallot_1 : decode cX9_readBallot 1 = .ok (.istore_n 1, 1) := by decide +kernel
theorem dX9_readBallot_2 : decode cX9_readBallot 2 = .ok (.iconst 0, 1) := by decide +kernel
theorem dX9_readBallot_3 : decode cX9_readBallot 3 = .ok (.istore_n 2, 1) := by decide +kernel
theorem dX9_readBallot_4 : decode cX9_readBallot 4 = .ok (.iload_n 2, 1) := by decide +kernel
theorem dX9_readBallot_5 : decode cX9_readBallot 5 = .ok (.iconst 5, 1) := by decide +kernel
theorem dX9_readBallot_6 : decode cX9_readBallot 6 = .ok (.if_icmp .gt 61, 3) := by decide +kernel
theorem dX9_readBallot_9 : decode cX9_readBallot 9 = .ok (.aload_n 0, 1) := by decide +kernel
theorem dX9_readBallot_10 : decode cX9_readBallot 10 = .ok (.invokevirtual 38, 3) := by decide +kernel
theorem dX9_readBallot_13 : decode cX9_readBallot 13 = .ok (.bipush 48, 2) := by decide +kernel
theorem dX9_readBallot_15 : decode cX9_readBallot 15 = .ok (.isub, 1) := by decide +kernel
theorem dX9_readBallot_16 : decode cX9_readBallot 16 = .ok (.istore_n 3, 1) := by decide +kernel
theorem dX9_readBallot_17 : decode cX9_readBallot 17 = .ok (.iload_n 3, 1) := by decide +kernel
theorem dX9_readBallot_18 : decode cX9_readBallot 18 = .ok (.invokestatic 63, 3) := by decide +kernel
theorem dX9_readBallot_21 : decode cX9_readBallot 21 = .ok (.ifCond .eq 11, 3) := by decide +kernel
theorem dX9_readBallot_24 : decode cX9_readBallot 24 = .ok (.iload_n 1, 1) := by decide +kernel
theorem dX9_readBallot_25 : decode cX9_readBallot 25 = .ok (.iload_n 3, 1) := by decide +kernel
theorem dX9_readBallot_26 : decode cX9_readBallot 26 = .ok (.invokestatic 68, 3) := by decide +kernel
theorem dX9_readBallot_29 : decode cX9_readBallot 29 = .ok (.ifCond .lt 5, 3) := by decide +kernel
theorem dX9_readBallot_32 : decode cX9_readBallot 32 = .ok (.iconst 0, 1) := by decide +kernel
theorem dX9_readBallot_33 : decode cX9_readBallot 33 = .ok (.ireturn, 1) := by decide +kernel
theorem dX9_readBallot_34 : decode cX9_readBallot 34 = .ok (.iload_n 1, 1) := by decide +kernel
theorem dX9_readBallot_35 : decode cX9_readBallot 35 = .ok (.iload_n 3, 1) := by decide +kernel
theorem dX9_readBallot_36 : decode cX9_readBallot 36 = .ok (.invokestatic 72, 3) := by decide +kernel
theorem dX9_readBallot_39 : decode cX9_readBallot 39 = .ok (.istore_n 1, 1) := by decide +kernel
theorem dX9_readBallot_40 : decode cX9_readBallot 40 = .ok (.aload_n 0, 1) := by decide +kernel
theorem dX9_readBallot_41 : decode cX9_readBallot 41 = .ok (.dup, 1) := by decide +kernel
theorem dX9_readBallot_42 : decode cX9_readBallot 42 = .ok (.getfield 28, 3) := by decide +kernel
theorem dX9_readBallot_45 : decode cX9_readBallot 45 = .ok (.iconst 1, 1) := by decide +kernel
theorem dX9_readBallot_46 : decode cX9_readBallot 46 = .ok (.iadd, 1) := by decide +kernel
theorem dX9_readBallot_47 : decode cX9_readBallot 47 = .ok (.putfield 28, 3) := by decide +kernel
theorem dX9_readBallot_50 : decode cX9_readBallot 50 = .ok (.aload_n 0, 1) := by decide +kernel
theorem dX9_readBallot_51 : decode cX9_readBallot 51 = .ok (.bipush 62, 2) := by decide +kernel
theorem dX9_readBallot_53 : decode cX9_readBallot 53 = .ok (.invokevirtual 43, 3) := by decide +kernel
theorem dX9_readBallot_56 : decode cX9_readBallot 56 = .ok (.ifCond .ne 5, 3) := by decide +kernel
theorem dX9_readBallot_59 : decode cX9_readBallot 59 = .ok (.iload_n 1, 1) := by decide +kernel
theorem dX9_readBallot_60 : decode cX9_readBallot 60 = .ok (.ireturn, 1) := by decide +kernel
theorem dX9_readBallot_61 : decode cX9_readBallot 61 = .ok (.iinc 2 1, 3) := by decide +kernel
theorem dX9_readBallot_64 : decode cX9_readBallot 64 = .ok (.goto (-60), 3) := by decide +kernel
theorem dX9_readBallot_67 : decode cX9_readBallot 67 = .ok (.iconst 0, 1) := by decide +kernel
theorem dX9_readBallot_68 : decode cX9_readBallot 68 = .ok (.ireturn, 1) := by decide +kernel
theorem dX9_readSign_0 : decode cX9_readSign 0 = .ok (.aload_n 0, 1) := by decide +kernel
theorem dX9_readSign_1 : decode cX9_readSign 1 = .ok (.invokevirtual 38, 3) := by decide +kernel
theorem dX9_readSign_4 : decode cX9_readSign 4 = .ok (.iload_n 1, 1) := by decide +kernel
theorem dX9_readSign_5 : decode cX9_readSign 5 = .ok (.if_icmp .ne 7, 3) := by decide +kernel
theorem dX9_readSign_8 : decode cX9_readSign 8 = .ok (.iconst 1, 1) := by decide +kernel
theorem dX9_readSign_9 : decode cX9_readSign 9 = .ok (.goto 4, 3) := by decide +kernel
theorem dX9_readSign_12 : decode cX9_readSign 12 = .ok (.iconst 0, 1) := by decide +kernel
theorem dX9_readSign_13 : decode cX9_readSign 13 = .ok (.istore_n 2, 1) := by decide +kernel
theorem dX9_readSign_14 : decode cX9_readSign 14 = .ok (.iload_n 2, 1) := by decide +kernel
theorem dX9_readSign_15 : decode cX9_readSign 15 = .ok (.ifCond .eq 13, 3) := by decide +kernel
theorem dX9_readSign_18 : decode cX9_readSign 18 = .ok (.aload_n 0, 1) := by decide +kernel
theorem dX9_readSign_19 : decode cX9_readSign 19 = .ok (.dup, 1) := by decide +kernel
theorem dX9_readSign_20 : decode cX9_readSign 20 = .ok (.getfield 28, 3) := by decide +kernel
theorem dX9_readSign_23 : decode cX9_readSign 23 = .ok (.iconst 1, 1) := by decide +kernel
theorem dX9_readSign_24 : decode cX9_readSign 24 = .ok (.iadd, 1) := by decide +kernel
theorem dX9_readSign_25 : decode cX9_readSign 25 = .ok (.putfield 28, 3) := by decide +kernel
theorem dX9_readSign_28 : decode cX9_readSign 28 = .ok (.iload_n 2, 1) := by decide +kernel
theorem dX9_readSign_29 : decode cX9_readSign 29 = .ok (.ireturn, 1) := by decide +kernel
theorem dX9_next_0 : decode cX9_next 0 = .ok (.aload_n 0, 1) := by decide +kernel
theorem dX9_next_1 : decode cX9_next 1 = .ok (.getfield 28, 3) := by decide +kernel
theorem dX9_next_4 : decode cX9_next 4 = .ok (.aload_n 0, 1) := by decide +kernel
theorem dX9_next_5 : decode cX9_next 5 = .ok (.getfield 22, 3) := by decide +kernel
theorem dX9_next_8 : decode cX9_next 8 = .ok (.if_icmp .ge 29, 3) := by decide +kernel
theorem dX9_next_11 : decode cX9_next 11 = .ok (.aload_n 0, 1) := by decide +kernel
theorem dX9_next_12 : decode cX9_next 12 = .ok (.aload_n 0, 1) := by decide +kernel
theorem dX9_next_13 : decode cX9_next 13 = .ok (.getfield 28, 3) := by decide +kernel
theorem dX9_next_16 : decode cX9_next 16 = .ok (.invokevirtual 56, 3) := by decide +kernel
theorem dX9_next_19 : decode cX9_next 19 = .ok (.bipush 32, 2) := by decide +kernel
theorem dX9_next_21 : decode cX9_next 21 = .ok (.if_icmp .ne 16, 3) := by decide +kernel
theorem dX9_next_24 : decode cX9_next 24 = .ok (.aload_n 0, 1) := by decide +kernel
theorem dX9_next_25 : decode cX9_next 25 = .ok (.dup, 1) := by decide +kernel
theorem dX9_next_26 : decode cX9_next 26 = .ok (.getfield 28, 3) := by decide +kernel
theorem dX9_next_29 : decode cX9_next 29 = .ok (.iconst 1, 1) := by decide +kernel
theorem dX9_next_30 : decode cX9_next 30 = .ok (.iadd, 1) := by decide +kernel
theorem dX9_next_31 : decode cX9_next 31 = .ok (.putfield 28, 3) := by decide +kernel
theorem dX9_next_34 : decode cX9_next 34 = .ok (.goto (-34), 3) := by decide +kernel
theorem dX9_next_37 : decode cX9_next 37 = .ok (.aload_n 0, 1) := by decide +kernel
theorem dX9_next_38 : decode cX9_next 38 = .ok (.getfield 28, 3) := by decide +kernel
theorem dX9_next_41 : decode cX9_next 41 = .ok (.aload_n 0, 1) := by decide +kernel
theorem dX9_next_42 : decode cX9_next 42 = .ok (.getfield 22, 3) := by decide +kernel
theorem dX9_next_45 : decode cX9_next 45 = .ok (.if_icmp .ge 14, 3) := by decide +kernel
theorem dX9_next_48 : decode cX9_next 48 = .ok (.aload_n 0, 1) := by decide +kernel
theorem dX9_next_49 : decode cX9_next 49 = .ok (.aload_n 0, 1) := by decide +kernel
theorem dX9_next_50 : decode cX9_next 50 = .ok (.getfield 28, 3) := by decide +kernel
theorem dX9_next_53 : decode cX9_next 53 = .ok (.invokevirtual 56, 3) := by decide +kernel
theorem dX9_next_56 : decode cX9_next 56 = .ok (.goto 4, 3) := by decide +kernel
theorem dX9_next_59 : decode cX9_next 59 = .ok (.iconst (-1), 1) := by decide +kernel
theorem dX9_next_60 : decode cX9_next 60 = .ok (.ireturn, 1) := by decide +kernel
theorem dX9_byteAt_0 : decode cX9_byteAt 0 = .ok (.iload_n 1, 1) := by decide +kernel
theorem dX9_byteAt_1 : decode cX9_byteAt 1 = .ok (.ifCond .lt 21, 3) := by decide +kernel
theorem dX9_byteAt_4 : decode cX9_byteAt 4 = .ok (.iload_n 1, 1) := by decide +kernel
theorem dX9_byteAt_5 : decode cX9_byteAt 5 = .ok (.aload_n 0, 1) := by decide +kernel
theorem dX9_byteAt_6 : decode cX9_byteAt 6 = .ok (.getfield 9, 3) := by decide +kernel
theorem dX9_byteAt_9 : decode cX9_byteAt 9 = .ok (.arraylength, 1) := by decide +kernel
theorem dX9_byteAt_10 : decode cX9_byteAt 10 = .ok (.if_icmp .ge 12, 3) := by decide +kernel
theorem dX9_byteAt_13 : decode cX9_byteAt 13 = .ok (.aload_n 0, 1) := by decide +kernel
theorem dX9_byteAt_14 : decode cX9_byteAt 14 = .ok (.getfield 9, 3) := by decide +kernel
theorem dX9_byteAt_17 : decode cX9_byteAt 17 = .ok (.iload_n 1, 1) := by decide +kernel
theorem dX9_byteAt_18 : decode cX9_byteAt 18 = .ok (.caload, 1) := by decide +kernel
theorem dX9_byteAt_19 : decode cX9_byteAt 19 = .ok (.goto 4, 3) := by decide +kernel
theorem dX9_byteAt_22 : decode cX9_byteAt 22 = .ok (.iconst (-1), 1) := by decide +kernel
theorem dX9_byteAt_23 : decode cX9_byteAt 23 = .ok (.ireturn, 1) := by decide +kernel
theorem dX9_isDigit_0 : decode cX9_isDigit 0 = .ok (.iload_n 0, 1) := by decide +kernel
theorem dX9_isDigit_1 : decode cX9_isDigit 1 = .ok (.bipush 48, 2) := by decide +kernel
theorem dX9_isDigit_3 : decode cX9_isDigit 3 = .ok (.if_icmp .lt 13, 3) := by decide +kernel
theorem dX9_isDigit_6 : decode cX9_isDigit 6 = .ok (.iload_n 0, 1) := by decide +kernel
theorem dX9_isDigit_7 : decode cX9_isDigit 7 = .ok (.bipush 57, 2) := by decide +kernel
theorem dX9_isDigit_9 : decode cX9_isDigit 9 = .ok (.if_icmp .gt 7, 3) := by decide +kernel
theorem dX9_isDigit_12 : decode cX9_isDigit 12 = .ok (.iconst 1, 1) := by decide +kernel
theorem dX9_isDigit_13 : decode cX9_isDigit 13 = .ok (.goto 4, 3) := by decide +kernel
theorem dX9_isDigit_16 : decode cX9_isDigit 16 = .ok (.iconst 0, 1) := by decide +kernel
theorem dX9_isDigit_17 : decode cX9_isDigit 17 = .ok (.ireturn, 1) := by decide +kernel
theorem dX10_init_0 : decode cX10_init 0 = .ok (.aload_n 0, 1) := by decide +kernel
theorem dX10_init_1 : decode cX10_init 1 = .ok (.invokespecial 1, 3) := by decide +kernel
theorem dX10_init_4 : decode cX10_init 4 = .ok (.aload_n 0, 1) := by decide +kernel
theorem dX10_init_5 : decode cX10_init 5 = .ok (.new 7, 3) := by decide +kernel
theorem dX10_init_8 : decode cX10_init 8 = .ok (.dup, 1) := by decide +kernel
theorem dX10_init_9 : decode cX10_init 9 = .ok (.invokespecial 9, 3) := by decide +kernel
theorem dX10_init_12 : decode cX10_init 12 = .ok (.putfield 10, 3) := by decide +kernel
theorem dX10_init_15 : decode cX10_init 15 = .ok (.aload_n 0, 1) := by decide +kernel
theorem dX10_init_16 : decode cX10_init 16 = .ok (.iconst 5, 1) := by decide +kernel
theorem dX10_init_17 : decode cX10_init 17 = .ok (.anewarray 7, 3) := by decide +kernel
theorem dX10_init_20 : decode cX10_init 20 = .ok (.putfield 16, 3) := by decide +kernel
theorem dX10_init_23 : decode cX10_init 23 = .ok (.aload_n 0, 1) := by decide +kernel
theorem dX10_init_24 : decode cX10_init 24 = .ok (.new 20, 3) := by decide +kernel
theorem dX10_init_27 : decode cX10_init 27 = .ok (.dup, 1) := by decide +kernel
theorem dX10_init_28 : decode cX10_init 28 = .ok (.invokespecial 22, 3) := by decide +kernel
theorem dX10_init_31 : decode cX10_init 31 = .ok (.putfield 23, 3) := by decide +kernel
theorem dX10_init_34 : decode cX10_init 34 = .ok (.aload_n 0, 1) := by decide +kernel
theorem dX10_init_35 : decode cX10_init 35 = .ok (.new 27, 3) := by decide +kernel
theorem dX10_init_38 : decode cX10_init 38 = .ok (.dup, 1) := by decide +kernel
theorem dX10_init_39 : decode cX10_init 39 = .ok (.invokespecial 29, 3) := by decide +kernel
theorem dX10_init_42 : decode cX10_init 42 = .ok (.putfield 30, 3) := by decide +kernel
theorem dX10_init_45 : decode cX10_init 45 = .ok (.aload_n 0, 1) := by decide +kernel
theorem dX10_init_46 : decode cX10_init 46 = .ok (.new 34, 3) := by decide +kernel
theorem dX10_init_49 : decode cX10_init 49 = .ok (.dup, 1) := by decide +kernel
theorem dX10_init_50 : decode cX10_init 50 = .ok (.invokespecial 36, 3) := by decide +kernel
theorem dX10_init_53 : decode cX10_init 53 = .ok (.putfield 37, 3) := by decide +kernel
theorem dX10_init_56 : decode cX10_init 56 = .ok (.aload_n 0, 1) := by decide +kernel
theorem dX10_init_57 : decode cX10_init 57 = .ok (.iconst 5, 1) := by decide +kernel
theorem dX10_init_58 : decode cX10_init 58 = .ok (.newarray .int, 2) := by decide +kernel
theorem dX10_init_60 : decode cX10_init 60 = .ok (.putfield 41, 3) := by decide +kernel
theorem dX10_init_63 : decode cX10_init 63 = .ok (.iconst 0, 1) := by decide +kernel
theorem dX10_init_64 : decode cX10_init 64 = .ok (.istore_n 1, 1) := by decide +kernel
theorem dX10_init_65 : decode cX10_init 65 = .ok (.iload_n 1, 1) := by decide +kernel
theorem dX10_init_66 : decode cX10_init 66 = .ok (.aload_n 0, 1) := by decide +kernel
theorem dX10_init_67 : decode cX10_init 67 = .ok (.getfield 16, 3) := by decide +kernel
theorem dX10_init_70 : decode cX10_init 70 = .ok (.arraylength, 1) := by decide +kernel
theorem dX10_init_71 : decode cX10_init 71 = .ok (.if_icmp .ge 22, 3) := by decide +kernel
theorem dX10_init_74 : decode cX10_init 74 = .ok (.aload_n 0, 1) := by decide +kernel
theorem dX10_init_75 : decode cX10_init 75 = .ok (.getfield 16, 3) := by decide +kernel
theorem dX10_init_78 : decode cX10_init 78 = .ok (.iload_n 1, 1) := by decide +kernel
theorem dX10_init_79 : decode cX10_init 79 = .ok (.new 7, 3) := by decide +kernel
theorem dX10_init_82 : decode cX10_init 82 = .ok (.dup, 1) := by decide +kernel
theorem dX10_init_83 : decode cX10_init 83 = .ok (.invokespecial 9, 3) := by decide +kernel
theorem dX10_init_86 : decode cX10_init 86 = .ok (.aastore, 1) := by decide +kernel
theorem dX10_init_87 : decode cX10_init 87 = .ok (.iinc 1 1, 3) := by decide +kernel
theorem dX10_init_90 : decode cX10_init 90 = .ok (.goto (-25), 3) := by decide +kernel
theorem dX10_init_93 : decode cX10_init 93 = .ok (.return_, 1) := by decide +kernel
theorem dX10_addGroup_0 : decode cX10_addGroup 0 = .ok (.iload_n 2, 1) := by decide +kernel
theorem dX10_addGroup_1 : decode cX10_addGroup 1 = .ok (.invokestatic 45, 3) := by decide +kernel
theorem dX10_addGroup_4 : decode cX10_addGroup 4 = .ok (.istore_n 3, 1) := by decide +kernel
theorem dX10_addGroup_5 : decode cX10_addGroup 5 = .ok (.iload_n 1, 1) := by decide +kernel
theorem dX10_addGroup_6 : decode cX10_addGroup 6 = .ok (.invokestatic 51, 3) := by decide +kernel
theorem dX10_addGroup_9 : decode cX10_addGroup 9 = .ok (.ifCond .eq 7, 3) := by decide +kernel
theorem dX10_addGroup_12 : decode cX10_addGroup 12 = .ok (.iload_n 3, 1) := by decide +kernel
theorem dX10_addGroup_13 : decode cX10_addGroup 13 = .ok (.ifCond .ne 6, 3) := by decide +kernel
theorem dX10_addGroup_16 : decode cX10_addGroup 16 = .ok (.ldc 55, 2) := by decide +kernel
theorem dX10_addGroup_18 : decode cX10_addGroup 18 = .ok (.ireturn, 1) := by decide +kernel
theorem dX10_addGroup_19 : decode cX10_addGroup 19 = .ok (.aload_n 0, 1) := by decide +kernel
theorem dX10_addGroup_20 : decode cX10_addGroup 20 = .ok (.getfield 10, 3) := by decide +kernel
theorem dX10_addGroup_23 : decode cX10_addGroup 23 = .ok (.invokevirtual 56, 3) := by decide +kernel
theorem dX10_addGroup_26 : decode cX10_addGroup 26 = .ok (.ifCond .ne 6, 3) := by decide +kernel
theorem dX10_addGroup_29 : decode cX10_addGroup 29 = .ok (.ldc 60, 2) := by decide +kernel
theorem dX10_addGroup_31 : decode cX10_addGroup 31 = .ok (.ireturn, 1) := by decide +kernel
theorem dX10_addGroup_32 : decode cX10_addGroup 32 = .ok (.aload_n 0, 1) := by decide +kernel
theorem dX10_addGroup_33 : decode cX10_addGroup 33 = .ok (.invokevirtual 61, 3) := by decide +kernel
theorem dX10_addGroup_36 : decode cX10_addGroup 36 = .ok (.aload_n 0, 1) := by decide +kernel
theorem dX10_addGroup_37 : decode cX10_addGroup 37 = .ok (.getfield 10, 3) := by decide +kernel
theorem dX10_addGroup_40 : decode cX10_addGroup 40 = .ok (.iload_n 1, 1) := by decide +kernel
theorem dX10_addGroup_41 : decode cX10_addGroup 41 = .ok (.iload_n 3, 1) := by decide +kernel
theorem dX10_addGroup_42 : decode cX10_addGroup 42 = .ok (.invokevirtual 64, 3) := by decide +kernel
theorem dX10_addGroup_45 : decode cX10_addGroup 45 = .ok (.aload_n 0, 1) := by decide +kernel
theorem dX10_addGroup_46 : decode cX10_addGroup 46 = .ok (.getfield 10, 3) := by decide +kernel
theorem dX10_addGroup_49 : decode cX10_addGroup 49 = .ok (.getfield 68, 3) := by decide +kernel
theorem dX10_addGroup_52 : decode cX10_addGroup 52 = .ok (.iconst 1, 1) := by decide +kernel
theorem dX10_addGroup_53 : decode cX10_addGroup 53 = .ok (.isub, 1) := by decide +kernel
theorem dX10_addGroup_54 : decode cX10_addGroup 54 = .ok (.ireturn, 1) := by decide +kernel
theorem dX10_removeGroup_0 : decode cX10_removeGroup 0 = .ok (.aload_n 0, 1) := by decide +kernel
theorem dX10_removeGroup_1 : decode cX10_removeGroup 1 = .ok (.getfield 10, 3) := by decide +kernel
theorem dX10_removeGroup_4 : decode cX10_removeGroup 4 = .ok (.iload_n 1, 1) := by decide +kernel
theorem dX10_removeGroup_5 : decode cX10_removeGroup 5 = .ok (.invokevirtual 72, 3) := by decide +kernel
theorem dX10_removeGroup_8 : decode cX10_removeGroup 8 = .ok (.ifCond .ne 6, 3) := by decide +kernel
theorem dX10_removeGroup_11 : decode cX10_removeGroup 11 = .ok (.ldc 75, 2) := by decide +kernel
theorem dX10_removeGroup_13 : decode cX10_removeGroup 13 = .ok (.ireturn, 1) := by decide +kernel
theorem dX10_removeGroup_14 : decode cX10_removeGroup 14 = .ok (.aload_n 0, 1) := by decide +kernel
theorem dX10_removeGroup_15 : decode cX10_removeGroup 15 = .ok (.invokevirtual 61, 3) := by decide +kernel
theorem dX10_removeGroup_18 : decode cX10_removeGroup 18 = .ok (.aload_n 0, 1) := by decide +kernel
theorem dX10_removeGroup_19 : decode cX10_removeGroup 19 = .ok (.getfield 10, 3) := by decide +kernel
theorem dX10_removeGroup_22 : decode cX10_removeGroup 22 = .ok (.iload_n 1, 1) := by decide +kernel
theorem dX10_removeGroup_23 : decode cX10_removeGroup 23 = .ok (.invokevirtual 76, 3) := by decide +kernel
theorem dX10_removeGroup_26 : decode cX10_removeGroup 26 = .ok (.aload_n 0, 1) := by decide +kernel
theorem dX10_removeGroup_27 : decode cX10_removeGroup 27 = .ok (.getfield 10, 3) := by decide +kernel
theorem dX10_removeGroup_30 : decode cX10_removeGroup 30 = .ok (.getfield 68, 3) := by decide +kernel
theorem dX10_removeGroup_33 : decode cX10_removeGroup 33 = .ok (.ireturn, 1) := by decide +kernel
theorem dX10_exchange_0 : decode cX10_exchange 0 = .ok (.aload_n 0, 1) := by decide +kernel
theorem dX10_exchange_1 : decode cX10_exchange 1 = .ok (.getfield 10, 3) := by decide +kernel
theorem dX10_exchange_4 : decode cX10_exchange 4 = .ok (.iload_n 1, 1) := by decide +kernel
theorem dX10_exchange_5 : decode cX10_exchange 5 = .ok (.invokevirtual 72, 3) := by decide +kernel
theorem dX10_exchange_8 : decode cX10_exchange 8 = .ok (.ifCond .ne 6, 3) := by decide +kernel
theorem dX10_exchange_11 : decode cX10_exchange 11 = .ok (.ldc 75, 2) := by decide +kernel
theorem dX10_exchange_13 : decode cX10_exchange 13 = .ok (.ireturn, 1) := by decide +kernel
theorem dX10_exchange_14 : decode cX10_exchange 14 = .ok (.aload_n 0, 1) := by decide +kernel
theorem dX10_exchange_15 : decode cX10_exchange 15 = .ok (.getfield 10, 3) := by decide +kernel
theorem dX10_exchange_18 : decode cX10_exchange 18 = .ok (.iload_n 1, 1) := by decide +kernel
theorem dX10_exchange_19 : decode cX10_exchange 19 = .ok (.invokevirtual 83, 3) := by decide +kernel
theorem dX10_exchange_22 : decode cX10_exchange 22 = .ok (.istore_n 3, 1) := by decide +kernel
theorem dX10_exchange_23 : decode cX10_exchange 23 = .ok (.iload_n 2, 1) := by decide +kernel
theorem dX10_exchange_24 : decode cX10_exchange 24 = .ok (.ifCond .lt 13, 3) := by decide +kernel
theorem dX10_exchange_27 : decode cX10_exchange 27 = .ok (.iload_n 2, 1) := by decide +kernel
theorem dX10_exchange_28 : decode cX10_exchange 28 = .ok (.iload_n 3, 1) := by decide +kernel
theorem dX10_exchange_29 : decode cX10_exchange 29 = .ok (.invokestatic 90, 3) := by decide +kernel
theorem dX10_exchange_32 : decode cX10_exchange 32 = .ok (.iconst 1, 1) := by decide +kernel
theorem dX10_exchange_33 : decode cX10_exchange 33 = .ok (.isub, 1) := by decide +kernel
theorem dX10_exchange_34 : decode cX10_exchange 34 = .ok (.if_icmp .lt 6, 3) := by decide +kernel
theorem dX10_exchange_37 : decode cX10_exchange 37 = .ok (.ldc 75, 2) := by decide +kernel
theorem dX10_exchange_39 : decode cX10_exchange 39 = .ok (.ireturn, 1) := by decide +kernel
theorem dX10_exchange_40 : decode cX10_exchange 40 = .ok (.aload_n 0, 1) := by decide +kernel
theorem dX10_exchange_41 : decode cX10_exchange 41 = .ok (.invokevirtual 61, 3) := by decide +kernel
theorem dX10_exchange_44 : decode cX10_exchange 44 = .ok (.iload_n 3, 1) := by decide +kernel
theorem dX10_exchange_45 : decode cX10_exchange 45 = .ok (.iload_n 2, 1) := by decide +kernel
theorem dX10_exchange_46 : decode cX10_exchange 46 = .ok (.invokestatic 93, 3) := by decide +kernel
theorem dX10_exchange_49 : decode cX10_exchange 49 = .ok (.istore 4, 2) := by decide +kernel
theorem dX10_exchange_51 : decode cX10_exchange 51 = .ok (.aload_n 0, 1) := by decide +kernel
theorem dX10_exchange_52 : decode cX10_exchange 52 = .ok (.getfield 10, 3) := by decide +kernel
theorem dX10_exchange_55 : decode cX10_exchange 55 = .ok (.iload_n 1, 1) := by decide +kernel
theorem dX10_exchange_56 : decode cX10_exchange 56 = .ok (.aload_n 0, 1) := by decide +kernel
theorem dX10_exchange_57 : decode cX10_exchange 57 = .ok (.getfield 10, 3) := by decide +kernel
theorem dX10_exchange_60 : decode cX10_exchange 60 = .ok (.iload_n 1, 1) := by decide +kernel
theorem dX10_exchange_61 : decode cX10_exchange 61 = .ok (.invokevirtual 80, 3) := by decide +kernel
theorem dX10_exchange_64 : decode cX10_exchange 64 = .ok (.iload 4, 2) := by decide +kernel
theorem dX10_exchange_66 : decode cX10_exchange 66 = .ok (.invokevirtual 86, 3) := by decide +kernel
theorem dX10_exchange_69 : decode cX10_exchange 69 = .ok (.iload 4, 2) := by decide +kernel
theorem dX10_exchange_71 : decode cX10_exchange 71 = .ok (.invokestatic 97, 3) := by decide +kernel
theorem dX10_exchange_74 : decode cX10_exchange 74 = .ok (.ireturn, 1) := by decide +kernel
theorem dX10_setStanding_0 : decode cX10_setStanding 0 = .ok (.iload_n 1, 1) := by decide +kernel
theorem dX10_setStanding_1 : decode cX10_setStanding 1 = .ok (.invokestatic 100, 3) := by decide +kernel
theorem dX10_setStanding_4 : decode cX10_setStanding 4 = .ok (.ifCond .ne 6, 3) := by decide +kernel
theorem dX10_setStanding_7 : decode cX10_setStanding 7 = .ok (.ldc 75, 2) := by decide +kernel
theorem dX10_setStanding_9 : decode cX10_setStanding 9 = .ok (.ireturn, 1) := by decide +kernel
theorem dX10_setStanding_10 : decode cX10_setStanding 10 = .ok (.aload_n 0, 1) := by decide +kernel
theorem dX10_setStanding_11 : decode cX10_setStanding 11 = .ok (.invokevirtual 61, 3) := by decide +kernel
theorem dX10_setStanding_14 : decode cX10_setStanding 14 = .ok (.aload_n 0, 1) := by decide +kernel
theorem dX10_setStanding_15 : decode cX10_setStanding 15 = .ok (.getfield 10, 3) := by decide +kernel
theorem dX10_setStanding_18 : decode cX10_setStanding 18 = .ok (.getfield 105, 3) := by decide +kernel
theorem dX10_setStanding_21 : decode cX10_setStanding 21 = .ok (.iload_n 1, 1) := by decide +kernel
theorem dX10_setStanding_22 : decode cX10_setStanding 22 = .ok (.invokestatic 108, 3) := by decide +kernel
theorem dX10_setStanding_25 : decode cX10_setStanding 25 = .ok (.istore_n 3, 1) := by decide +kernel
theorem dX10_setStanding_26 : decode cX10_setStanding 26 = .ok (.aload_n 0, 1) := by decide +kernel
theorem dX10_setStanding_27 : decode cX10_setStanding 27 = .ok (.getfield 10, 3) := by decide +kernel
theorem dX10_setStanding_30 : decode cX10_setStanding 30 = .ok (.getfield 105, 3) := by decide +kernel
theorem dX10_setStanding_33 : decode cX10_setStanding 33 = .ok (.iload_n 1, 1) := by decide +kernel
theorem dX10_setStanding_34 : decode cX10_setStanding 34 = .ok (.invokestatic 112, 3) := by decide +kernel
theorem dX10_setStanding_37 : decode cX10_setStanding 37 = .ok (.istore 4, 2) := by decide +kernel
theorem dX10_setStanding_39 : decode cX10_setStanding 39 = .ok (.aload_n 0, 1) := by decide +kernel
theorem dX10_setStanding_40 : decode cX10_setStanding 40 = .ok (.getfield 10, 3) := by decide +kernel
theorem dX10_setStanding_43 : decode cX10_setStanding 43 = .ok (.iload_n 2, 1) := by decide +kernel
theorem dX10_setStanding_44 : decode cX10_setStanding 44 = .ok (.ifCond .eq 12, 3) := by decide +kernel
theorem dX10_setStanding_47 : decode cX10_setStanding 47 = .ok (.iload 4, 2) := by decide +kernel
theorem dX10_setStanding_49 : decode cX10_setStanding 49 = .ok (.iconst 1, 1) := by decide +kernel
theorem dX10_setStanding_50 : decode cX10_setStanding 50 = .ok (.iload_n 1, 1) := by decide +kernel
theorem dX10_setStanding_51 : decode cX10_setStanding 51 = .ok (.ishl, 1) := by decide +kernel
theorem dX10_setStanding_52 : decode cX10_setStanding 52 = .ok (.ior, 1) := by decide +kernel
theorem dX10_setStanding_53 : decode cX10_setStanding 53 = .ok (.goto 5, 3) := by decide +kernel
theorem dX10_setStanding_56 : decode cX10_setStanding 56 = .ok (.iload 4, 2) := by decide +kernel
theorem dX10_setStanding_58 : decode cX10_setStanding 58 = .ok (.putfield 105, 3) := by decide +kernel
theorem dX10_setStanding_61 : decode cX10_setStanding 61 = .ok (.iload_n 3, 1) := by decide +kernel
theorem dX10_setStanding_62 : decode cX10_setStanding 62 = .ok (.ifCond .eq 7, 3) := by decide +kernel
theorem dX10_setStanding_65 : decode cX10_setStanding 65 = .ok (.iconst 1, 1) := by decide +kernel
theorem dX10_setStanding_66 : decode cX10_setStanding 66 = .ok (.goto 4, 3) := by decide +kernel
theorem dX10_setStanding_69 : decode cX10_setStanding 69 = .ok (.iconst 0, 1) := by decide +kernel
theorem dX10_setStanding_70 : decode cX10_setStanding 70 = .ok (.ireturn, 1) := by decide +kernel
theorem dX10_standing_0 : decode cX10_standing 0 = .ok (.aload_n 0, 1) := by decide +kernel
theorem dX10_standing_1 : decode cX10_standing 1 = .ok (.getfield 10, 3) := by decide +kernel
theorem dX10_standing_4 : decode cX10_standing 4 = .ok (.getfield 105, 3) := by decide +kernel
theorem dX10_standing_7 : decode cX10_standing 7 = .ok (.ireturn, 1) := by decide +kernel
theorem dX10_groupCount_0 : decode cX10_groupCount 0 = .ok (.aload_n 0, 1) := by decide +kernel
theorem dX10_groupCount_1 : decode cX10_groupCount 1 = .ok (.getfield 10, 3) := by decide +kernel
theorem dX10_groupCount_4 : decode cX10_groupCount 4 = .ok (.getfield 68, 3) := by decide +kernel
theorem dX10_groupCount_7 : decode cX10_groupCount 7 = .ok (.ireturn, 1) := by decide +kernel
theorem dX10_voters_0 : decode cX10_voters 0 = .ok (.aload_n 0, 1) := by decide +kernel
theorem dX10_voters_1 : decode cX10_voters 1 = .ok (.getfield 10, 3) := by decide +kernel
theorem dX10_voters_4 : decode cX10_voters 4 = .ok (.iload_n 1, 1) := by decide +kernel
theorem dX10_voters_5 : decode cX10_voters 5 = .ok (.invokevirtual 72, 3) := by decide +kernel
theorem dX10_voters_8 : decode cX10_voters 8 = .ok (.ifCond .eq 14, 3) := by decide +kernel
theorem dX10_voters_11 : decode cX10_voters 11 = .ok (.aload_n 0, 1) := by decide +kernel
theorem dX10_voters_12 : decode cX10_voters 12 = .ok (.getfield 10, 3) := by decide +kernel
theorem dX10_voters_15 : decode cX10_voters 15 = .ok (.iload_n 1, 1) := by decide +kernel
theorem dX10_voters_16 : decode cX10_voters 16 = .ok (.invokevirtual 80, 3) := by decide +kernel
theorem dX10_voters_19 : decode cX10_voters 19 = .ok (.goto 5, 3) := by decide +kernel
theorem dX10_voters_22 : decode cX10_voters 22 = .ok (.ldc 75, 2) := by decide +kernel
theorem dX10_voters_24 : decode cX10_voters 24 = .ok (.ireturn, 1) := by decide +kernel
theorem dX10_ballot_0 : decode cX10_ballot 0 = .ok (.aload_n 0, 1) := by decide +kernel
theorem dX10_ballot_1 : decode cX10_ballot 1 = .ok (.getfield 10, 3) := by decide +kernel
theorem dX10_ballot_4 : decode cX10_ballot 4 = .ok (.iload_n 1, 1) := by decide +kernel
theorem dX10_ballot_5 : decode cX10_ballot 5 = .ok (.invokevirtual 72, 3) := by decide +kernel
theorem dX10_ballot_8 : decode cX10_ballot 8 = .ok (.ifCond .eq 17, 3) := by decide +kernel
theorem dX10_ballot_11 : decode cX10_ballot 11 = .ok (.aload_n 0, 1) := by decide +kernel
theorem dX10_ballot_12 : decode cX10_ballot 12 = .ok (.getfield 10, 3) := by decide +kernel
theorem dX10_ballot_15 : decode cX10_ballot 15 = .ok (.iload_n 1, 1) := by decide +kernel
theorem dX10_ballot_16 : decode cX10_ballot 16 = .ok (.invokevirtual 83, 3) := by decide +kernel
theorem dX10_ballot_19 : decode cX10_ballot 19 = .ok (.invokestatic 97, 3) := by decide +kernel
theorem dX10_ballot_22 : decode cX10_ballot 22 = .ok (.goto 5, 3) := by decide +kernel
theorem dX10_ballot_25 : decode cX10_ballot 25 = .ok (.ldc 75, 2) := by decide +kernel
theorem dX10_ballot_27 : decode cX10_ballot 27 = .ok (.ireturn, 1) := by decide +kernel
theorem dX10_allVoters_0 : decode cX10_allVoters 0 = .ok (.aload_n 0, 1) := by decide +kernel
theorem dX10_allVoters_1 : decode cX10_allVoters 1 = .ok (.getfield 10, 3) := by decide +kernel
theorem dX10_allVoters_4 : decode cX10_allVoters 4 = .ok (.invokevirtual 115, 3) := by decide +kernel
theorem dX10_allVoters_7 : decode cX10_allVoters 7 = .ok (.ireturn, 1) := by decide +kernel
theorem dX10_pair_0 : decode cX10_pair 0 = .ok (.iload_n 1, 1) := by decide +kernel
theorem dX10_pair_1 : decode cX10_pair 1 = .ok (.invokestatic 100, 3) := by decide +kernel
theorem dX10_pair_4 : decode cX10_pair 4 = .ok (.ifCond .eq 10, 3) := by decide +kernel
theorem dX10_pair_7 : decode cX10_pair 7 = .ok (.iload_n 2, 1) := by decide +kernel
theorem dX10_pair_8 : decode cX10_pair 8 = .ok (.invokestatic 100, 3) := by decide +kernel
theorem dX10_pair_11 : decode cX10_pair 11 = .ok (.ifCond .ne 6, 3) := by decide +kernel
theorem dX10_pair_14 : decode cX10_pair 14 = .ok (.ldc 75, 2) := by decide +kernel
theorem dX10_pair_16 : decode cX10_pair 16 = .ok (.ireturn, 1) := by decide +kernel
theorem dX10_pair_17 : decode cX10_pair 17 = .ok (.aload_n 0, 1) := by decide +kernel
theorem dX10_pair_18 : decode cX10_pair 18 = .ok (.iload_n 1, 1) := by decide +kernel
theorem dX10_pair_19 : decode cX10_pair 19 = .ok (.iload_n 2, 1) := by decide +kernel
theorem dX10_pair_20 : decode cX10_pair 20 = .ok (.invokevirtual 118, 3) := by decide +kernel
theorem dX10_pair_23 : decode cX10_pair 23 = .ok (.ifCond .ne 6, 3) := by decide +kernel
theorem dX10_pair_26 : decode cX10_pair 26 = .ok (.ldc 121, 2) := by decide +kernel
theorem dX10_pair_28 : decode cX10_pair 28 = .ok (.ireturn, 1) := by decide +kernel
theorem dX10_pair_29 : decode cX10_pair 29 = .ok (.aload_n 0, 1) := by decide +kernel
theorem dX10_pair_30 : decode cX10_pair 30 = .ok (.invokevirtual 122, 3) := by decide +kernel
theorem dX10_pair_33 : decode cX10_pair 33 = .ok (.aload_n 0, 1) := by decide +kernel
theorem dX10_pair_34 : decode cX10_pair 34 = .ok (.getfield 30, 3) := by decide +kernel
theorem dX10_pair_37 : decode cX10_pair 37 = .ok (.iload_n 1, 1) := by decide +kernel
theorem dX10_pair_38 : decode cX10_pair 38 = .ok (.iload_n 2, 1) := by decide +kernel
theorem dX10_pair_39 : decode cX10_pair 39 = .ok (.invokevirtual 125, 3) := by decide +kernel
theorem dX10_pair_42 : decode cX10_pair 42 = .ok (.ireturn, 1) := by decide +kernel
theorem dX10_winners_0 : decode cX10_winners 0 = .ok (.iload_n 1, 1) := by decide +kernel
theorem dX10_winners_1 : decode cX10_winners 1 = .ok (.invokestatic 128, 3) := by decide +kernel
theorem dX10_winners_4 : decode cX10_winners 4 = .ok (.ifCond .ne 6, 3) := by decide +kernel
theorem dX10_winners_7 : decode cX10_winners 7 = .ok (.ldc 75, 2) := by decide +kernel
theorem dX10_winners_9 : decode cX10_winners 9 = .ok (.ireturn, 1) := by decide +kernel
theorem dX10_winners_10 : decode cX10_winners 10 = .ok (.aload_n 0, 1) := by decide +kernel
theorem dX10_winners_11 : decode cX10_winners 11 = .ok (.invokevirtual 122, 3) := by decide +kernel
theorem dX10_winners_14 : decode cX10_winners 14 = .ok (.aload_n 0, 1) := by decide +kernel
theorem dX10_winners_15 : decode cX10_winners 15 = .ok (.getfield 37, 3) := by decide +kernel
theorem dX10_winners_18 : decode cX10_winners 18 = .ok (.iload_n 1, 1) := by decide +kernel
theorem dX10_winners_19 : decode cX10_winners 19 = .ok (.aload_n 0, 1) := by decide +kernel
theorem dX10_winners_20 : decode cX10_winners 20 = .ok (.getfield 30, 3) := by decide +kernel
theorem dX10_winners_23 : decode cX10_winners 23 = .ok (.invokevirtual 131, 3) := by decide +kernel
theorem dX10_winners_26 : decode cX10_winners 26 = .ok (.ireturn, 1) := by decide +kernel
theorem dX10_winner_0 : decode cX10_winner 0 = .ok (.iload_n 1, 1) := by decide +kernel
theorem dX10_winner_1 : decode cX10_winner 1 = .ok (.invokestatic 128, 3) := by decide +kernel
theorem dX10_winner_4 : decode cX10_winner 4 = .ok (.ifCond .ne 6, 3) := by decide +kernel
theorem dX10_winner_7 : decode cX10_winner 7 = .ok (.ldc 75, 2) := by decide +kernel
theorem dX10_winner_9 : decode cX10_winner 9 = .ok (.ireturn, 1) := by decide +kernel
theorem dX10_winner_10 : decode cX10_winner 10 = .ok (.aload_n 0, 1) := by decide +kernel
theorem dX10_winner_11 : decode cX10_winner 11 = .ok (.invokevirtual 122, 3) := by decide +kernel
theorem dX10_winner_14 : decode cX10_winner 14 = .ok (.aload_n 0, 1) := by decide +kernel
theorem dX10_winner_15 : decode cX10_winner 15 = .ok (.getfield 37, 3) := by decide +kernel
theorem dX10_winner_18 : decode cX10_winner 18 = .ok (.iload_n 1, 1) := by decide +kernel
theorem dX10_winner_19 : decode cX10_winner 19 = .ok (.aload_n 0, 1) := by decide +kernel
theorem dX10_winner_20 : decode cX10_winner 20 = .ok (.getfield 30, 3) := by decide +kernel
theorem dX10_winner_23 : decode cX10_winner 23 = .ok (.invokevirtual 135, 3) := by decide +kernel
theorem dX10_winner_26 : decode cX10_winner 26 = .ok (.ireturn, 1) := by decide +kernel
theorem dX10_points_0 : decode cX10_points 0 = .ok (.iload_n 1, 1) := by decide +kernel
theorem dX10_points_1 : decode cX10_points 1 = .ok (.invokestatic 128, 3) := by decide +kernel
theorem dX10_points_4 : decode cX10_points 4 = .ok (.ifCond .eq 10, 3) := by decide +kernel
theorem dX10_points_7 : decode cX10_points 7 = .ok (.iload_n 2, 1) := by decide +kernel
theorem dX10_points_8 : decode cX10_points 8 = .ok (.invokestatic 100, 3) := by decide +kernel
theorem dX10_points_11 : decode cX10_points 11 = .ok (.ifCond .ne 6, 3) := by decide +kernel
theorem dX10_points_14 : decode cX10_points 14 = .ok (.ldc 75, 2) := by decide +kernel
theorem dX10_points_16 : decode cX10_points 16 = .ok (.ireturn, 1) := by decide +kernel
theorem dX10_points_17 : decode cX10_points 17 = .ok (.iload_n 1, 1) := by decide +kernel
theorem dX10_points_18 : decode cX10_points 18 = .ok (.invokestatic 138, 3) := by decide +kernel
theorem dX10_points_21 : decode cX10_points 21 = .ok (.ifCond .eq 17, 3) := by decide +kernel
theorem dX10_points_24 : decode cX10_points 24 = .ok (.aload_n 0, 1) := by decide +kernel
theorem dX10_points_25 : decode cX10_points 25 = .ok (.getfield 10, 3) := by decide +kernel
theorem dX10_points_28 : decode cX10_points 28 = .ok (.getfield 105, 3) := by decide +kernel
theorem dX10_points_31 : decode cX10_points 31 = .ok (.iload_n 2, 1) := by decide +kernel
theorem dX10_points_32 : decode cX10_points 32 = .ok (.invokestatic 108, 3) := by decide +kernel
theorem dX10_points_35 : decode cX10_points 35 = .ok (.ifCond .ne 6, 3) := by decide +kernel
theorem dX10_points_38 : decode cX10_points 38 = .ok (.ldc 121, 2) := by decide +kernel
theorem dX10_points_40 : decode cX10_points 40 = .ok (.ireturn, 1) := by decide +kernel
theorem dX10_points_41 : decode cX10_points 41 = .ok (.aload_n 0, 1) := by decide +kernel
theorem dX10_points_42 : decode cX10_points 42 = .ok (.invokevirtual 122, 3) := by decide +kernel
theorem dX10_points_45 : decode cX10_points 45 = .ok (.aload_n 0, 1) := by decide +kernel
theorem dX10_points_46 : decode cX10_points 46 = .ok (.getfield 37, 3) := by decide +kernel
theorem dX10_points_49 : decode cX10_points 49 = .ok (.getfield 141, 3) := by decide +kernel
theorem dX10_points_52 : decode cX10_points 52 = .ok (.iload_n 1, 1) := by decide +kernel
theorem dX10_points_53 : decode cX10_points 53 = .ok (.aload_n 0, 1) := by decide +kernel
theorem dX10_points_54 : decode cX10_points 54 = .ok (.getfield 30, 3) := by decide +kernel
theorem dX10_points_57 : decode cX10_points 57 = .ok (.invokevirtual 145, 3) := by decide +kernel
theorem dX10_points_60 : decode cX10_points 60 = .ok (.aload_n 0, 1) := by decide +kernel
theorem dX10_points_61 : decode cX10_points 61 = .ok (.getfield 37, 3) := by decide +kernel
theorem dX10_points_64 : decode cX10_points 64 = .ok (.getfield 141, 3) := by decide +kernel
theorem dX10_points_67 : decode cX10_points 67 = .ok (.iload_n 2, 1) := by decide +kernel
theorem dX10_points_68 : decode cX10_points 68 = .ok (.invokevirtual 151, 3) := by decide +kernel
theorem dX10_points_71 : decode cX10_points 71 = .ok (.ireturn, 1) := by decide +kernel
theorem dX10_beatsAll_0 : decode cX10_beatsAll 0 = .ok (.aload_n 0, 1) := by decide +kernel
theorem dX10_beatsAll_1 : decode cX10_beatsAll 1 = .ok (.invokevirtual 122, 3) := by decide +kernel
theorem dX10_beatsAll_4 : decode cX10_beatsAll 4 = .ok (.aload_n 0, 1) := by decide +kernel
theorem dX10_beatsAll_5 : decode cX10_beatsAll 5 = .ok (.getfield 37, 3) := by decide +kernel
theorem dX10_beatsAll_8 : decode cX10_beatsAll 8 = .ok (.getfield 154, 3) := by decide +kernel
theorem dX10_beatsAll_11 : decode cX10_beatsAll 11 = .ok (.aload_n 0, 1) := by decide +kernel
theorem dX10_beatsAll_12 : decode cX10_beatsAll 12 = .ok (.getfield 30, 3) := by decide +kernel
theorem dX10_beatsAll_15 : decode cX10_beatsAll 15 = .ok (.invokevirtual 158, 3) := by decide +kernel
theorem dX10_beatsAll_18 : decode cX10_beatsAll 18 = .ok (.invokestatic 164, 3) := by decide +kernel
theorem dX10_beatsAll_21 : decode cX10_beatsAll 21 = .ok (.ireturn, 1) := by decide +kernel
theorem dX10_losesToAll_0 : decode cX10_losesToAll 0 = .ok (.aload_n 0, 1) := by decide +kernel
theorem dX10_losesToAll_1 : decode cX10_losesToAll 1 = .ok (.invokevirtual 122, 3) := by decide +kernel
theorem dX10_losesToAll_4 : decode cX10_losesToAll 4 = .ok (.aload_n 0, 1) := by decide +kernel
theorem dX10_losesToAll_5 : decode cX10_losesToAll 5 = .ok (.getfield 37, 3) := by decide +kernel
theorem dX10_losesToAll_8 : decode cX10_losesToAll 8 = .ok (.getfield 154, 3) := by decide +kernel
theorem dX10_losesToAll_11 : decode cX10_losesToAll 11 = .ok (.aload_n 0, 1) := by decide +kernel
theorem dX10_losesToAll_12 : decode cX10_losesToAll 12 = .ok (.getfield 30, 3) := by decide +kernel
theorem dX10_losesToAll_15 : decode cX10_losesToAll 15 = .ok (.invokevirtual 167, 3) := by decide +kernel
theorem dX10_losesToAll_18 : decode cX10_losesToAll 18 = .ok (.invokestatic 164, 3) := by decide +kernel
theorem dX10_losesToAll_21 : decode cX10_losesToAll 21 = .ok (.ireturn, 1) := by decide +kernel
theorem dX10_smith_0 : decode cX10_smith 0 = .ok (.aload_n 0, 1) := by decide +kernel
theorem dX10_smith_1 : decode cX10_smith 1 = .ok (.invokevirtual 122, 3) := by decide +kernel
theorem dX10_smith_4 : decode cX10_smith 4 = .ok (.aload_n 0, 1) := by decide +kernel
theorem dX10_smith_5 : decode cX10_smith 5 = .ok (.getfield 37, 3) := by decide +kernel
theorem dX10_smith_8 : decode cX10_smith 8 = .ok (.getfield 154, 3) := by decide +kernel
theorem dX10_smith_11 : decode cX10_smith 11 = .ok (.aload_n 0, 1) := by decide +kernel
theorem dX10_smith_12 : decode cX10_smith 12 = .ok (.getfield 30, 3) := by decide +kernel
theorem dX10_smith_15 : decode cX10_smith 15 = .ok (.invokevirtual 170, 3) := by decide +kernel
theorem dX10_smith_18 : decode cX10_smith 18 = .ok (.ireturn, 1) := by decide +kernel
theorem dX10_strength_0 : decode cX10_strength 0 = .ok (.iload_n 1, 1) := by decide +kernel
theorem dX10_strength_1 : decode cX10_strength 1 = .ok (.invokestatic 100, 3) := by decide +kernel
theorem dX10_strength_4 : decode cX10_strength 4 = .ok (.ifCond .eq 10, 3) := by decide +kernel
theorem dX10_strength_7 : decode cX10_strength 7 = .ok (.iload_n 2, 1) := by decide +kernel
theorem dX10_strength_8 : decode cX10_strength 8 = .ok (.invokestatic 100, 3) := by decide +kernel
theorem dX10_strength_11 : decode cX10_strength 11 = .ok (.ifCond .ne 6, 3) := by decide +kernel
theorem dX10_strength_14 : decode cX10_strength 14 = .ok (.ldc 75, 2) := by decide +kernel
theorem dX10_strength_16 : decode cX10_strength 16 = .ok (.ireturn, 1) := by decide +kernel
theorem dX10_strength_17 : decode cX10_strength 17 = .ok (.aload_n 0, 1) := by decide +kernel
theorem dX10_strength_18 : decode cX10_strength 18 = .ok (.iload_n 1, 1) := by decide +kernel
theorem dX10_strength_19 : decode cX10_strength 19 = .ok (.iload_n 2, 1) := by decide +kernel
theorem dX10_strength_20 : decode cX10_strength 20 = .ok (.invokevirtual 118, 3) := by decide +kernel
theorem dX10_strength_23 : decode cX10_strength 23 = .ok (.ifCond .eq 8, 3) := by decide +kernel
theorem dX10_strength_26 : decode cX10_strength 26 = .ok (.iload_n 1, 1) := by decide +kernel
theorem dX10_strength_27 : decode cX10_strength 27 = .ok (.iload_n 2, 1) := by decide +kernel
theorem dX10_strength_28 : decode cX10_strength 28 = .ok (.if_icmp .ne 6, 3) := by decide +kernel
theorem dX10_strength_31 : decode cX10_strength 31 = .ok (.ldc 121, 2) := by decide +kernel
theorem dX10_strength_33 : decode cX10_strength 33 = .ok (.ireturn, 1) := by decide +kernel
theorem dX10_strength_34 : decode cX10_strength 34 = .ok (.aload_n 0, 1) := by decide +kernel
theorem dX10_strength_35 : decode cX10_strength 35 = .ok (.invokevirtual 122, 3) := by decide +kernel
theorem dX10_strength_38 : decode cX10_strength 38 = .ok (.aload_n 0, 1) := by decide +kernel
theorem dX10_strength_39 : decode cX10_strength 39 = .ok (.getfield 37, 3) := by decide +kernel
theorem dX10_strength_42 : decode cX10_strength 42 = .ok (.getfield 154, 3) := by decide +kernel
theorem dX10_strength_45 : decode cX10_strength 45 = .ok (.aload_n 0, 1) := by decide +kernel
theorem dX10_strength_46 : decode cX10_strength 46 = .ok (.getfield 30, 3) := by decide +kernel
theorem dX10_strength_49 : decode cX10_strength 49 = .ok (.invokevirtual 173, 3) := by decide +kernel
theorem dX10_strength_52 : decode cX10_strength 52 = .ok (.aload_n 0, 1) := by decide +kernel
theorem dX10_strength_53 : decode cX10_strength 53 = .ok (.getfield 37, 3) := by decide +kernel
theorem dX10_strength_56 : decode cX10_strength 56 = .ok (.getfield 154, 3) := by decide +kernel
theorem dX10_strength_59 : decode cX10_strength 59 = .ok (.iload_n 1, 1) := by decide +kernel
theorem dX10_strength_60 : decode cX10_strength 60 = .ok (.iload_n 2, 1) := by decide +kernel
theorem dX10_strength_61 : decode cX10_strength 61 = .ok (.invokevirtual 177, 3) := by decide +kernel
theorem dX10_strength_64 : decode cX10_strength 64 = .ok (.ireturn, 1) := by decide +kernel
theorem dX10_isLocked_0 : decode cX10_isLocked 0 = .ok (.iload_n 1, 1) := by decide +kernel
theorem dX10_isLocked_1 : decode cX10_isLocked 1 = .ok (.invokestatic 100, 3) := by decide +kernel
theorem dX10_isLocked_4 : decode cX10_isLocked 4 = .ok (.ifCond .eq 10, 3) := by decide +kernel
theorem dX10_isLocked_7 : decode cX10_isLocked 7 = .ok (.iload_n 2, 1) := by decide +kernel
theorem dX10_isLocked_8 : decode cX10_isLocked 8 = .ok (.invokestatic 100, 3) := by decide +kernel
theorem dX10_isLocked_11 : decode cX10_isLocked 11 = .ok (.ifCond .ne 6, 3) := by decide +kernel
theorem dX10_isLocked_14 : decode cX10_isLocked 14 = .ok (.ldc 75, 2) := by decide +kernel
theorem dX10_isLocked_16 : decode cX10_isLocked 16 = .ok (.ireturn, 1) := by decide +kernel
theorem dX10_isLocked_17 : decode cX10_isLocked 17 = .ok (.aload_n 0, 1) := by decide +kernel
theorem dX10_isLocked_18 : decode cX10_isLocked 18 = .ok (.iload_n 1, 1) := by decide +kernel
theorem dX10_isLocked_19 : decode cX10_isLocked 19 = .ok (.iload_n 2, 1) := by decide +kernel
theorem dX10_isLocked_20 : decode cX10_isLocked 20 = .ok (.invokevirtual 118, 3) := by decide +kernel
theorem dX10_isLocked_23 : decode cX10_isLocked 23 = .ok (.ifCond .ne 6, 3) := by decide +kernel
theorem dX10_isLocked_26 : decode cX10_isLocked 26 = .ok (.ldc 121, 2) := by decide +kernel
theorem dX10_isLocked_28 : decode cX10_isLocked 28 = .ok (.ireturn, 1) := by decide +kernel
theorem dX10_isLocked_29 : decode cX10_isLocked 29 = .ok (.aload_n 0, 1) := by decide +kernel
theorem dX10_isLocked_30 : decode cX10_isLocked 30 = .ok (.invokevirtual 122, 3) := by decide +kernel
theorem dX10_isLocked_33 : decode cX10_isLocked 33 = .ok (.aload_n 0, 1) := by decide +kernel
theorem dX10_isLocked_34 : decode cX10_isLocked 34 = .ok (.getfield 37, 3) := by decide +kernel
theorem dX10_isLocked_37 : decode cX10_isLocked 37 = .ok (.getfield 154, 3) := by decide +kernel
theorem dX10_isLocked_40 : decode cX10_isLocked 40 = .ok (.aload_n 0, 1) := by decide +kernel
theorem dX10_isLocked_41 : decode cX10_isLocked 41 = .ok (.getfield 30, 3) := by decide +kernel
theorem dX10_isLocked_44 : decode cX10_isLocked 44 = .ok (.invokevirtual 180, 3) := by decide +kernel
theorem dX10_isLocked_47 : decode cX10_isLocked 47 = .ok (.aload_n 0, 1) := by decide +kernel
theorem dX10_isLocked_48 : decode cX10_isLocked 48 = .ok (.getfield 37, 3) := by decide +kernel
theorem dX10_isLocked_51 : decode cX10_isLocked 51 = .ok (.getfield 154, 3) := by decide +kernel
theorem dX10_isLocked_54 : decode cX10_isLocked 54 = .ok (.iload_n 1, 1) := by decide +kernel
theorem dX10_isLocked_55 : decode cX10_isLocked 55 = .ok (.iload_n 2, 1) := by decide +kernel
theorem dX10_isLocked_56 : decode cX10_isLocked 56 = .ok (.invokevirtual 183, 3) := by decide +kernel
theorem dX10_isLocked_59 : decode cX10_isLocked 59 = .ok (.ifCond .eq 7, 3) := by decide +kernel
theorem dX10_isLocked_62 : decode cX10_isLocked 62 = .ok (.iconst 1, 1) := by decide +kernel
theorem dX10_isLocked_63 : decode cX10_isLocked 63 = .ok (.goto 4, 3) := by decide +kernel
theorem dX10_isLocked_66 : decode cX10_isLocked 66 = .ok (.iconst 0, 1) := by decide +kernel
theorem dX10_isLocked_67 : decode cX10_isLocked 67 = .ok (.ireturn, 1) := by decide +kernel
theorem dX10_rounds_0 : decode cX10_rounds 0 = .ok (.iload_n 1, 1) := by decide +kernel
theorem dX10_rounds_1 : decode cX10_rounds 1 = .ok (.invokestatic 128, 3) := by decide +kernel
theorem dX10_rounds_4 : decode cX10_rounds 4 = .ok (.ifCond .ne 6, 3) := by decide +kernel
theorem dX10_rounds_7 : decode cX10_rounds 7 = .ok (.ldc 75, 2) := by decide +kernel
theorem dX10_rounds_9 : decode cX10_rounds 9 = .ok (.ireturn, 1) := by decide +kernel
theorem dX10_rounds_10 : decode cX10_rounds 10 = .ok (.iload_n 1, 1) := by decide +kernel
theorem dX10_rounds_11 : decode cX10_rounds 11 = .ok (.invokestatic 186, 3) := by decide +kernel
theorem dX10_rounds_14 : decode cX10_rounds 14 = .ok (.ifCond .ne 6, 3) := by decide +kernel
theorem dX10_rounds_17 : decode cX10_rounds 17 = .ok (.ldc 121, 2) := by decide +kernel
theorem dX10_rounds_19 : decode cX10_rounds 19 = .ok (.ireturn, 1) := by decide +kernel
theorem dX10_rounds_20 : decode cX10_rounds 20 = .ok (.aload_n 0, 1) := by decide +kernel
theorem dX10_rounds_21 : decode cX10_rounds 21 = .ok (.invokevirtual 122, 3) := by decide +kernel
theorem dX10_rounds_24 : decode cX10_rounds 24 = .ok (.aload_n 0, 1) := by decide +kernel
theorem dX10_rounds_25 : decode cX10_rounds 25 = .ok (.getfield 37, 3) := by decide +kernel
theorem dX10_rounds_28 : decode cX10_rounds 28 = .ok (.getfield 189, 3) := by decide +kernel
theorem dX10_rounds_31 : decode cX10_rounds 31 = .ok (.iload_n 1, 1) := by decide +kernel
theorem dX10_rounds_32 : decode cX10_rounds 32 = .ok (.aload_n 0, 1) := by decide +kernel
theorem dX10_rounds_33 : decode cX10_rounds 33 = .ok (.getfield 30, 3) := by decide +kernel
theorem dX10_rounds_36 : decode cX10_rounds 36 = .ok (.invokevirtual 193, 3) := by decide +kernel
theorem dX10_rounds_39 : decode cX10_rounds 39 = .ok (.pop, 1) := by decide +kernel
theorem dX10_rounds_40 : decode cX10_rounds 40 = .ok (.aload_n 0, 1) := by decide +kernel
theorem dX10_rounds_41 : decode cX10_rounds 41 = .ok (.getfield 37, 3) := by decide +kernel
theorem dX10_rounds_44 : decode cX10_rounds 44 = .ok (.getfield 189, 3) := by decide +kernel
theorem dX10_rounds_47 : decode cX10_rounds 47 = .ok (.getfield 198, 3) := by decide +kernel
theorem dX10_rounds_50 : decode cX10_rounds 50 = .ok (.ireturn, 1) := by decide +kernel
theorem dX10_kemeny_0 : decode cX10_kemeny 0 = .ok (.aload_n 0, 1) := by decide +kernel
theorem dX10_kemeny_1 : decode cX10_kemeny 1 = .ok (.iload_n 1, 1) := by decide +kernel
theorem dX10_kemeny_2 : decode cX10_kemeny 2 = .ok (.invokevirtual 220, 3) := by decide +kernel
theorem dX10_kemeny_5 : decode cX10_kemeny 5 = .ok (.ifCond .ne 6, 3) := by decide +kernel
theorem dX10_kemeny_8 : decode cX10_kemeny 8 = .ok (.ldc 75, 2) := by decide +kernel
theorem dX10_kemeny_10 : decode cX10_kemeny 10 = .ok (.ireturn, 1) := by decide +kernel
theorem dX10_kemeny_11 : decode cX10_kemeny 11 = .ok (.aload_n 0, 1) := by decide +kernel
theorem dX10_kemeny_12 : decode cX10_kemeny 12 = .ok (.invokevirtual 122, 3) := by decide +kernel
theorem dX10_kemeny_15 : decode cX10_kemeny 15 = .ok (.aload_n 0, 1) := by decide +kernel
theorem dX10_kemeny_16 : decode cX10_kemeny 16 = .ok (.getfield 37, 3) := by decide +kernel
theorem dX10_kemeny_19 : decode cX10_kemeny 19 = .ok (.getfield 208, 3) := by decide +kernel
theorem dX10_kemeny_22 : decode cX10_kemeny 22 = .ok (.aload_n 0, 1) := by decide +kernel
theorem dX10_kemeny_23 : decode cX10_kemeny 23 = .ok (.getfield 30, 3) := by decide +kernel
theorem dX10_kemeny_26 : decode cX10_kemeny 26 = .ok (.invokevirtual 212, 3) := by decide +kernel
theorem dX10_kemeny_29 : decode cX10_kemeny 29 = .ok (.aload_n 0, 1) := by decide +kernel
theorem dX10_kemeny_30 : decode cX10_kemeny 30 = .ok (.getfield 37, 3) := by decide +kernel
theorem dX10_kemeny_33 : decode cX10_kemeny 33 = .ok (.getfield 208, 3) := by decide +kernel
theorem dX10_kemeny_36 : decode cX10_kemeny 36 = .ok (.aload_n 0, 1) := by decide +kernel
theorem dX10_kemeny_37 : decode cX10_kemeny 37 = .ok (.getfield 30, 3) := by decide +kernel
theorem dX10_kemeny_40 : decode cX10_kemeny 40 = .ok (.iload_n 1, 1) := by decide +kernel
theorem dX10_kemeny_41 : decode cX10_kemeny 41 = .ok (.invokevirtual 223, 3) := by decide +kernel
theorem dX10_kemeny_44 : decode cX10_kemeny 44 = .ok (.ireturn, 1) := by decide +kernel
theorem dX10_favourite_0 : decode cX10_favourite 0 = .ok (.aload_n 0, 1) := by decide +kernel
theorem dX10_favourite_1 : decode cX10_favourite 1 = .ok (.invokevirtual 122, 3) := by decide +kernel
theorem dX10_favourite_4 : decode cX10_favourite 4 = .ok (.iconst 0, 1) := by decide +kernel
theorem dX10_favourite_5 : decode cX10_favourite 5 = .ok (.istore_n 1, 1) := by decide +kernel
theorem dX10_favourite_6 : decode cX10_favourite 6 = .ok (.iload_n 1, 1) := by decide +kernel
theorem dX10_favourite_7 : decode cX10_favourite 7 = .ok (.aload_n 0, 1) := by decide +kernel
theorem dX10_favourite_8 : decode cX10_favourite 8 = .ok (.getfield 41, 3) := by decide +kernel
theorem dX10_favourite_11 : decode cX10_favourite 11 = .ok (.arraylength, 1) := by decide +kernel
theorem dX10_favourite_12 : decode cX10_favourite 12 = .ok (.if_icmp .ge 16, 3) := by decide +kernel
theorem dX10_favourite_15 : decode cX10_favourite 15 = .ok (.aload_n 0, 1) := by decide +kernel
theorem dX10_favourite_16 : decode cX10_favourite 16 = .ok (.getfield 41, 3) := by decide +kernel
theorem dX10_favourite_19 : decode cX10_favourite 19 = .ok (.iload_n 1, 1) := by decide +kernel
theorem dX10_favourite_20 : decode cX10_favourite 20 = .ok (.iconst 0, 1) := by decide +kernel
theorem dX10_favourite_21 : decode cX10_favourite 21 = .ok (.iastore, 1) := by decide +kernel
theorem dX10_favourite_22 : decode cX10_favourite 22 = .ok (.iinc 1 1, 3) := by decide +kernel
theorem dX10_favourite_25 : decode cX10_favourite 25 = .ok (.goto (-19), 3) := by decide +kernel
theorem dX10_favourite_28 : decode cX10_favourite 28 = .ok (.iconst 0, 1) := by decide +kernel
theorem dX10_favourite_29 : decode cX10_favourite 29 = .ok (.istore_n 1, 1) := by decide +kernel
theorem dX10_favourite_30 : decode cX10_favourite 30 = .ok (.iload_n 1, 1) := by decide +kernel
theorem dX10_favourite_31 : decode cX10_favourite 31 = .ok (.bipush 12, 2) := by decide +kernel
theorem dX10_favourite_33 : decode cX10_favourite 33 = .ok (.if_icmp .ge 45, 3) := by decide +kernel
theorem dX10_favourite_36 : decode cX10_favourite 36 = .ok (.aload_n 0, 1) := by decide +kernel
theorem dX10_favourite_37 : decode cX10_favourite 37 = .ok (.getfield 37, 3) := by decide +kernel
theorem dX10_favourite_40 : decode cX10_favourite 40 = .ok (.iload_n 1, 1) := by decide +kernel
theorem dX10_favourite_41 : decode cX10_favourite 41 = .ok (.aload_n 0, 1) := by decide +kernel
theorem dX10_favourite_42 : decode cX10_favourite 42 = .ok (.getfield 30, 3) := by decide +kernel
theorem dX10_favourite_45 : decode cX10_favourite 45 = .ok (.invokevirtual 135, 3) := by decide +kernel
theorem dX10_favourite_48 : decode cX10_favourite 48 = .ok (.istore_n 2, 1) := by decide +kernel
theorem dX10_favourite_49 : decode cX10_favourite 49 = .ok (.iload_n 2, 1) := by decide +kernel
theorem dX10_favourite_50 : decode cX10_favourite 50 = .ok (.ifCond .lt 22, 3) := by decide +kernel
theorem dX10_favourite_53 : decode cX10_favourite 53 = .ok (.iload_n 2, 1) := by decide +kernel
theorem dX10_favourite_54 : decode cX10_favourite 54 = .ok (.aload_n 0, 1) := by decide +kernel
theorem dX10_favourite_55 : decode cX10_favourite 55 = .ok (.getfield 41, 3) := by decide +kernel
theorem dX10_favourite_58 : decode cX10_favourite 58 = .ok (.arraylength, 1) := by decide +kernel
theorem dX10_favourite_59 : decode cX10_favourite 59 = .ok (.if_icmp .ge 13, 3) := by decide +kernel
theorem dX10_favourite_62 : decode cX10_favourite 62 = .ok (.aload_n 0, 1) := by decide +kernel
theorem dX10_favourite_63 : decode cX10_favourite 63 = .ok (.getfield 41, 3) := by decide +kernel
theorem dX10_favourite_66 : decode cX10_favourite 66 = .ok (.iload_n 2, 1) := by decide +kernel
theorem dX10_favourite_67 : decode cX10_favourite 67 = .ok (.dup2, 1) := by decide +kernel
theorem dX10_favourite_68 : decode cX10_favourite 68 = .ok (.iaload, 1) := by decide +kernel
theorem dX10_favourite_69 : decode cX10_favourite 69 = .ok (.iconst 1, 1) := by decide +kernel
theorem dX10_favourite_70 : decode cX10_favourite 70 = .ok (.iadd, 1) := by decide +kernel
theorem dX10_favourite_71 : decode cX10_favourite 71 = .ok (.iastore, 1) := by decide +kernel
theorem dX10_favourite_72 : decode cX10_favourite 72 = .ok (.iinc 1 1, 3) := by decide +kernel
theorem dX10_favourite_75 : decode cX10_favourite 75 = .ok (.goto (-45), 3) := by decide +kernel
theorem dX10_favourite_78 : decode cX10_favourite 78 = .ok (.ldc 227, 2) := by decide +kernel
theorem dX10_favourite_80 : decode cX10_favourite 80 = .ok (.istore_n 1, 1) := by decide +kernel
theorem dX10_favourite_81 : decode cX10_favourite 81 = .ok (.iconst 0, 1) := by decide +kernel
theorem dX10_favourite_82 : decode cX10_favourite 82 = .ok (.istore_n 2, 1) := by decide +kernel
theorem dX10_favourite_83 : decode cX10_favourite 83 = .ok (.iconst 0, 1) := by decide +kernel
theorem dX10_favourite_84 : decode cX10_favourite 84 = .ok (.istore_n 3, 1) := by decide +kernel
theorem dX10_favourite_85 : decode cX10_favourite 85 = .ok (.iload_n 3, 1) := by decide +kernel
theorem dX10_favourite_86 : decode cX10_favourite 86 = .ok (.aload_n 0, 1) := by decide +kernel
theorem dX10_favourite_87 : decode cX10_favourite 87 = .ok (.getfield 41, 3) := by decide +kernel
theorem dX10_favourite_90 : decode cX10_favourite 90 = .ok (.arraylength, 1) := by decide +kernel
theorem dX10_favourite_91 : decode cX10_favourite 91 = .ok (.if_icmp .ge 28, 3) := by decide +kernel
theorem dX10_favourite_94 : decode cX10_favourite 94 = .ok (.aload_n 0, 1) := by decide +kernel
theorem dX10_favourite_95 : decode cX10_favourite 95 = .ok (.getfield 41, 3) := by decide +kernel
theorem dX10_favourite_98 : decode cX10_favourite 98 = .ok (.iload_n 3, 1) := by decide +kernel
theorem dX10_favourite_99 : decode cX10_favourite 99 = .ok (.iaload, 1) := by decide +kernel
theorem dX10_favourite_100 : decode cX10_favourite 100 = .ok (.iload_n 2, 1) := by decide +kernel
theorem dX10_favourite_101 : decode cX10_favourite 101 = .ok (.if_icmp .le 12, 3) := by decide +kernel
theorem dX10_favourite_104 : decode cX10_favourite 104 = .ok (.aload_n 0, 1) := by decide +kernel
theorem dX10_favourite_105 : decode cX10_favourite 105 = .ok (.getfield 41, 3) := by decide +kernel
theorem dX10_favourite_108 : decode cX10_favourite 108 = .ok (.iload_n 3, 1) := by decide +kernel
theorem dX10_favourite_109 : decode cX10_favourite 109 = .ok (.iaload, 1) := by decide +kernel
theorem dX10_favourite_110 : decode cX10_favourite 110 = .ok (.istore_n 2, 1) := by decide +kernel
theorem dX10_favourite_111 : decode cX10_favourite 111 = .ok (.iload_n 3, 1) := by decide +kernel
theorem dX10_favourite_112 : decode cX10_favourite 112 = .ok (.istore_n 1, 1) := by decide +kernel
theorem dX10_favourite_113 : decode cX10_favourite 113 = .ok (.iinc 3 1, 3) := by decide +kernel
theorem dX10_favourite_116 : decode cX10_favourite 116 = .ok (.goto (-31), 3) := by decide +kernel
theorem dX10_favourite_119 : decode cX10_favourite 119 = .ok (.iload_n 1, 1) := by decide +kernel
theorem dX10_favourite_120 : decode cX10_favourite 120 = .ok (.ireturn, 1) := by decide +kernel
theorem dX10_strategy_0 : decode cX10_strategy 0 = .ok (.iload_n 1, 1) := by decide +kernel
theorem dX10_strategy_1 : decode cX10_strategy 1 = .ok (.invokestatic 128, 3) := by decide +kernel
theorem dX10_strategy_4 : decode cX10_strategy 4 = .ok (.ifCond .eq 14, 3) := by decide +kernel
theorem dX10_strategy_7 : decode cX10_strategy 7 = .ok (.aload_n 0, 1) := by decide +kernel
theorem dX10_strategy_8 : decode cX10_strategy 8 = .ok (.getfield 10, 3) := by decide +kernel
theorem dX10_strategy_11 : decode cX10_strategy 11 = .ok (.iload_n 2, 1) := by decide +kernel
theorem dX10_strategy_12 : decode cX10_strategy 12 = .ok (.invokevirtual 72, 3) := by decide +kernel
theorem dX10_strategy_15 : decode cX10_strategy 15 = .ok (.ifCond .ne 6, 3) := by decide +kernel
theorem dX10_strategy_18 : decode cX10_strategy 18 = .ok (.ldc 75, 2) := by decide +kernel
theorem dX10_strategy_20 : decode cX10_strategy 20 = .ok (.ireturn, 1) := by decide +kernel
theorem dX10_strategy_21 : decode cX10_strategy 21 = .ok (.aload_n 0, 1) := by decide +kernel
theorem dX10_strategy_22 : decode cX10_strategy 22 = .ok (.iload_n 1, 1) := by decide +kernel
theorem dX10_strategy_23 : decode cX10_strategy 23 = .ok (.iload_n 2, 1) := by decide +kernel
theorem dX10_strategy_24 : decode cX10_strategy 24 = .ok (.invokevirtual 228, 3) := by decide +kernel
theorem dX10_strategy_27 : decode cX10_strategy 27 = .ok (.istore_n 3, 1) := by decide +kernel
theorem dX10_strategy_28 : decode cX10_strategy 28 = .ok (.iload_n 3, 1) := by decide +kernel
theorem dX10_strategy_29 : decode cX10_strategy 29 = .ok (.ifCond .ne 6, 3) := by decide +kernel
theorem dX10_strategy_32 : decode cX10_strategy 32 = .ok (.ldc 227, 2) := by decide +kernel
theorem dX10_strategy_34 : decode cX10_strategy 34 = .ok (.ireturn, 1) := by decide +kernel
theorem dX10_strategy_35 : decode cX10_strategy 35 = .ok (.aload_n 0, 1) := by decide +kernel
theorem dX10_strategy_36 : decode cX10_strategy 36 = .ok (.getfield 30, 3) := by decide +kernel
theorem dX10_strategy_39 : decode cX10_strategy 39 = .ok (.iload_n 2, 1) := by decide +kernel
