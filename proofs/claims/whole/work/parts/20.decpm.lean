theorem d_Pm_put_0 : decode b_Pm_put 0 = .ok (.iload_n 1, 1) := by decide +kernel
theorem d_Pm_put_1 : decode b_Pm_put 1 = .ok (.invokestatic 27, 3) := by decide +kernel
theorem d_Pm_put_4 : decode b_Pm_put 4 = .ok (.ifCond .ne 5, 3) := by decide +kernel
theorem d_Pm_put_7 : decode b_Pm_put 7 = .ok (.iconst (-1), 1) := by decide +kernel
theorem d_Pm_put_8 : decode b_Pm_put 8 = .ok (.ireturn, 1) := by decide +kernel
theorem d_Pm_put_9 : decode b_Pm_put 9 = .ok (.iload_n 2, 1) := by decide +kernel
theorem d_Pm_put_10 : decode b_Pm_put 10 = .ok (.invokestatic 31, 3) := by decide +kernel
theorem d_Pm_put_13 : decode b_Pm_put 13 = .ok (.ifCond .ne 6, 3) := by decide +kernel
theorem d_Pm_put_16 : decode b_Pm_put 16 = .ok (.bipush (-2), 2) := by decide +kernel
theorem d_Pm_put_18 : decode b_Pm_put 18 = .ok (.ireturn, 1) := by decide +kernel
theorem d_Pm_put_19 : decode b_Pm_put 19 = .ok (.aload_n 0, 1) := by decide +kernel
theorem d_Pm_put_20 : decode b_Pm_put 20 = .ok (.getfield 9, 3) := by decide +kernel
theorem d_Pm_put_23 : decode b_Pm_put 23 = .ok (.iload_n 1, 1) := by decide +kernel
theorem d_Pm_put_24 : decode b_Pm_put 24 = .ok (.iaload, 1) := by decide +kernel
theorem d_Pm_put_25 : decode b_Pm_put 25 = .ok (.istore_n 3, 1) := by decide +kernel
theorem d_Pm_put_26 : decode b_Pm_put 26 = .ok (.aload_n 0, 1) := by decide +kernel
theorem d_Pm_put_27 : decode b_Pm_put 27 = .ok (.getfield 9, 3) := by decide +kernel
theorem d_Pm_put_30 : decode b_Pm_put 30 = .ok (.iload_n 1, 1) := by decide +kernel
theorem d_Pm_put_31 : decode b_Pm_put 31 = .ok (.iload_n 2, 1) := by decide +kernel
theorem d_Pm_put_32 : decode b_Pm_put 32 = .ok (.iastore, 1) := by decide +kernel
theorem d_Pm_put_33 : decode b_Pm_put 33 = .ok (.aload_n 0, 1) := by decide +kernel
theorem d_Pm_put_34 : decode b_Pm_put 34 = .ok (.invokevirtual 34, 3) := by decide +kernel
theorem d_Pm_put_37 : decode b_Pm_put 37 = .ok (.iload_n 3, 1) := by decide +kernel
theorem d_Pm_put_38 : decode b_Pm_put 38 = .ok (.ireturn, 1) := by decide +kernel
theorem d_Pm_clear_0 : decode b_Pm_clear 0 = .ok (.iconst 0, 1) := by decide +kernel
theorem d_Pm_clear_1 : decode b_Pm_clear 1 = .ok (.istore_n 1, 1) := by decide +kernel
theorem d_Pm_clear_2 : decode b_Pm_clear 2 = .ok (.iconst 0, 1) := by decide +kernel
theorem d_Pm_clear_3 : decode b_Pm_clear 3 = .ok (.istore_n 2, 1) := by decide +kernel
theorem d_Pm_clear_4 : decode b_Pm_clear 4 = .ok (.iload_n 2, 1) := by decide +kernel
theorem d_Pm_clear_5 : decode b_Pm_clear 5 = .ok (.bipush 30, 2) := by decide +kernel
theorem d_Pm_clear_7 : decode b_Pm_clear 7 = .ok (.if_icmp .ge 28, 3) := by decide +kernel
theorem d_Pm_clear_10 : decode b_Pm_clear 10 = .ok (.aload_n 0, 1) := by decide +kernel
theorem d_Pm_clear_11 : decode b_Pm_clear 11 = .ok (.getfield 9, 3) := by decide +kernel
theorem d_Pm_clear_14 : decode b_Pm_clear 14 = .ok (.iload_n 2, 1) := by decide +kernel
theorem d_Pm_clear_15 : decode b_Pm_clear 15 = .ok (.iaload, 1) := by decide +kernel
theorem d_Pm_clear_16 : decode b_Pm_clear 16 = .ok (.ifCond .eq 6, 3) := by decide +kernel
theorem d_Pm_clear_19 : decode b_Pm_clear 19 = .ok (.iinc 1 1, 3) := by decide +kernel
theorem d_Pm_clear_22 : decode b_Pm_clear 22 = .ok (.aload_n 0, 1) := by decide +kernel
theorem d_Pm_clear_23 : decode b_Pm_clear 23 = .ok (.getfield 9, 3) := by decide +kernel
theorem d_Pm_clear_26 : decode b_Pm_clear 26 = .ok (.iload_n 2, 1) := by decide +kernel
theorem d_Pm_clear_27 : decode b_Pm_clear 27 = .ok (.iconst 0, 1) := by decide +kernel
theorem d_Pm_clear_28 : decode b_Pm_clear 28 = .ok (.iastore, 1) := by decide +kernel
theorem d_Pm_clear_29 : decode b_Pm_clear 29 = .ok (.iinc 2 1, 3) := by decide +kernel
theorem d_Pm_clear_32 : decode b_Pm_clear 32 = .ok (.goto (-28), 3) := by decide +kernel
theorem d_Pm_clear_35 : decode b_Pm_clear 35 = .ok (.aload_n 0, 1) := by decide +kernel
theorem d_Pm_clear_36 : decode b_Pm_clear 36 = .ok (.invokevirtual 34, 3) := by decide +kernel
theorem d_Pm_clear_39 : decode b_Pm_clear 39 = .ok (.iload_n 1, 1) := by decide +kernel
theorem d_Pm_clear_40 : decode b_Pm_clear 40 = .ok (.ireturn, 1) := by decide +kernel
theorem d_Pm_ask_0 : decode b_Pm_ask 0 = .ok (.iload_n 1, 1) := by decide +kernel
theorem d_Pm_ask_1 : decode b_Pm_ask 1 = .ok (.invokestatic 37, 3) := by decide +kernel
theorem d_Pm_ask_4 : decode b_Pm_ask 4 = .ok (.ifCond .ne 6, 3) := by decide +kernel
theorem d_Pm_ask_7 : decode b_Pm_ask 7 = .ok (.bipush (-2), 2) := by decide +kernel
theorem d_Pm_ask_9 : decode b_Pm_ask 9 = .ok (.ireturn, 1) := by decide +kernel
theorem d_Pm_ask_10 : decode b_Pm_ask 10 = .ok (.iload_n 1, 1) := by decide +kernel
theorem d_Pm_ask_11 : decode b_Pm_ask 11 = .ok (.invokestatic 40, 3) := by decide +kernel
theorem d_Pm_ask_14 : decode b_Pm_ask 14 = .ok (.ifCond .eq 15, 3) := by decide +kernel
theorem d_Pm_ask_17 : decode b_Pm_ask 17 = .ok (.iload_n 1, 1) := by decide +kernel
theorem d_Pm_ask_18 : decode b_Pm_ask 18 = .ok (.iload 4, 2) := by decide +kernel
theorem d_Pm_ask_20 : decode b_Pm_ask 20 = .ok (.invokestatic 43, 3) := by decide +kernel
theorem d_Pm_ask_23 : decode b_Pm_ask 23 = .ok (.ifCond .ne 6, 3) := by decide +kernel
theorem d_Pm_ask_26 : decode b_Pm_ask 26 = .ok (.bipush (-2), 2) := by decide +kernel
theorem d_Pm_ask_28 : decode b_Pm_ask 28 = .ok (.ireturn, 1) := by decide +kernel
theorem d_Pm_ask_29 : decode b_Pm_ask 29 = .ok (.iload_n 1, 1) := by decide +kernel
theorem d_Pm_ask_30 : decode b_Pm_ask 30 = .ok (.invokestatic 47, 3) := by decide +kernel
theorem d_Pm_ask_33 : decode b_Pm_ask 33 = .ok (.ifCond .eq 16, 3) := by decide +kernel
theorem d_Pm_ask_36 : decode b_Pm_ask 36 = .ok (.aload_n 0, 1) := by decide +kernel
theorem d_Pm_ask_37 : decode b_Pm_ask 37 = .ok (.getfield 16, 3) := by decide +kernel
theorem d_Pm_ask_40 : decode b_Pm_ask 40 = .ok (.iload_n 2, 1) := by decide +kernel
theorem d_Pm_ask_41 : decode b_Pm_ask 41 = .ok (.invokevirtual 50, 3) := by decide +kernel
theorem d_Pm_ask_44 : decode b_Pm_ask 44 = .ok (.ifCond .ne 5, 3) := by decide +kernel
theorem d_Pm_ask_47 : decode b_Pm_ask 47 = .ok (.iconst (-1), 1) := by decide +kernel
theorem d_Pm_ask_48 : decode b_Pm_ask 48 = .ok (.ireturn, 1) := by decide +kernel
theorem d_Pm_ask_49 : decode b_Pm_ask 49 = .ok (.iload_n 1, 1) := by decide +kernel
theorem d_Pm_ask_50 : decode b_Pm_ask 50 = .ok (.invokestatic 53, 3) := by decide +kernel
theorem d_Pm_ask_53 : decode b_Pm_ask 53 = .ok (.ifCond .eq 16, 3) := by decide +kernel
theorem d_Pm_ask_56 : decode b_Pm_ask 56 = .ok (.aload_n 0, 1) := by decide +kernel
theorem d_Pm_ask_57 : decode b_Pm_ask 57 = .ok (.getfield 16, 3) := by decide +kernel
theorem d_Pm_ask_60 : decode b_Pm_ask 60 = .ok (.iload_n 3, 1) := by decide +kernel
theorem d_Pm_ask_61 : decode b_Pm_ask 61 = .ok (.invokevirtual 50, 3) := by decide +kernel
theorem d_Pm_ask_64 : decode b_Pm_ask 64 = .ok (.ifCond .ne 5, 3) := by decide +kernel
theorem d_Pm_ask_67 : decode b_Pm_ask 67 = .ok (.iconst (-1), 1) := by decide +kernel
theorem d_Pm_ask_68 : decode b_Pm_ask 68 = .ok (.ireturn, 1) := by decide +kernel
theorem d_Pm_ask_69 : decode b_Pm_ask 69 = .ok (.aload_n 0, 1) := by decide +kernel
theorem d_Pm_ask_70 : decode b_Pm_ask 70 = .ok (.getfield 16, 3) := by decide +kernel
theorem d_Pm_ask_73 : decode b_Pm_ask 73 = .ok (.iload_n 1, 1) := by decide +kernel
theorem d_Pm_ask_74 : decode b_Pm_ask 74 = .ok (.iload_n 1, 1) := by decide +kernel
theorem d_Pm_ask_75 : decode b_Pm_ask 75 = .ok (.invokestatic 47, 3) := by decide +kernel
theorem d_Pm_ask_78 : decode b_Pm_ask 78 = .ok (.ifCond .eq 7, 3) := by decide +kernel
theorem d_Pm_ask_81 : decode b_Pm_ask 81 = .ok (.iload_n 2, 1) := by decide +kernel
theorem d_Pm_ask_82 : decode b_Pm_ask 82 = .ok (.goto 4, 3) := by decide +kernel
theorem d_Pm_ask_85 : decode b_Pm_ask 85 = .ok (.iconst 0, 1) := by decide +kernel
theorem d_Pm_ask_86 : decode b_Pm_ask 86 = .ok (.iload_n 1, 1) := by decide +kernel
theorem d_Pm_ask_87 : decode b_Pm_ask 87 = .ok (.invokestatic 53, 3) := by decide +kernel
theorem d_Pm_ask_90 : decode b_Pm_ask 90 = .ok (.ifCond .eq 7, 3) := by decide +kernel
theorem d_Pm_ask_93 : decode b_Pm_ask 93 = .ok (.iload_n 3, 1) := by decide +kernel
theorem d_Pm_ask_94 : decode b_Pm_ask 94 = .ok (.goto 4, 3) := by decide +kernel
theorem d_Pm_ask_97 : decode b_Pm_ask 97 = .ok (.iconst 0, 1) := by decide +kernel
theorem d_Pm_ask_98 : decode b_Pm_ask 98 = .ok (.iload_n 1, 1) := by decide +kernel
theorem d_Pm_ask_99 : decode b_Pm_ask 99 = .ok (.invokestatic 40, 3) := by decide +kernel
theorem d_Pm_ask_102 : decode b_Pm_ask 102 = .ok (.ifCond .eq 8, 3) := by decide +kernel
theorem d_Pm_ask_105 : decode b_Pm_ask 105 = .ok (.iload 4, 2) := by decide +kernel
theorem d_Pm_ask_107 : decode b_Pm_ask 107 = .ok (.goto 4, 3) := by decide +kernel
theorem d_Pm_ask_110 : decode b_Pm_ask 110 = .ok (.iconst 0, 1) := by decide +kernel
theorem d_Pm_ask_111 : decode b_Pm_ask 111 = .ok (.invokevirtual 56, 3) := by decide +kernel
theorem d_Pm_ask_114 : decode b_Pm_ask 114 = .ok (.ireturn, 1) := by decide +kernel
theorem d_Pm_forget_0 : decode b_Pm_forget 0 = .ok (.aload_n 0, 1) := by decide +kernel
theorem d_Pm_forget_1 : decode b_Pm_forget 1 = .ok (.getfield 16, 3) := by decide +kernel
theorem d_Pm_forget_4 : decode b_Pm_forget 4 = .ok (.invokevirtual 60, 3) := by decide +kernel
theorem d_Pm_forget_7 : decode b_Pm_forget 7 = .ok (.ireturn, 1) := by decide +kernel
theorem d_Pm_count_0 : decode b_Pm_count 0 = .ok (.aload_n 0, 1) := by decide +kernel
theorem d_Pm_count_1 : decode b_Pm_count 1 = .ok (.getfield 16, 3) := by decide +kernel
theorem d_Pm_count_4 : decode b_Pm_count 4 = .ok (.iload_n 1, 1) := by decide +kernel
theorem d_Pm_count_5 : decode b_Pm_count 5 = .ok (.invokevirtual 50, 3) := by decide +kernel
theorem d_Pm_count_8 : decode b_Pm_count 8 = .ok (.ifCond .ne 5, 3) := by decide +kernel
theorem d_Pm_count_11 : decode b_Pm_count 11 = .ok (.iconst (-1), 1) := by decide +kernel
theorem d_Pm_count_12 : decode b_Pm_count 12 = .ok (.ireturn, 1) := by decide +kernel
theorem d_Pm_count_13 : decode b_Pm_count 13 = .ok (.aload_n 0, 1) := by decide +kernel
theorem d_Pm_count_14 : decode b_Pm_count 14 = .ok (.getfield 16, 3) := by decide +kernel
theorem d_Pm_count_17 : decode b_Pm_count 17 = .ok (.iload_n 1, 1) := by decide +kernel
theorem d_Pm_count_18 : decode b_Pm_count 18 = .ok (.aload_n 0, 1) := by decide +kernel
theorem d_Pm_count_19 : decode b_Pm_count 19 = .ok (.getfield 9, 3) := by decide +kernel
theorem d_Pm_count_22 : decode b_Pm_count 22 = .ok (.invokevirtual 64, 3) := by decide +kernel
theorem d_Pm_count_25 : decode b_Pm_count 25 = .ok (.invokevirtual 68, 3) := by decide +kernel
theorem d_Pm_count_28 : decode b_Pm_count 28 = .ok (.ireturn, 1) := by decide +kernel
theorem d_Pm_begin_0 : decode b_Pm_begin 0 = .ok (.aload_n 0, 1) := by decide +kernel
theorem d_Pm_begin_1 : decode b_Pm_begin 1 = .ok (.getfield 16, 3) := by decide +kernel
theorem d_Pm_begin_4 : decode b_Pm_begin 4 = .ok (.iload_n 1, 1) := by decide +kernel
theorem d_Pm_begin_5 : decode b_Pm_begin 5 = .ok (.invokevirtual 50, 3) := by decide +kernel
theorem d_Pm_begin_8 : decode b_Pm_begin 8 = .ok (.ifCond .ne 5, 3) := by decide +kernel
theorem d_Pm_begin_11 : decode b_Pm_begin 11 = .ok (.iconst (-1), 1) := by decide +kernel
theorem d_Pm_begin_12 : decode b_Pm_begin 12 = .ok (.ireturn, 1) := by decide +kernel
theorem d_Pm_begin_13 : decode b_Pm_begin 13 = .ok (.aload_n 0, 1) := by decide +kernel
theorem d_Pm_begin_14 : decode b_Pm_begin 14 = .ok (.getfield 16, 3) := by decide +kernel
theorem d_Pm_begin_17 : decode b_Pm_begin 17 = .ok (.iload_n 1, 1) := by decide +kernel
theorem d_Pm_begin_18 : decode b_Pm_begin 18 = .ok (.aload_n 0, 1) := by decide +kernel
theorem d_Pm_begin_19 : decode b_Pm_begin 19 = .ok (.getfield 9, 3) := by decide +kernel
theorem d_Pm_begin_22 : decode b_Pm_begin 22 = .ok (.invokevirtual 64, 3) := by decide +kernel
theorem d_Pm_begin_25 : decode b_Pm_begin 25 = .ok (.iload_n 2, 1) := by decide +kernel
theorem d_Pm_begin_26 : decode b_Pm_begin 26 = .ok (.invokevirtual 73, 3) := by decide +kernel
theorem d_Pm_begin_29 : decode b_Pm_begin 29 = .ok (.ireturn, 1) := by decide +kernel
theorem d_Pm_end_0 : decode b_Pm_end 0 = .ok (.aload_n 0, 1) := by decide +kernel
theorem d_Pm_end_1 : decode b_Pm_end 1 = .ok (.getfield 16, 3) := by decide +kernel
theorem d_Pm_end_4 : decode b_Pm_end 4 = .ok (.iload_n 1, 1) := by decide +kernel
theorem d_Pm_end_5 : decode b_Pm_end 5 = .ok (.invokevirtual 50, 3) := by decide +kernel
theorem d_Pm_end_8 : decode b_Pm_end 8 = .ok (.ifCond .ne 5, 3) := by decide +kernel
theorem d_Pm_end_11 : decode b_Pm_end 11 = .ok (.iconst (-1), 1) := by decide +kernel
theorem d_Pm_end_12 : decode b_Pm_end 12 = .ok (.ireturn, 1) := by decide +kernel
theorem d_Pm_end_13 : decode b_Pm_end 13 = .ok (.aload_n 0, 1) := by decide +kernel
theorem d_Pm_end_14 : decode b_Pm_end 14 = .ok (.getfield 16, 3) := by decide +kernel
theorem d_Pm_end_17 : decode b_Pm_end 17 = .ok (.iload_n 1, 1) := by decide +kernel
theorem d_Pm_end_18 : decode b_Pm_end 18 = .ok (.aload_n 0, 1) := by decide +kernel
theorem d_Pm_end_19 : decode b_Pm_end 19 = .ok (.getfield 9, 3) := by decide +kernel
theorem d_Pm_end_22 : decode b_Pm_end 22 = .ok (.invokevirtual 64, 3) := by decide +kernel
theorem d_Pm_end_25 : decode b_Pm_end 25 = .ok (.iload_n 2, 1) := by decide +kernel
theorem d_Pm_end_26 : decode b_Pm_end 26 = .ok (.invokevirtual 77, 3) := by decide +kernel
theorem d_Pm_end_29 : decode b_Pm_end 29 = .ok (.ireturn, 1) := by decide +kernel
theorem d_Pm_covered_0 : decode b_Pm_covered 0 = .ok (.aload_n 0, 1) := by decide +kernel
theorem d_Pm_covered_1 : decode b_Pm_covered 1 = .ok (.getfield 16, 3) := by decide +kernel
theorem d_Pm_covered_4 : decode b_Pm_covered 4 = .ok (.iload_n 1, 1) := by decide +kernel
theorem d_Pm_covered_5 : decode b_Pm_covered 5 = .ok (.invokevirtual 50, 3) := by decide +kernel
theorem d_Pm_covered_8 : decode b_Pm_covered 8 = .ok (.ifCond .ne 5, 3) := by decide +kernel
theorem d_Pm_covered_11 : decode b_Pm_covered 11 = .ok (.iconst (-1), 1) := by decide +kernel
theorem d_Pm_covered_12 : decode b_Pm_covered 12 = .ok (.ireturn, 1) := by decide +kernel
theorem d_Pm_covered_13 : decode b_Pm_covered 13 = .ok (.aload_n 0, 1) := by decide +kernel
theorem d_Pm_covered_14 : decode b_Pm_covered 14 = .ok (.getfield 16, 3) := by decide +kernel
theorem d_Pm_covered_17 : decode b_Pm_covered 17 = .ok (.iload_n 1, 1) := by decide +kernel
theorem d_Pm_covered_18 : decode b_Pm_covered 18 = .ok (.aload_n 0, 1) := by decide +kernel
theorem d_Pm_covered_19 : decode b_Pm_covered 19 = .ok (.getfield 9, 3) := by decide +kernel
theorem d_Pm_covered_22 : decode b_Pm_covered 22 = .ok (.invokevirtual 64, 3) := by decide +kernel
theorem d_Pm_covered_25 : decode b_Pm_covered 25 = .ok (.invokevirtual 80, 3) := by decide +kernel
theorem d_Pm_covered_28 : decode b_Pm_covered 28 = .ok (.ireturn, 1) := by decide +kernel
theorem d_Pm_slot_0 : decode b_Pm_slot 0 = .ok (.iload_n 1, 1) := by decide +kernel
theorem d_Pm_slot_1 : decode b_Pm_slot 1 = .ok (.ifCond .lt 16, 3) := by decide +kernel
theorem d_Pm_slot_4 : decode b_Pm_slot 4 = .ok (.iload_n 1, 1) := by decide +kernel
theorem d_Pm_slot_5 : decode b_Pm_slot 5 = .ok (.bipush 9, 2) := by decide +kernel
theorem d_Pm_slot_7 : decode b_Pm_slot 7 = .ok (.if_icmp .gt 10, 3) := by decide +kernel
theorem d_Pm_slot_10 : decode b_Pm_slot 10 = .ok (.iload_n 2, 1) := by decide +kernel
theorem d_Pm_slot_11 : decode b_Pm_slot 11 = .ok (.invokestatic 31, 3) := by decide +kernel
theorem d_Pm_slot_14 : decode b_Pm_slot 14 = .ok (.ifCond .ne 6, 3) := by decide +kernel
theorem d_Pm_slot_17 : decode b_Pm_slot 17 = .ok (.bipush (-2), 2) := by decide +kernel
theorem d_Pm_slot_19 : decode b_Pm_slot 19 = .ok (.ireturn, 1) := by decide +kernel
theorem d_Pm_slot_20 : decode b_Pm_slot 20 = .ok (.aload_n 0, 1) := by decide +kernel
theorem d_Pm_slot_21 : decode b_Pm_slot 21 = .ok (.getfield 23, 3) := by decide +kernel
theorem d_Pm_slot_24 : decode b_Pm_slot 24 = .ok (.iload_n 1, 1) := by decide +kernel
theorem d_Pm_slot_25 : decode b_Pm_slot 25 = .ok (.iload_n 2, 1) := by decide +kernel
theorem d_Pm_slot_26 : decode b_Pm_slot 26 = .ok (.invokevirtual 83, 3) := by decide +kernel
theorem d_Pm_slot_29 : decode b_Pm_slot 29 = .ok (.ireturn, 1) := by decide +kernel
theorem d_Pm_unslot_0 : decode b_Pm_unslot 0 = .ok (.aload_n 0, 1) := by decide +kernel
theorem d_Pm_unslot_1 : decode b_Pm_unslot 1 = .ok (.getfield 23, 3) := by decide +kernel
theorem d_Pm_unslot_4 : decode b_Pm_unslot 4 = .ok (.invokevirtual 86, 3) := by decide +kernel
theorem d_Pm_unslot_7 : decode b_Pm_unslot 7 = .ok (.ireturn, 1) := by decide +kernel
theorem d_Pm_matches_0 : decode b_Pm_matches 0 = .ok (.iload_n 1, 1) := by decide +kernel
theorem d_Pm_matches_1 : decode b_Pm_matches 1 = .ok (.invokestatic 87, 3) := by decide +kernel
theorem d_Pm_matches_4 : decode b_Pm_matches 4 = .ok (.ifCond .ne 6, 3) := by decide +kernel
theorem d_Pm_matches_7 : decode b_Pm_matches 7 = .ok (.bipush (-2), 2) := by decide +kernel
theorem d_Pm_matches_9 : decode b_Pm_matches 9 = .ok (.ireturn, 1) := by decide +kernel
theorem d_Pm_matches_10 : decode b_Pm_matches 10 = .ok (.aload_n 0, 1) := by decide +kernel
theorem d_Pm_matches_11 : decode b_Pm_matches 11 = .ok (.getfield 23, 3) := by decide +kernel
theorem d_Pm_matches_14 : decode b_Pm_matches 14 = .ok (.aload_n 0, 1) := by decide +kernel
theorem d_Pm_matches_15 : decode b_Pm_matches 15 = .ok (.getfield 9, 3) := by decide +kernel
theorem d_Pm_matches_18 : decode b_Pm_matches 18 = .ok (.invokevirtual 90, 3) := by decide +kernel
theorem d_Pm_matches_21 : decode b_Pm_matches 21 = .ok (.aload_n 0, 1) := by decide +kernel
theorem d_Pm_matches_22 : decode b_Pm_matches 22 = .ok (.getfield 23, 3) := by decide +kernel
theorem d_Pm_matches_25 : decode b_Pm_matches 25 = .ok (.iload_n 1, 1) := by decide +kernel
theorem d_Pm_matches_26 : decode b_Pm_matches 26 = .ok (.invokevirtual 94, 3) := by decide +kernel
theorem d_Pm_matches_29 : decode b_Pm_matches 29 = .ok (.ireturn, 1) := by decide +kernel
theorem d_Pm_weight_0 : decode b_Pm_weight 0 = .ok (.iload_n 1, 1) := by decide +kernel
theorem d_Pm_weight_1 : decode b_Pm_weight 1 = .ok (.invokestatic 87, 3) := by decide +kernel
theorem d_Pm_weight_4 : decode b_Pm_weight 4 = .ok (.ifCond .ne 7, 3) := by decide +kernel
theorem d_Pm_weight_7 : decode b_Pm_weight 7 = .ok (.ldc2_w 97, 3) := by decide +kernel
theorem d_Pm_weight_10 : decode b_Pm_weight 10 = .ok (.lreturn, 1) := by decide +kernel
theorem d_Pm_weight_11 : decode b_Pm_weight 11 = .ok (.aload_n 0, 1) := by decide +kernel
theorem d_Pm_weight_12 : decode b_Pm_weight 12 = .ok (.getfield 23, 3) := by decide +kernel
theorem d_Pm_weight_15 : decode b_Pm_weight 15 = .ok (.aload_n 0, 1) := by decide +kernel
theorem d_Pm_weight_16 : decode b_Pm_weight 16 = .ok (.getfield 9, 3) := by decide +kernel
theorem d_Pm_weight_19 : decode b_Pm_weight 19 = .ok (.invokevirtual 90, 3) := by decide +kernel
theorem d_Pm_weight_22 : decode b_Pm_weight 22 = .ok (.aload_n 0, 1) := by decide +kernel
theorem d_Pm_weight_23 : decode b_Pm_weight 23 = .ok (.getfield 23, 3) := by decide +kernel
theorem d_Pm_weight_26 : decode b_Pm_weight 26 = .ok (.iload_n 1, 1) := by decide +kernel
theorem d_Pm_weight_27 : decode b_Pm_weight 27 = .ok (.invokevirtual 99, 3) := by decide +kernel
theorem d_Pm_weight_30 : decode b_Pm_weight 30 = .ok (.lreturn, 1) := by decide +kernel
theorem d_Pm_least_0 : decode b_Pm_least 0 = .ok (.aload_n 0, 1) := by decide +kernel
theorem d_Pm_least_1 : decode b_Pm_least 1 = .ok (.getfield 23, 3) := by decide +kernel
theorem d_Pm_least_4 : decode b_Pm_least 4 = .ok (.aload_n 0, 1) := by decide +kernel
theorem d_Pm_least_5 : decode b_Pm_least 5 = .ok (.getfield 9, 3) := by decide +kernel
theorem d_Pm_least_8 : decode b_Pm_least 8 = .ok (.invokevirtual 90, 3) := by decide +kernel
theorem d_Pm_least_11 : decode b_Pm_least 11 = .ok (.aload_n 0, 1) := by decide +kernel
theorem d_Pm_least_12 : decode b_Pm_least 12 = .ok (.getfield 23, 3) := by decide +kernel
theorem d_Pm_least_15 : decode b_Pm_least 15 = .ok (.invokevirtual 103, 3) := by decide +kernel
theorem d_Pm_least_18 : decode b_Pm_least 18 = .ok (.ifCond .eq 13, 3) := by decide +kernel
theorem d_Pm_least_21 : decode b_Pm_least 21 = .ok (.aload_n 0, 1) := by decide +kernel
theorem d_Pm_least_22 : decode b_Pm_least 22 = .ok (.getfield 23, 3) := by decide +kernel
theorem d_Pm_least_25 : decode b_Pm_least 25 = .ok (.invokevirtual 107, 3) := by decide +kernel
theorem d_Pm_least_28 : decode b_Pm_least 28 = .ok (.goto 5, 3) := by decide +kernel
theorem d_Pm_least_31 : decode b_Pm_least 31 = .ok (.bipush (-3), 2) := by decide +kernel
theorem d_Pm_least_33 : decode b_Pm_least 33 = .ok (.ireturn, 1) := by decide +kernel
theorem d_Pm_chosen_0 : decode b_Pm_chosen 0 = .ok (.aload_n 0, 1) := by decide +kernel
theorem d_Pm_chosen_1 : decode b_Pm_chosen 1 = .ok (.getfield 23, 3) := by decide +kernel
theorem d_Pm_chosen_4 : decode b_Pm_chosen 4 = .ok (.iload_n 1, 1) := by decide +kernel
theorem d_Pm_chosen_5 : decode b_Pm_chosen 5 = .ok (.invokevirtual 110, 3) := by decide +kernel
theorem d_Pm_chosen_8 : decode b_Pm_chosen 8 = .ok (.ifCond .ne 5, 3) := by decide +kernel
theorem d_Pm_chosen_11 : decode b_Pm_chosen 11 = .ok (.iconst (-1), 1) := by decide +kernel
theorem d_Pm_chosen_12 : decode b_Pm_chosen 12 = .ok (.ireturn, 1) := by decide +kernel
theorem d_Pm_chosen_13 : decode b_Pm_chosen 13 = .ok (.aload_n 0, 1) := by decide +kernel
theorem d_Pm_chosen_14 : decode b_Pm_chosen 14 = .ok (.getfield 23, 3) := by decide +kernel
theorem d_Pm_chosen_17 : decode b_Pm_chosen 17 = .ok (.aload_n 0, 1) := by decide +kernel
theorem d_Pm_chosen_18 : decode b_Pm_chosen 18 = .ok (.getfield 9, 3) := by decide +kernel
theorem d_Pm_chosen_21 : decode b_Pm_chosen 21 = .ok (.invokevirtual 90, 3) := by decide +kernel
theorem d_Pm_chosen_24 : decode b_Pm_chosen 24 = .ok (.aload_n 0, 1) := by decide +kernel
theorem d_Pm_chosen_25 : decode b_Pm_chosen 25 = .ok (.getfield 23, 3) := by decide +kernel
theorem d_Pm_chosen_28 : decode b_Pm_chosen 28 = .ok (.invokevirtual 103, 3) := by decide +kernel
theorem d_Pm_chosen_31 : decode b_Pm_chosen 31 = .ok (.ifCond .eq 14, 3) := by decide +kernel
theorem d_Pm_chosen_34 : decode b_Pm_chosen 34 = .ok (.aload_n 0, 1) := by decide +kernel
theorem d_Pm_chosen_35 : decode b_Pm_chosen 35 = .ok (.getfield 23, 3) := by decide +kernel
theorem d_Pm_chosen_38 : decode b_Pm_chosen 38 = .ok (.iload_n 1, 1) := by decide +kernel
theorem d_Pm_chosen_39 : decode b_Pm_chosen 39 = .ok (.invokevirtual 111, 3) := by decide +kernel
theorem d_Pm_chosen_42 : decode b_Pm_chosen 42 = .ok (.goto 5, 3) := by decide +kernel
theorem d_Pm_chosen_45 : decode b_Pm_chosen 45 = .ok (.bipush (-3), 2) := by decide +kernel
theorem d_Pm_chosen_47 : decode b_Pm_chosen 47 = .ok (.ireturn, 1) := by decide +kernel
theorem d_Pm_ties_0 : decode b_Pm_ties 0 = .ok (.aload_n 0, 1) := by decide +kernel
theorem d_Pm_ties_1 : decode b_Pm_ties 1 = .ok (.getfield 23, 3) := by decide +kernel
theorem d_Pm_ties_4 : decode b_Pm_ties 4 = .ok (.aload_n 0, 1) := by decide +kernel
theorem d_Pm_ties_5 : decode b_Pm_ties 5 = .ok (.getfield 9, 3) := by decide +kernel
theorem d_Pm_ties_8 : decode b_Pm_ties 8 = .ok (.invokevirtual 90, 3) := by decide +kernel
theorem d_Pm_ties_11 : decode b_Pm_ties 11 = .ok (.aload_n 0, 1) := by decide +kernel
theorem d_Pm_ties_12 : decode b_Pm_ties 12 = .ok (.getfield 23, 3) := by decide +kernel
theorem d_Pm_ties_15 : decode b_Pm_ties 15 = .ok (.invokevirtual 103, 3) := by decide +kernel
theorem d_Pm_ties_18 : decode b_Pm_ties 18 = .ok (.ifCond .eq 20, 3) := by decide +kernel
theorem d_Pm_ties_21 : decode b_Pm_ties 21 = .ok (.aload_n 0, 1) := by decide +kernel
theorem d_Pm_ties_22 : decode b_Pm_ties 22 = .ok (.getfield 23, 3) := by decide +kernel
theorem d_Pm_ties_25 : decode b_Pm_ties 25 = .ok (.aload_n 0, 1) := by decide +kernel
theorem d_Pm_ties_26 : decode b_Pm_ties 26 = .ok (.getfield 23, 3) := by decide +kernel
theorem d_Pm_ties_29 : decode b_Pm_ties 29 = .ok (.invokevirtual 107, 3) := by decide +kernel
theorem d_Pm_ties_32 : decode b_Pm_ties 32 = .ok (.invokevirtual 114, 3) := by decide +kernel
theorem d_Pm_ties_35 : decode b_Pm_ties 35 = .ok (.goto 4, 3) := by decide +kernel
theorem d_Pm_ties_38 : decode b_Pm_ties 38 = .ok (.iconst 0, 1) := by decide +kernel
theorem d_Pm_ties_39 : decode b_Pm_ties 39 = .ok (.ireturn, 1) := by decide +kernel
theorem d_Pm_shortest_0 : decode b_Pm_shortest 0 = .ok (.iload_n 1, 1) := by decide +kernel
theorem d_Pm_shortest_1 : decode b_Pm_shortest 1 = .ok (.ifCond .eq 11, 3) := by decide +kernel
theorem d_Pm_shortest_4 : decode b_Pm_shortest 4 = .ok (.iload_n 1, 1) := by decide +kernel
theorem d_Pm_shortest_5 : decode b_Pm_shortest 5 = .ok (.iconst 1, 1) := by decide +kernel
theorem d_Pm_shortest_6 : decode b_Pm_shortest 6 = .ok (.if_icmp .eq 6, 3) := by decide +kernel
theorem d_Pm_shortest_9 : decode b_Pm_shortest 9 = .ok (.bipush (-2), 2) := by decide +kernel
theorem d_Pm_shortest_11 : decode b_Pm_shortest 11 = .ok (.ireturn, 1) := by decide +kernel
theorem d_Pm_shortest_12 : decode b_Pm_shortest 12 = .ok (.aload_n 0, 1) := by decide +kernel
theorem d_Pm_shortest_13 : decode b_Pm_shortest 13 = .ok (.getfield 23, 3) := by decide +kernel
theorem d_Pm_shortest_16 : decode b_Pm_shortest 16 = .ok (.aload_n 0, 1) := by decide +kernel
theorem d_Pm_shortest_17 : decode b_Pm_shortest 17 = .ok (.getfield 9, 3) := by decide +kernel
theorem d_Pm_shortest_20 : decode b_Pm_shortest 20 = .ok (.invokevirtual 90, 3) := by decide +kernel
theorem d_Pm_shortest_23 : decode b_Pm_shortest 23 = .ok (.aload_n 0, 1) := by decide +kernel
theorem d_Pm_shortest_24 : decode b_Pm_shortest 24 = .ok (.getfield 23, 3) := by decide +kernel
theorem d_Pm_shortest_27 : decode b_Pm_shortest 27 = .ok (.invokevirtual 103, 3) := by decide +kernel
theorem d_Pm_shortest_30 : decode b_Pm_shortest 30 = .ok (.ifCond .ne 6, 3) := by decide +kernel
theorem d_Pm_shortest_33 : decode b_Pm_shortest 33 = .ok (.bipush (-3), 2) := by decide +kernel
theorem d_Pm_shortest_35 : decode b_Pm_shortest 35 = .ok (.ireturn, 1) := by decide +kernel
theorem d_Pm_shortest_36 : decode b_Pm_shortest 36 = .ok (.iload_n 1, 1) := by decide +kernel
theorem d_Pm_shortest_37 : decode b_Pm_shortest 37 = .ok (.ifCond .ne 13, 3) := by decide +kernel
theorem d_Pm_shortest_40 : decode b_Pm_shortest 40 = .ok (.aload_n 0, 1) := by decide +kernel
theorem d_Pm_shortest_41 : decode b_Pm_shortest 41 = .ok (.getfield 23, 3) := by decide +kernel
theorem d_Pm_shortest_44 : decode b_Pm_shortest 44 = .ok (.invokevirtual 117, 3) := by decide +kernel
theorem d_Pm_shortest_47 : decode b_Pm_shortest 47 = .ok (.goto 10, 3) := by decide +kernel
theorem d_Pm_shortest_50 : decode b_Pm_shortest 50 = .ok (.aload_n 0, 1) := by decide +kernel
theorem d_Pm_shortest_51 : decode b_Pm_shortest 51 = .ok (.getfield 23, 3) := by decide +kernel
theorem d_Pm_shortest_54 : decode b_Pm_shortest 54 = .ok (.invokevirtual 120, 3) := by decide +kernel
theorem d_Pm_shortest_57 : decode b_Pm_shortest 57 = .ok (.ireturn, 1) := by decide +kernel
theorem d_Pm_textHasChanged_0 : decode b_Pm_textHasChanged 0 = .ok (.aload_n 0, 1) := by decide +kernel
theorem d_Pm_textHasChanged_1 : decode b_Pm_textHasChanged 1 = .ok (.getfield 16, 3) := by decide +kernel
theorem d_Pm_textHasChanged_4 : decode b_Pm_textHasChanged 4 = .ok (.invokevirtual 123, 3) := by decide +kernel
theorem d_Pm_textHasChanged_7 : decode b_Pm_textHasChanged 7 = .ok (.aload_n 0, 1) := by decide +kernel
theorem d_Pm_textHasChanged_8 : decode b_Pm_textHasChanged 8 = .ok (.getfield 23, 3) := by decide +kernel
theorem d_Pm_textHasChanged_11 : decode b_Pm_textHasChanged 11 = .ok (.invokevirtual 126, 3) := by decide +kernel
theorem d_Pm_textHasChanged_14 : decode b_Pm_textHasChanged 14 = .ok (.return_, 1) := by decide +kernel
