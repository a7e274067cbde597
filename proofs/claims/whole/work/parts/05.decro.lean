theorem d_Pm_isPlace_0 : decode b_Pm_isPlace 0 = .ok (.iload_n 0, 1) := by decide +kernel
theorem d_Pm_isPlace_1 : decode b_Pm_isPlace 1 = .ok (.ifCond .lt 13, 3) := by decide +kernel
theorem d_Pm_isPlace_4 : decode b_Pm_isPlace 4 = .ok (.iload_n 0, 1) := by decide +kernel
theorem d_Pm_isPlace_5 : decode b_Pm_isPlace 5 = .ok (.bipush 30, 2) := by decide +kernel
theorem d_Pm_isPlace_7 : decode b_Pm_isPlace 7 = .ok (.if_icmp .ge 7, 3) := by decide +kernel
theorem d_Pm_isPlace_10 : decode b_Pm_isPlace 10 = .ok (.iconst 1, 1) := by decide +kernel
theorem d_Pm_isPlace_11 : decode b_Pm_isPlace 11 = .ok (.goto 4, 3) := by decide +kernel
theorem d_Pm_isPlace_14 : decode b_Pm_isPlace 14 = .ok (.iconst 0, 1) := by decide +kernel
theorem d_Pm_isPlace_15 : decode b_Pm_isPlace 15 = .ok (.ireturn, 1) := by decide +kernel
theorem d_Pm_isSet_0 : decode b_Pm_isSet 0 = .ok (.iload_n 0, 1) := by decide +kernel
theorem d_Pm_isSet_1 : decode b_Pm_isSet 1 = .ok (.ifCond .lt 14, 3) := by decide +kernel
theorem d_Pm_isSet_4 : decode b_Pm_isSet 4 = .ok (.iload_n 0, 1) := by decide +kernel
theorem d_Pm_isSet_5 : decode b_Pm_isSet 5 = .ok (.sipush 1023, 3) := by decide +kernel
theorem d_Pm_isSet_8 : decode b_Pm_isSet 8 = .ok (.if_icmp .gt 7, 3) := by decide +kernel
theorem d_Pm_isSet_11 : decode b_Pm_isSet 11 = .ok (.iconst 1, 1) := by decide +kernel
theorem d_Pm_isSet_12 : decode b_Pm_isSet 12 = .ok (.goto 4, 3) := by decide +kernel
theorem d_Pm_isSet_15 : decode b_Pm_isSet 15 = .ok (.iconst 0, 1) := by decide +kernel
theorem d_Pm_isSet_16 : decode b_Pm_isSet 16 = .ok (.ireturn, 1) := by decide +kernel
theorem d_Pm_isSlop_0 : decode b_Pm_isSlop 0 = .ok (.iload_n 0, 1) := by decide +kernel
theorem d_Pm_isSlop_1 : decode b_Pm_isSlop 1 = .ok (.ifCond .lt 13, 3) := by decide +kernel
theorem d_Pm_isSlop_4 : decode b_Pm_isSlop 4 = .ok (.iload_n 0, 1) := by decide +kernel
theorem d_Pm_isSlop_5 : decode b_Pm_isSlop 5 = .ok (.bipush 9, 2) := by decide +kernel
theorem d_Pm_isSlop_7 : decode b_Pm_isSlop 7 = .ok (.if_icmp .gt 7, 3) := by decide +kernel
theorem d_Pm_isSlop_10 : decode b_Pm_isSlop 10 = .ok (.iconst 1, 1) := by decide +kernel
theorem d_Pm_isSlop_11 : decode b_Pm_isSlop 11 = .ok (.goto 4, 3) := by decide +kernel
theorem d_Pm_isSlop_14 : decode b_Pm_isSlop 14 = .ok (.iconst 0, 1) := by decide +kernel
theorem d_Pm_isSlop_15 : decode b_Pm_isSlop 15 = .ok (.ireturn, 1) := by decide +kernel
theorem d_Pm_isKind_0 : decode b_Pm_isKind 0 = .ok (.iload_n 0, 1) := by decide +kernel
theorem d_Pm_isKind_1 : decode b_Pm_isKind 1 = .ok (.ifCond .lt 13, 3) := by decide +kernel
theorem d_Pm_isKind_4 : decode b_Pm_isKind 4 = .ok (.iload_n 0, 1) := by decide +kernel
theorem d_Pm_isKind_5 : decode b_Pm_isKind 5 = .ok (.bipush 10, 2) := by decide +kernel
theorem d_Pm_isKind_7 : decode b_Pm_isKind 7 = .ok (.if_icmp .gt 7, 3) := by decide +kernel
theorem d_Pm_isKind_10 : decode b_Pm_isKind 10 = .ok (.iconst 1, 1) := by decide +kernel
theorem d_Pm_isKind_11 : decode b_Pm_isKind 11 = .ok (.goto 4, 3) := by decide +kernel
theorem d_Pm_isKind_14 : decode b_Pm_isKind 14 = .ok (.iconst 0, 1) := by decide +kernel
theorem d_Pm_isKind_15 : decode b_Pm_isKind 15 = .ok (.ireturn, 1) := by decide +kernel
theorem d_Pm_isNumberOf_0 : decode b_Pm_isNumberOf 0 = .ok (.iload_n 1, 1) := by decide +kernel
theorem d_Pm_isNumberOf_1 : decode b_Pm_isNumberOf 1 = .ok (.ifCond .lt 26, 3) := by decide +kernel
theorem d_Pm_isNumberOf_4 : decode b_Pm_isNumberOf 4 = .ok (.iload_n 0, 1) := by decide +kernel
theorem d_Pm_isNumberOf_5 : decode b_Pm_isNumberOf 5 = .ok (.ifCond .ne 12, 3) := by decide +kernel
theorem d_Pm_isNumberOf_8 : decode b_Pm_isNumberOf 8 = .ok (.iload_n 1, 1) := by decide +kernel
theorem d_Pm_isNumberOf_9 : decode b_Pm_isNumberOf 9 = .ok (.bipush 10, 2) := by decide +kernel
theorem d_Pm_isNumberOf_11 : decode b_Pm_isNumberOf 11 = .ok (.if_icmp .ge 16, 3) := by decide +kernel
theorem d_Pm_isNumberOf_14 : decode b_Pm_isNumberOf 14 = .ok (.goto 9, 3) := by decide +kernel
theorem d_Pm_isNumberOf_17 : decode b_Pm_isNumberOf 17 = .ok (.iload_n 1, 1) := by decide +kernel
theorem d_Pm_isNumberOf_18 : decode b_Pm_isNumberOf 18 = .ok (.bipush 30, 2) := by decide +kernel
theorem d_Pm_isNumberOf_20 : decode b_Pm_isNumberOf 20 = .ok (.if_icmp .gt 7, 3) := by decide +kernel
theorem d_Pm_isNumberOf_23 : decode b_Pm_isNumberOf 23 = .ok (.iconst 1, 1) := by decide +kernel
theorem d_Pm_isNumberOf_24 : decode b_Pm_isNumberOf 24 = .ok (.goto 4, 3) := by decide +kernel
theorem d_Pm_isNumberOf_27 : decode b_Pm_isNumberOf 27 = .ok (.iconst 0, 1) := by decide +kernel
theorem d_Pm_isNumberOf_28 : decode b_Pm_isNumberOf 28 = .ok (.ireturn, 1) := by decide +kernel
theorem d_Pm_countsFirst_0 : decode b_Pm_countsFirst 0 = .ok (.iload_n 0, 1) := by decide +kernel
theorem d_Pm_countsFirst_1 : decode b_Pm_countsFirst 1 = .ok (.ifCond .eq 7, 3) := by decide +kernel
theorem d_Pm_countsFirst_4 : decode b_Pm_countsFirst 4 = .ok (.iconst 1, 1) := by decide +kernel
theorem d_Pm_countsFirst_5 : decode b_Pm_countsFirst 5 = .ok (.goto 4, 3) := by decide +kernel
theorem d_Pm_countsFirst_8 : decode b_Pm_countsFirst 8 = .ok (.iconst 0, 1) := by decide +kernel
theorem d_Pm_countsFirst_9 : decode b_Pm_countsFirst 9 = .ok (.ireturn, 1) := by decide +kernel
theorem d_Pm_countsSecond_0 : decode b_Pm_countsSecond 0 = .ok (.iload_n 0, 1) := by decide +kernel
theorem d_Pm_countsSecond_1 : decode b_Pm_countsSecond 1 = .ok (.iconst 1, 1) := by decide +kernel
theorem d_Pm_countsSecond_2 : decode b_Pm_countsSecond 2 = .ok (.if_icmp .lt 13, 3) := by decide +kernel
theorem d_Pm_countsSecond_5 : decode b_Pm_countsSecond 5 = .ok (.iload_n 0, 1) := by decide +kernel
theorem d_Pm_countsSecond_6 : decode b_Pm_countsSecond 6 = .ok (.bipush 8, 2) := by decide +kernel
theorem d_Pm_countsSecond_8 : decode b_Pm_countsSecond 8 = .ok (.if_icmp .gt 7, 3) := by decide +kernel
theorem d_Pm_countsSecond_11 : decode b_Pm_countsSecond 11 = .ok (.iconst 1, 1) := by decide +kernel
theorem d_Pm_countsSecond_12 : decode b_Pm_countsSecond 12 = .ok (.goto 4, 3) := by decide +kernel
theorem d_Pm_countsSecond_15 : decode b_Pm_countsSecond 15 = .ok (.iconst 0, 1) := by decide +kernel
theorem d_Pm_countsSecond_16 : decode b_Pm_countsSecond 16 = .ok (.ireturn, 1) := by decide +kernel
theorem d_Pm_countsNumber_0 : decode b_Pm_countsNumber 0 = .ok (.iload_n 0, 1) := by decide +kernel
theorem d_Pm_countsNumber_1 : decode b_Pm_countsNumber 1 = .ok (.iconst 1, 1) := by decide +kernel
theorem d_Pm_countsNumber_2 : decode b_Pm_countsNumber 2 = .ok (.if_icmp .eq 24, 3) := by decide +kernel
theorem d_Pm_countsNumber_5 : decode b_Pm_countsNumber 5 = .ok (.iload_n 0, 1) := by decide +kernel
theorem d_Pm_countsNumber_6 : decode b_Pm_countsNumber 6 = .ok (.iconst 5, 1) := by decide +kernel
theorem d_Pm_countsNumber_7 : decode b_Pm_countsNumber 7 = .ok (.if_icmp .eq 19, 3) := by decide +kernel
theorem d_Pm_countsNumber_10 : decode b_Pm_countsNumber 10 = .ok (.iload_n 0, 1) := by decide +kernel
theorem d_Pm_countsNumber_11 : decode b_Pm_countsNumber 11 = .ok (.bipush 6, 2) := by decide +kernel
theorem d_Pm_countsNumber_13 : decode b_Pm_countsNumber 13 = .ok (.if_icmp .eq 13, 3) := by decide +kernel
theorem d_Pm_countsNumber_16 : decode b_Pm_countsNumber 16 = .ok (.iload_n 0, 1) := by decide +kernel
theorem d_Pm_countsNumber_17 : decode b_Pm_countsNumber 17 = .ok (.bipush 7, 2) := by decide +kernel
theorem d_Pm_countsNumber_19 : decode b_Pm_countsNumber 19 = .ok (.if_icmp .eq 7, 3) := by decide +kernel
theorem d_Pm_countsNumber_22 : decode b_Pm_countsNumber 22 = .ok (.iconst 1, 1) := by decide +kernel
theorem d_Pm_countsNumber_23 : decode b_Pm_countsNumber 23 = .ok (.goto 4, 3) := by decide +kernel
theorem d_Pm_countsNumber_26 : decode b_Pm_countsNumber 26 = .ok (.iconst 0, 1) := by decide +kernel
theorem d_Pm_countsNumber_27 : decode b_Pm_countsNumber 27 = .ok (.ireturn, 1) := by decide +kernel
theorem d_Ro_init_0 : decode b_Ro_init 0 = .ok (.aload_n 0, 1) := by decide +kernel
theorem d_Ro_init_1 : decode b_Ro_init 1 = .ok (.invokespecial 3, 3) := by decide +kernel
theorem d_Ro_init_4 : decode b_Ro_init 4 = .ok (.aload_n 0, 1) := by decide +kernel
theorem d_Ro_init_5 : decode b_Ro_init 5 = .ok (.bipush 30, 2) := by decide +kernel
theorem d_Ro_init_7 : decode b_Ro_init 7 = .ok (.newarray .int, 2) := by decide +kernel
theorem d_Ro_init_9 : decode b_Ro_init 9 = .ok (.putfield 9, 3) := by decide +kernel
theorem d_Ro_init_12 : decode b_Ro_init 12 = .ok (.aload_n 0, 1) := by decide +kernel
theorem d_Ro_init_13 : decode b_Ro_init 13 = .ok (.getfield 9, 3) := by decide +kernel
theorem d_Ro_init_16 : decode b_Ro_init 16 = .ok (.bipush 30, 2) := by decide +kernel
theorem d_Ro_init_18 : decode b_Ro_init 18 = .ok (.invokestatic 15, 3) := by decide +kernel
theorem d_Ro_init_21 : decode b_Ro_init 21 = .ok (.return_, 1) := by decide +kernel
theorem d_Ro_empty_0 : decode b_Ro_empty 0 = .ok (.aload_n 0, 1) := by decide +kernel
theorem d_Ro_empty_1 : decode b_Ro_empty 1 = .ok (.getfield 9, 3) := by decide +kernel
theorem d_Ro_empty_4 : decode b_Ro_empty 4 = .ok (.bipush 30, 2) := by decide +kernel
theorem d_Ro_empty_6 : decode b_Ro_empty 6 = .ok (.invokestatic 15, 3) := by decide +kernel
theorem d_Ro_empty_9 : decode b_Ro_empty 9 = .ok (.return_, 1) := by decide +kernel
theorem d_Ro_add_0 : decode b_Ro_add 0 = .ok (.iload_n 1, 1) := by decide +kernel
theorem d_Ro_add_1 : decode b_Ro_add 1 = .ok (.invokestatic 21, 3) := by decide +kernel
theorem d_Ro_add_4 : decode b_Ro_add 4 = .ok (.ifCond .eq 20, 3) := by decide +kernel
theorem d_Ro_add_7 : decode b_Ro_add 7 = .ok (.iload_n 2, 1) := by decide +kernel
theorem d_Ro_add_8 : decode b_Ro_add 8 = .ok (.aload_n 0, 1) := by decide +kernel
theorem d_Ro_add_9 : decode b_Ro_add 9 = .ok (.getfield 9, 3) := by decide +kernel
theorem d_Ro_add_12 : decode b_Ro_add 12 = .ok (.iload_n 1, 1) := by decide +kernel
theorem d_Ro_add_13 : decode b_Ro_add 13 = .ok (.iaload, 1) := by decide +kernel
theorem d_Ro_add_14 : decode b_Ro_add 14 = .ok (.if_icmp .ge 10, 3) := by decide +kernel
theorem d_Ro_add_17 : decode b_Ro_add 17 = .ok (.aload_n 0, 1) := by decide +kernel
theorem d_Ro_add_18 : decode b_Ro_add 18 = .ok (.getfield 9, 3) := by decide +kernel
theorem d_Ro_add_21 : decode b_Ro_add 21 = .ok (.iload_n 1, 1) := by decide +kernel
theorem d_Ro_add_22 : decode b_Ro_add 22 = .ok (.iload_n 2, 1) := by decide +kernel
theorem d_Ro_add_23 : decode b_Ro_add 23 = .ok (.iastore, 1) := by decide +kernel
theorem d_Ro_add_24 : decode b_Ro_add 24 = .ok (.return_, 1) := by decide +kernel
theorem d_Ro_keepLeast_0 : decode b_Ro_keepLeast 0 = .ok (.bipush 30, 2) := by decide +kernel
theorem d_Ro_keepLeast_2 : decode b_Ro_keepLeast 2 = .ok (.istore_n 1, 1) := by decide +kernel
theorem d_Ro_keepLeast_3 : decode b_Ro_keepLeast 3 = .ok (.bipush 29, 2) := by decide +kernel
theorem d_Ro_keepLeast_5 : decode b_Ro_keepLeast 5 = .ok (.istore_n 2, 1) := by decide +kernel
theorem d_Ro_keepLeast_6 : decode b_Ro_keepLeast 6 = .ok (.iload_n 2, 1) := by decide +kernel
theorem d_Ro_keepLeast_7 : decode b_Ro_keepLeast 7 = .ok (.ifCond .lt 37, 3) := by decide +kernel
theorem d_Ro_keepLeast_10 : decode b_Ro_keepLeast 10 = .ok (.aload_n 0, 1) := by decide +kernel
theorem d_Ro_keepLeast_11 : decode b_Ro_keepLeast 11 = .ok (.getfield 9, 3) := by decide +kernel
theorem d_Ro_keepLeast_14 : decode b_Ro_keepLeast 14 = .ok (.iload_n 2, 1) := by decide +kernel
theorem d_Ro_keepLeast_15 : decode b_Ro_keepLeast 15 = .ok (.iaload, 1) := by decide +kernel
theorem d_Ro_keepLeast_16 : decode b_Ro_keepLeast 16 = .ok (.iload_n 1, 1) := by decide +kernel
theorem d_Ro_keepLeast_17 : decode b_Ro_keepLeast 17 = .ok (.if_icmp .ge 13, 3) := by decide +kernel
theorem d_Ro_keepLeast_20 : decode b_Ro_keepLeast 20 = .ok (.aload_n 0, 1) := by decide +kernel
theorem d_Ro_keepLeast_21 : decode b_Ro_keepLeast 21 = .ok (.getfield 9, 3) := by decide +kernel
theorem d_Ro_keepLeast_24 : decode b_Ro_keepLeast 24 = .ok (.iload_n 2, 1) := by decide +kernel
theorem d_Ro_keepLeast_25 : decode b_Ro_keepLeast 25 = .ok (.iaload, 1) := by decide +kernel
theorem d_Ro_keepLeast_26 : decode b_Ro_keepLeast 26 = .ok (.istore_n 1, 1) := by decide +kernel
theorem d_Ro_keepLeast_27 : decode b_Ro_keepLeast 27 = .ok (.goto 11, 3) := by decide +kernel
theorem d_Ro_keepLeast_30 : decode b_Ro_keepLeast 30 = .ok (.aload_n 0, 1) := by decide +kernel
theorem d_Ro_keepLeast_31 : decode b_Ro_keepLeast 31 = .ok (.getfield 9, 3) := by decide +kernel
theorem d_Ro_keepLeast_34 : decode b_Ro_keepLeast 34 = .ok (.iload_n 2, 1) := by decide +kernel
theorem d_Ro_keepLeast_35 : decode b_Ro_keepLeast 35 = .ok (.bipush 30, 2) := by decide +kernel
theorem d_Ro_keepLeast_37 : decode b_Ro_keepLeast 37 = .ok (.iastore, 1) := by decide +kernel
theorem d_Ro_keepLeast_38 : decode b_Ro_keepLeast 38 = .ok (.iinc 2 (-1), 3) := by decide +kernel
theorem d_Ro_keepLeast_41 : decode b_Ro_keepLeast 41 = .ok (.goto (-35), 3) := by decide +kernel
theorem d_Ro_keepLeast_44 : decode b_Ro_keepLeast 44 = .ok (.return_, 1) := by decide +kernel
theorem d_Ro_beginsAt_0 : decode b_Ro_beginsAt 0 = .ok (.iload_n 1, 1) := by decide +kernel
theorem d_Ro_beginsAt_1 : decode b_Ro_beginsAt 1 = .ok (.invokestatic 21, 3) := by decide +kernel
theorem d_Ro_beginsAt_4 : decode b_Ro_beginsAt 4 = .ok (.ifCond .eq 18, 3) := by decide +kernel
theorem d_Ro_beginsAt_7 : decode b_Ro_beginsAt 7 = .ok (.aload_n 0, 1) := by decide +kernel
theorem d_Ro_beginsAt_8 : decode b_Ro_beginsAt 8 = .ok (.getfield 9, 3) := by decide +kernel
theorem d_Ro_beginsAt_11 : decode b_Ro_beginsAt 11 = .ok (.iload_n 1, 1) := by decide +kernel
theorem d_Ro_beginsAt_12 : decode b_Ro_beginsAt 12 = .ok (.iaload, 1) := by decide +kernel
theorem d_Ro_beginsAt_13 : decode b_Ro_beginsAt 13 = .ok (.bipush 30, 2) := by decide +kernel
theorem d_Ro_beginsAt_15 : decode b_Ro_beginsAt 15 = .ok (.if_icmp .eq 7, 3) := by decide +kernel
theorem d_Ro_beginsAt_18 : decode b_Ro_beginsAt 18 = .ok (.iconst 1, 1) := by decide +kernel
theorem d_Ro_beginsAt_19 : decode b_Ro_beginsAt 19 = .ok (.goto 4, 3) := by decide +kernel
theorem d_Ro_beginsAt_22 : decode b_Ro_beginsAt 22 = .ok (.iconst 0, 1) := by decide +kernel
theorem d_Ro_beginsAt_23 : decode b_Ro_beginsAt 23 = .ok (.ireturn, 1) := by decide +kernel
theorem d_Ro_size_0 : decode b_Ro_size 0 = .ok (.iconst 0, 1) := by decide +kernel
theorem d_Ro_size_1 : decode b_Ro_size 1 = .ok (.istore_n 1, 1) := by decide +kernel
theorem d_Ro_size_2 : decode b_Ro_size 2 = .ok (.iconst 0, 1) := by decide +kernel
theorem d_Ro_size_3 : decode b_Ro_size 3 = .ok (.istore_n 2, 1) := by decide +kernel
theorem d_Ro_size_4 : decode b_Ro_size 4 = .ok (.iload_n 2, 1) := by decide +kernel
theorem d_Ro_size_5 : decode b_Ro_size 5 = .ok (.bipush 30, 2) := by decide +kernel
theorem d_Ro_size_7 : decode b_Ro_size 7 = .ok (.if_icmp .ge 20, 3) := by decide +kernel
theorem d_Ro_size_10 : decode b_Ro_size 10 = .ok (.aload_n 0, 1) := by decide +kernel
theorem d_Ro_size_11 : decode b_Ro_size 11 = .ok (.iload_n 2, 1) := by decide +kernel
theorem d_Ro_size_12 : decode b_Ro_size 12 = .ok (.invokevirtual 25, 3) := by decide +kernel
theorem d_Ro_size_15 : decode b_Ro_size 15 = .ok (.ifCond .eq 6, 3) := by decide +kernel
theorem d_Ro_size_18 : decode b_Ro_size 18 = .ok (.iinc 1 1, 3) := by decide +kernel
theorem d_Ro_size_21 : decode b_Ro_size 21 = .ok (.iinc 2 1, 3) := by decide +kernel
theorem d_Ro_size_24 : decode b_Ro_size 24 = .ok (.goto (-20), 3) := by decide +kernel
theorem d_Ro_size_27 : decode b_Ro_size 27 = .ok (.iload_n 1, 1) := by decide +kernel
theorem d_Ro_size_28 : decode b_Ro_size 28 = .ok (.ireturn, 1) := by decide +kernel
theorem d_Ro_beginOf_0 : decode b_Ro_beginOf 0 = .ok (.iconst 0, 1) := by decide +kernel
theorem d_Ro_beginOf_1 : decode b_Ro_beginOf 1 = .ok (.istore_n 2, 1) := by decide +kernel
theorem d_Ro_beginOf_2 : decode b_Ro_beginOf 2 = .ok (.iconst 0, 1) := by decide +kernel
theorem d_Ro_beginOf_3 : decode b_Ro_beginOf 3 = .ok (.istore_n 3, 1) := by decide +kernel
theorem d_Ro_beginOf_4 : decode b_Ro_beginOf 4 = .ok (.iload_n 3, 1) := by decide +kernel
theorem d_Ro_beginOf_5 : decode b_Ro_beginOf 5 = .ok (.bipush 30, 2) := by decide +kernel
theorem d_Ro_beginOf_7 : decode b_Ro_beginOf 7 = .ok (.if_icmp .ge 27, 3) := by decide +kernel
theorem d_Ro_beginOf_10 : decode b_Ro_beginOf 10 = .ok (.aload_n 0, 1) := by decide +kernel
theorem d_Ro_beginOf_11 : decode b_Ro_beginOf 11 = .ok (.iload_n 3, 1) := by decide +kernel
theorem d_Ro_beginOf_12 : decode b_Ro_beginOf 12 = .ok (.invokevirtual 25, 3) := by decide +kernel
theorem d_Ro_beginOf_15 : decode b_Ro_beginOf 15 = .ok (.ifCond .eq 13, 3) := by decide +kernel
theorem d_Ro_beginOf_18 : decode b_Ro_beginOf 18 = .ok (.iload_n 2, 1) := by decide +kernel
theorem d_Ro_beginOf_19 : decode b_Ro_beginOf 19 = .ok (.iload_n 1, 1) := by decide +kernel
theorem d_Ro_beginOf_20 : decode b_Ro_beginOf 20 = .ok (.if_icmp .ne 5, 3) := by decide +kernel
theorem d_Ro_beginOf_23 : decode b_Ro_beginOf 23 = .ok (.iload_n 3, 1) := by decide +kernel
theorem d_Ro_beginOf_24 : decode b_Ro_beginOf 24 = .ok (.ireturn, 1) := by decide +kernel
theorem d_Ro_beginOf_25 : decode b_Ro_beginOf 25 = .ok (.iinc 2 1, 3) := by decide +kernel
theorem d_Ro_beginOf_28 : decode b_Ro_beginOf 28 = .ok (.iinc 3 1, 3) := by decide +kernel
theorem d_Ro_beginOf_31 : decode b_Ro_beginOf 31 = .ok (.goto (-27), 3) := by decide +kernel
theorem d_Ro_beginOf_34 : decode b_Ro_beginOf 34 = .ok (.iconst (-1), 1) := by decide +kernel
theorem d_Ro_beginOf_35 : decode b_Ro_beginOf 35 = .ok (.ireturn, 1) := by decide +kernel
theorem d_Ro_endOf_0 : decode b_Ro_endOf 0 = .ok (.aload_n 0, 1) := by decide +kernel
theorem d_Ro_endOf_1 : decode b_Ro_endOf 1 = .ok (.iload_n 1, 1) := by decide +kernel
theorem d_Ro_endOf_2 : decode b_Ro_endOf 2 = .ok (.invokevirtual 28, 3) := by decide +kernel
theorem d_Ro_endOf_5 : decode b_Ro_endOf 5 = .ok (.istore_n 2, 1) := by decide +kernel
theorem d_Ro_endOf_6 : decode b_Ro_endOf 6 = .ok (.iload_n 2, 1) := by decide +kernel
theorem d_Ro_endOf_7 : decode b_Ro_endOf 7 = .ok (.invokestatic 21, 3) := by decide +kernel
theorem d_Ro_endOf_10 : decode b_Ro_endOf 10 = .ok (.ifCond .eq 12, 3) := by decide +kernel
theorem d_Ro_endOf_13 : decode b_Ro_endOf 13 = .ok (.aload_n 0, 1) := by decide +kernel
theorem d_Ro_endOf_14 : decode b_Ro_endOf 14 = .ok (.getfield 9, 3) := by decide +kernel
theorem d_Ro_endOf_17 : decode b_Ro_endOf 17 = .ok (.iload_n 2, 1) := by decide +kernel
theorem d_Ro_endOf_18 : decode b_Ro_endOf 18 = .ok (.iaload, 1) := by decide +kernel
theorem d_Ro_endOf_19 : decode b_Ro_endOf 19 = .ok (.goto 4, 3) := by decide +kernel
theorem d_Ro_endOf_22 : decode b_Ro_endOf 22 = .ok (.iconst (-1), 1) := by decide +kernel
theorem d_Ro_endOf_23 : decode b_Ro_endOf 23 = .ok (.ireturn, 1) := by decide +kernel
theorem d_Ro_placesCovered_0 : decode b_Ro_placesCovered 0 = .ok (.iconst 0, 1) := by decide +kernel
theorem d_Ro_placesCovered_1 : decode b_Ro_placesCovered 1 = .ok (.istore_n 1, 1) := by decide +kernel
theorem d_Ro_placesCovered_2 : decode b_Ro_placesCovered 2 = .ok (.iconst (-1), 1) := by decide +kernel
theorem d_Ro_placesCovered_3 : decode b_Ro_placesCovered 3 = .ok (.istore_n 2, 1) := by decide +kernel
theorem d_Ro_placesCovered_4 : decode b_Ro_placesCovered 4 = .ok (.iconst 0, 1) := by decide +kernel
theorem d_Ro_placesCovered_5 : decode b_Ro_placesCovered 5 = .ok (.istore_n 3, 1) := by decide +kernel
theorem d_Ro_placesCovered_6 : decode b_Ro_placesCovered 6 = .ok (.iload_n 3, 1) := by decide +kernel
theorem d_Ro_placesCovered_7 : decode b_Ro_placesCovered 7 = .ok (.bipush 30, 2) := by decide +kernel
theorem d_Ro_placesCovered_9 : decode b_Ro_placesCovered 9 = .ok (.if_icmp .ge 41, 3) := by decide +kernel
theorem d_Ro_placesCovered_12 : decode b_Ro_placesCovered 12 = .ok (.aload_n 0, 1) := by decide +kernel
theorem d_Ro_placesCovered_13 : decode b_Ro_placesCovered 13 = .ok (.iload_n 3, 1) := by decide +kernel
theorem d_Ro_placesCovered_14 : decode b_Ro_placesCovered 14 = .ok (.invokevirtual 25, 3) := by decide +kernel
theorem d_Ro_placesCovered_17 : decode b_Ro_placesCovered 17 = .ok (.ifCond .eq 27, 3) := by decide +kernel
theorem d_Ro_placesCovered_20 : decode b_Ro_placesCovered 20 = .ok (.iload_n 1, 1) := by decide +kernel
theorem d_Ro_placesCovered_21 : decode b_Ro_placesCovered 21 = .ok (.aload_n 0, 1) := by decide +kernel
theorem d_Ro_placesCovered_22 : decode b_Ro_placesCovered 22 = .ok (.getfield 9, 3) := by decide +kernel
theorem d_Ro_placesCovered_25 : decode b_Ro_placesCovered 25 = .ok (.iload_n 3, 1) := by decide +kernel
theorem d_Ro_placesCovered_26 : decode b_Ro_placesCovered 26 = .ok (.iaload, 1) := by decide +kernel
theorem d_Ro_placesCovered_27 : decode b_Ro_placesCovered 27 = .ok (.iload_n 2, 1) := by decide +kernel
theorem d_Ro_placesCovered_28 : decode b_Ro_placesCovered 28 = .ok (.iload_n 3, 1) := by decide +kernel
theorem d_Ro_placesCovered_29 : decode b_Ro_placesCovered 29 = .ok (.iconst 1, 1) := by decide +kernel
theorem d_Ro_placesCovered_30 : decode b_Ro_placesCovered 30 = .ok (.isub, 1) := by decide +kernel
theorem d_Ro_placesCovered_31 : decode b_Ro_placesCovered 31 = .ok (.invokestatic 32, 3) := by decide +kernel
theorem d_Ro_placesCovered_34 : decode b_Ro_placesCovered 34 = .ok (.isub, 1) := by decide +kernel
theorem d_Ro_placesCovered_35 : decode b_Ro_placesCovered 35 = .ok (.iadd, 1) := by decide +kernel
theorem d_Ro_placesCovered_36 : decode b_Ro_placesCovered 36 = .ok (.istore_n 1, 1) := by decide +kernel
theorem d_Ro_placesCovered_37 : decode b_Ro_placesCovered 37 = .ok (.aload_n 0, 1) := by decide +kernel
theorem d_Ro_placesCovered_38 : decode b_Ro_placesCovered 38 = .ok (.getfield 9, 3) := by decide +kernel
theorem d_Ro_placesCovered_41 : decode b_Ro_placesCovered 41 = .ok (.iload_n 3, 1) := by decide +kernel
theorem d_Ro_placesCovered_42 : decode b_Ro_placesCovered 42 = .ok (.iaload, 1) := by decide +kernel
theorem d_Ro_placesCovered_43 : decode b_Ro_placesCovered 43 = .ok (.istore_n 2, 1) := by decide +kernel
theorem d_Ro_placesCovered_44 : decode b_Ro_placesCovered 44 = .ok (.iinc 3 1, 3) := by decide +kernel
theorem d_Ro_placesCovered_47 : decode b_Ro_placesCovered 47 = .ok (.goto (-41), 3) := by decide +kernel
theorem d_Ro_placesCovered_50 : decode b_Ro_placesCovered 50 = .ok (.iload_n 1, 1) := by decide +kernel
theorem d_Ro_placesCovered_51 : decode b_Ro_placesCovered 51 = .ok (.ireturn, 1) := by decide +kernel
theorem d_Ro_addPlacesWith_0 : decode b_Ro_addPlacesWith 0 = .ok (.iconst 0, 1) := by decide +kernel
theorem d_Ro_addPlacesWith_1 : decode b_Ro_addPlacesWith 1 = .ok (.istore_n 3, 1) := by decide +kernel
theorem d_Ro_addPlacesWith_2 : decode b_Ro_addPlacesWith 2 = .ok (.iload_n 3, 1) := by decide +kernel
theorem d_Ro_addPlacesWith_3 : decode b_Ro_addPlacesWith 3 = .ok (.bipush 30, 2) := by decide +kernel
theorem d_Ro_addPlacesWith_5 : decode b_Ro_addPlacesWith 5 = .ok (.if_icmp .ge 23, 3) := by decide +kernel
theorem d_Ro_addPlacesWith_8 : decode b_Ro_addPlacesWith 8 = .ok (.aload_n 2, 1) := by decide +kernel
theorem d_Ro_addPlacesWith_9 : decode b_Ro_addPlacesWith 9 = .ok (.iload_n 3, 1) := by decide +kernel
theorem d_Ro_addPlacesWith_10 : decode b_Ro_addPlacesWith 10 = .ok (.iaload, 1) := by decide +kernel
theorem d_Ro_addPlacesWith_11 : decode b_Ro_addPlacesWith 11 = .ok (.iload_n 1, 1) := by decide +kernel
theorem d_Ro_addPlacesWith_12 : decode b_Ro_addPlacesWith 12 = .ok (.iand, 1) := by decide +kernel
theorem d_Ro_addPlacesWith_13 : decode b_Ro_addPlacesWith 13 = .ok (.ifCond .eq 9, 3) := by decide +kernel
theorem d_Ro_addPlacesWith_16 : decode b_Ro_addPlacesWith 16 = .ok (.aload_n 0, 1) := by decide +kernel
theorem d_Ro_addPlacesWith_17 : decode b_Ro_addPlacesWith 17 = .ok (.iload_n 3, 1) := by decide +kernel
theorem d_Ro_addPlacesWith_18 : decode b_Ro_addPlacesWith 18 = .ok (.iload_n 3, 1) := by decide +kernel
theorem d_Ro_addPlacesWith_19 : decode b_Ro_addPlacesWith 19 = .ok (.invokevirtual 38, 3) := by decide +kernel
theorem d_Ro_addPlacesWith_22 : decode b_Ro_addPlacesWith 22 = .ok (.iinc 3 1, 3) := by decide +kernel
theorem d_Ro_addPlacesWith_25 : decode b_Ro_addPlacesWith 25 = .ok (.goto (-23), 3) := by decide +kernel
theorem d_Ro_addPlacesWith_28 : decode b_Ro_addPlacesWith 28 = .ok (.return_, 1) := by decide +kernel
theorem d_Ro_addAll_0 : decode b_Ro_addAll 0 = .ok (.aload_n 0, 1) := by decide +kernel
theorem d_Ro_addAll_1 : decode b_Ro_addAll 1 = .ok (.aload_n 1, 1) := by decide +kernel
theorem d_Ro_addAll_2 : decode b_Ro_addAll 2 = .ok (.iconst 0, 1) := by decide +kernel
theorem d_Ro_addAll_3 : decode b_Ro_addAll 3 = .ok (.invokevirtual 42, 3) := by decide +kernel
theorem d_Ro_addAll_6 : decode b_Ro_addAll 6 = .ok (.return_, 1) := by decide +kernel
theorem d_Ro_addGrown_0 : decode b_Ro_addGrown 0 = .ok (.iconst 0, 1) := by decide +kernel
theorem d_Ro_addGrown_1 : decode b_Ro_addGrown 1 = .ok (.istore_n 3, 1) := by decide +kernel
theorem d_Ro_addGrown_2 : decode b_Ro_addGrown 2 = .ok (.iload_n 3, 1) := by decide +kernel
theorem d_Ro_addGrown_3 : decode b_Ro_addGrown 3 = .ok (.bipush 30, 2) := by decide +kernel
theorem d_Ro_addGrown_5 : decode b_Ro_addGrown 5 = .ok (.if_icmp .ge 34, 3) := by decide +kernel
theorem d_Ro_addGrown_8 : decode b_Ro_addGrown 8 = .ok (.aload_n 1, 1) := by decide +kernel
theorem d_Ro_addGrown_9 : decode b_Ro_addGrown 9 = .ok (.iload_n 3, 1) := by decide +kernel
theorem d_Ro_addGrown_10 : decode b_Ro_addGrown 10 = .ok (.invokevirtual 25, 3) := by decide +kernel
theorem d_Ro_addGrown_13 : decode b_Ro_addGrown 13 = .ok (.ifCond .eq 20, 3) := by decide +kernel
theorem d_Ro_addGrown_16 : decode b_Ro_addGrown 16 = .ok (.aload_n 0, 1) := by decide +kernel
theorem d_Ro_addGrown_17 : decode b_Ro_addGrown 17 = .ok (.iconst 0, 1) := by decide +kernel
theorem d_Ro_addGrown_18 : decode b_Ro_addGrown 18 = .ok (.iload_n 3, 1) := by decide +kernel
theorem d_Ro_addGrown_19 : decode b_Ro_addGrown 19 = .ok (.iload_n 2, 1) := by decide +kernel
theorem d_Ro_addGrown_20 : decode b_Ro_addGrown 20 = .ok (.isub, 1) := by decide +kernel
theorem d_Ro_addGrown_21 : decode b_Ro_addGrown 21 = .ok (.invokestatic 32, 3) := by decide +kernel
theorem d_Ro_addGrown_24 : decode b_Ro_addGrown 24 = .ok (.aload_n 1, 1) := by decide +kernel
theorem d_Ro_addGrown_25 : decode b_Ro_addGrown 25 = .ok (.getfield 9, 3) := by decide +kernel
theorem d_Ro_addGrown_28 : decode b_Ro_addGrown 28 = .ok (.iload_n 3, 1) := by decide +kernel
theorem d_Ro_addGrown_29 : decode b_Ro_addGrown 29 = .ok (.iaload, 1) := by decide +kernel
theorem d_Ro_addGrown_30 : decode b_Ro_addGrown 30 = .ok (.invokevirtual 38, 3) := by decide +kernel
theorem d_Ro_addGrown_33 : decode b_Ro_addGrown 33 = .ok (.iinc 3 1, 3) := by decide +kernel
theorem d_Ro_addGrown_36 : decode b_Ro_addGrown 36 = .ok (.goto (-34), 3) := by decide +kernel
theorem d_Ro_addGrown_39 : decode b_Ro_addGrown 39 = .ok (.return_, 1) := by decide +kernel
theorem d_Ro_addEndingBefore_0 : decode b_Ro_addEndingBefore 0 = .ok (.iconst 0, 1) := by decide +kernel
theorem d_Ro_addEndingBefore_1 : decode b_Ro_addEndingBefore 1 = .ok (.istore_n 3, 1) := by decide +kernel
theorem d_Ro_addEndingBefore_2 : decode b_Ro_addEndingBefore 2 = .ok (.iload_n 3, 1) := by decide +kernel
theorem d_Ro_addEndingBefore_3 : decode b_Ro_addEndingBefore 3 = .ok (.bipush 30, 2) := by decide +kernel
theorem d_Ro_addEndingBefore_5 : decode b_Ro_addEndingBefore 5 = .ok (.if_icmp .ge 38, 3) := by decide +kernel
theorem d_Ro_addEndingBefore_8 : decode b_Ro_addEndingBefore 8 = .ok (.aload_n 1, 1) := by decide +kernel
theorem d_Ro_addEndingBefore_9 : decode b_Ro_addEndingBefore 9 = .ok (.iload_n 3, 1) := by decide +kernel
theorem d_Ro_addEndingBefore_10 : decode b_Ro_addEndingBefore 10 = .ok (.invokevirtual 25, 3) := by decide +kernel
theorem d_Ro_addEndingBefore_13 : decode b_Ro_addEndingBefore 13 = .ok (.ifCond .eq 24, 3) := by decide +kernel
theorem d_Ro_addEndingBefore_16 : decode b_Ro_addEndingBefore 16 = .ok (.aload_n 1, 1) := by decide +kernel
theorem d_Ro_addEndingBefore_17 : decode b_Ro_addEndingBefore 17 = .ok (.getfield 9, 3) := by decide +kernel
theorem d_Ro_addEndingBefore_20 : decode b_Ro_addEndingBefore 20 = .ok (.iload_n 3, 1) := by decide +kernel
theorem d_Ro_addEndingBefore_21 : decode b_Ro_addEndingBefore 21 = .ok (.iaload, 1) := by decide +kernel
theorem d_Ro_addEndingBefore_22 : decode b_Ro_addEndingBefore 22 = .ok (.iload_n 2, 1) := by decide +kernel
theorem d_Ro_addEndingBefore_23 : decode b_Ro_addEndingBefore 23 = .ok (.if_icmp .ge 14, 3) := by decide +kernel
theorem d_Ro_addEndingBefore_26 : decode b_Ro_addEndingBefore 26 = .ok (.aload_n 0, 1) := by decide +kernel
theorem d_Ro_addEndingBefore_27 : decode b_Ro_addEndingBefore 27 = .ok (.iload_n 3, 1) := by decide +kernel
theorem d_Ro_addEndingBefore_28 : decode b_Ro_addEndingBefore 28 = .ok (.aload_n 1, 1) := by decide +kernel
theorem d_Ro_addEndingBefore_29 : decode b_Ro_addEndingBefore 29 = .ok (.getfield 9, 3) := by decide +kernel
theorem d_Ro_addEndingBefore_32 : decode b_Ro_addEndingBefore 32 = .ok (.iload_n 3, 1) := by decide +kernel
theorem d_Ro_addEndingBefore_33 : decode b_Ro_addEndingBefore 33 = .ok (.iaload, 1) := by decide +kernel
theorem d_Ro_addEndingBefore_34 : decode b_Ro_addEndingBefore 34 = .ok (.invokevirtual 38, 3) := by decide +kernel
theorem d_Ro_addEndingBefore_37 : decode b_Ro_addEndingBefore 37 = .ok (.iinc 3 1, 3) := by decide +kernel
theorem d_Ro_addEndingBefore_40 : decode b_Ro_addEndingBefore 40 = .ok (.goto (-38), 3) := by decide +kernel
theorem d_Ro_addEndingBefore_43 : decode b_Ro_addEndingBefore 43 = .ok (.return_, 1) := by decide +kernel
theorem d_Ro_addBehind_0 : decode b_Ro_addBehind 0 = .ok (.iconst 0, 1) := by decide +kernel
theorem d_Ro_addBehind_1 : decode b_Ro_addBehind 1 = .ok (.istore 4, 2) := by decide +kernel
theorem d_Ro_addBehind_3 : decode b_Ro_addBehind 3 = .ok (.iload 4, 2) := by decide +kernel
theorem d_Ro_addBehind_5 : decode b_Ro_addBehind 5 = .ok (.bipush 30, 2) := by decide +kernel
theorem d_Ro_addBehind_7 : decode b_Ro_addBehind 7 = .ok (.if_icmp .ge 33, 3) := by decide +kernel
theorem d_Ro_addBehind_10 : decode b_Ro_addBehind 10 = .ok (.aload_n 1, 1) := by decide +kernel
theorem d_Ro_addBehind_11 : decode b_Ro_addBehind 11 = .ok (.iload 4, 2) := by decide +kernel
theorem d_Ro_addBehind_13 : decode b_Ro_addBehind 13 = .ok (.invokevirtual 25, 3) := by decide +kernel
theorem d_Ro_addBehind_16 : decode b_Ro_addBehind 16 = .ok (.ifCond .eq 18, 3) := by decide +kernel
theorem d_Ro_addBehind_19 : decode b_Ro_addBehind 19 = .ok (.aload_n 0, 1) := by decide +kernel
theorem d_Ro_addBehind_20 : decode b_Ro_addBehind 20 = .ok (.iload 4, 2) := by decide +kernel
theorem d_Ro_addBehind_22 : decode b_Ro_addBehind 22 = .ok (.aload_n 1, 1) := by decide +kernel
theorem d_Ro_addBehind_23 : decode b_Ro_addBehind 23 = .ok (.getfield 9, 3) := by decide +kernel
theorem d_Ro_addBehind_26 : decode b_Ro_addBehind 26 = .ok (.iload 4, 2) := by decide +kernel
theorem d_Ro_addBehind_28 : decode b_Ro_addBehind 28 = .ok (.iaload, 1) := by decide +kernel
theorem d_Ro_addBehind_29 : decode b_Ro_addBehind 29 = .ok (.aload_n 2, 1) := by decide +kernel
theorem d_Ro_addBehind_30 : decode b_Ro_addBehind 30 = .ok (.iload_n 3, 1) := by decide +kernel
theorem d_Ro_addBehind_31 : decode b_Ro_addBehind 31 = .ok (.invokevirtual 46, 3) := by decide +kernel
theorem d_Ro_addBehind_34 : decode b_Ro_addBehind 34 = .ok (.iinc 4 1, 3) := by decide +kernel
theorem d_Ro_addBehind_37 : decode b_Ro_addBehind 37 = .ok (.goto (-34), 3) := by decide +kernel
theorem d_Ro_addBehind_40 : decode b_Ro_addBehind 40 = .ok (.return_, 1) := by decide +kernel
theorem d_Ro_addBehindOne_0 : decode b_Ro_addBehindOne 0 = .ok (.iload_n 2, 1) := by decide +kernel
theorem d_Ro_addBehindOne_1 : decode b_Ro_addBehindOne 1 = .ok (.iconst 1, 1) := by decide +kernel
theorem d_Ro_addBehindOne_2 : decode b_Ro_addBehindOne 2 = .ok (.iadd, 1) := by decide +kernel
theorem d_Ro_addBehindOne_3 : decode b_Ro_addBehindOne 3 = .ok (.istore 5, 2) := by decide +kernel
theorem d_Ro_addBehindOne_5 : decode b_Ro_addBehindOne 5 = .ok (.iload 5, 2) := by decide +kernel
theorem d_Ro_addBehindOne_7 : decode b_Ro_addBehindOne 7 = .ok (.bipush 30, 2) := by decide +kernel
theorem d_Ro_addBehindOne_9 : decode b_Ro_addBehindOne 9 = .ok (.if_icmp .ge 41, 3) := by decide +kernel
theorem d_Ro_addBehindOne_12 : decode b_Ro_addBehindOne 12 = .ok (.iload 5, 2) := by decide +kernel
theorem d_Ro_addBehindOne_14 : decode b_Ro_addBehindOne 14 = .ok (.iload_n 2, 1) := by decide +kernel
theorem d_Ro_addBehindOne_15 : decode b_Ro_addBehindOne 15 = .ok (.isub, 1) := by decide +kernel
theorem d_Ro_addBehindOne_16 : decode b_Ro_addBehindOne 16 = .ok (.iconst 1, 1) := by decide +kernel
theorem d_Ro_addBehindOne_17 : decode b_Ro_addBehindOne 17 = .ok (.isub, 1) := by decide +kernel
theorem d_Ro_addBehindOne_18 : decode b_Ro_addBehindOne 18 = .ok (.iload 4, 2) := by decide +kernel
theorem d_Ro_addBehindOne_20 : decode b_Ro_addBehindOne 20 = .ok (.if_icmp .gt 30, 3) := by decide +kernel
theorem d_Ro_addBehindOne_23 : decode b_Ro_addBehindOne 23 = .ok (.aload_n 3, 1) := by decide +kernel
theorem d_Ro_addBehindOne_24 : decode b_Ro_addBehindOne 24 = .ok (.iload 5, 2) := by decide +kernel
theorem d_Ro_addBehindOne_26 : decode b_Ro_addBehindOne 26 = .ok (.invokevirtual 25, 3) := by decide +kernel
theorem d_Ro_addBehindOne_29 : decode b_Ro_addBehindOne 29 = .ok (.ifCond .eq 15, 3) := by decide +kernel
theorem d_Ro_addBehindOne_32 : decode b_Ro_addBehindOne 32 = .ok (.aload_n 0, 1) := by decide +kernel
theorem d_Ro_addBehindOne_33 : decode b_Ro_addBehindOne 33 = .ok (.iload_n 1, 1) := by decide +kernel
theorem d_Ro_addBehindOne_34 : decode b_Ro_addBehindOne 34 = .ok (.aload_n 3, 1) := by decide +kernel
theorem d_Ro_addBehindOne_35 : decode b_Ro_addBehindOne 35 = .ok (.getfield 9, 3) := by decide +kernel
theorem d_Ro_addBehindOne_38 : decode b_Ro_addBehindOne 38 = .ok (.iload 5, 2) := by decide +kernel
theorem d_Ro_addBehindOne_40 : decode b_Ro_addBehindOne 40 = .ok (.iaload, 1) := by decide +kernel
theorem d_Ro_addBehindOne_41 : decode b_Ro_addBehindOne 41 = .ok (.invokevirtual 38, 3) := by decide +kernel
theorem d_Ro_addBehindOne_44 : decode b_Ro_addBehindOne 44 = .ok (.iinc 5 1, 3) := by decide +kernel
theorem d_Ro_addBehindOne_47 : decode b_Ro_addBehindOne 47 = .ok (.goto (-42), 3) := by decide +kernel
theorem d_Ro_addBehindOne_50 : decode b_Ro_addBehindOne 50 = .ok (.return_, 1) := by decide +kernel
theorem d_Ro_addBoth_0 : decode b_Ro_addBoth 0 = .ok (.iconst 0, 1) := by decide +kernel
theorem d_Ro_addBoth_1 : decode b_Ro_addBoth 1 = .ok (.istore 4, 2) := by decide +kernel
theorem d_Ro_addBoth_3 : decode b_Ro_addBoth 3 = .ok (.iload 4, 2) := by decide +kernel
theorem d_Ro_addBoth_5 : decode b_Ro_addBoth 5 = .ok (.bipush 30, 2) := by decide +kernel
theorem d_Ro_addBoth_7 : decode b_Ro_addBoth 7 = .ok (.if_icmp .ge 33, 3) := by decide +kernel
theorem d_Ro_addBoth_10 : decode b_Ro_addBoth 10 = .ok (.aload_n 1, 1) := by decide +kernel
theorem d_Ro_addBoth_11 : decode b_Ro_addBoth 11 = .ok (.iload 4, 2) := by decide +kernel
theorem d_Ro_addBoth_13 : decode b_Ro_addBoth 13 = .ok (.invokevirtual 25, 3) := by decide +kernel
theorem d_Ro_addBoth_16 : decode b_Ro_addBoth 16 = .ok (.ifCond .eq 18, 3) := by decide +kernel
theorem d_Ro_addBoth_19 : decode b_Ro_addBoth 19 = .ok (.aload_n 0, 1) := by decide +kernel
theorem d_Ro_addBoth_20 : decode b_Ro_addBoth 20 = .ok (.iload 4, 2) := by decide +kernel
theorem d_Ro_addBoth_22 : decode b_Ro_addBoth 22 = .ok (.aload_n 1, 1) := by decide +kernel
theorem d_Ro_addBoth_23 : decode b_Ro_addBoth 23 = .ok (.getfield 9, 3) := by decide +kernel
theorem d_Ro_addBoth_26 : decode b_Ro_addBoth 26 = .ok (.iload 4, 2) := by decide +kernel
theorem d_Ro_addBoth_28 : decode b_Ro_addBoth 28 = .ok (.iaload, 1) := by decide +kernel
theorem d_Ro_addBoth_29 : decode b_Ro_addBoth 29 = .ok (.aload_n 2, 1) := by decide +kernel
theorem d_Ro_addBoth_30 : decode b_Ro_addBoth 30 = .ok (.iload_n 3, 1) := by decide +kernel
theorem d_Ro_addBoth_31 : decode b_Ro_addBoth 31 = .ok (.invokevirtual 50, 3) := by decide +kernel
theorem d_Ro_addBoth_34 : decode b_Ro_addBoth 34 = .ok (.iinc 4 1, 3) := by decide +kernel
theorem d_Ro_addBoth_37 : decode b_Ro_addBoth 37 = .ok (.goto (-34), 3) := by decide +kernel
theorem d_Ro_addBoth_40 : decode b_Ro_addBoth 40 = .ok (.return_, 1) := by decide +kernel
theorem d_Ro_addBothOfOne_0 : decode b_Ro_addBothOfOne 0 = .ok (.iconst 0, 1) := by decide +kernel
theorem d_Ro_addBothOfOne_1 : decode b_Ro_addBothOfOne 1 = .ok (.istore 5, 2) := by decide +kernel
theorem d_Ro_addBothOfOne_3 : decode b_Ro_addBothOfOne 3 = .ok (.iload 5, 2) := by decide +kernel
theorem d_Ro_addBothOfOne_5 : decode b_Ro_addBothOfOne 5 = .ok (.bipush 30, 2) := by decide +kernel
theorem d_Ro_addBothOfOne_7 : decode b_Ro_addBothOfOne 7 = .ok (.if_icmp .ge 59, 3) := by decide +kernel
theorem d_Ro_addBothOfOne_10 : decode b_Ro_addBothOfOne 10 = .ok (.aload_n 3, 1) := by decide +kernel
theorem d_Ro_addBothOfOne_11 : decode b_Ro_addBothOfOne 11 = .ok (.iload 5, 2) := by decide +kernel
theorem d_Ro_addBothOfOne_13 : decode b_Ro_addBothOfOne 13 = .ok (.invokevirtual 25, 3) := by decide +kernel
theorem d_Ro_addBothOfOne_16 : decode b_Ro_addBothOfOne 16 = .ok (.ifCond .eq 44, 3) := by decide +kernel
theorem d_Ro_addBothOfOne_19 : decode b_Ro_addBothOfOne 19 = .ok (.iload_n 1, 1) := by decide +kernel
theorem d_Ro_addBothOfOne_20 : decode b_Ro_addBothOfOne 20 = .ok (.iload 5, 2) := by decide +kernel
theorem d_Ro_addBothOfOne_22 : decode b_Ro_addBothOfOne 22 = .ok (.invokestatic 53, 3) := by decide +kernel
theorem d_Ro_addBothOfOne_25 : decode b_Ro_addBothOfOne 25 = .ok (.istore 6, 2) := by decide +kernel
theorem d_Ro_addBothOfOne_27 : decode b_Ro_addBothOfOne 27 = .ok (.iload_n 2, 1) := by decide +kernel
theorem d_Ro_addBothOfOne_28 : decode b_Ro_addBothOfOne 28 = .ok (.aload_n 3, 1) := by decide +kernel
theorem d_Ro_addBothOfOne_29 : decode b_Ro_addBothOfOne 29 = .ok (.getfield 9, 3) := by decide +kernel
theorem d_Ro_addBothOfOne_32 : decode b_Ro_addBothOfOne 32 = .ok (.iload 5, 2) := by decide +kernel
theorem d_Ro_addBothOfOne_34 : decode b_Ro_addBothOfOne 34 = .ok (.iaload, 1) := by decide +kernel
theorem d_Ro_addBothOfOne_35 : decode b_Ro_addBothOfOne 35 = .ok (.invokestatic 32, 3) := by decide +kernel
theorem d_Ro_addBothOfOne_38 : decode b_Ro_addBothOfOne 38 = .ok (.istore 7, 2) := by decide +kernel
theorem d_Ro_addBothOfOne_40 : decode b_Ro_addBothOfOne 40 = .ok (.iload 7, 2) := by decide +kernel
theorem d_Ro_addBothOfOne_42 : decode b_Ro_addBothOfOne 42 = .ok (.iload 6, 2) := by decide +kernel
theorem d_Ro_addBothOfOne_44 : decode b_Ro_addBothOfOne 44 = .ok (.isub, 1) := by decide +kernel
theorem d_Ro_addBothOfOne_45 : decode b_Ro_addBothOfOne 45 = .ok (.iconst 1, 1) := by decide +kernel
theorem d_Ro_addBothOfOne_46 : decode b_Ro_addBothOfOne 46 = .ok (.iadd, 1) := by decide +kernel
theorem d_Ro_addBothOfOne_47 : decode b_Ro_addBothOfOne 47 = .ok (.iload 4, 2) := by decide +kernel
theorem d_Ro_addBothOfOne_49 : decode b_Ro_addBothOfOne 49 = .ok (.if_icmp .gt 11, 3) := by decide +kernel
theorem d_Ro_addBothOfOne_52 : decode b_Ro_addBothOfOne 52 = .ok (.aload_n 0, 1) := by decide +kernel
theorem d_Ro_addBothOfOne_53 : decode b_Ro_addBothOfOne 53 = .ok (.iload 6, 2) := by decide +kernel
theorem d_Ro_addBothOfOne_55 : decode b_Ro_addBothOfOne 55 = .ok (.iload 7, 2) := by decide +kernel
theorem d_Ro_addBothOfOne_57 : decode b_Ro_addBothOfOne 57 = .ok (.invokevirtual 38, 3) := by decide +kernel
theorem d_Ro_addBothOfOne_60 : decode b_Ro_addBothOfOne 60 = .ok (.iinc 5 1, 3) := by decide +kernel
theorem d_Ro_addBothOfOne_63 : decode b_Ro_addBothOfOne 63 = .ok (.goto (-60), 3) := by decide +kernel
theorem d_Ro_addBothOfOne_66 : decode b_Ro_addBothOfOne 66 = .ok (.return_, 1) := by decide +kernel
theorem d_Ro_addHolding_0 : decode b_Ro_addHolding 0 = .ok (.iconst 0, 1) := by decide +kernel
theorem d_Ro_addHolding_1 : decode b_Ro_addHolding 1 = .ok (.istore_n 3, 1) := by decide +kernel
theorem d_Ro_addHolding_2 : decode b_Ro_addHolding 2 = .ok (.iload_n 3, 1) := by decide +kernel
theorem d_Ro_addHolding_3 : decode b_Ro_addHolding 3 = .ok (.bipush 30, 2) := by decide +kernel
theorem d_Ro_addHolding_5 : decode b_Ro_addHolding 5 = .ok (.if_icmp .ge 42, 3) := by decide +kernel
theorem d_Ro_addHolding_8 : decode b_Ro_addHolding 8 = .ok (.aload_n 1, 1) := by decide +kernel
theorem d_Ro_addHolding_9 : decode b_Ro_addHolding 9 = .ok (.iload_n 3, 1) := by decide +kernel
theorem d_Ro_addHolding_10 : decode b_Ro_addHolding 10 = .ok (.invokevirtual 25, 3) := by decide +kernel
theorem d_Ro_addHolding_13 : decode b_Ro_addHolding 13 = .ok (.ifCond .eq 28, 3) := by decide +kernel
theorem d_Ro_addHolding_16 : decode b_Ro_addHolding 16 = .ok (.aload_n 2, 1) := by decide +kernel
theorem d_Ro_addHolding_17 : decode b_Ro_addHolding 17 = .ok (.iload_n 3, 1) := by decide +kernel
theorem d_Ro_addHolding_18 : decode b_Ro_addHolding 18 = .ok (.aload_n 1, 1) := by decide +kernel
theorem d_Ro_addHolding_19 : decode b_Ro_addHolding 19 = .ok (.getfield 9, 3) := by decide +kernel
theorem d_Ro_addHolding_22 : decode b_Ro_addHolding 22 = .ok (.iload_n 3, 1) := by decide +kernel
theorem d_Ro_addHolding_23 : decode b_Ro_addHolding 23 = .ok (.iaload, 1) := by decide +kernel
theorem d_Ro_addHolding_24 : decode b_Ro_addHolding 24 = .ok (.invokevirtual 56, 3) := by decide +kernel
theorem d_Ro_addHolding_27 : decode b_Ro_addHolding 27 = .ok (.ifCond .eq 14, 3) := by decide +kernel
theorem d_Ro_addHolding_30 : decode b_Ro_addHolding 30 = .ok (.aload_n 0, 1) := by decide +kernel
theorem d_Ro_addHolding_31 : decode b_Ro_addHolding 31 = .ok (.iload_n 3, 1) := by decide +kernel
theorem d_Ro_addHolding_32 : decode b_Ro_addHolding 32 = .ok (.aload_n 1, 1) := by decide +kernel
theorem d_Ro_addHolding_33 : decode b_Ro_addHolding 33 = .ok (.getfield 9, 3) := by decide +kernel
theorem d_Ro_addHolding_36 : decode b_Ro_addHolding 36 = .ok (.iload_n 3, 1) := by decide +kernel
theorem d_Ro_addHolding_37 : decode b_Ro_addHolding 37 = .ok (.iaload, 1) := by decide +kernel
theorem d_Ro_addHolding_38 : decode b_Ro_addHolding 38 = .ok (.invokevirtual 38, 3) := by decide +kernel
theorem d_Ro_addHolding_41 : decode b_Ro_addHolding 41 = .ok (.iinc 3 1, 3) := by decide +kernel
theorem d_Ro_addHolding_44 : decode b_Ro_addHolding 44 = .ok (.goto (-42), 3) := by decide +kernel
theorem d_Ro_addHolding_47 : decode b_Ro_addHolding 47 = .ok (.return_, 1) := by decide +kernel
theorem d_Ro_addIn_0 : decode b_Ro_addIn 0 = .ok (.iconst 0, 1) := by decide +kernel
theorem d_Ro_addIn_1 : decode b_Ro_addIn 1 = .ok (.istore_n 3, 1) := by decide +kernel
theorem d_Ro_addIn_2 : decode b_Ro_addIn 2 = .ok (.iload_n 3, 1) := by decide +kernel
theorem d_Ro_addIn_3 : decode b_Ro_addIn 3 = .ok (.bipush 30, 2) := by decide +kernel
theorem d_Ro_addIn_5 : decode b_Ro_addIn 5 = .ok (.if_icmp .ge 42, 3) := by decide +kernel
theorem d_Ro_addIn_8 : decode b_Ro_addIn 8 = .ok (.aload_n 1, 1) := by decide +kernel
theorem d_Ro_addIn_9 : decode b_Ro_addIn 9 = .ok (.iload_n 3, 1) := by decide +kernel
theorem d_Ro_addIn_10 : decode b_Ro_addIn 10 = .ok (.invokevirtual 25, 3) := by decide +kernel
theorem d_Ro_addIn_13 : decode b_Ro_addIn 13 = .ok (.ifCond .eq 28, 3) := by decide +kernel
theorem d_Ro_addIn_16 : decode b_Ro_addIn 16 = .ok (.aload_n 2, 1) := by decide +kernel
theorem d_Ro_addIn_17 : decode b_Ro_addIn 17 = .ok (.iload_n 3, 1) := by decide +kernel
theorem d_Ro_addIn_18 : decode b_Ro_addIn 18 = .ok (.aload_n 1, 1) := by decide +kernel
theorem d_Ro_addIn_19 : decode b_Ro_addIn 19 = .ok (.getfield 9, 3) := by decide +kernel
theorem d_Ro_addIn_22 : decode b_Ro_addIn 22 = .ok (.iload_n 3, 1) := by decide +kernel
theorem d_Ro_addIn_23 : decode b_Ro_addIn 23 = .ok (.iaload, 1) := by decide +kernel
theorem d_Ro_addIn_24 : decode b_Ro_addIn 24 = .ok (.invokevirtual 60, 3) := by decide +kernel
theorem d_Ro_addIn_27 : decode b_Ro_addIn 27 = .ok (.ifCond .eq 14, 3) := by decide +kernel
theorem d_Ro_addIn_30 : decode b_Ro_addIn 30 = .ok (.aload_n 0, 1) := by decide +kernel
theorem d_Ro_addIn_31 : decode b_Ro_addIn 31 = .ok (.iload_n 3, 1) := by decide +kernel
theorem d_Ro_addIn_32 : decode b_Ro_addIn 32 = .ok (.aload_n 1, 1) := by decide +kernel
theorem d_Ro_addIn_33 : decode b_Ro_addIn 33 = .ok (.getfield 9, 3) := by decide +kernel
theorem d_Ro_addIn_36 : decode b_Ro_addIn 36 = .ok (.iload_n 3, 1) := by decide +kernel
theorem d_Ro_addIn_37 : decode b_Ro_addIn 37 = .ok (.iaload, 1) := by decide +kernel
theorem d_Ro_addIn_38 : decode b_Ro_addIn 38 = .ok (.invokevirtual 38, 3) := by decide +kernel
theorem d_Ro_addIn_41 : decode b_Ro_addIn 41 = .ok (.iinc 3 1, 3) := by decide +kernel
theorem d_Ro_addIn_44 : decode b_Ro_addIn 44 = .ok (.goto (-42), 3) := by decide +kernel
theorem d_Ro_addIn_47 : decode b_Ro_addIn 47 = .ok (.return_, 1) := by decide +kernel
theorem d_Ro_addByNearness_0 : decode b_Ro_addByNearness 0 = .ok (.iconst 0, 1) := by decide +kernel
theorem d_Ro_addByNearness_1 : decode b_Ro_addByNearness 1 = .ok (.istore 5, 2) := by decide +kernel
theorem d_Ro_addByNearness_3 : decode b_Ro_addByNearness 3 = .ok (.iload 5, 2) := by decide +kernel
theorem d_Ro_addByNearness_5 : decode b_Ro_addByNearness 5 = .ok (.bipush 30, 2) := by decide +kernel
theorem d_Ro_addByNearness_7 : decode b_Ro_addByNearness 7 = .ok (.if_icmp .ge 50, 3) := by decide +kernel
theorem d_Ro_addByNearness_10 : decode b_Ro_addByNearness 10 = .ok (.aload_n 1, 1) := by decide +kernel
theorem d_Ro_addByNearness_11 : decode b_Ro_addByNearness 11 = .ok (.iload 5, 2) := by decide +kernel
theorem d_Ro_addByNearness_13 : decode b_Ro_addByNearness 13 = .ok (.invokevirtual 25, 3) := by decide +kernel
theorem d_Ro_addByNearness_16 : decode b_Ro_addByNearness 16 = .ok (.ifCond .eq 35, 3) := by decide +kernel
theorem d_Ro_addByNearness_19 : decode b_Ro_addByNearness 19 = .ok (.aload_n 2, 1) := by decide +kernel
theorem d_Ro_addByNearness_20 : decode b_Ro_addByNearness 20 = .ok (.iload 5, 2) := by decide +kernel
theorem d_Ro_addByNearness_22 : decode b_Ro_addByNearness 22 = .ok (.aload_n 1, 1) := by decide +kernel
theorem d_Ro_addByNearness_23 : decode b_Ro_addByNearness 23 = .ok (.getfield 9, 3) := by decide +kernel
theorem d_Ro_addByNearness_26 : decode b_Ro_addByNearness 26 = .ok (.iload 5, 2) := by decide +kernel
theorem d_Ro_addByNearness_28 : decode b_Ro_addByNearness 28 = .ok (.iaload, 1) := by decide +kernel
theorem d_Ro_addByNearness_29 : decode b_Ro_addByNearness 29 = .ok (.iload_n 3, 1) := by decide +kernel
theorem d_Ro_addByNearness_30 : decode b_Ro_addByNearness 30 = .ok (.invokevirtual 63, 3) := by decide +kernel
theorem d_Ro_addByNearness_33 : decode b_Ro_addByNearness 33 = .ok (.iload 4, 2) := by decide +kernel
theorem d_Ro_addByNearness_35 : decode b_Ro_addByNearness 35 = .ok (.if_icmp .ne 16, 3) := by decide +kernel
theorem d_Ro_addByNearness_38 : decode b_Ro_addByNearness 38 = .ok (.aload_n 0, 1) := by decide +kernel
theorem d_Ro_addByNearness_39 : decode b_Ro_addByNearness 39 = .ok (.iload 5, 2) := by decide +kernel
theorem d_Ro_addByNearness_41 : decode b_Ro_addByNearness 41 = .ok (.aload_n 1, 1) := by decide +kernel
theorem d_Ro_addByNearness_42 : decode b_Ro_addByNearness 42 = .ok (.getfield 9, 3) := by decide +kernel
theorem d_Ro_addByNearness_45 : decode b_Ro_addByNearness 45 = .ok (.iload 5, 2) := by decide +kernel
theorem d_Ro_addByNearness_47 : decode b_Ro_addByNearness 47 = .ok (.iaload, 1) := by decide +kernel
theorem d_Ro_addByNearness_48 : decode b_Ro_addByNearness 48 = .ok (.invokevirtual 38, 3) := by decide +kernel
theorem d_Ro_addByNearness_51 : decode b_Ro_addByNearness 51 = .ok (.iinc 5 1, 3) := by decide +kernel
theorem d_Ro_addByNearness_54 : decode b_Ro_addByNearness 54 = .ok (.goto (-51), 3) := by decide +kernel
theorem d_Ro_addByNearness_57 : decode b_Ro_addByNearness 57 = .ok (.return_, 1) := by decide +kernel
theorem d_Ro_hasWithin_0 : decode b_Ro_hasWithin 0 = .ok (.iconst 0, 1) := by decide +kernel
theorem d_Ro_hasWithin_1 : decode b_Ro_hasWithin 1 = .ok (.iload_n 1, 1) := by decide +kernel
theorem d_Ro_hasWithin_2 : decode b_Ro_hasWithin 2 = .ok (.invokestatic 32, 3) := by decide +kernel
theorem d_Ro_hasWithin_5 : decode b_Ro_hasWithin 5 = .ok (.istore_n 3, 1) := by decide +kernel
theorem d_Ro_hasWithin_6 : decode b_Ro_hasWithin 6 = .ok (.iload_n 3, 1) := by decide +kernel
theorem d_Ro_hasWithin_7 : decode b_Ro_hasWithin 7 = .ok (.bipush 30, 2) := by decide +kernel
theorem d_Ro_hasWithin_9 : decode b_Ro_hasWithin 9 = .ok (.if_icmp .ge 29, 3) := by decide +kernel
theorem d_Ro_hasWithin_12 : decode b_Ro_hasWithin 12 = .ok (.aload_n 0, 1) := by decide +kernel
theorem d_Ro_hasWithin_13 : decode b_Ro_hasWithin 13 = .ok (.iload_n 3, 1) := by decide +kernel
theorem d_Ro_hasWithin_14 : decode b_Ro_hasWithin 14 = .ok (.invokevirtual 25, 3) := by decide +kernel
theorem d_Ro_hasWithin_17 : decode b_Ro_hasWithin 17 = .ok (.ifCond .eq 15, 3) := by decide +kernel
theorem d_Ro_hasWithin_20 : decode b_Ro_hasWithin 20 = .ok (.aload_n 0, 1) := by decide +kernel
theorem d_Ro_hasWithin_21 : decode b_Ro_hasWithin 21 = .ok (.getfield 9, 3) := by decide +kernel
theorem d_Ro_hasWithin_24 : decode b_Ro_hasWithin 24 = .ok (.iload_n 3, 1) := by decide +kernel
theorem d_Ro_hasWithin_25 : decode b_Ro_hasWithin 25 = .ok (.iaload, 1) := by decide +kernel
theorem d_Ro_hasWithin_26 : decode b_Ro_hasWithin 26 = .ok (.iload_n 2, 1) := by decide +kernel
theorem d_Ro_hasWithin_27 : decode b_Ro_hasWithin 27 = .ok (.if_icmp .gt 5, 3) := by decide +kernel
theorem d_Ro_hasWithin_30 : decode b_Ro_hasWithin 30 = .ok (.iconst 1, 1) := by decide +kernel
theorem d_Ro_hasWithin_31 : decode b_Ro_hasWithin 31 = .ok (.ireturn, 1) := by decide +kernel
theorem d_Ro_hasWithin_32 : decode b_Ro_hasWithin 32 = .ok (.iinc 3 1, 3) := by decide +kernel
theorem d_Ro_hasWithin_35 : decode b_Ro_hasWithin 35 = .ok (.goto (-29), 3) := by decide +kernel
theorem d_Ro_hasWithin_38 : decode b_Ro_hasWithin 38 = .ok (.iconst 0, 1) := by decide +kernel
theorem d_Ro_hasWithin_39 : decode b_Ro_hasWithin 39 = .ok (.ireturn, 1) := by decide +kernel
theorem d_Ro_hasAround_0 : decode b_Ro_hasAround 0 = .ok (.iconst 0, 1) := by decide +kernel
theorem d_Ro_hasAround_1 : decode b_Ro_hasAround 1 = .ok (.istore_n 3, 1) := by decide +kernel
theorem d_Ro_hasAround_2 : decode b_Ro_hasAround 2 = .ok (.iload_n 3, 1) := by decide +kernel
theorem d_Ro_hasAround_3 : decode b_Ro_hasAround 3 = .ok (.bipush 30, 2) := by decide +kernel
theorem d_Ro_hasAround_5 : decode b_Ro_hasAround 5 = .ok (.if_icmp .ge 34, 3) := by decide +kernel
theorem d_Ro_hasAround_8 : decode b_Ro_hasAround 8 = .ok (.iload_n 3, 1) := by decide +kernel
theorem d_Ro_hasAround_9 : decode b_Ro_hasAround 9 = .ok (.iload_n 1, 1) := by decide +kernel
theorem d_Ro_hasAround_10 : decode b_Ro_hasAround 10 = .ok (.if_icmp .gt 29, 3) := by decide +kernel
theorem d_Ro_hasAround_13 : decode b_Ro_hasAround 13 = .ok (.aload_n 0, 1) := by decide +kernel
theorem d_Ro_hasAround_14 : decode b_Ro_hasAround 14 = .ok (.iload_n 3, 1) := by decide +kernel
theorem d_Ro_hasAround_15 : decode b_Ro_hasAround 15 = .ok (.invokevirtual 25, 3) := by decide +kernel
theorem d_Ro_hasAround_18 : decode b_Ro_hasAround 18 = .ok (.ifCond .eq 15, 3) := by decide +kernel
theorem d_Ro_hasAround_21 : decode b_Ro_hasAround 21 = .ok (.aload_n 0, 1) := by decide +kernel
theorem d_Ro_hasAround_22 : decode b_Ro_hasAround 22 = .ok (.getfield 9, 3) := by decide +kernel
theorem d_Ro_hasAround_25 : decode b_Ro_hasAround 25 = .ok (.iload_n 3, 1) := by decide +kernel
theorem d_Ro_hasAround_26 : decode b_Ro_hasAround 26 = .ok (.iaload, 1) := by decide +kernel
theorem d_Ro_hasAround_27 : decode b_Ro_hasAround 27 = .ok (.iload_n 2, 1) := by decide +kernel
theorem d_Ro_hasAround_28 : decode b_Ro_hasAround 28 = .ok (.if_icmp .lt 5, 3) := by decide +kernel
theorem d_Ro_hasAround_31 : decode b_Ro_hasAround 31 = .ok (.iconst 1, 1) := by decide +kernel
theorem d_Ro_hasAround_32 : decode b_Ro_hasAround 32 = .ok (.ireturn, 1) := by decide +kernel
theorem d_Ro_hasAround_33 : decode b_Ro_hasAround 33 = .ok (.iinc 3 1, 3) := by decide +kernel
theorem d_Ro_hasAround_36 : decode b_Ro_hasAround 36 = .ok (.goto (-34), 3) := by decide +kernel
theorem d_Ro_hasAround_39 : decode b_Ro_hasAround 39 = .ok (.iconst 0, 1) := by decide +kernel
theorem d_Ro_hasAround_40 : decode b_Ro_hasAround 40 = .ok (.ireturn, 1) := by decide +kernel
theorem d_Ro_hasNear_0 : decode b_Ro_hasNear 0 = .ok (.iconst 0, 1) := by decide +kernel
theorem d_Ro_hasNear_1 : decode b_Ro_hasNear 1 = .ok (.istore 4, 2) := by decide +kernel
theorem d_Ro_hasNear_3 : decode b_Ro_hasNear 3 = .ok (.iload 4, 2) := by decide +kernel
theorem d_Ro_hasNear_5 : decode b_Ro_hasNear 5 = .ok (.bipush 30, 2) := by decide +kernel
theorem d_Ro_hasNear_7 : decode b_Ro_hasNear 7 = .ok (.if_icmp .ge 45, 3) := by decide +kernel
theorem d_Ro_hasNear_10 : decode b_Ro_hasNear 10 = .ok (.aload_n 0, 1) := by decide +kernel
theorem d_Ro_hasNear_11 : decode b_Ro_hasNear 11 = .ok (.iload 4, 2) := by decide +kernel
theorem d_Ro_hasNear_13 : decode b_Ro_hasNear 13 = .ok (.invokevirtual 25, 3) := by decide +kernel
theorem d_Ro_hasNear_16 : decode b_Ro_hasNear 16 = .ok (.ifCond .eq 30, 3) := by decide +kernel
theorem d_Ro_hasNear_19 : decode b_Ro_hasNear 19 = .ok (.iload 4, 2) := by decide +kernel
theorem d_Ro_hasNear_21 : decode b_Ro_hasNear 21 = .ok (.iload_n 2, 1) := by decide +kernel
theorem d_Ro_hasNear_22 : decode b_Ro_hasNear 22 = .ok (.isub, 1) := by decide +kernel
theorem d_Ro_hasNear_23 : decode b_Ro_hasNear 23 = .ok (.iconst 1, 1) := by decide +kernel
theorem d_Ro_hasNear_24 : decode b_Ro_hasNear 24 = .ok (.isub, 1) := by decide +kernel
theorem d_Ro_hasNear_25 : decode b_Ro_hasNear 25 = .ok (.iload_n 3, 1) := by decide +kernel
theorem d_Ro_hasNear_26 : decode b_Ro_hasNear 26 = .ok (.if_icmp .gt 20, 3) := by decide +kernel
theorem d_Ro_hasNear_29 : decode b_Ro_hasNear 29 = .ok (.iload_n 1, 1) := by decide +kernel
theorem d_Ro_hasNear_30 : decode b_Ro_hasNear 30 = .ok (.aload_n 0, 1) := by decide +kernel
theorem d_Ro_hasNear_31 : decode b_Ro_hasNear 31 = .ok (.getfield 9, 3) := by decide +kernel
theorem d_Ro_hasNear_34 : decode b_Ro_hasNear 34 = .ok (.iload 4, 2) := by decide +kernel
theorem d_Ro_hasNear_36 : decode b_Ro_hasNear 36 = .ok (.iaload, 1) := by decide +kernel
theorem d_Ro_hasNear_37 : decode b_Ro_hasNear 37 = .ok (.isub, 1) := by decide +kernel
theorem d_Ro_hasNear_38 : decode b_Ro_hasNear 38 = .ok (.iconst 1, 1) := by decide +kernel
theorem d_Ro_hasNear_39 : decode b_Ro_hasNear 39 = .ok (.isub, 1) := by decide +kernel
theorem d_Ro_hasNear_40 : decode b_Ro_hasNear 40 = .ok (.iload_n 3, 1) := by decide +kernel
theorem d_Ro_hasNear_41 : decode b_Ro_hasNear 41 = .ok (.if_icmp .gt 5, 3) := by decide +kernel
theorem d_Ro_hasNear_44 : decode b_Ro_hasNear 44 = .ok (.iconst 1, 1) := by decide +kernel
theorem d_Ro_hasNear_45 : decode b_Ro_hasNear 45 = .ok (.ireturn, 1) := by decide +kernel
theorem d_Ro_hasNear_46 : decode b_Ro_hasNear 46 = .ok (.iinc 4 1, 3) := by decide +kernel
theorem d_Ro_hasNear_49 : decode b_Ro_hasNear 49 = .ok (.goto (-46), 3) := by decide +kernel
theorem d_Ro_hasNear_52 : decode b_Ro_hasNear 52 = .ok (.iconst 0, 1) := by decide +kernel
theorem d_Ro_hasNear_53 : decode b_Ro_hasNear 53 = .ok (.ireturn, 1) := by decide +kernel
