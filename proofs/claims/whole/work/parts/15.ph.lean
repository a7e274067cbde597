theorem d_Ph_init_0 : decode b_Ph_init 0 = .ok (.aload_n 0, 1) := by decide +kernel
theorem d_Ph_init_1 : decode b_Ph_init 1 = .ok (.invokespecial 3, 3) := by decide +kernel
theorem d_Ph_init_4 : decode b_Ph_init 4 = .ok (.aload_n 0, 1) := by decide +kernel
theorem d_Ph_init_5 : decode b_Ph_init 5 = .ok (.iconst 4, 1) := by decide +kernel
theorem d_Ph_init_6 : decode b_Ph_init 6 = .ok (.newarray .int, 2) := by decide +kernel
theorem d_Ph_init_8 : decode b_Ph_init 8 = .ok (.putfield 9, 3) := by decide +kernel
theorem d_Ph_init_11 : decode b_Ph_init 11 = .ok (.aload_n 0, 1) := by decide +kernel
theorem d_Ph_init_12 : decode b_Ph_init 12 = .ok (.iconst 4, 1) := by decide +kernel
theorem d_Ph_init_13 : decode b_Ph_init 13 = .ok (.newarray .int, 2) := by decide +kernel
theorem d_Ph_init_15 : decode b_Ph_init 15 = .ok (.putfield 15, 3) := by decide +kernel
theorem d_Ph_init_18 : decode b_Ph_init 18 = .ok (.aload_n 0, 1) := by decide +kernel
theorem d_Ph_init_19 : decode b_Ph_init 19 = .ok (.iconst 0, 1) := by decide +kernel
theorem d_Ph_init_20 : decode b_Ph_init 20 = .ok (.putfield 18, 3) := by decide +kernel
theorem d_Ph_init_23 : decode b_Ph_init 23 = .ok (.aload_n 0, 1) := by decide +kernel
theorem d_Ph_init_24 : decode b_Ph_init 24 = .ok (.iconst 0, 1) := by decide +kernel
theorem d_Ph_init_25 : decode b_Ph_init 25 = .ok (.putfield 22, 3) := by decide +kernel
theorem d_Ph_init_28 : decode b_Ph_init 28 = .ok (.aload_n 0, 1) := by decide +kernel
theorem d_Ph_init_29 : decode b_Ph_init 29 = .ok (.iconst 4, 1) := by decide +kernel
theorem d_Ph_init_30 : decode b_Ph_init 30 = .ok (.bipush 30, 2) := by decide +kernel
theorem d_Ph_init_32 : decode b_Ph_init 32 = .ok (.multianewarray 26 2, 4) := by decide +kernel
theorem d_Ph_init_36 : decode b_Ph_init 36 = .ok (.putfield 28, 3) := by decide +kernel
theorem d_Ph_init_39 : decode b_Ph_init 39 = .ok (.aload_n 0, 1) := by decide +kernel
theorem d_Ph_init_40 : decode b_Ph_init 40 = .ok (.iconst 4, 1) := by decide +kernel
theorem d_Ph_init_41 : decode b_Ph_init 41 = .ok (.newarray .int, 2) := by decide +kernel
theorem d_Ph_init_43 : decode b_Ph_init 43 = .ok (.putfield 31, 3) := by decide +kernel
theorem d_Ph_init_46 : decode b_Ph_init 46 = .ok (.aload_n 0, 1) := by decide +kernel
theorem d_Ph_init_47 : decode b_Ph_init 47 = .ok (.iconst 4, 1) := by decide +kernel
theorem d_Ph_init_48 : decode b_Ph_init 48 = .ok (.newarray .int, 2) := by decide +kernel
theorem d_Ph_init_50 : decode b_Ph_init 50 = .ok (.putfield 34, 3) := by decide +kernel
theorem d_Ph_init_53 : decode b_Ph_init 53 = .ok (.aload_n 0, 1) := by decide +kernel
theorem d_Ph_init_54 : decode b_Ph_init 54 = .ok (.iconst 4, 1) := by decide +kernel
theorem d_Ph_init_55 : decode b_Ph_init 55 = .ok (.newarray .int, 2) := by decide +kernel
theorem d_Ph_init_57 : decode b_Ph_init 57 = .ok (.putfield 37, 3) := by decide +kernel
theorem d_Ph_init_60 : decode b_Ph_init 60 = .ok (.aload_n 0, 1) := by decide +kernel
theorem d_Ph_init_61 : decode b_Ph_init 61 = .ok (.bipush 77, 2) := by decide +kernel
theorem d_Ph_init_63 : decode b_Ph_init 63 = .ok (.newarray .int, 2) := by decide +kernel
theorem d_Ph_init_65 : decode b_Ph_init 65 = .ok (.putfield 40, 3) := by decide +kernel
theorem d_Ph_init_68 : decode b_Ph_init 68 = .ok (.aload_n 0, 1) := by decide +kernel
theorem d_Ph_init_69 : decode b_Ph_init 69 = .ok (.bipush 77, 2) := by decide +kernel
theorem d_Ph_init_71 : decode b_Ph_init 71 = .ok (.putfield 43, 3) := by decide +kernel
theorem d_Ph_init_74 : decode b_Ph_init 74 = .ok (.aload_n 0, 1) := by decide +kernel
theorem d_Ph_init_75 : decode b_Ph_init 75 = .ok (.iconst 0, 1) := by decide +kernel
theorem d_Ph_init_76 : decode b_Ph_init 76 = .ok (.putfield 46, 3) := by decide +kernel
theorem d_Ph_init_79 : decode b_Ph_init 79 = .ok (.aload_n 0, 1) := by decide +kernel
theorem d_Ph_init_80 : decode b_Ph_init 80 = .ok (.bipush 30, 2) := by decide +kernel
theorem d_Ph_init_82 : decode b_Ph_init 82 = .ok (.putfield 49, 3) := by decide +kernel
theorem d_Ph_init_85 : decode b_Ph_init 85 = .ok (.return_, 1) := by decide +kernel
theorem d_Ph_has_0 : decode b_Ph_has 0 = .ok (.iload_n 1, 1) := by decide +kernel
theorem d_Ph_has_1 : decode b_Ph_has 1 = .ok (.ifCond .lt 15, 3) := by decide +kernel
theorem d_Ph_has_4 : decode b_Ph_has 4 = .ok (.iload_n 1, 1) := by decide +kernel
theorem d_Ph_has_5 : decode b_Ph_has 5 = .ok (.aload_n 0, 1) := by decide +kernel
theorem d_Ph_has_6 : decode b_Ph_has 6 = .ok (.getfield 18, 3) := by decide +kernel
theorem d_Ph_has_9 : decode b_Ph_has 9 = .ok (.if_icmp .ge 7, 3) := by decide +kernel
theorem d_Ph_has_12 : decode b_Ph_has 12 = .ok (.iconst 1, 1) := by decide +kernel
theorem d_Ph_has_13 : decode b_Ph_has 13 = .ok (.goto 4, 3) := by decide +kernel
theorem d_Ph_has_16 : decode b_Ph_has 16 = .ok (.iconst 0, 1) := by decide +kernel
theorem d_Ph_has_17 : decode b_Ph_has 17 = .ok (.ireturn, 1) := by decide +kernel
theorem d_Ph_append_0 : decode b_Ph_append 0 = .ok (.aload_n 0, 1) := by decide +kernel
theorem d_Ph_append_1 : decode b_Ph_append 1 = .ok (.getfield 18, 3) := by decide +kernel
theorem d_Ph_append_4 : decode b_Ph_append 4 = .ok (.iconst 4, 1) := by decide +kernel
theorem d_Ph_append_5 : decode b_Ph_append 5 = .ok (.if_icmp .lt 6, 3) := by decide +kernel
theorem d_Ph_append_8 : decode b_Ph_append 8 = .ok (.bipush (-4), 2) := by decide +kernel
theorem d_Ph_append_10 : decode b_Ph_append 10 = .ok (.ireturn, 1) := by decide +kernel
theorem d_Ph_append_11 : decode b_Ph_append 11 = .ok (.aload_n 0, 1) := by decide +kernel
theorem d_Ph_append_12 : decode b_Ph_append 12 = .ok (.getfield 9, 3) := by decide +kernel
theorem d_Ph_append_15 : decode b_Ph_append 15 = .ok (.aload_n 0, 1) := by decide +kernel
theorem d_Ph_append_16 : decode b_Ph_append 16 = .ok (.getfield 18, 3) := by decide +kernel
theorem d_Ph_append_19 : decode b_Ph_append 19 = .ok (.iload_n 1, 1) := by decide +kernel
theorem d_Ph_append_20 : decode b_Ph_append 20 = .ok (.iastore, 1) := by decide +kernel
theorem d_Ph_append_21 : decode b_Ph_append 21 = .ok (.aload_n 0, 1) := by decide +kernel
theorem d_Ph_append_22 : decode b_Ph_append 22 = .ok (.getfield 15, 3) := by decide +kernel
theorem d_Ph_append_25 : decode b_Ph_append 25 = .ok (.aload_n 0, 1) := by decide +kernel
theorem d_Ph_append_26 : decode b_Ph_append 26 = .ok (.getfield 18, 3) := by decide +kernel
theorem d_Ph_append_29 : decode b_Ph_append 29 = .ok (.iload_n 2, 1) := by decide +kernel
theorem d_Ph_append_30 : decode b_Ph_append 30 = .ok (.iastore, 1) := by decide +kernel
theorem d_Ph_append_31 : decode b_Ph_append 31 = .ok (.aload_n 0, 1) := by decide +kernel
theorem d_Ph_append_32 : decode b_Ph_append 32 = .ok (.dup, 1) := by decide +kernel
theorem d_Ph_append_33 : decode b_Ph_append 33 = .ok (.getfield 18, 3) := by decide +kernel
theorem d_Ph_append_36 : decode b_Ph_append 36 = .ok (.iconst 1, 1) := by decide +kernel
theorem d_Ph_append_37 : decode b_Ph_append 37 = .ok (.iadd, 1) := by decide +kernel
theorem d_Ph_append_38 : decode b_Ph_append 38 = .ok (.putfield 18, 3) := by decide +kernel
theorem d_Ph_append_41 : decode b_Ph_append 41 = .ok (.aload_n 0, 1) := by decide +kernel
theorem d_Ph_append_42 : decode b_Ph_append 42 = .ok (.invokevirtual 52, 3) := by decide +kernel
theorem d_Ph_append_45 : decode b_Ph_append 45 = .ok (.aload_n 0, 1) := by decide +kernel
theorem d_Ph_append_46 : decode b_Ph_append 46 = .ok (.getfield 18, 3) := by decide +kernel
theorem d_Ph_append_49 : decode b_Ph_append 49 = .ok (.iconst 1, 1) := by decide +kernel
theorem d_Ph_append_50 : decode b_Ph_append 50 = .ok (.isub, 1) := by decide +kernel
theorem d_Ph_append_51 : decode b_Ph_append 51 = .ok (.ireturn, 1) := by decide +kernel
theorem d_Ph_dropAll_0 : decode b_Ph_dropAll 0 = .ok (.aload_n 0, 1) := by decide +kernel
theorem d_Ph_dropAll_1 : decode b_Ph_dropAll 1 = .ok (.getfield 18, 3) := by decide +kernel
theorem d_Ph_dropAll_4 : decode b_Ph_dropAll 4 = .ok (.istore_n 1, 1) := by decide +kernel
theorem d_Ph_dropAll_5 : decode b_Ph_dropAll 5 = .ok (.aload_n 0, 1) := by decide +kernel
theorem d_Ph_dropAll_6 : decode b_Ph_dropAll 6 = .ok (.iconst 0, 1) := by decide +kernel
theorem d_Ph_dropAll_7 : decode b_Ph_dropAll 7 = .ok (.putfield 18, 3) := by decide +kernel
theorem d_Ph_dropAll_10 : decode b_Ph_dropAll 10 = .ok (.aload_n 0, 1) := by decide +kernel
theorem d_Ph_dropAll_11 : decode b_Ph_dropAll 11 = .ok (.invokevirtual 52, 3) := by decide +kernel
theorem d_Ph_dropAll_14 : decode b_Ph_dropAll 14 = .ok (.iload_n 1, 1) := by decide +kernel
theorem d_Ph_dropAll_15 : decode b_Ph_dropAll 15 = .ok (.ireturn, 1) := by decide +kernel
theorem d_Ph_outdate_0 : decode b_Ph_outdate 0 = .ok (.aload_n 0, 1) := by decide +kernel
theorem d_Ph_outdate_1 : decode b_Ph_outdate 1 = .ok (.iconst 0, 1) := by decide +kernel
theorem d_Ph_outdate_2 : decode b_Ph_outdate 2 = .ok (.putfield 22, 3) := by decide +kernel
theorem d_Ph_outdate_5 : decode b_Ph_outdate 5 = .ok (.return_, 1) := by decide +kernel
theorem d_Ph_hasChoice_0 : decode b_Ph_hasChoice 0 = .ok (.aload_n 0, 1) := by decide +kernel
theorem d_Ph_hasChoice_1 : decode b_Ph_hasChoice 1 = .ok (.getfield 43, 3) := by decide +kernel
theorem d_Ph_hasChoice_4 : decode b_Ph_hasChoice 4 = .ok (.bipush 77, 2) := by decide +kernel
theorem d_Ph_hasChoice_6 : decode b_Ph_hasChoice 6 = .ok (.if_icmp .eq 7, 3) := by decide +kernel
theorem d_Ph_hasChoice_9 : decode b_Ph_hasChoice 9 = .ok (.iconst 1, 1) := by decide +kernel
theorem d_Ph_hasChoice_10 : decode b_Ph_hasChoice 10 = .ok (.goto 4, 3) := by decide +kernel
theorem d_Ph_hasChoice_13 : decode b_Ph_hasChoice 13 = .ok (.iconst 0, 1) := by decide +kernel
theorem d_Ph_hasChoice_14 : decode b_Ph_hasChoice 14 = .ok (.ireturn, 1) := by decide +kernel
theorem d_Ph_leastMoved_0 : decode b_Ph_leastMoved 0 = .ok (.aload_n 0, 1) := by decide +kernel
theorem d_Ph_leastMoved_1 : decode b_Ph_leastMoved 1 = .ok (.getfield 43, 3) := by decide +kernel
theorem d_Ph_leastMoved_4 : decode b_Ph_leastMoved 4 = .ok (.ireturn, 1) := by decide +kernel
theorem d_Ph_placeInFirst_0 : decode b_Ph_placeInFirst 0 = .ok (.aload_n 0, 1) := by decide +kernel
theorem d_Ph_placeInFirst_1 : decode b_Ph_placeInFirst 1 = .ok (.iload_n 1, 1) := by decide +kernel
theorem d_Ph_placeInFirst_2 : decode b_Ph_placeInFirst 2 = .ok (.invokevirtual 55, 3) := by decide +kernel
theorem d_Ph_placeInFirst_5 : decode b_Ph_placeInFirst 5 = .ok (.ifCond .eq 12, 3) := by decide +kernel
theorem d_Ph_placeInFirst_8 : decode b_Ph_placeInFirst 8 = .ok (.aload_n 0, 1) := by decide +kernel
theorem d_Ph_placeInFirst_9 : decode b_Ph_placeInFirst 9 = .ok (.getfield 37, 3) := by decide +kernel
theorem d_Ph_placeInFirst_12 : decode b_Ph_placeInFirst 12 = .ok (.iload_n 1, 1) := by decide +kernel
theorem d_Ph_placeInFirst_13 : decode b_Ph_placeInFirst 13 = .ok (.iaload, 1) := by decide +kernel
theorem d_Ph_placeInFirst_14 : decode b_Ph_placeInFirst 14 = .ok (.goto 4, 3) := by decide +kernel
theorem d_Ph_placeInFirst_17 : decode b_Ph_placeInFirst 17 = .ok (.iconst (-1), 1) := by decide +kernel
theorem d_Ph_placeInFirst_18 : decode b_Ph_placeInFirst 18 = .ok (.ireturn, 1) := by decide +kernel
theorem d_Ph_shortestBegin_0 : decode b_Ph_shortestBegin 0 = .ok (.aload_n 0, 1) := by decide +kernel
theorem d_Ph_shortestBegin_1 : decode b_Ph_shortestBegin 1 = .ok (.getfield 46, 3) := by decide +kernel
theorem d_Ph_shortestBegin_4 : decode b_Ph_shortestBegin 4 = .ok (.ireturn, 1) := by decide +kernel
theorem d_Ph_shortestEnd_0 : decode b_Ph_shortestEnd 0 = .ok (.aload_n 0, 1) := by decide +kernel
theorem d_Ph_shortestEnd_1 : decode b_Ph_shortestEnd 1 = .ok (.getfield 49, 3) := by decide +kernel
theorem d_Ph_shortestEnd_4 : decode b_Ph_shortestEnd 4 = .ok (.ireturn, 1) := by decide +kernel
theorem d_Ph_choicesMovedBy_0 : decode b_Ph_choicesMovedBy 0 = .ok (.iload_n 1, 1) := by decide +kernel
theorem d_Ph_choicesMovedBy_1 : decode b_Ph_choicesMovedBy 1 = .ok (.ifCond .lt 18, 3) := by decide +kernel
theorem d_Ph_choicesMovedBy_4 : decode b_Ph_choicesMovedBy 4 = .ok (.iload_n 1, 1) := by decide +kernel
theorem d_Ph_choicesMovedBy_5 : decode b_Ph_choicesMovedBy 5 = .ok (.bipush 76, 2) := by decide +kernel
theorem d_Ph_choicesMovedBy_7 : decode b_Ph_choicesMovedBy 7 = .ok (.if_icmp .gt 12, 3) := by decide +kernel
theorem d_Ph_choicesMovedBy_10 : decode b_Ph_choicesMovedBy 10 = .ok (.aload_n 0, 1) := by decide +kernel
theorem d_Ph_choicesMovedBy_11 : decode b_Ph_choicesMovedBy 11 = .ok (.getfield 40, 3) := by decide +kernel
theorem d_Ph_choicesMovedBy_14 : decode b_Ph_choicesMovedBy 14 = .ok (.iload_n 1, 1) := by decide +kernel
theorem d_Ph_choicesMovedBy_15 : decode b_Ph_choicesMovedBy 15 = .ok (.iaload, 1) := by decide +kernel
theorem d_Ph_choicesMovedBy_16 : decode b_Ph_choicesMovedBy 16 = .ok (.goto 4, 3) := by decide +kernel
theorem d_Ph_choicesMovedBy_19 : decode b_Ph_choicesMovedBy 19 = .ok (.iconst 0, 1) := by decide +kernel
theorem d_Ph_choicesMovedBy_20 : decode b_Ph_choicesMovedBy 20 = .ok (.ireturn, 1) := by decide +kernel
theorem d_Ph_choicesUpTo_0 : decode b_Ph_choicesUpTo 0 = .ok (.iconst 0, 1) := by decide +kernel
theorem d_Ph_choicesUpTo_1 : decode b_Ph_choicesUpTo 1 = .ok (.istore_n 2, 1) := by decide +kernel
theorem d_Ph_choicesUpTo_2 : decode b_Ph_choicesUpTo 2 = .ok (.iconst 0, 1) := by decide +kernel
theorem d_Ph_choicesUpTo_3 : decode b_Ph_choicesUpTo 3 = .ok (.istore_n 3, 1) := by decide +kernel
theorem d_Ph_choicesUpTo_4 : decode b_Ph_choicesUpTo 4 = .ok (.iload_n 3, 1) := by decide +kernel
theorem d_Ph_choicesUpTo_5 : decode b_Ph_choicesUpTo 5 = .ok (.iload_n 1, 1) := by decide +kernel
theorem d_Ph_choicesUpTo_6 : decode b_Ph_choicesUpTo 6 = .ok (.if_icmp .gt 24, 3) := by decide +kernel
theorem d_Ph_choicesUpTo_9 : decode b_Ph_choicesUpTo 9 = .ok (.iload_n 3, 1) := by decide +kernel
theorem d_Ph_choicesUpTo_10 : decode b_Ph_choicesUpTo 10 = .ok (.bipush 9, 2) := by decide +kernel
theorem d_Ph_choicesUpTo_12 : decode b_Ph_choicesUpTo 12 = .ok (.if_icmp .gt 18, 3) := by decide +kernel
theorem d_Ph_choicesUpTo_15 : decode b_Ph_choicesUpTo 15 = .ok (.iload_n 2, 1) := by decide +kernel
theorem d_Ph_choicesUpTo_16 : decode b_Ph_choicesUpTo 16 = .ok (.aload_n 0, 1) := by decide +kernel
theorem d_Ph_choicesUpTo_17 : decode b_Ph_choicesUpTo 17 = .ok (.getfield 40, 3) := by decide +kernel
theorem d_Ph_choicesUpTo_20 : decode b_Ph_choicesUpTo 20 = .ok (.iload_n 3, 1) := by decide +kernel
theorem d_Ph_choicesUpTo_21 : decode b_Ph_choicesUpTo 21 = .ok (.iaload, 1) := by decide +kernel
theorem d_Ph_choicesUpTo_22 : decode b_Ph_choicesUpTo 22 = .ok (.iadd, 1) := by decide +kernel
theorem d_Ph_choicesUpTo_23 : decode b_Ph_choicesUpTo 23 = .ok (.istore_n 2, 1) := by decide +kernel
theorem d_Ph_choicesUpTo_24 : decode b_Ph_choicesUpTo 24 = .ok (.iinc 3 1, 3) := by decide +kernel
theorem d_Ph_choicesUpTo_27 : decode b_Ph_choicesUpTo 27 = .ok (.goto (-23), 3) := by decide +kernel
theorem d_Ph_choicesUpTo_30 : decode b_Ph_choicesUpTo 30 = .ok (.iload_n 2, 1) := by decide +kernel
theorem d_Ph_choicesUpTo_31 : decode b_Ph_choicesUpTo 31 = .ok (.ireturn, 1) := by decide +kernel
theorem d_Ph_weightUpTo_0 : decode b_Ph_weightUpTo 0 = .ok (.lconst 0, 1) := by decide +kernel
theorem d_Ph_weightUpTo_1 : decode b_Ph_weightUpTo 1 = .ok (.lstore_n 2, 1) := by decide +kernel
theorem d_Ph_weightUpTo_2 : decode b_Ph_weightUpTo 2 = .ok (.iconst 0, 1) := by decide +kernel
theorem d_Ph_weightUpTo_3 : decode b_Ph_weightUpTo 3 = .ok (.istore 4, 2) := by decide +kernel
theorem d_Ph_weightUpTo_5 : decode b_Ph_weightUpTo 5 = .ok (.iload 4, 2) := by decide +kernel
theorem d_Ph_weightUpTo_7 : decode b_Ph_weightUpTo 7 = .ok (.iload_n 1, 1) := by decide +kernel
theorem d_Ph_weightUpTo_8 : decode b_Ph_weightUpTo 8 = .ok (.if_icmp .gt 37, 3) := by decide +kernel
theorem d_Ph_weightUpTo_11 : decode b_Ph_weightUpTo 11 = .ok (.iload 4, 2) := by decide +kernel
theorem d_Ph_weightUpTo_13 : decode b_Ph_weightUpTo 13 = .ok (.bipush 9, 2) := by decide +kernel
theorem d_Ph_weightUpTo_15 : decode b_Ph_weightUpTo 15 = .ok (.if_icmp .gt 30, 3) := by decide +kernel
theorem d_Ph_weightUpTo_18 : decode b_Ph_weightUpTo 18 = .ok (.lload_n 2, 1) := by decide +kernel
theorem d_Ph_weightUpTo_19 : decode b_Ph_weightUpTo 19 = .ok (.aload_n 0, 1) := by decide +kernel
theorem d_Ph_weightUpTo_20 : decode b_Ph_weightUpTo 20 = .ok (.getfield 40, 3) := by decide +kernel
theorem d_Ph_weightUpTo_23 : decode b_Ph_weightUpTo 23 = .ok (.iload 4, 2) := by decide +kernel
theorem d_Ph_weightUpTo_25 : decode b_Ph_weightUpTo 25 = .ok (.iaload, 1) := by decide +kernel
theorem d_Ph_weightUpTo_26 : decode b_Ph_weightUpTo 26 = .ok (.i2l, 1) := by decide +kernel
theorem d_Ph_weightUpTo_27 : decode b_Ph_weightUpTo 27 = .ok (.ldc2_w 59, 3) := by decide +kernel
theorem d_Ph_weightUpTo_30 : decode b_Ph_weightUpTo 30 = .ok (.iload 4, 2) := by decide +kernel
theorem d_Ph_weightUpTo_32 : decode b_Ph_weightUpTo 32 = .ok (.iconst 1, 1) := by decide +kernel
theorem d_Ph_weightUpTo_33 : decode b_Ph_weightUpTo 33 = .ok (.iadd, 1) := by decide +kernel
theorem d_Ph_weightUpTo_34 : decode b_Ph_weightUpTo 34 = .ok (.i2l, 1) := by decide +kernel
theorem d_Ph_weightUpTo_35 : decode b_Ph_weightUpTo 35 = .ok (.ldiv, 1) := by decide +kernel
theorem d_Ph_weightUpTo_36 : decode b_Ph_weightUpTo 36 = .ok (.lmul, 1) := by decide +kernel
theorem d_Ph_weightUpTo_37 : decode b_Ph_weightUpTo 37 = .ok (.ladd, 1) := by decide +kernel
theorem d_Ph_weightUpTo_38 : decode b_Ph_weightUpTo 38 = .ok (.lstore_n 2, 1) := by decide +kernel
theorem d_Ph_weightUpTo_39 : decode b_Ph_weightUpTo 39 = .ok (.iinc 4 1, 3) := by decide +kernel
theorem d_Ph_weightUpTo_42 : decode b_Ph_weightUpTo 42 = .ok (.goto (-37), 3) := by decide +kernel
theorem d_Ph_weightUpTo_45 : decode b_Ph_weightUpTo 45 = .ok (.lload_n 2, 1) := by decide +kernel
theorem d_Ph_weightUpTo_46 : decode b_Ph_weightUpTo 46 = .ok (.lreturn, 1) := by decide +kernel
theorem d_Ph_settle_0 : decode b_Ph_settle 0 = .ok (.aload_n 0, 1) := by decide +kernel
theorem d_Ph_settle_1 : decode b_Ph_settle 1 = .ok (.getfield 22, 3) := by decide +kernel
theorem d_Ph_settle_4 : decode b_Ph_settle 4 = .ok (.ifCond .eq 4, 3) := by decide +kernel
theorem d_Ph_settle_7 : decode b_Ph_settle 7 = .ok (.return_, 1) := by decide +kernel
theorem d_Ph_settle_8 : decode b_Ph_settle 8 = .ok (.aload_n 0, 1) := by decide +kernel
theorem d_Ph_settle_9 : decode b_Ph_settle 9 = .ok (.getfield 40, 3) := by decide +kernel
theorem d_Ph_settle_12 : decode b_Ph_settle 12 = .ok (.iconst 0, 1) := by decide +kernel
theorem d_Ph_settle_13 : decode b_Ph_settle 13 = .ok (.invokestatic 61, 3) := by decide +kernel
theorem d_Ph_settle_16 : decode b_Ph_settle 16 = .ok (.aload_n 0, 1) := by decide +kernel
theorem d_Ph_settle_17 : decode b_Ph_settle 17 = .ok (.bipush 77, 2) := by decide +kernel
theorem d_Ph_settle_19 : decode b_Ph_settle 19 = .ok (.putfield 43, 3) := by decide +kernel
theorem d_Ph_settle_22 : decode b_Ph_settle 22 = .ok (.aload_n 0, 1) := by decide +kernel
theorem d_Ph_settle_23 : decode b_Ph_settle 23 = .ok (.iconst 0, 1) := by decide +kernel
theorem d_Ph_settle_24 : decode b_Ph_settle 24 = .ok (.putfield 46, 3) := by decide +kernel
theorem d_Ph_settle_27 : decode b_Ph_settle 27 = .ok (.aload_n 0, 1) := by decide +kernel
theorem d_Ph_settle_28 : decode b_Ph_settle 28 = .ok (.bipush 30, 2) := by decide +kernel
theorem d_Ph_settle_30 : decode b_Ph_settle 30 = .ok (.putfield 49, 3) := by decide +kernel
theorem d_Ph_settle_33 : decode b_Ph_settle 33 = .ok (.aload_n 0, 1) := by decide +kernel
theorem d_Ph_settle_34 : decode b_Ph_settle 34 = .ok (.getfield 18, 3) := by decide +kernel
theorem d_Ph_settle_37 : decode b_Ph_settle 37 = .ok (.ifCond .le 26, 3) := by decide +kernel
theorem d_Ph_settle_40 : decode b_Ph_settle 40 = .ok (.aload_n 0, 1) := by decide +kernel
theorem d_Ph_settle_41 : decode b_Ph_settle 41 = .ok (.aload_n 1, 1) := by decide +kernel
theorem d_Ph_settle_42 : decode b_Ph_settle 42 = .ok (.invokevirtual 67, 3) := by decide +kernel
theorem d_Ph_settle_45 : decode b_Ph_settle 45 = .ok (.aload_n 0, 1) := by decide +kernel
theorem d_Ph_settle_46 : decode b_Ph_settle 46 = .ok (.iconst 0, 1) := by decide +kernel
theorem d_Ph_settle_47 : decode b_Ph_settle 47 = .ok (.iconst 0, 1) := by decide +kernel
theorem d_Ph_settle_48 : decode b_Ph_settle 48 = .ok (.bipush (-9), 2) := by decide +kernel
theorem d_Ph_settle_50 : decode b_Ph_settle 50 = .ok (.bipush 29, 2) := by decide +kernel
theorem d_Ph_settle_52 : decode b_Ph_settle 52 = .ok (.invokevirtual 71, 3) := by decide +kernel
theorem d_Ph_settle_55 : decode b_Ph_settle 55 = .ok (.aload_n 0, 1) := by decide +kernel
theorem d_Ph_settle_56 : decode b_Ph_settle 56 = .ok (.iconst 0, 1) := by decide +kernel
theorem d_Ph_settle_57 : decode b_Ph_settle 57 = .ok (.bipush 30, 2) := by decide +kernel
theorem d_Ph_settle_59 : decode b_Ph_settle 59 = .ok (.iconst (-1), 1) := by decide +kernel
theorem d_Ph_settle_60 : decode b_Ph_settle 60 = .ok (.invokevirtual 75, 3) := by decide +kernel
theorem d_Ph_settle_63 : decode b_Ph_settle 63 = .ok (.aload_n 0, 1) := by decide +kernel
theorem d_Ph_settle_64 : decode b_Ph_settle 64 = .ok (.iconst 1, 1) := by decide +kernel
theorem d_Ph_settle_65 : decode b_Ph_settle 65 = .ok (.putfield 22, 3) := by decide +kernel
theorem d_Ph_settle_68 : decode b_Ph_settle 68 = .ok (.return_, 1) := by decide +kernel
theorem d_Ph_findPlaces_0 : decode b_Ph_findPlaces 0 = .ok (.iconst 0, 1) := by decide +kernel
theorem d_Ph_findPlaces_1 : decode b_Ph_findPlaces 1 = .ok (.istore_n 2, 1) := by decide +kernel
theorem d_Ph_findPlaces_2 : decode b_Ph_findPlaces 2 = .ok (.iload_n 2, 1) := by decide +kernel
theorem d_Ph_findPlaces_3 : decode b_Ph_findPlaces 3 = .ok (.aload_n 0, 1) := by decide +kernel
theorem d_Ph_findPlaces_4 : decode b_Ph_findPlaces 4 = .ok (.getfield 18, 3) := by decide +kernel
theorem d_Ph_findPlaces_7 : decode b_Ph_findPlaces 7 = .ok (.if_icmp .ge 61, 3) := by decide +kernel
theorem d_Ph_findPlaces_10 : decode b_Ph_findPlaces 10 = .ok (.iconst 0, 1) := by decide +kernel
theorem d_Ph_findPlaces_11 : decode b_Ph_findPlaces 11 = .ok (.istore_n 3, 1) := by decide +kernel
theorem d_Ph_findPlaces_12 : decode b_Ph_findPlaces 12 = .ok (.iconst 0, 1) := by decide +kernel
theorem d_Ph_findPlaces_13 : decode b_Ph_findPlaces 13 = .ok (.istore 4, 2) := by decide +kernel
theorem d_Ph_findPlaces_15 : decode b_Ph_findPlaces 15 = .ok (.iload 4, 2) := by decide +kernel
theorem d_Ph_findPlaces_17 : decode b_Ph_findPlaces 17 = .ok (.bipush 30, 2) := by decide +kernel
theorem d_Ph_findPlaces_19 : decode b_Ph_findPlaces 19 = .ok (.if_icmp .ge 36, 3) := by decide +kernel
theorem d_Ph_findPlaces_22 : decode b_Ph_findPlaces 22 = .ok (.aload_n 1, 1) := by decide +kernel
theorem d_Ph_findPlaces_23 : decode b_Ph_findPlaces 23 = .ok (.iload 4, 2) := by decide +kernel
theorem d_Ph_findPlaces_25 : decode b_Ph_findPlaces 25 = .ok (.iaload, 1) := by decide +kernel
theorem d_Ph_findPlaces_26 : decode b_Ph_findPlaces 26 = .ok (.aload_n 0, 1) := by decide +kernel
theorem d_Ph_findPlaces_27 : decode b_Ph_findPlaces 27 = .ok (.getfield 15, 3) := by decide +kernel
theorem d_Ph_findPlaces_30 : decode b_Ph_findPlaces 30 = .ok (.iload_n 2, 1) := by decide +kernel
theorem d_Ph_findPlaces_31 : decode b_Ph_findPlaces 31 = .ok (.iaload, 1) := by decide +kernel
theorem d_Ph_findPlaces_32 : decode b_Ph_findPlaces 32 = .ok (.iand, 1) := by decide +kernel
theorem d_Ph_findPlaces_33 : decode b_Ph_findPlaces 33 = .ok (.ifCond .eq 16, 3) := by decide +kernel
theorem d_Ph_findPlaces_36 : decode b_Ph_findPlaces 36 = .ok (.aload_n 0, 1) := by decide +kernel
theorem d_Ph_findPlaces_37 : decode b_Ph_findPlaces 37 = .ok (.getfield 28, 3) := by decide +kernel
theorem d_Ph_findPlaces_40 : decode b_Ph_findPlaces 40 = .ok (.iload_n 2, 1) := by decide +kernel
theorem d_Ph_findPlaces_41 : decode b_Ph_findPlaces 41 = .ok (.aaload, 1) := by decide +kernel
theorem d_Ph_findPlaces_42 : decode b_Ph_findPlaces 42 = .ok (.iload_n 3, 1) := by decide +kernel
theorem d_Ph_findPlaces_43 : decode b_Ph_findPlaces 43 = .ok (.iload 4, 2) := by decide +kernel
theorem d_Ph_findPlaces_45 : decode b_Ph_findPlaces 45 = .ok (.iastore, 1) := by decide +kernel
theorem d_Ph_findPlaces_46 : decode b_Ph_findPlaces 46 = .ok (.iinc 3 1, 3) := by decide +kernel
theorem d_Ph_findPlaces_49 : decode b_Ph_findPlaces 49 = .ok (.iinc 4 1, 3) := by decide +kernel
theorem d_Ph_findPlaces_52 : decode b_Ph_findPlaces 52 = .ok (.goto (-37), 3) := by decide +kernel
theorem d_Ph_findPlaces_55 : decode b_Ph_findPlaces 55 = .ok (.aload_n 0, 1) := by decide +kernel
theorem d_Ph_findPlaces_56 : decode b_Ph_findPlaces 56 = .ok (.getfield 31, 3) := by decide +kernel
theorem d_Ph_findPlaces_59 : decode b_Ph_findPlaces 59 = .ok (.iload_n 2, 1) := by decide +kernel
theorem d_Ph_findPlaces_60 : decode b_Ph_findPlaces 60 = .ok (.iload_n 3, 1) := by decide +kernel
theorem d_Ph_findPlaces_61 : decode b_Ph_findPlaces 61 = .ok (.iastore, 1) := by decide +kernel
theorem d_Ph_findPlaces_62 : decode b_Ph_findPlaces 62 = .ok (.iinc 2 1, 3) := by decide +kernel
theorem d_Ph_findPlaces_65 : decode b_Ph_findPlaces 65 = .ok (.goto (-63), 3) := by decide +kernel
theorem d_Ph_findPlaces_68 : decode b_Ph_findPlaces 68 = .ok (.return_, 1) := by decide +kernel
theorem d_Ph_searchMoved_0 : decode b_Ph_searchMoved 0 = .ok (.iload_n 1, 1) := by decide +kernel
theorem d_Ph_searchMoved_1 : decode b_Ph_searchMoved 1 = .ok (.aload_n 0, 1) := by decide +kernel
theorem d_Ph_searchMoved_2 : decode b_Ph_searchMoved 2 = .ok (.getfield 18, 3) := by decide +kernel
theorem d_Ph_searchMoved_5 : decode b_Ph_searchMoved 5 = .ok (.if_icmp .lt 9, 3) := by decide +kernel
theorem d_Ph_searchMoved_8 : decode b_Ph_searchMoved 8 = .ok (.aload_n 0, 1) := by decide +kernel
theorem d_Ph_searchMoved_9 : decode b_Ph_searchMoved 9 = .ok (.iload_n 2, 1) := by decide +kernel
theorem d_Ph_searchMoved_10 : decode b_Ph_searchMoved 10 = .ok (.invokevirtual 79, 3) := by decide +kernel
theorem d_Ph_searchMoved_13 : decode b_Ph_searchMoved 13 = .ok (.return_, 1) := by decide +kernel
theorem d_Ph_searchMoved_14 : decode b_Ph_searchMoved 14 = .ok (.iconst 0, 1) := by decide +kernel
theorem d_Ph_searchMoved_15 : decode b_Ph_searchMoved 15 = .ok (.istore 5, 2) := by decide +kernel
theorem d_Ph_searchMoved_17 : decode b_Ph_searchMoved 17 = .ok (.iload 5, 2) := by decide +kernel
theorem d_Ph_searchMoved_19 : decode b_Ph_searchMoved 19 = .ok (.aload_n 0, 1) := by decide +kernel
theorem d_Ph_searchMoved_20 : decode b_Ph_searchMoved 20 = .ok (.getfield 31, 3) := by decide +kernel
theorem d_Ph_searchMoved_23 : decode b_Ph_searchMoved 23 = .ok (.iload_n 1, 1) := by decide +kernel
theorem d_Ph_searchMoved_24 : decode b_Ph_searchMoved 24 = .ok (.iaload, 1) := by decide +kernel
theorem d_Ph_searchMoved_25 : decode b_Ph_searchMoved 25 = .ok (.if_icmp .ge 131, 3) := by decide +kernel
theorem d_Ph_searchMoved_28 : decode b_Ph_searchMoved 28 = .ok (.aload_n 0, 1) := by decide +kernel
theorem d_Ph_searchMoved_29 : decode b_Ph_searchMoved 29 = .ok (.getfield 28, 3) := by decide +kernel
theorem d_Ph_searchMoved_32 : decode b_Ph_searchMoved 32 = .ok (.iload_n 1, 1) := by decide +kernel
theorem d_Ph_searchMoved_33 : decode b_Ph_searchMoved 33 = .ok (.aaload, 1) := by decide +kernel
theorem d_Ph_searchMoved_34 : decode b_Ph_searchMoved 34 = .ok (.iload 5, 2) := by decide +kernel
theorem d_Ph_searchMoved_36 : decode b_Ph_searchMoved 36 = .ok (.iaload, 1) := by decide +kernel
theorem d_Ph_searchMoved_37 : decode b_Ph_searchMoved 37 = .ok (.istore 6, 2) := by decide +kernel
theorem d_Ph_searchMoved_39 : decode b_Ph_searchMoved 39 = .ok (.iload 6, 2) := by decide +kernel
theorem d_Ph_searchMoved_41 : decode b_Ph_searchMoved 41 = .ok (.aload_n 0, 1) := by decide +kernel
theorem d_Ph_searchMoved_42 : decode b_Ph_searchMoved 42 = .ok (.getfield 9, 3) := by decide +kernel
theorem d_Ph_searchMoved_45 : decode b_Ph_searchMoved 45 = .ok (.iload_n 1, 1) := by decide +kernel
theorem d_Ph_searchMoved_46 : decode b_Ph_searchMoved 46 = .ok (.iaload, 1) := by decide +kernel
theorem d_Ph_searchMoved_47 : decode b_Ph_searchMoved 47 = .ok (.isub, 1) := by decide +kernel
theorem d_Ph_searchMoved_48 : decode b_Ph_searchMoved 48 = .ok (.istore 7, 2) := by decide +kernel
theorem d_Ph_searchMoved_50 : decode b_Ph_searchMoved 50 = .ok (.iload_n 3, 1) := by decide +kernel
theorem d_Ph_searchMoved_51 : decode b_Ph_searchMoved 51 = .ok (.iload 4, 2) := by decide +kernel
theorem d_Ph_searchMoved_53 : decode b_Ph_searchMoved 53 = .ok (.iload 7, 2) := by decide +kernel
theorem d_Ph_searchMoved_55 : decode b_Ph_searchMoved 55 = .ok (.invokestatic 83, 3) := by decide +kernel
theorem d_Ph_searchMoved_58 : decode b_Ph_searchMoved 58 = .ok (.invokestatic 89, 3) := by decide +kernel
theorem d_Ph_searchMoved_61 : decode b_Ph_searchMoved 61 = .ok (.istore 8, 2) := by decide +kernel
theorem d_Ph_searchMoved_63 : decode b_Ph_searchMoved 63 = .ok (.iload_n 2, 1) := by decide +kernel
theorem d_Ph_searchMoved_64 : decode b_Ph_searchMoved 64 = .ok (.iload 7, 2) := by decide +kernel
theorem d_Ph_searchMoved_66 : decode b_Ph_searchMoved 66 = .ok (.iload 8, 2) := by decide +kernel
theorem d_Ph_searchMoved_68 : decode b_Ph_searchMoved 68 = .ok (.isub, 1) := by decide +kernel
theorem d_Ph_searchMoved_69 : decode b_Ph_searchMoved 69 = .ok (.invokestatic 92, 3) := by decide +kernel
theorem d_Ph_searchMoved_72 : decode b_Ph_searchMoved 72 = .ok (.iadd, 1) := by decide +kernel
theorem d_Ph_searchMoved_73 : decode b_Ph_searchMoved 73 = .ok (.istore 9, 2) := by decide +kernel
theorem d_Ph_searchMoved_75 : decode b_Ph_searchMoved 75 = .ok (.iload 9, 2) := by decide +kernel
theorem d_Ph_searchMoved_77 : decode b_Ph_searchMoved 77 = .ok (.bipush 9, 2) := by decide +kernel
theorem d_Ph_searchMoved_79 : decode b_Ph_searchMoved 79 = .ok (.aload_n 0, 1) := by decide +kernel
theorem d_Ph_searchMoved_80 : decode b_Ph_searchMoved 80 = .ok (.getfield 43, 3) := by decide +kernel
theorem d_Ph_searchMoved_83 : decode b_Ph_searchMoved 83 = .ok (.invokestatic 89, 3) := by decide +kernel
theorem d_Ph_searchMoved_86 : decode b_Ph_searchMoved 86 = .ok (.if_icmp .gt 64, 3) := by decide +kernel
theorem d_Ph_searchMoved_89 : decode b_Ph_searchMoved 89 = .ok (.aload_n 0, 1) := by decide +kernel
theorem d_Ph_searchMoved_90 : decode b_Ph_searchMoved 90 = .ok (.iload_n 1, 1) := by decide +kernel
theorem d_Ph_searchMoved_91 : decode b_Ph_searchMoved 91 = .ok (.iload 6, 2) := by decide +kernel
theorem d_Ph_searchMoved_93 : decode b_Ph_searchMoved 93 = .ok (.invokevirtual 96, 3) := by decide +kernel
theorem d_Ph_searchMoved_96 : decode b_Ph_searchMoved 96 = .ok (.ifCond .eq 54, 3) := by decide +kernel
theorem d_Ph_searchMoved_99 : decode b_Ph_searchMoved 99 = .ok (.aload_n 0, 1) := by decide +kernel
theorem d_Ph_searchMoved_100 : decode b_Ph_searchMoved 100 = .ok (.getfield 34, 3) := by decide +kernel
theorem d_Ph_searchMoved_103 : decode b_Ph_searchMoved 103 = .ok (.iload_n 1, 1) := by decide +kernel
theorem d_Ph_searchMoved_104 : decode b_Ph_searchMoved 104 = .ok (.iload 6, 2) := by decide +kernel
theorem d_Ph_searchMoved_106 : decode b_Ph_searchMoved 106 = .ok (.iastore, 1) := by decide +kernel
theorem d_Ph_searchMoved_107 : decode b_Ph_searchMoved 107 = .ok (.iload_n 1, 1) := by decide +kernel
theorem d_Ph_searchMoved_108 : decode b_Ph_searchMoved 108 = .ok (.iconst 1, 1) := by decide +kernel
theorem d_Ph_searchMoved_109 : decode b_Ph_searchMoved 109 = .ok (.if_icmp .ne 28, 3) := by decide +kernel
theorem d_Ph_searchMoved_112 : decode b_Ph_searchMoved 112 = .ok (.aload_n 0, 1) := by decide +kernel
theorem d_Ph_searchMoved_113 : decode b_Ph_searchMoved 113 = .ok (.iload_n 1, 1) := by decide +kernel
theorem d_Ph_searchMoved_114 : decode b_Ph_searchMoved 114 = .ok (.iconst 1, 1) := by decide +kernel
theorem d_Ph_searchMoved_115 : decode b_Ph_searchMoved 115 = .ok (.iadd, 1) := by decide +kernel
theorem d_Ph_searchMoved_116 : decode b_Ph_searchMoved 116 = .ok (.iload 9, 2) := by decide +kernel
theorem d_Ph_searchMoved_118 : decode b_Ph_searchMoved 118 = .ok (.iload_n 3, 1) := by decide +kernel
theorem d_Ph_searchMoved_119 : decode b_Ph_searchMoved 119 = .ok (.iload 7, 2) := by decide +kernel
theorem d_Ph_searchMoved_121 : decode b_Ph_searchMoved 121 = .ok (.invokestatic 83, 3) := by decide +kernel
theorem d_Ph_searchMoved_124 : decode b_Ph_searchMoved 124 = .ok (.iload 4, 2) := by decide +kernel
theorem d_Ph_searchMoved_126 : decode b_Ph_searchMoved 126 = .ok (.iload 7, 2) := by decide +kernel
theorem d_Ph_searchMoved_128 : decode b_Ph_searchMoved 128 = .ok (.invokestatic 89, 3) := by decide +kernel
theorem d_Ph_searchMoved_131 : decode b_Ph_searchMoved 131 = .ok (.invokevirtual 71, 3) := by decide +kernel
theorem d_Ph_searchMoved_134 : decode b_Ph_searchMoved 134 = .ok (.goto 16, 3) := by decide +kernel
theorem d_Ph_searchMoved_137 : decode b_Ph_searchMoved 137 = .ok (.aload_n 0, 1) := by decide +kernel
theorem d_Ph_searchMoved_138 : decode b_Ph_searchMoved 138 = .ok (.iload_n 1, 1) := by decide +kernel
theorem d_Ph_searchMoved_139 : decode b_Ph_searchMoved 139 = .ok (.iconst 1, 1) := by decide +kernel
theorem d_Ph_searchMoved_140 : decode b_Ph_searchMoved 140 = .ok (.iadd, 1) := by decide +kernel
theorem d_Ph_searchMoved_141 : decode b_Ph_searchMoved 141 = .ok (.iload 9, 2) := by decide +kernel
theorem d_Ph_searchMoved_143 : decode b_Ph_searchMoved 143 = .ok (.iload 8, 2) := by decide +kernel
theorem d_Ph_searchMoved_145 : decode b_Ph_searchMoved 145 = .ok (.iload 8, 2) := by decide +kernel
theorem d_Ph_searchMoved_147 : decode b_Ph_searchMoved 147 = .ok (.invokevirtual 71, 3) := by decide +kernel
theorem d_Ph_searchMoved_150 : decode b_Ph_searchMoved 150 = .ok (.iinc 5 1, 3) := by decide +kernel
theorem d_Ph_searchMoved_153 : decode b_Ph_searchMoved 153 = .ok (.goto (-136), 3) := by decide +kernel
theorem d_Ph_searchMoved_156 : decode b_Ph_searchMoved 156 = .ok (.return_, 1) := by decide +kernel
theorem d_Ph_noteChoice_0 : decode b_Ph_noteChoice 0 = .ok (.iload_n 1, 1) := by decide +kernel
theorem d_Ph_noteChoice_1 : decode b_Ph_noteChoice 1 = .ok (.ifCond .lt 9, 3) := by decide +kernel
theorem d_Ph_noteChoice_4 : decode b_Ph_noteChoice 4 = .ok (.iload_n 1, 1) := by decide +kernel
theorem d_Ph_noteChoice_5 : decode b_Ph_noteChoice 5 = .ok (.bipush 76, 2) := by decide +kernel
theorem d_Ph_noteChoice_7 : decode b_Ph_noteChoice 7 = .ok (.if_icmp .le 4, 3) := by decide +kernel
theorem d_Ph_noteChoice_10 : decode b_Ph_noteChoice 10 = .ok (.return_, 1) := by decide +kernel
theorem d_Ph_noteChoice_11 : decode b_Ph_noteChoice 11 = .ok (.aload_n 0, 1) := by decide +kernel
theorem d_Ph_noteChoice_12 : decode b_Ph_noteChoice 12 = .ok (.getfield 40, 3) := by decide +kernel
theorem d_Ph_noteChoice_15 : decode b_Ph_noteChoice 15 = .ok (.iload_n 1, 1) := by decide +kernel
theorem d_Ph_noteChoice_16 : decode b_Ph_noteChoice 16 = .ok (.dup2, 1) := by decide +kernel
theorem d_Ph_noteChoice_17 : decode b_Ph_noteChoice 17 = .ok (.iaload, 1) := by decide +kernel
theorem d_Ph_noteChoice_18 : decode b_Ph_noteChoice 18 = .ok (.iconst 1, 1) := by decide +kernel
theorem d_Ph_noteChoice_19 : decode b_Ph_noteChoice 19 = .ok (.iadd, 1) := by decide +kernel
theorem d_Ph_noteChoice_20 : decode b_Ph_noteChoice 20 = .ok (.iastore, 1) := by decide +kernel
theorem d_Ph_noteChoice_21 : decode b_Ph_noteChoice 21 = .ok (.iload_n 1, 1) := by decide +kernel
theorem d_Ph_noteChoice_22 : decode b_Ph_noteChoice 22 = .ok (.aload_n 0, 1) := by decide +kernel
theorem d_Ph_noteChoice_23 : decode b_Ph_noteChoice 23 = .ok (.getfield 43, 3) := by decide +kernel
theorem d_Ph_noteChoice_26 : decode b_Ph_noteChoice 26 = .ok (.if_icmp .ge 22, 3) := by decide +kernel
theorem d_Ph_noteChoice_29 : decode b_Ph_noteChoice 29 = .ok (.aload_n 0, 1) := by decide +kernel
theorem d_Ph_noteChoice_30 : decode b_Ph_noteChoice 30 = .ok (.iload_n 1, 1) := by decide +kernel
theorem d_Ph_noteChoice_31 : decode b_Ph_noteChoice 31 = .ok (.putfield 43, 3) := by decide +kernel
theorem d_Ph_noteChoice_34 : decode b_Ph_noteChoice 34 = .ok (.aload_n 0, 1) := by decide +kernel
theorem d_Ph_noteChoice_35 : decode b_Ph_noteChoice 35 = .ok (.getfield 34, 3) := by decide +kernel
theorem d_Ph_noteChoice_38 : decode b_Ph_noteChoice 38 = .ok (.iconst 0, 1) := by decide +kernel
theorem d_Ph_noteChoice_39 : decode b_Ph_noteChoice 39 = .ok (.aload_n 0, 1) := by decide +kernel
theorem d_Ph_noteChoice_40 : decode b_Ph_noteChoice 40 = .ok (.getfield 37, 3) := by decide +kernel
theorem d_Ph_noteChoice_43 : decode b_Ph_noteChoice 43 = .ok (.iconst 0, 1) := by decide +kernel
theorem d_Ph_noteChoice_44 : decode b_Ph_noteChoice 44 = .ok (.iconst 4, 1) := by decide +kernel
theorem d_Ph_noteChoice_45 : decode b_Ph_noteChoice 45 = .ok (.invokestatic 100, 3) := by decide +kernel
theorem d_Ph_noteChoice_48 : decode b_Ph_noteChoice 48 = .ok (.return_, 1) := by decide +kernel
theorem d_Ph_searchShortest_0 : decode b_Ph_searchShortest 0 = .ok (.iload_n 1, 1) := by decide +kernel
theorem d_Ph_searchShortest_1 : decode b_Ph_searchShortest 1 = .ok (.aload_n 0, 1) := by decide +kernel
theorem d_Ph_searchShortest_2 : decode b_Ph_searchShortest 2 = .ok (.getfield 18, 3) := by decide +kernel
theorem d_Ph_searchShortest_5 : decode b_Ph_searchShortest 5 = .ok (.if_icmp .lt 14, 3) := by decide +kernel
theorem d_Ph_searchShortest_8 : decode b_Ph_searchShortest 8 = .ok (.aload_n 0, 1) := by decide +kernel
theorem d_Ph_searchShortest_9 : decode b_Ph_searchShortest 9 = .ok (.iload_n 2, 1) := by decide +kernel
theorem d_Ph_searchShortest_10 : decode b_Ph_searchShortest 10 = .ok (.putfield 46, 3) := by decide +kernel
theorem d_Ph_searchShortest_13 : decode b_Ph_searchShortest 13 = .ok (.aload_n 0, 1) := by decide +kernel
theorem d_Ph_searchShortest_14 : decode b_Ph_searchShortest 14 = .ok (.iload_n 3, 1) := by decide +kernel
theorem d_Ph_searchShortest_15 : decode b_Ph_searchShortest 15 = .ok (.putfield 49, 3) := by decide +kernel
theorem d_Ph_searchShortest_18 : decode b_Ph_searchShortest 18 = .ok (.return_, 1) := by decide +kernel
theorem d_Ph_searchShortest_19 : decode b_Ph_searchShortest 19 = .ok (.iconst 0, 1) := by decide +kernel
theorem d_Ph_searchShortest_20 : decode b_Ph_searchShortest 20 = .ok (.istore 4, 2) := by decide +kernel
theorem d_Ph_searchShortest_22 : decode b_Ph_searchShortest 22 = .ok (.iload 4, 2) := by decide +kernel
theorem d_Ph_searchShortest_24 : decode b_Ph_searchShortest 24 = .ok (.aload_n 0, 1) := by decide +kernel
theorem d_Ph_searchShortest_25 : decode b_Ph_searchShortest 25 = .ok (.getfield 31, 3) := by decide +kernel
theorem d_Ph_searchShortest_28 : decode b_Ph_searchShortest 28 = .ok (.iload_n 1, 1) := by decide +kernel
theorem d_Ph_searchShortest_29 : decode b_Ph_searchShortest 29 = .ok (.iaload, 1) := by decide +kernel
theorem d_Ph_searchShortest_30 : decode b_Ph_searchShortest 30 = .ok (.if_icmp .ge 76, 3) := by decide +kernel
theorem d_Ph_searchShortest_33 : decode b_Ph_searchShortest 33 = .ok (.aload_n 0, 1) := by decide +kernel
theorem d_Ph_searchShortest_34 : decode b_Ph_searchShortest 34 = .ok (.getfield 28, 3) := by decide +kernel
theorem d_Ph_searchShortest_37 : decode b_Ph_searchShortest 37 = .ok (.iload_n 1, 1) := by decide +kernel
theorem d_Ph_searchShortest_38 : decode b_Ph_searchShortest 38 = .ok (.aaload, 1) := by decide +kernel
theorem d_Ph_searchShortest_39 : decode b_Ph_searchShortest 39 = .ok (.iload 4, 2) := by decide +kernel
theorem d_Ph_searchShortest_41 : decode b_Ph_searchShortest 41 = .ok (.iaload, 1) := by decide +kernel
theorem d_Ph_searchShortest_42 : decode b_Ph_searchShortest 42 = .ok (.istore 5, 2) := by decide +kernel
theorem d_Ph_searchShortest_44 : decode b_Ph_searchShortest 44 = .ok (.iload_n 2, 1) := by decide +kernel
theorem d_Ph_searchShortest_45 : decode b_Ph_searchShortest 45 = .ok (.iload 5, 2) := by decide +kernel
theorem d_Ph_searchShortest_47 : decode b_Ph_searchShortest 47 = .ok (.invokestatic 83, 3) := by decide +kernel
theorem d_Ph_searchShortest_50 : decode b_Ph_searchShortest 50 = .ok (.istore 6, 2) := by decide +kernel
theorem d_Ph_searchShortest_52 : decode b_Ph_searchShortest 52 = .ok (.iload_n 3, 1) := by decide +kernel
theorem d_Ph_searchShortest_53 : decode b_Ph_searchShortest 53 = .ok (.iload 5, 2) := by decide +kernel
theorem d_Ph_searchShortest_55 : decode b_Ph_searchShortest 55 = .ok (.invokestatic 89, 3) := by decide +kernel
theorem d_Ph_searchShortest_58 : decode b_Ph_searchShortest 58 = .ok (.istore 7, 2) := by decide +kernel
theorem d_Ph_searchShortest_60 : decode b_Ph_searchShortest 60 = .ok (.aload_n 0, 1) := by decide +kernel
theorem d_Ph_searchShortest_61 : decode b_Ph_searchShortest 61 = .ok (.iload 6, 2) := by decide +kernel
theorem d_Ph_searchShortest_63 : decode b_Ph_searchShortest 63 = .ok (.iload 7, 2) := by decide +kernel
theorem d_Ph_searchShortest_65 : decode b_Ph_searchShortest 65 = .ok (.invokevirtual 106, 3) := by decide +kernel
theorem d_Ph_searchShortest_68 : decode b_Ph_searchShortest 68 = .ok (.ifCond .eq 32, 3) := by decide +kernel
theorem d_Ph_searchShortest_71 : decode b_Ph_searchShortest 71 = .ok (.aload_n 0, 1) := by decide +kernel
theorem d_Ph_searchShortest_72 : decode b_Ph_searchShortest 72 = .ok (.iload_n 1, 1) := by decide +kernel
theorem d_Ph_searchShortest_73 : decode b_Ph_searchShortest 73 = .ok (.iload 5, 2) := by decide +kernel
theorem d_Ph_searchShortest_75 : decode b_Ph_searchShortest 75 = .ok (.invokevirtual 96, 3) := by decide +kernel
theorem d_Ph_searchShortest_78 : decode b_Ph_searchShortest 78 = .ok (.ifCond .eq 22, 3) := by decide +kernel
theorem d_Ph_searchShortest_81 : decode b_Ph_searchShortest 81 = .ok (.aload_n 0, 1) := by decide +kernel
theorem d_Ph_searchShortest_82 : decode b_Ph_searchShortest 82 = .ok (.getfield 34, 3) := by decide +kernel
theorem d_Ph_searchShortest_85 : decode b_Ph_searchShortest 85 = .ok (.iload_n 1, 1) := by decide +kernel
theorem d_Ph_searchShortest_86 : decode b_Ph_searchShortest 86 = .ok (.iload 5, 2) := by decide +kernel
theorem d_Ph_searchShortest_88 : decode b_Ph_searchShortest 88 = .ok (.iastore, 1) := by decide +kernel
theorem d_Ph_searchShortest_89 : decode b_Ph_searchShortest 89 = .ok (.aload_n 0, 1) := by decide +kernel
theorem d_Ph_searchShortest_90 : decode b_Ph_searchShortest 90 = .ok (.iload_n 1, 1) := by decide +kernel
theorem d_Ph_searchShortest_91 : decode b_Ph_searchShortest 91 = .ok (.iconst 1, 1) := by decide +kernel
theorem d_Ph_searchShortest_92 : decode b_Ph_searchShortest 92 = .ok (.iadd, 1) := by decide +kernel
theorem d_Ph_searchShortest_93 : decode b_Ph_searchShortest 93 = .ok (.iload 6, 2) := by decide +kernel
theorem d_Ph_searchShortest_95 : decode b_Ph_searchShortest 95 = .ok (.iload 7, 2) := by decide +kernel
theorem d_Ph_searchShortest_97 : decode b_Ph_searchShortest 97 = .ok (.invokevirtual 75, 3) := by decide +kernel
theorem d_Ph_searchShortest_100 : decode b_Ph_searchShortest 100 = .ok (.iinc 4 1, 3) := by decide +kernel
theorem d_Ph_searchShortest_103 : decode b_Ph_searchShortest 103 = .ok (.goto (-81), 3) := by decide +kernel
theorem d_Ph_searchShortest_106 : decode b_Ph_searchShortest 106 = .ok (.return_, 1) := by decide +kernel
theorem d_Ph_isShorter_0 : decode b_Ph_isShorter 0 = .ok (.iload_n 2, 1) := by decide +kernel
theorem d_Ph_isShorter_1 : decode b_Ph_isShorter 1 = .ok (.iload_n 1, 1) := by decide +kernel
theorem d_Ph_isShorter_2 : decode b_Ph_isShorter 2 = .ok (.isub, 1) := by decide +kernel
theorem d_Ph_isShorter_3 : decode b_Ph_isShorter 3 = .ok (.istore_n 3, 1) := by decide +kernel
theorem d_Ph_isShorter_4 : decode b_Ph_isShorter 4 = .ok (.aload_n 0, 1) := by decide +kernel
theorem d_Ph_isShorter_5 : decode b_Ph_isShorter 5 = .ok (.getfield 49, 3) := by decide +kernel
theorem d_Ph_isShorter_8 : decode b_Ph_isShorter 8 = .ok (.aload_n 0, 1) := by decide +kernel
theorem d_Ph_isShorter_9 : decode b_Ph_isShorter 9 = .ok (.getfield 46, 3) := by decide +kernel
theorem d_Ph_isShorter_12 : decode b_Ph_isShorter 12 = .ok (.isub, 1) := by decide +kernel
theorem d_Ph_isShorter_13 : decode b_Ph_isShorter 13 = .ok (.istore 4, 2) := by decide +kernel
theorem d_Ph_isShorter_15 : decode b_Ph_isShorter 15 = .ok (.iload_n 3, 1) := by decide +kernel
theorem d_Ph_isShorter_16 : decode b_Ph_isShorter 16 = .ok (.iload 4, 2) := by decide +kernel
theorem d_Ph_isShorter_18 : decode b_Ph_isShorter 18 = .ok (.if_icmp .lt 17, 3) := by decide +kernel
theorem d_Ph_isShorter_21 : decode b_Ph_isShorter 21 = .ok (.iload_n 3, 1) := by decide +kernel
theorem d_Ph_isShorter_22 : decode b_Ph_isShorter 22 = .ok (.iload 4, 2) := by decide +kernel
theorem d_Ph_isShorter_24 : decode b_Ph_isShorter 24 = .ok (.if_icmp .ne 15, 3) := by decide +kernel
theorem d_Ph_isShorter_27 : decode b_Ph_isShorter 27 = .ok (.iload_n 1, 1) := by decide +kernel
theorem d_Ph_isShorter_28 : decode b_Ph_isShorter 28 = .ok (.aload_n 0, 1) := by decide +kernel
theorem d_Ph_isShorter_29 : decode b_Ph_isShorter 29 = .ok (.getfield 46, 3) := by decide +kernel
theorem d_Ph_isShorter_32 : decode b_Ph_isShorter 32 = .ok (.if_icmp .ge 7, 3) := by decide +kernel
theorem d_Ph_isShorter_35 : decode b_Ph_isShorter 35 = .ok (.iconst 1, 1) := by decide +kernel
theorem d_Ph_isShorter_36 : decode b_Ph_isShorter 36 = .ok (.goto 4, 3) := by decide +kernel
theorem d_Ph_isShorter_39 : decode b_Ph_isShorter 39 = .ok (.iconst 0, 1) := by decide +kernel
theorem d_Ph_isShorter_40 : decode b_Ph_isShorter 40 = .ok (.ireturn, 1) := by decide +kernel
theorem d_Ph_isFree_0 : decode b_Ph_isFree 0 = .ok (.iconst 0, 1) := by decide +kernel
theorem d_Ph_isFree_1 : decode b_Ph_isFree 1 = .ok (.istore_n 3, 1) := by decide +kernel
theorem d_Ph_isFree_2 : decode b_Ph_isFree 2 = .ok (.iload_n 3, 1) := by decide +kernel
theorem d_Ph_isFree_3 : decode b_Ph_isFree 3 = .ok (.iload_n 1, 1) := by decide +kernel
theorem d_Ph_isFree_4 : decode b_Ph_isFree 4 = .ok (.if_icmp .ge 37, 3) := by decide +kernel
theorem d_Ph_isFree_7 : decode b_Ph_isFree 7 = .ok (.aload_n 0, 1) := by decide +kernel
theorem d_Ph_isFree_8 : decode b_Ph_isFree 8 = .ok (.getfield 34, 3) := by decide +kernel
theorem d_Ph_isFree_11 : decode b_Ph_isFree 11 = .ok (.iload_n 3, 1) := by decide +kernel
theorem d_Ph_isFree_12 : decode b_Ph_isFree 12 = .ok (.iaload, 1) := by decide +kernel
theorem d_Ph_isFree_13 : decode b_Ph_isFree 13 = .ok (.iload_n 2, 1) := by decide +kernel
theorem d_Ph_isFree_14 : decode b_Ph_isFree 14 = .ok (.if_icmp .ne 21, 3) := by decide +kernel
theorem d_Ph_isFree_17 : decode b_Ph_isFree 17 = .ok (.aload_n 0, 1) := by decide +kernel
theorem d_Ph_isFree_18 : decode b_Ph_isFree 18 = .ok (.getfield 15, 3) := by decide +kernel
theorem d_Ph_isFree_21 : decode b_Ph_isFree 21 = .ok (.iload_n 3, 1) := by decide +kernel
theorem d_Ph_isFree_22 : decode b_Ph_isFree 22 = .ok (.iaload, 1) := by decide +kernel
theorem d_Ph_isFree_23 : decode b_Ph_isFree 23 = .ok (.aload_n 0, 1) := by decide +kernel
theorem d_Ph_isFree_24 : decode b_Ph_isFree 24 = .ok (.getfield 15, 3) := by decide +kernel
theorem d_Ph_isFree_27 : decode b_Ph_isFree 27 = .ok (.iload_n 1, 1) := by decide +kernel
theorem d_Ph_isFree_28 : decode b_Ph_isFree 28 = .ok (.iaload, 1) := by decide +kernel
theorem d_Ph_isFree_29 : decode b_Ph_isFree 29 = .ok (.iand, 1) := by decide +kernel
theorem d_Ph_isFree_30 : decode b_Ph_isFree 30 = .ok (.ifCond .eq 5, 3) := by decide +kernel
theorem d_Ph_isFree_33 : decode b_Ph_isFree 33 = .ok (.iconst 0, 1) := by decide +kernel
theorem d_Ph_isFree_34 : decode b_Ph_isFree 34 = .ok (.ireturn, 1) := by decide +kernel
theorem d_Ph_isFree_35 : decode b_Ph_isFree 35 = .ok (.iinc 3 1, 3) := by decide +kernel
theorem d_Ph_isFree_38 : decode b_Ph_isFree 38 = .ok (.goto (-36), 3) := by decide +kernel
theorem d_Ph_isFree_41 : decode b_Ph_isFree 41 = .ok (.iconst 1, 1) := by decide +kernel
theorem d_Ph_isFree_42 : decode b_Ph_isFree 42 = .ok (.ireturn, 1) := by decide +kernel
abbrev rm_Ph_has : Room := { frames := 0, cells := 0, slots := 0, locals := 0 }
set_option maxHeartbeats 4000000 in
set_option maxRecDepth 100000 in
theorem c_Ph_has (l : Launch) (D : va_G) (cI cR cG : ClassId) (h qo qs qp qc qt qf qn n sd lm : Nat) (sf st : Int) (x : Int) (hx1 : k_sm x) (hn : n ≤ 4) : k_M l y_Ph_has (.code y_Ph_has b_Ph_has 2 (some .boolean) :: kW) rm_Ph_has D k_cl (k_ty cI cR cG) [.ref h, .int (zI x)] ([(h, .inr (1, [.ref qo, .ref qs, .int (zI ↑n), .int (zI ↑sd), .ref qp, .ref qc, .ref qt, .ref qf, .ref qn, .int (zI ↑lm), .int (zI sf), .int (zI st)]))]) (k_Qi D k_cl (k_b (0 ≤ x ∧ x < ↑n)) ([(h, .inr (1, [.ref qo, .ref qs, .int (zI ↑n), .int (zI ↑sd), .ref qp, .ref qc, .ref qt, .ref qf, .ref qn, .int (zI ↑lm), .int (zI sf), .int (zI st)]))])) := by
  refine k_start (cc := b_Ph_has) (maxL := 2) (ret := (some .boolean)) (by decide) rfl (Nat.le_of_ble_eq_true rfl) ?_
  intro p ev s m ar below meth c A ls Qf hQf hx hb hr hml hts hown hlocks hin hK hG hA hP hD hS hl
  replace hown : s.vm.findClass R_Ph = some m.cls := hown
  replace hl : lv_has ls 2 [(0, .ref h), (1, .int (zI x))] := hl
  have hkw : ∀ w ∈ kW, w.before ar s = true := fun w h => hts w (List.mem_cons_of_mem _ h)
  replace hP : va_P D k_cl ([(h, .inr (1, [.ref qo, .ref qs, .int (zI ↑n), .int (zI ↑sd), .ref qp, .ref qc, .ref qt, .ref qf, .ref qn, .int (zI ↑lm), .int (zI sf), .int (zI st)]))]) s.heap := hP
  replace hD : va_D A ([(h, .inr (1, [.ref qo, .ref qs, .int (zI ↑n), .int (zI ↑sd), .ref qp, .ref qc, .ref qt, .ref qf, .ref qn, .int (zI ↑lm), .int (zI sf), .int (zI st)]))]) := hD
  have hx2 := hx1.1
  have hx3 := hx1.2
  refine lv_iload_n hx hb d_Ph_has_0 rfl (lv_at hl 1 rfl) ?_
  refine k_if_lt (tgt := 16) hx hb d_Ph_has_1 (by decide) ⟨by omega, by omega⟩ (fun c_1 => ?_) (fun c_1 => ?_)
  · refine lv_iconst (v := zI 0) hx hb d_Ph_has_16 (by decide) ?_
    rw [← hQf]
    exact k_zret hx hb hr hlocks hP hS (k_bf (by omega)).symm d_Ph_has_17
  · refine lv_iload_n hx hb d_Ph_has_4 rfl (lv_at hl 1 rfl) ?_
    refine lv_aload_n hx hb d_Ph_has_5 rfl (lv_at hl 0 rfl) ?_
    refine va_get (D := D) (ci := 1) (v := .int (zI ↑n)) (C := R_Ph) (T := T_Ph) (N := 12) hx hb hkw kin_Ph hown hK hP 0 rfl rfl 2 (by decide) (hkw _ kw_fieldLink_Ph_18) (fun _ h9 => h9) rfl d_Ph_has_6 ?_
    refine k_icmp_ge (tgt := 16) hx hb d_Ph_has_9 (by decide) ⟨by omega, by omega⟩ ⟨by omega, by omega⟩ (fun c_9 => ?_) (fun c_9 => ?_)
    · refine lv_iconst (v := zI 0) hx hb d_Ph_has_16 (by decide) ?_
      rw [← hQf]
      exact k_zret hx hb hr hlocks hP hS (k_bf (by omega)).symm d_Ph_has_17
    · refine lv_iconst (v := zI 1) hx hb d_Ph_has_12 (by decide) ?_
      refine lv_goto (tgt := 17) hx hb d_Ph_has_13 (by decide) ?_
      rw [← hQf]
      exact k_zret hx hb hr hlocks hP hS (k_bt (by omega)).symm d_Ph_has_17

abbrev rm_Ph_outdate : Room := { frames := 0, cells := 0, slots := 0, locals := 0 }
set_option maxHeartbeats 4000000 in
set_option maxRecDepth 100000 in
theorem c_Ph_outdate (l : Launch) (D : va_G) (cI cR cG : ClassId) (h qo qs qp qc qt qf qn n sd lm : Nat) (sf st : Int)  : k_M l y_Ph_outdate (.code y_Ph_outdate b_Ph_outdate 1 none :: kW) rm_Ph_outdate D k_cl (k_ty cI cR cG) [.ref h] ([(h, .inr (1, [.ref qo, .ref qs, .int (zI ↑n), .int (zI ↑sd), .ref qp, .ref qc, .ref qt, .ref qf, .ref qn, .int (zI ↑lm), .int (zI sf), .int (zI st)]))]) (k_Qv D k_cl ([(h, .inr (1, [.ref qo, .ref qs, .int (zI ↑n), .int (zI 0), .ref qp, .ref qc, .ref qt, .ref qf, .ref qn, .int (zI ↑lm), .int (zI sf), .int (zI st)]))])) := by
  refine k_start (cc := b_Ph_outdate) (maxL := 1) (ret := none) (by decide) rfl (Nat.le_of_ble_eq_true rfl) ?_
  intro p ev s m ar below meth c A ls Qf hQf hx hb hr hml hts hown hlocks hin hK hG hA hP hD hS hl
  replace hown : s.vm.findClass R_Ph = some m.cls := hown
  replace hl : lv_has ls 1 [(0, .ref h)] := hl
  have hkw : ∀ w ∈ kW, w.before ar s = true := fun w h => hts w (List.mem_cons_of_mem _ h)
  replace hP : va_P D k_cl ([(h, .inr (1, [.ref qo, .ref qs, .int (zI ↑n), .int (zI ↑sd), .ref qp, .ref qc, .ref qt, .ref qf, .ref qn, .int (zI ↑lm), .int (zI sf), .int (zI st)]))]) s.heap := hP
  replace hD : va_D A ([(h, .inr (1, [.ref qo, .ref qs, .int (zI ↑n), .int (zI ↑sd), .ref qp, .ref qc, .ref qt, .ref qf, .ref qn, .int (zI ↑lm), .int (zI sf), .int (zI st)]))]) := hD
  refine lv_aload_n hx hb d_Ph_outdate_0 rfl (lv_at hl 0 rfl) ?_
  refine lv_iconst (v := zI 0) hx hb d_Ph_outdate_1 (by decide) ?_
  refine va_put (D := D) (ci := 1) (v := .int (zI 0)) (ty := .boolean) (C := R_Ph) (T := T_Ph) (N := 12) hx hb hkw kin_Ph ty_Ph ty_Ph_ok nm_Ph hown hK hP hD hS 0 rfl rfl 3 (by decide) (hkw _ kw_fieldLink_Ph_22) (fun _ h9 => h9) rfl (by decide +kernel) (by decide) (by decide) (Nat.le_of_ble_eq_true rfl) d_Ph_outdate_2 ?_
  clear hP hD hS; intro H locs hP hD hS
  replace hP : va_P D k_cl ([(h, .inr (1, [.ref qo, .ref qs, .int (zI ↑n), .int (zI 0), .ref qp, .ref qc, .ref qt, .ref qf, .ref qn, .int (zI ↑lm), .int (zI sf), .int (zI st)]))]) H := hP
  replace hD : va_D A ([(h, .inr (1, [.ref qo, .ref qs, .int (zI ↑n), .int (zI 0), .ref qp, .ref qc, .ref qt, .ref qf, .ref qn, .int (zI ↑lm), .int (zI sf), .int (zI st)]))]) := hD
  rw [← hQf]
  exact k_vret hx hb hr hlocks hP hS d_Ph_outdate_5

abbrev rm_Ph_append : Room := { frames := 1, cells := 0, slots := 0, locals := 20 }
set_option maxHeartbeats 4000000 in
set_option maxRecDepth 100000 in
theorem c_Ph_append (l : Launch) (D : va_G) (cI cR cG : ClassId) (h qo qs qp qc qt qf qn n sd lm : Nat) (sf st : Int) (of se : Nat → Nat) (a b : Nat) (hn : n < 4) : k_M l y_Ph_append (.code y_Ph_append b_Ph_append 3 (some .int) :: kW) rm_Ph_append D k_cl (k_ty cI cR cG) [.ref h, .int (zI ↑a), .int (zI ↑b)] ([(h, .inr (1, [.ref qo, .ref qs, .int (zI ↑n), .int (zI ↑sd), .ref qp, .ref qc, .ref qt, .ref qf, .ref qn, .int (zI ↑lm), .int (zI sf), .int (zI st)])), (qo, .inl (cI, 4, .inl (kA of))), (qs, .inl (cI, 4, .inl (kA se)))]) (k_Qi D k_cl (zI ↑n) ([(h, .inr (1, [.ref qo, .ref qs, .int (zI (↑(n + 1))), .int (zI 0), .ref qp, .ref qc, .ref qt, .ref qf, .ref qn, .int (zI ↑lm), .int (zI sf), .int (zI st)])), (qo, .inl (cI, 4, .inl (kA (va_up of n a)))), (qs, .inl (cI, 4, .inl (kA (va_up se n b))))])) := by
  refine k_start (cc := b_Ph_append) (maxL := 3) (ret := (some .int)) (by decide) rfl (Nat.le_of_ble_eq_true rfl) ?_
  intro p ev s m ar below meth c A ls Qf hQf hx hb hr hml hts hown hlocks hin hK hG hA hP hD hS hl
  replace hown : s.vm.findClass R_Ph = some m.cls := hown
  replace hl : lv_has ls 3 [(0, .ref h), (1, .int (zI ↑a)), (2, .int (zI ↑b))] := hl
  have hkw : ∀ w ∈ kW, w.before ar s = true := fun w h => hts w (List.mem_cons_of_mem _ h)
  replace hP : va_P D k_cl ([(h, .inr (1, [.ref qo, .ref qs, .int (zI ↑n), .int (zI ↑sd), .ref qp, .ref qc, .ref qt, .ref qf, .ref qn, .int (zI ↑lm), .int (zI sf), .int (zI st)])), (qo, .inl (cI, 4, .inl (kA of))), (qs, .inl (cI, 4, .inl (kA se)))]) s.heap := hP
  replace hD : va_D A ([(h, .inr (1, [.ref qo, .ref qs, .int (zI ↑n), .int (zI ↑sd), .ref qp, .ref qc, .ref qt, .ref qf, .ref qn, .int (zI ↑lm), .int (zI sf), .int (zI st)])), (qo, .inl (cI, 4, .inl (kA of))), (qs, .inl (cI, 4, .inl (kA se)))]) := hD
  refine lv_aload_n hx hb d_Ph_append_0 rfl (lv_at hl 0 rfl) ?_
  refine va_get (D := D) (ci := 1) (v := .int (zI ↑n)) (C := R_Ph) (T := T_Ph) (N := 12) hx hb hkw kin_Ph hown hK hP 0 rfl rfl 2 (by decide) (hkw _ kw_fieldLink_Ph_18) (fun _ h9 => h9) rfl d_Ph_append_1 ?_
  refine lv_iconst (v := zI 4) hx hb d_Ph_append_4 (by decide) ?_
  refine k_icmp_lt (tgt := 11) hx hb d_Ph_append_5 (by decide) ⟨by omega, by omega⟩ ⟨by omega, by omega⟩ (fun c_5 => ?_) (fun c_5 => ?_)
  · refine lv_aload_n hx hb d_Ph_append_11 rfl (lv_at hl 0 rfl) ?_
    refine va_get (D := D) (ci := 1) (v := .ref qo) (C := R_Ph) (T := T_Ph) (N := 12) hx hb hkw kin_Ph hown hK hP 0 rfl rfl 0 (by decide) (hkw _ kw_fieldLink_Ph_9) (fun _ h9 => h9) rfl d_Ph_append_12 ?_
    refine lv_aload_n hx hb d_Ph_append_15 rfl (lv_at hl 0 rfl) ?_
    refine va_get (D := D) (ci := 1) (v := .int (zI ↑n)) (C := R_Ph) (T := T_Ph) (N := 12) hx hb hkw kin_Ph hown hK hP 0 rfl rfl 2 (by decide) (hkw _ kw_fieldLink_Ph_18) (fun _ h9 => h9) rfl d_Ph_append_16 ?_
    refine lv_iload_n hx hb d_Ph_append_19 rfl (lv_at hl 1 rfl) ?_
    refine k_ast hx hb hK hP hD hS 1 0 rfl rfl (i := n) (v := a) (by omega) (by omega) (by omega) (by omega) d_Ph_append_20 ?_
    clear hP hD hS; intro H locs hP hD hS
    replace hP : va_P D k_cl ([(h, .inr (1, [.ref qo, .ref qs, .int (zI ↑n), .int (zI ↑sd), .ref qp, .ref qc, .ref qt, .ref qf, .ref qn, .int (zI ↑lm), .int (zI sf), .int (zI st)])), (qo, .inl (cI, 4, .inl (kA (va_up of n a)))), (qs, .inl (cI, 4, .inl (kA se)))]) H := hP
    replace hD : va_D A ([(h, .inr (1, [.ref qo, .ref qs, .int (zI ↑n), .int (zI ↑sd), .ref qp, .ref qc, .ref qt, .ref qf, .ref qn, .int (zI ↑lm), .int (zI sf), .int (zI st)])), (qo, .inl (cI, 4, .inl (kA (va_up of n a)))), (qs, .inl (cI, 4, .inl (kA se)))]) := hD
    refine lv_aload_n hx hb d_Ph_append_21 rfl (lv_at hl 0 rfl) ?_
    refine va_get (D := D) (ci := 1) (v := .ref qs) (C := R_Ph) (T := T_Ph) (N := 12) hx hb hkw kin_Ph hown hK hP 0 rfl rfl 1 (by decide) (hkw _ kw_fieldLink_Ph_15) (fun _ h9 => h9) rfl d_Ph_append_22 ?_
    refine lv_aload_n hx hb d_Ph_append_25 rfl (lv_at hl 0 rfl) ?_
    refine va_get (D := D) (ci := 1) (v := .int (zI ↑n)) (C := R_Ph) (T := T_Ph) (N := 12) hx hb hkw kin_Ph hown hK hP 0 rfl rfl 2 (by decide) (hkw _ kw_fieldLink_Ph_18) (fun _ h9 => h9) rfl d_Ph_append_26 ?_
    refine lv_iload_n hx hb d_Ph_append_29 rfl (lv_at hl 2 rfl) ?_
    refine k_ast hx hb hK hP hD hS 2 0 rfl rfl (i := n) (v := b) (by omega) (by omega) (by omega) (by omega) d_Ph_append_30 ?_
    clear hP hD hS; intro H locs hP hD hS
    replace hP : va_P D k_cl ([(h, .inr (1, [.ref qo, .ref qs, .int (zI ↑n), .int (zI ↑sd), .ref qp, .ref qc, .ref qt, .ref qf, .ref qn, .int (zI ↑lm), .int (zI sf), .int (zI st)])), (qo, .inl (cI, 4, .inl (kA (va_up of n a)))), (qs, .inl (cI, 4, .inl (kA (va_up se n b))))]) H := hP
    replace hD : va_D A ([(h, .inr (1, [.ref qo, .ref qs, .int (zI ↑n), .int (zI ↑sd), .ref qp, .ref qc, .ref qt, .ref qf, .ref qn, .int (zI ↑lm), .int (zI sf), .int (zI st)])), (qo, .inl (cI, 4, .inl (kA (va_up of n a)))), (qs, .inl (cI, 4, .inl (kA (va_up se n b))))]) := hD
    refine lv_aload_n hx hb d_Ph_append_31 rfl (lv_at hl 0 rfl) ?_
    refine lv_dup hx hb d_Ph_append_32 rfl ?_
    refine va_get (D := D) (ci := 1) (v := .int (zI ↑n)) (C := R_Ph) (T := T_Ph) (N := 12) hx hb hkw kin_Ph hown hK hP 0 rfl rfl 2 (by decide) (hkw _ kw_fieldLink_Ph_18) (fun _ h9 => h9) rfl d_Ph_append_33 ?_
    refine lv_iconst (v := zI 1) hx hb d_Ph_append_36 (by decide) ?_
    refine k_iadd (v := ↑(n + 1)) hx hb d_Ph_append_37 (by omega) ?_
    refine va_put (D := D) (ci := 1) (v := .int (zI (↑(n + 1)))) (ty := .int) (C := R_Ph) (T := T_Ph) (N := 12) hx hb hkw kin_Ph ty_Ph ty_Ph_ok nm_Ph hown hK hP hD hS 0 rfl rfl 2 (by decide) (hkw _ kw_fieldLink_Ph_18) (fun _ h9 => h9) rfl (by decide +kernel) rfl rfl (Nat.le_of_ble_eq_true rfl) d_Ph_append_38 ?_
    clear hP hD hS; intro H locs hP hD hS
    replace hP : va_P D k_cl ([(h, .inr (1, [.ref qo, .ref qs, .int (zI (↑(n + 1))), .int (zI ↑sd), .ref qp, .ref qc, .ref qt, .ref qf, .ref qn, .int (zI ↑lm), .int (zI sf), .int (zI st)])), (qo, .inl (cI, 4, .inl (kA (va_up of n a)))), (qs, .inl (cI, 4, .inl (kA (va_up se n b))))]) H := hP
    replace hD : va_D A ([(h, .inr (1, [.ref qo, .ref qs, .int (zI (↑(n + 1))), .int (zI ↑sd), .ref qp, .ref qc, .ref qt, .ref qf, .ref qn, .int (zI ↑lm), .int (zI sf), .int (zI st)])), (qo, .inl (cI, 4, .inl (kA (va_up of n a)))), (qs, .inl (cI, 4, .inl (kA (va_up se n b))))]) := hD
    refine lv_aload_n hx hb d_Ph_append_41 rfl (lv_at hl 0 rfl) ?_
    refine k_beV (va_runV (As := []) (rest := []) ⟨hx, hb, hml, hown, hkw⟩ (c_Ph_outdate l D cI cR cG h qo qs qp qc qt qf qn (n + 1) sd lm sf st _) (cwV 0 hkw (k_gV kw_methodLink_Ph_52 kw_instanceMethod_Ph_outdate kw_selects_Ph_outdate kw_initialized_Ph kw_code_Ph_outdate) rfl rfl rfl (by decide +kernel) ⟨(Nat.le_of_ble_eq_true rfl), (Nat.le_of_ble_eq_true rfl)⟩) (k_preV (q0 := 0) hK hG hP hD [0] rfl rfl rfl rfl) rfl rfl hl.1 rfl (lv_room (Nat.le_of_ble_eq_true rfl)) d_Ph_append_42 ⟨Nat.zero_le _, Nat.zero_le _⟩) hP hD hS hA [0] rfl (Eq.trans (b := [h]) rfl rfl) ?_
    clear hP hD hS; intro H locs hP hD hS
    replace hP : va_P D k_cl ([(h, .inr (1, [.ref qo, .ref qs, .int (zI (↑(n + 1))), .int (zI 0), .ref qp, .ref qc, .ref qt, .ref qf, .ref qn, .int (zI ↑lm), .int (zI sf), .int (zI st)])), (qo, .inl (cI, 4, .inl (kA (va_up of n a)))), (qs, .inl (cI, 4, .inl (kA (va_up se n b))))]) H := hP
    replace hD : va_D A ([(h, .inr (1, [.ref qo, .ref qs, .int (zI (↑(n + 1))), .int (zI 0), .ref qp, .ref qc, .ref qt, .ref qf, .ref qn, .int (zI ↑lm), .int (zI sf), .int (zI st)])), (qo, .inl (cI, 4, .inl (kA (va_up of n a)))), (qs, .inl (cI, 4, .inl (kA (va_up se n b))))]) := hD
    refine lv_aload_n hx hb d_Ph_append_45 rfl (lv_at hl 0 rfl) ?_
    refine va_get (D := D) (ci := 1) (v := .int (zI (↑(n + 1)))) (C := R_Ph) (T := T_Ph) (N := 12) hx hb hkw kin_Ph hown hK hP 0 rfl rfl 2 (by decide) (hkw _ kw_fieldLink_Ph_18) (fun _ h9 => h9) rfl d_Ph_append_46 ?_
    refine lv_iconst (v := zI 1) hx hb d_Ph_append_49 (by decide) ?_
    refine k_isub (v := ↑n) hx hb d_Ph_append_50 (by omega) ?_
    rw [← hQf]
    exact k_iret hx hb hr hlocks hP hS rfl d_Ph_append_51
  · exfalso; omega

abbrev rm_Ph_append_full : Room := { frames := 0, cells := 0, slots := 0, locals := 0 }
set_option maxHeartbeats 4000000 in
set_option maxRecDepth 100000 in
theorem c_Ph_append_full (l : Launch) (D : va_G) (cI cR cG : ClassId) (h qo qs qp qc qt qf qn n sd lm : Nat) (sf st : Int) (a b : Int) (hn : n = 4) : k_M l y_Ph_append (.code y_Ph_append b_Ph_append 3 (some .int) :: kW) rm_Ph_append_full D k_cl (k_ty cI cR cG) [.ref h, .int (zI a), .int (zI b)] ([(h, .inr (1, [.ref qo, .ref qs, .int (zI ↑n), .int (zI ↑sd), .ref qp, .ref qc, .ref qt, .ref qf, .ref qn, .int (zI ↑lm), .int (zI sf), .int (zI st)]))]) (k_Qi D k_cl (zI (-4)) ([(h, .inr (1, [.ref qo, .ref qs, .int (zI ↑n), .int (zI ↑sd), .ref qp, .ref qc, .ref qt, .ref qf, .ref qn, .int (zI ↑lm), .int (zI sf), .int (zI st)]))])) := by
  refine k_start (cc := b_Ph_append) (maxL := 3) (ret := (some .int)) (by decide) rfl (Nat.le_of_ble_eq_true rfl) ?_
  intro p ev s m ar below meth c A ls Qf hQf hx hb hr hml hts hown hlocks hin hK hG hA hP hD hS hl
  replace hown : s.vm.findClass R_Ph = some m.cls := hown
  replace hl : lv_has ls 3 [(0, .ref h), (1, .int (zI a)), (2, .int (zI b))] := hl
  have hkw : ∀ w ∈ kW, w.before ar s = true := fun w h => hts w (List.mem_cons_of_mem _ h)
  replace hP : va_P D k_cl ([(h, .inr (1, [.ref qo, .ref qs, .int (zI ↑n), .int (zI ↑sd), .ref qp, .ref qc, .ref qt, .ref qf, .ref qn, .int (zI ↑lm), .int (zI sf), .int (zI st)]))]) s.heap := hP
  replace hD : va_D A ([(h, .inr (1, [.ref qo, .ref qs, .int (zI ↑n), .int (zI ↑sd), .ref qp, .ref qc, .ref qt, .ref qf, .ref qn, .int (zI ↑lm), .int (zI sf), .int (zI st)]))]) := hD
  refine lv_aload_n hx hb d_Ph_append_0 rfl (lv_at hl 0 rfl) ?_
  refine va_get (D := D) (ci := 1) (v := .int (zI ↑n)) (C := R_Ph) (T := T_Ph) (N := 12) hx hb hkw kin_Ph hown hK hP 0 rfl rfl 2 (by decide) (hkw _ kw_fieldLink_Ph_18) (fun _ h9 => h9) rfl d_Ph_append_1 ?_
  refine lv_iconst (v := zI 4) hx hb d_Ph_append_4 (by decide) ?_
  refine k_icmp_lt (tgt := 11) hx hb d_Ph_append_5 (by decide) ⟨by omega, by omega⟩ ⟨by omega, by omega⟩ (fun c_5 => ?_) (fun c_5 => ?_)
  · exfalso; omega
  · refine lv_bipush (v := zI (-4)) hx hb d_Ph_append_8 (by decide) ?_
    rw [← hQf]
    exact k_iret hx hb hr hlocks hP hS rfl d_Ph_append_10

abbrev rm_Ph_dropAll : Room := { frames := 1, cells := 0, slots := 0, locals := 20 }
set_option maxHeartbeats 4000000 in
set_option maxRecDepth 100000 in
theorem c_Ph_dropAll (l : Launch) (D : va_G) (cI cR cG : ClassId) (h qo qs qp qc qt qf qn n sd lm : Nat) (sf st : Int)  : k_M l y_Ph_dropAll (.code y_Ph_dropAll b_Ph_dropAll 2 (some .int) :: kW) rm_Ph_dropAll D k_cl (k_ty cI cR cG) [.ref h] ([(h, .inr (1, [.ref qo, .ref qs, .int (zI ↑n), .int (zI ↑sd), .ref qp, .ref qc, .ref qt, .ref qf, .ref qn, .int (zI ↑lm), .int (zI sf), .int (zI st)]))]) (k_Qi D k_cl (zI ↑n) ([(h, .inr (1, [.ref qo, .ref qs, .int (zI 0), .int (zI 0), .ref qp, .ref qc, .ref qt, .ref qf, .ref qn, .int (zI ↑lm), .int (zI sf), .int (zI st)]))])) := by
  refine k_start (cc := b_Ph_dropAll) (maxL := 2) (ret := (some .int)) (by decide) rfl (Nat.le_of_ble_eq_true rfl) ?_
  intro p ev s m ar below meth c A ls Qf hQf hx hb hr hml hts hown hlocks hin hK hG hA hP hD hS hl
  replace hown : s.vm.findClass R_Ph = some m.cls := hown
  replace hl : lv_has ls 2 [(0, .ref h)] := hl
  have hkw : ∀ w ∈ kW, w.before ar s = true := fun w h => hts w (List.mem_cons_of_mem _ h)
  replace hP : va_P D k_cl ([(h, .inr (1, [.ref qo, .ref qs, .int (zI ↑n), .int (zI ↑sd), .ref qp, .ref qc, .ref qt, .ref qf, .ref qn, .int (zI ↑lm), .int (zI sf), .int (zI st)]))]) s.heap := hP
  replace hD : va_D A ([(h, .inr (1, [.ref qo, .ref qs, .int (zI ↑n), .int (zI ↑sd), .ref qp, .ref qc, .ref qt, .ref qf, .ref qn, .int (zI ↑lm), .int (zI sf), .int (zI st)]))]) := hD
  refine lv_aload_n hx hb d_Ph_dropAll_0 rfl (lv_at hl 0 rfl) ?_
  refine va_get (D := D) (ci := 1) (v := .int (zI ↑n)) (C := R_Ph) (T := T_Ph) (N := 12) hx hb hkw kin_Ph hown hK hP 0 rfl rfl 2 (by decide) (hkw _ kw_fieldLink_Ph_18) (fun _ h9 => h9) rfl d_Ph_dropAll_1 ?_
  refine lv_istore_n (lv' := [(1, .int (zI ↑n)), (0, .ref h)]) hx hb d_Ph_dropAll_4 rfl hl (by decide) rfl ?_
  clear hl; intro ls hl
  refine lv_aload_n hx hb d_Ph_dropAll_5 rfl (lv_at hl 1 rfl) ?_
  refine lv_iconst (v := zI 0) hx hb d_Ph_dropAll_6 (by decide) ?_
  refine va_put (D := D) (ci := 1) (v := .int (zI 0)) (ty := .int) (C := R_Ph) (T := T_Ph) (N := 12) hx hb hkw kin_Ph ty_Ph ty_Ph_ok nm_Ph hown hK hP hD hS 0 rfl rfl 2 (by decide) (hkw _ kw_fieldLink_Ph_18) (fun _ h9 => h9) rfl (by decide +kernel) rfl rfl (Nat.le_of_ble_eq_true rfl) d_Ph_dropAll_7 ?_
  clear hP hD hS; intro H locs hP hD hS
  replace hP : va_P D k_cl ([(h, .inr (1, [.ref qo, .ref qs, .int (zI 0), .int (zI ↑sd), .ref qp, .ref qc, .ref qt, .ref qf, .ref qn, .int (zI ↑lm), .int (zI sf), .int (zI st)]))]) H := hP
  replace hD : va_D A ([(h, .inr (1, [.ref qo, .ref qs, .int (zI 0), .int (zI ↑sd), .ref qp, .ref qc, .ref qt, .ref qf, .ref qn, .int (zI ↑lm), .int (zI sf), .int (zI st)]))]) := hD
  refine lv_aload_n hx hb d_Ph_dropAll_10 rfl (lv_at hl 1 rfl) ?_
  refine k_beV (va_runV (As := []) (rest := []) ⟨hx, hb, hml, hown, hkw⟩ (c_Ph_outdate l D cI cR cG h qo qs qp qc qt qf qn 0 sd lm sf st _) (cwV 0 hkw (k_gV kw_methodLink_Ph_52 kw_instanceMethod_Ph_outdate kw_selects_Ph_outdate kw_initialized_Ph kw_code_Ph_outdate) rfl rfl rfl (by decide +kernel) ⟨(Nat.le_of_ble_eq_true rfl), (Nat.le_of_ble_eq_true rfl)⟩) (k_preV (q0 := 0) hK hG hP hD [0] rfl rfl rfl rfl) rfl rfl hl.1 rfl (lv_room (Nat.le_of_ble_eq_true rfl)) d_Ph_dropAll_11 ⟨Nat.zero_le _, Nat.zero_le _⟩) hP hD hS hA [0] rfl (Eq.trans (b := [h]) rfl rfl) ?_
  clear hP hD hS; intro H locs hP hD hS
  replace hP : va_P D k_cl ([(h, .inr (1, [.ref qo, .ref qs, .int (zI 0), .int (zI 0), .ref qp, .ref qc, .ref qt, .ref qf, .ref qn, .int (zI ↑lm), .int (zI sf), .int (zI st)]))]) H := hP
  replace hD : va_D A ([(h, .inr (1, [.ref qo, .ref qs, .int (zI 0), .int (zI 0), .ref qp, .ref qc, .ref qt, .ref qf, .ref qn, .int (zI ↑lm), .int (zI sf), .int (zI st)]))]) := hD
  refine lv_iload_n hx hb d_Ph_dropAll_14 rfl (lv_at hl 0 rfl) ?_
  rw [← hQf]
  exact k_iret hx hb hr hlocks hP hS rfl d_Ph_dropAll_15

abbrev rm_Ph_hasChoice : Room := { frames := 0, cells := 0, slots := 0, locals := 0 }
set_option maxHeartbeats 4000000 in
set_option maxRecDepth 100000 in
theorem c_Ph_hasChoice (l : Launch) (D : va_G) (cI cR cG : ClassId) (h qo qs qp qc qt qf qn n sd lm : Nat) (sf st : Int) (hlm : lm ≤ 77) : k_M l y_Ph_hasChoice (.code y_Ph_hasChoice b_Ph_hasChoice 1 (some .boolean) :: kW) rm_Ph_hasChoice D k_cl (k_ty cI cR cG) [.ref h] ([(h, .inr (1, [.ref qo, .ref qs, .int (zI ↑n), .int (zI ↑sd), .ref qp, .ref qc, .ref qt, .ref qf, .ref qn, .int (zI ↑lm), .int (zI sf), .int (zI st)]))]) (k_Qi D k_cl (k_b (lm ≠ 77)) ([(h, .inr (1, [.ref qo, .ref qs, .int (zI ↑n), .int (zI ↑sd), .ref qp, .ref qc, .ref qt, .ref qf, .ref qn, .int (zI ↑lm), .int (zI sf), .int (zI st)]))])) := by
  refine k_start (cc := b_Ph_hasChoice) (maxL := 1) (ret := (some .boolean)) (by decide) rfl (Nat.le_of_ble_eq_true rfl) ?_
  intro p ev s m ar below meth c A ls Qf hQf hx hb hr hml hts hown hlocks hin hK hG hA hP hD hS hl
  replace hown : s.vm.findClass R_Ph = some m.cls := hown
  replace hl : lv_has ls 1 [(0, .ref h)] := hl
  have hkw : ∀ w ∈ kW, w.before ar s = true := fun w h => hts w (List.mem_cons_of_mem _ h)
  replace hP : va_P D k_cl ([(h, .inr (1, [.ref qo, .ref qs, .int (zI ↑n), .int (zI ↑sd), .ref qp, .ref qc, .ref qt, .ref qf, .ref qn, .int (zI ↑lm), .int (zI sf), .int (zI st)]))]) s.heap := hP
  replace hD : va_D A ([(h, .inr (1, [.ref qo, .ref qs, .int (zI ↑n), .int (zI ↑sd), .ref qp, .ref qc, .ref qt, .ref qf, .ref qn, .int (zI ↑lm), .int (zI sf), .int (zI st)]))]) := hD
  refine lv_aload_n hx hb d_Ph_hasChoice_0 rfl (lv_at hl 0 rfl) ?_
  refine va_get (D := D) (ci := 1) (v := .int (zI ↑lm)) (C := R_Ph) (T := T_Ph) (N := 12) hx hb hkw kin_Ph hown hK hP 0 rfl rfl 9 (by decide) (hkw _ kw_fieldLink_Ph_43) (fun _ h9 => h9) rfl d_Ph_hasChoice_1 ?_
  refine lv_bipush (v := zI 77) hx hb d_Ph_hasChoice_4 (by decide) ?_
  refine k_icmp_eq (tgt := 13) hx hb d_Ph_hasChoice_6 (by decide) ⟨by omega, by omega⟩ ⟨by omega, by omega⟩ (fun c_6 => ?_) (fun c_6 => ?_)
  · refine lv_iconst (v := zI 0) hx hb d_Ph_hasChoice_13 (by decide) ?_
    rw [← hQf]
    exact k_zret hx hb hr hlocks hP hS (k_bf (by omega)).symm d_Ph_hasChoice_14
  · refine lv_iconst (v := zI 1) hx hb d_Ph_hasChoice_9 (by decide) ?_
    refine lv_goto (tgt := 14) hx hb d_Ph_hasChoice_10 (by decide) ?_
    rw [← hQf]
    exact k_zret hx hb hr hlocks hP hS (k_bt (by omega)).symm d_Ph_hasChoice_14

abbrev rm_Ph_leastMoved : Room := { frames := 0, cells := 0, slots := 0, locals := 0 }
set_option maxHeartbeats 4000000 in
set_option maxRecDepth 100000 in
theorem c_Ph_leastMoved (l : Launch) (D : va_G) (cI cR cG : ClassId) (h qo qs qp qc qt qf qn n sd lm : Nat) (sf st : Int)  : k_M l y_Ph_leastMoved (.code y_Ph_leastMoved b_Ph_leastMoved 1 (some .int) :: kW) rm_Ph_leastMoved D k_cl (k_ty cI cR cG) [.ref h] ([(h, .inr (1, [.ref qo, .ref qs, .int (zI ↑n), .int (zI ↑sd), .ref qp, .ref qc, .ref qt, .ref qf, .ref qn, .int (zI ↑lm), .int (zI sf), .int (zI st)]))]) (k_Qi D k_cl (zI ↑lm) ([(h, .inr (1, [.ref qo, .ref qs, .int (zI ↑n), .int (zI ↑sd), .ref qp, .ref qc, .ref qt, .ref qf, .ref qn, .int (zI ↑lm), .int (zI sf), .int (zI st)]))])) := by
  refine k_start (cc := b_Ph_leastMoved) (maxL := 1) (ret := (some .int)) (by decide) rfl (Nat.le_of_ble_eq_true rfl) ?_
  intro p ev s m ar below meth c A ls Qf hQf hx hb hr hml hts hown hlocks hin hK hG hA hP hD hS hl
  replace hown : s.vm.findClass R_Ph = some m.cls := hown
  replace hl : lv_has ls 1 [(0, .ref h)] := hl
  have hkw : ∀ w ∈ kW, w.before ar s = true := fun w h => hts w (List.mem_cons_of_mem _ h)
  replace hP : va_P D k_cl ([(h, .inr (1, [.ref qo, .ref qs, .int (zI ↑n), .int (zI ↑sd), .ref qp, .ref qc, .ref qt, .ref qf, .ref qn, .int (zI ↑lm), .int (zI sf), .int (zI st)]))]) s.heap := hP
  replace hD : va_D A ([(h, .inr (1, [.ref qo, .ref qs, .int (zI ↑n), .int (zI ↑sd), .ref qp, .ref qc, .ref qt, .ref qf, .ref qn, .int (zI ↑lm), .int (zI sf), .int (zI st)]))]) := hD
  refine lv_aload_n hx hb d_Ph_leastMoved_0 rfl (lv_at hl 0 rfl) ?_
  refine va_get (D := D) (ci := 1) (v := .int (zI ↑lm)) (C := R_Ph) (T := T_Ph) (N := 12) hx hb hkw kin_Ph hown hK hP 0 rfl rfl 9 (by decide) (hkw _ kw_fieldLink_Ph_43) (fun _ h9 => h9) rfl d_Ph_leastMoved_1 ?_
  rw [← hQf]
  exact k_iret hx hb hr hlocks hP hS rfl d_Ph_leastMoved_4

abbrev rm_Ph_shortestBegin : Room := { frames := 0, cells := 0, slots := 0, locals := 0 }
set_option maxHeartbeats 4000000 in
set_option maxRecDepth 100000 in
theorem c_Ph_shortestBegin (l : Launch) (D : va_G) (cI cR cG : ClassId) (h qo qs qp qc qt qf qn n sd lm : Nat) (sf st : Int)  : k_M l y_Ph_shortestBegin (.code y_Ph_shortestBegin b_Ph_shortestBegin 1 (some .int) :: kW) rm_Ph_shortestBegin D k_cl (k_ty cI cR cG) [.ref h] ([(h, .inr (1, [.ref qo, .ref qs, .int (zI ↑n), .int (zI ↑sd), .ref qp, .ref qc, .ref qt, .ref qf, .ref qn, .int (zI ↑lm), .int (zI sf), .int (zI st)]))]) (k_Qi D k_cl (zI sf) ([(h, .inr (1, [.ref qo, .ref qs, .int (zI ↑n), .int (zI ↑sd), .ref qp, .ref qc, .ref qt, .ref qf, .ref qn, .int (zI ↑lm), .int (zI sf), .int (zI st)]))])) := by
  refine k_start (cc := b_Ph_shortestBegin) (maxL := 1) (ret := (some .int)) (by decide) rfl (Nat.le_of_ble_eq_true rfl) ?_
  intro p ev s m ar below meth c A ls Qf hQf hx hb hr hml hts hown hlocks hin hK hG hA hP hD hS hl
  replace hown : s.vm.findClass R_Ph = some m.cls := hown
  replace hl : lv_has ls 1 [(0, .ref h)] := hl
  have hkw : ∀ w ∈ kW, w.before ar s = true := fun w h => hts w (List.mem_cons_of_mem _ h)
  replace hP : va_P D k_cl ([(h, .inr (1, [.ref qo, .ref qs, .int (zI ↑n), .int (zI ↑sd), .ref qp, .ref qc, .ref qt, .ref qf, .ref qn, .int (zI ↑lm), .int (zI sf), .int (zI st)]))]) s.heap := hP
  replace hD : va_D A ([(h, .inr (1, [.ref qo, .ref qs, .int (zI ↑n), .int (zI ↑sd), .ref qp, .ref qc, .ref qt, .ref qf, .ref qn, .int (zI ↑lm), .int (zI sf), .int (zI st)]))]) := hD
  refine lv_aload_n hx hb d_Ph_shortestBegin_0 rfl (lv_at hl 0 rfl) ?_
  refine va_get (D := D) (ci := 1) (v := .int (zI sf)) (C := R_Ph) (T := T_Ph) (N := 12) hx hb hkw kin_Ph hown hK hP 0 rfl rfl 10 (by decide) (hkw _ kw_fieldLink_Ph_46) (fun _ h9 => h9) rfl d_Ph_shortestBegin_1 ?_
  rw [← hQf]
  exact k_iret hx hb hr hlocks hP hS rfl d_Ph_shortestBegin_4

abbrev rm_Ph_shortestEnd : Room := { frames := 0, cells := 0, slots := 0, locals := 0 }
set_option maxHeartbeats 4000000 in
set_option maxRecDepth 100000 in
theorem c_Ph_shortestEnd (l : Launch) (D : va_G) (cI cR cG : ClassId) (h qo qs qp qc qt qf qn n sd lm : Nat) (sf st : Int)  : k_M l y_Ph_shortestEnd (.code y_Ph_shortestEnd b_Ph_shortestEnd 1 (some .int) :: kW) rm_Ph_shortestEnd D k_cl (k_ty cI cR cG) [.ref h] ([(h, .inr (1, [.ref qo, .ref qs, .int (zI ↑n), .int (zI ↑sd), .ref qp, .ref qc, .ref qt, .ref qf, .ref qn, .int (zI ↑lm), .int (zI sf), .int (zI st)]))]) (k_Qi D k_cl (zI st) ([(h, .inr (1, [.ref qo, .ref qs, .int (zI ↑n), .int (zI ↑sd), .ref qp, .ref qc, .ref qt, .ref qf, .ref qn, .int (zI ↑lm), .int (zI sf), .int (zI st)]))])) := by
  refine k_start (cc := b_Ph_shortestEnd) (maxL := 1) (ret := (some .int)) (by decide) rfl (Nat.le_of_ble_eq_true rfl) ?_
  intro p ev s m ar below meth c A ls Qf hQf hx hb hr hml hts hown hlocks hin hK hG hA hP hD hS hl
  replace hown : s.vm.findClass R_Ph = some m.cls := hown
  replace hl : lv_has ls 1 [(0, .ref h)] := hl
  have hkw : ∀ w ∈ kW, w.before ar s = true := fun w h => hts w (List.mem_cons_of_mem _ h)
  replace hP : va_P D k_cl ([(h, .inr (1, [.ref qo, .ref qs, .int (zI ↑n), .int (zI ↑sd), .ref qp, .ref qc, .ref qt, .ref qf, .ref qn, .int (zI ↑lm), .int (zI sf), .int (zI st)]))]) s.heap := hP
  replace hD : va_D A ([(h, .inr (1, [.ref qo, .ref qs, .int (zI ↑n), .int (zI ↑sd), .ref qp, .ref qc, .ref qt, .ref qf, .ref qn, .int (zI ↑lm), .int (zI sf), .int (zI st)]))]) := hD
  refine lv_aload_n hx hb d_Ph_shortestEnd_0 rfl (lv_at hl 0 rfl) ?_
  refine va_get (D := D) (ci := 1) (v := .int (zI st)) (C := R_Ph) (T := T_Ph) (N := 12) hx hb hkw kin_Ph hown hK hP 0 rfl rfl 11 (by decide) (hkw _ kw_fieldLink_Ph_49) (fun _ h9 => h9) rfl d_Ph_shortestEnd_1 ?_
  rw [← hQf]
  exact k_iret hx hb hr hlocks hP hS rfl d_Ph_shortestEnd_4

abbrev rm_Ph_placeInFirst : Room := { frames := 1, cells := 0, slots := 0, locals := 21 }
set_option maxHeartbeats 4000000 in
set_option maxRecDepth 100000 in
theorem c_Ph_placeInFirst (l : Launch) (D : va_G) (cI cR cG : ClassId) (h qo qs qp qc qt qf qn n sd lm : Nat) (sf st : Int) (fc : Nat → Nat) (i : Nat) (hi : i < n) (hn : n ≤ 4) : k_M l y_Ph_placeInFirst (.code y_Ph_placeInFirst b_Ph_placeInFirst 2 (some .int) :: kW) rm_Ph_placeInFirst D k_cl (k_ty cI cR cG) [.ref h, .int (zI ↑i)] ([(h, .inr (1, [.ref qo, .ref qs, .int (zI ↑n), .int (zI ↑sd), .ref qp, .ref qc, .ref qt, .ref qf, .ref qn, .int (zI ↑lm), .int (zI sf), .int (zI st)])), (qf, .inl (cI, 4, .inl (kA fc)))]) (k_Qi D k_cl (zI ↑(fc i)) ([(h, .inr (1, [.ref qo, .ref qs, .int (zI ↑n), .int (zI ↑sd), .ref qp, .ref qc, .ref qt, .ref qf, .ref qn, .int (zI ↑lm), .int (zI sf), .int (zI st)])), (qf, .inl (cI, 4, .inl (kA fc)))])) := by
  refine k_start (cc := b_Ph_placeInFirst) (maxL := 2) (ret := (some .int)) (by decide) rfl (Nat.le_of_ble_eq_true rfl) ?_
  intro p ev s m ar below meth c A ls Qf hQf hx hb hr hml hts hown hlocks hin hK hG hA hP hD hS hl
  replace hown : s.vm.findClass R_Ph = some m.cls := hown
  replace hl : lv_has ls 2 [(0, .ref h), (1, .int (zI ↑i))] := hl
  have hkw : ∀ w ∈ kW, w.before ar s = true := fun w h => hts w (List.mem_cons_of_mem _ h)
  replace hP : va_P D k_cl ([(h, .inr (1, [.ref qo, .ref qs, .int (zI ↑n), .int (zI ↑sd), .ref qp, .ref qc, .ref qt, .ref qf, .ref qn, .int (zI ↑lm), .int (zI sf), .int (zI st)])), (qf, .inl (cI, 4, .inl (kA fc)))]) s.heap := hP
  replace hD : va_D A ([(h, .inr (1, [.ref qo, .ref qs, .int (zI ↑n), .int (zI ↑sd), .ref qp, .ref qc, .ref qt, .ref qf, .ref qn, .int (zI ↑lm), .int (zI sf), .int (zI st)])), (qf, .inl (cI, 4, .inl (kA fc)))]) := hD
  refine lv_aload_n hx hb d_Ph_placeInFirst_0 rfl (lv_at hl 0 rfl) ?_
  refine lv_iload_n hx hb d_Ph_placeInFirst_1 rfl (lv_at hl 1 rfl) ?_
  refine k_beI (va_runV (As := [.int (zI ↑i)]) (rest := []) ⟨hx, hb, hml, hown, hkw⟩ (c_Ph_has l D cI cR cG h qo qs qp qc qt qf qn n sd lm sf st ↑i ⟨by omega, by omega⟩ (by omega) _) (cwV 1 hkw (k_gV kw_methodLink_Ph_55 kw_instanceMethod_Ph_has kw_selects_Ph_has kw_initialized_Ph kw_code_Ph_has) rfl rfl rfl (by decide +kernel) ⟨(Nat.le_of_ble_eq_true rfl), (Nat.le_of_ble_eq_true rfl)⟩) (k_preV (q0 := 0) hK hG hP hD [0] rfl rfl rfl rfl) rfl rfl hl.1 rfl (lv_room (Nat.le_of_ble_eq_true rfl)) d_Ph_placeInFirst_2 ⟨Nat.zero_le _, Nat.zero_le _⟩) hP hD hS hA [0] rfl (Eq.trans (b := [h]) rfl rfl) ?_
  clear hP hD hS; intro H locs hP hD hS
  replace hP : va_P D k_cl ([(h, .inr (1, [.ref qo, .ref qs, .int (zI ↑n), .int (zI ↑sd), .ref qp, .ref qc, .ref qt, .ref qf, .ref qn, .int (zI ↑lm), .int (zI sf), .int (zI st)])), (qf, .inl (cI, 4, .inl (kA fc)))]) H := hP
  replace hD : va_D A ([(h, .inr (1, [.ref qo, .ref qs, .int (zI ↑n), .int (zI ↑sd), .ref qp, .ref qc, .ref qt, .ref qf, .ref qn, .int (zI ↑lm), .int (zI sf), .int (zI st)])), (qf, .inl (cI, 4, .inl (kA fc)))]) := hD
  refine k_bif_eq (tgt := 17) hx hb d_Ph_placeInFirst_5 (by decide) (fun c_5 => ?_) (fun c_5 => ?_)
  · exfalso; omega
  · refine lv_aload_n hx hb d_Ph_placeInFirst_8 rfl (lv_at hl 0 rfl) ?_
    refine va_get (D := D) (ci := 1) (v := .ref qf) (C := R_Ph) (T := T_Ph) (N := 12) hx hb hkw kin_Ph hown hK hP 0 rfl rfl 7 (by decide) (hkw _ kw_fieldLink_Ph_37) (fun _ h9 => h9) rfl d_Ph_placeInFirst_9 ?_
    refine lv_iload_n hx hb d_Ph_placeInFirst_12 rfl (lv_at hl 1 rfl) ?_
    refine k_ald hx hb hK hP 1 0 rfl rfl (i := i) (by omega) (by omega) (by omega) d_Ph_placeInFirst_13 ?_
    refine lv_goto (tgt := 18) hx hb d_Ph_placeInFirst_14 (by decide) ?_
    rw [← hQf]
    exact k_iret hx hb hr hlocks hP hS rfl d_Ph_placeInFirst_18

abbrev rm_Ph_choicesMovedBy : Room := { frames := 0, cells := 0, slots := 0, locals := 0 }
set_option maxHeartbeats 4000000 in
set_option maxRecDepth 100000 in
theorem c_Ph_choicesMovedBy (l : Launch) (D : va_G) (cI cR cG : ClassId) (h qo qs qp qc qt qf qn n sd lm : Nat) (sf st : Int) (cn : Nat → Nat) (i : Nat) (hi : i ≤ 76) : k_M l y_Ph_choicesMovedBy (.code y_Ph_choicesMovedBy b_Ph_choicesMovedBy 2 (some .int) :: kW) rm_Ph_choicesMovedBy D k_cl (k_ty cI cR cG) [.ref h, .int (zI ↑i)] ([(h, .inr (1, [.ref qo, .ref qs, .int (zI ↑n), .int (zI ↑sd), .ref qp, .ref qc, .ref qt, .ref qf, .ref qn, .int (zI ↑lm), .int (zI sf), .int (zI st)])), (qn, .inl (cI, 77, .inl (kA cn)))]) (k_Qi D k_cl (zI ↑(cn i)) ([(h, .inr (1, [.ref qo, .ref qs, .int (zI ↑n), .int (zI ↑sd), .ref qp, .ref qc, .ref qt, .ref qf, .ref qn, .int (zI ↑lm), .int (zI sf), .int (zI st)])), (qn, .inl (cI, 77, .inl (kA cn)))])) := by
  refine k_start (cc := b_Ph_choicesMovedBy) (maxL := 2) (ret := (some .int)) (by decide) rfl (Nat.le_of_ble_eq_true rfl) ?_
  intro p ev s m ar below meth c A ls Qf hQf hx hb hr hml hts hown hlocks hin hK hG hA hP hD hS hl
  replace hown : s.vm.findClass R_Ph = some m.cls := hown
  replace hl : lv_has ls 2 [(0, .ref h), (1, .int (zI ↑i))] := hl
  have hkw : ∀ w ∈ kW, w.before ar s = true := fun w h => hts w (List.mem_cons_of_mem _ h)
  replace hP : va_P D k_cl ([(h, .inr (1, [.ref qo, .ref qs, .int (zI ↑n), .int (zI ↑sd), .ref qp, .ref qc, .ref qt, .ref qf, .ref qn, .int (zI ↑lm), .int (zI sf), .int (zI st)])), (qn, .inl (cI, 77, .inl (kA cn)))]) s.heap := hP
  replace hD : va_D A ([(h, .inr (1, [.ref qo, .ref qs, .int (zI ↑n), .int (zI ↑sd), .ref qp, .ref qc, .ref qt, .ref qf, .ref qn, .int (zI ↑lm), .int (zI sf), .int (zI st)])), (qn, .inl (cI, 77, .inl (kA cn)))]) := hD
  refine lv_iload_n hx hb d_Ph_choicesMovedBy_0 rfl (lv_at hl 1 rfl) ?_
  refine k_if_lt (tgt := 19) hx hb d_Ph_choicesMovedBy_1 (by decide) ⟨by omega, by omega⟩ (fun c_1 => ?_) (fun c_1 => ?_)
  · exfalso; omega
  · refine lv_iload_n hx hb d_Ph_choicesMovedBy_4 rfl (lv_at hl 1 rfl) ?_
    refine lv_bipush (v := zI 76) hx hb d_Ph_choicesMovedBy_5 (by decide) ?_
    refine k_icmp_gt (tgt := 19) hx hb d_Ph_choicesMovedBy_7 (by decide) ⟨by omega, by omega⟩ ⟨by omega, by omega⟩ (fun c_7 => ?_) (fun c_7 => ?_)
    · exfalso; omega
    · refine lv_aload_n hx hb d_Ph_choicesMovedBy_10 rfl (lv_at hl 0 rfl) ?_
      refine va_get (D := D) (ci := 1) (v := .ref qn) (C := R_Ph) (T := T_Ph) (N := 12) hx hb hkw kin_Ph hown hK hP 0 rfl rfl 8 (by decide) (hkw _ kw_fieldLink_Ph_40) (fun _ h9 => h9) rfl d_Ph_choicesMovedBy_11 ?_
      refine lv_iload_n hx hb d_Ph_choicesMovedBy_14 rfl (lv_at hl 1 rfl) ?_
      refine k_ald hx hb hK hP 1 0 rfl rfl (i := i) (by omega) (by omega) (by omega) d_Ph_choicesMovedBy_15 ?_
      refine lv_goto (tgt := 20) hx hb d_Ph_choicesMovedBy_16 (by decide) ?_
      rw [← hQf]
      exact k_iret hx hb hr hlocks hP hS rfl d_Ph_choicesMovedBy_20

abbrev rm_Ph_choicesUpTo : Room := { frames := 0, cells := 0, slots := 0, locals := 0 }
set_option maxHeartbeats 4000000 in
set_option maxRecDepth 100000 in
theorem c_Ph_choicesUpTo (l : Launch) (D : va_G) (cI cR cG : ClassId) (h qo qs qp qc qt qf qn n sd lm : Nat) (sf st : Int) (cn : Nat → Nat) (sl : Nat) (hsl : sl ≤ 9) : k_M l y_Ph_choicesUpTo (.code y_Ph_choicesUpTo b_Ph_choicesUpTo 4 (some .int) :: kW) rm_Ph_choicesUpTo D k_cl (k_ty cI cR cG) [.ref h, .int (zI ↑sl)] ([(h, .inr (1, [.ref qo, .ref qs, .int (zI ↑n), .int (zI ↑sd), .ref qp, .ref qc, .ref qt, .ref qf, .ref qn, .int (zI ↑lm), .int (zI sf), .int (zI st)])), (qn, .inl (cI, 77, .inl (kA cn)))]) (k_Qi D k_cl (zI ↑(cSum cn (sl + 1) 0 0)) ([(h, .inr (1, [.ref qo, .ref qs, .int (zI ↑n), .int (zI ↑sd), .ref qp, .ref qc, .ref qt, .ref qf, .ref qn, .int (zI ↑lm), .int (zI sf), .int (zI st)])), (qn, .inl (cI, 77, .inl (kA cn)))])) := by
  refine k_start (cc := b_Ph_choicesUpTo) (maxL := 4) (ret := (some .int)) (by decide) rfl (Nat.le_of_ble_eq_true rfl) ?_
  intro p ev s m ar below meth c A ls Qf hQf hx hb hr hml hts hown hlocks hin hK hG hA hP hD hS hl
  replace hown : s.vm.findClass R_Ph = some m.cls := hown
  replace hl : lv_has ls 4 [(0, .ref h), (1, .int (zI ↑sl))] := hl
  have hkw : ∀ w ∈ kW, w.before ar s = true := fun w h => hts w (List.mem_cons_of_mem _ h)
  replace hP : va_P D k_cl ([(h, .inr (1, [.ref qo, .ref qs, .int (zI ↑n), .int (zI ↑sd), .ref qp, .ref qc, .ref qt, .ref qf, .ref qn, .int (zI ↑lm), .int (zI sf), .int (zI st)])), (qn, .inl (cI, 77, .inl (kA cn)))]) s.heap := hP
  replace hD : va_D A ([(h, .inr (1, [.ref qo, .ref qs, .int (zI ↑n), .int (zI ↑sd), .ref qp, .ref qc, .ref qt, .ref qf, .ref qn, .int (zI ↑lm), .int (zI sf), .int (zI st)])), (qn, .inl (cI, 77, .inl (kA cn)))]) := hD
  refine lv_iconst (v := zI 0) hx hb d_Ph_choicesUpTo_0 (by decide) ?_
  refine lv_istore_n (lv' := [(2, .int (zI 0)), (0, .ref h), (1, .int (zI ↑sl))]) hx hb d_Ph_choicesUpTo_1 rfl hl (by decide) rfl ?_
  clear hl; intro ls hl
  refine lv_iconst (v := zI 0) hx hb d_Ph_choicesUpTo_2 (by decide) ?_
  refine lv_istore_n (lv' := [(3, .int (zI 0)), (2, .int (zI 0)), (0, .ref h), (1, .int (zI ↑sl))]) hx hb d_Ph_choicesUpTo_3 rfl hl (by decide) rfl ?_
  clear hl; intro ls hl
  have loop_4 : ∀ (k : Nat) (i : Nat) (acc : Nat), (i + k = sl + 1) → (cSum cn k i acc = cSum cn (sl + 1) 0 0) → ∀ (H : Heap) (locs : List Loc) (ls : Array Slot), va_P D k_cl ([(h, .inr (1, [.ref qo, .ref qs, .int (zI ↑n), .int (zI ↑sd), .ref qp, .ref qc, .ref qt, .ref qf, .ref qn, .int (zI ↑lm), .int (zI sf), .int (zI st)])), (qn, .inl (cI, 77, .inl (kA cn)))]) H → va_D A ([(h, .inr (1, [.ref qo, .ref qs, .int (zI ↑n), .int (zI ↑sd), .ref qp, .ref qc, .ref qt, .ref qf, .ref qn, .int (zI ↑lm), .int (zI sf), .int (zI st)])), (qn, .inl (cI, 77, .inl (kA cn)))]) → va_S A s.heap H locs → lv_has ls 4 [(0, .ref h), (1, .int (zI ↑sl)), (2, .int (zI ↑acc)), (3, .int (zI ↑i))] → W p l ev rm_Ph_choicesUpTo s m ar below meth c H locs 0 0 Qf (F0 m 4 ls []) := by
    intro k
    induction k with
    | zero =>
      intro i acc hin hgo H locs ls hP hD hS hl
      refine lv_iload_n hx hb d_Ph_choicesUpTo_4 rfl (lv_at hl 3 rfl) ?_
      refine lv_iload_n hx hb d_Ph_choicesUpTo_5 rfl (lv_at hl 1 rfl) ?_
      refine k_icmp_gt (tgt := 30) hx hb d_Ph_choicesUpTo_6 (by decide) ⟨by omega, by omega⟩ ⟨by omega, by omega⟩ (fun c_6 => ?_) (fun c_6 => ?_)
      · refine lv_iload_n hx hb d_Ph_choicesUpTo_30 rfl (lv_at hl 2 rfl) ?_
        rw [← hQf]
        exact k_iret hx hb hr hlocks hP hS (by rw [← hgo]; rfl) d_Ph_choicesUpTo_31
      · exfalso; omega
    | succ k ih_4 =>
      intro i acc hin hgo H locs ls hP hD hS hl
      refine lv_iload_n hx hb d_Ph_choicesUpTo_4 rfl (lv_at hl 3 rfl) ?_
      refine lv_iload_n hx hb d_Ph_choicesUpTo_5 rfl (lv_at hl 1 rfl) ?_
      refine k_icmp_gt (tgt := 30) hx hb d_Ph_choicesUpTo_6 (by decide) ⟨by omega, by omega⟩ ⟨by omega, by omega⟩ (fun c_6 => ?_) (fun c_6 => ?_)
      · exfalso; omega
      · refine lv_iload_n hx hb d_Ph_choicesUpTo_9 rfl (lv_at hl 3 rfl) ?_
        refine lv_bipush (v := zI 9) hx hb d_Ph_choicesUpTo_10 (by decide) ?_
        refine k_icmp_gt (tgt := 30) hx hb d_Ph_choicesUpTo_12 (by decide) ⟨by omega, by omega⟩ ⟨by omega, by omega⟩ (fun c_12 => ?_) (fun c_12 => ?_)
        · exfalso; omega
        · refine lv_iload_n hx hb d_Ph_choicesUpTo_15 rfl (lv_at hl 2 rfl) ?_
          refine lv_aload_n hx hb d_Ph_choicesUpTo_16 rfl (lv_at hl 0 rfl) ?_
          refine va_get (D := D) (ci := 1) (v := .ref qn) (C := R_Ph) (T := T_Ph) (N := 12) hx hb hkw kin_Ph hown hK hP 0 rfl rfl 8 (by decide) (hkw _ kw_fieldLink_Ph_40) (fun _ h9 => h9) rfl d_Ph_choicesUpTo_17 ?_
          refine lv_iload_n hx hb d_Ph_choicesUpTo_20 rfl (lv_at hl 3 rfl) ?_
          refine k_ald hx hb hK hP 1 0 rfl rfl (i := i) (by omega) (by omega) (by omega) d_Ph_choicesUpTo_21 ?_
          refine k_iadd (v := ↑(acc + cn i)) hx hb d_Ph_choicesUpTo_22 (by omega) ?_
          refine lv_istore_n (lv' := [(2, .int (zI (↑(acc + cn i)))), (0, .ref h), (1, .int (zI ↑sl)), (3, .int (zI ↑i))]) hx hb d_Ph_choicesUpTo_23 rfl hl (by decide) rfl ?_
          clear hl; intro ls hl
          refine k_iinc (v := ↑(i + 1)) (lv' := [(3, .int (zI (↑(i + 1)))), (2, .int (zI (↑(acc + cn i)))), (0, .ref h), (1, .int (zI ↑sl))]) hx hb d_Ph_choicesUpTo_24 hl (k := 3) rfl (by omega) (by decide) rfl ?_
          clear hl; intro ls hl
          refine lv_goto (tgt := 4) hx hb d_Ph_choicesUpTo_27 (by decide) ?_
          exact ih_4 (i + 1) (acc + cn i) (by omega) hgo _ _ _ hP hD hS (lv_sub hl [2, 3, 1, 0] rfl)
  exact loop_4 (sl + 1) 0 0 (by omega) rfl _ _ _ hP hD hS (lv_sub hl [2, 3, 1, 0] rfl)

abbrev rm_Ph_weightUpTo : Room := { frames := 0, cells := 0, slots := 0, locals := 0 }
set_option maxHeartbeats 4000000 in
set_option maxRecDepth 100000 in
theorem c_Ph_weightUpTo (l : Launch) (D : va_G) (cI cR cG : ClassId) (h qo qs qp qc qt qf qn n sd lm : Nat) (sf st : Int) (cn : Nat → Nat) (sl : Nat) (hsl : sl ≤ 9) (hcn : ∀ j, cn j ≤ 1000000) : k_M l y_Ph_weightUpTo (.code y_Ph_weightUpTo b_Ph_weightUpTo 5 (some .long) :: kW) rm_Ph_weightUpTo D k_cl (k_ty cI cR cG) [.ref h, .int (zI ↑sl)] ([(h, .inr (1, [.ref qo, .ref qs, .int (zI ↑n), .int (zI ↑sd), .ref qp, .ref qc, .ref qt, .ref qf, .ref qn, .int (zI ↑lm), .int (zI sf), .int (zI st)])), (qn, .inl (cI, 77, .inl (kA cn)))]) (k_Ql D k_cl (lN (wSum cn (sl + 1) 0 0)) ([(h, .inr (1, [.ref qo, .ref qs, .int (zI ↑n), .int (zI ↑sd), .ref qp, .ref qc, .ref qt, .ref qf, .ref qn, .int (zI ↑lm), .int (zI sf), .int (zI st)])), (qn, .inl (cI, 77, .inl (kA cn)))])) := by
  refine k_start (cc := b_Ph_weightUpTo) (maxL := 5) (ret := (some .long)) (by decide) rfl (Nat.le_of_ble_eq_true rfl) ?_
  intro p ev s m ar below meth c A ls Qf hQf hx hb hr hml hts hown hlocks hin hK hG hA hP hD hS hl
  replace hown : s.vm.findClass R_Ph = some m.cls := hown
  replace hl : lv_has ls 5 [(0, .ref h), (1, .int (zI ↑sl))] := hl
  have hkw : ∀ w ∈ kW, w.before ar s = true := fun w h => hts w (List.mem_cons_of_mem _ h)
  replace hP : va_P D k_cl ([(h, .inr (1, [.ref qo, .ref qs, .int (zI ↑n), .int (zI ↑sd), .ref qp, .ref qc, .ref qt, .ref qf, .ref qn, .int (zI ↑lm), .int (zI sf), .int (zI st)])), (qn, .inl (cI, 77, .inl (kA cn)))]) s.heap := hP
  replace hD : va_D A ([(h, .inr (1, [.ref qo, .ref qs, .int (zI ↑n), .int (zI ↑sd), .ref qp, .ref qc, .ref qt, .ref qf, .ref qn, .int (zI ↑lm), .int (zI sf), .int (zI st)])), (qn, .inl (cI, 77, .inl (kA cn)))]) := hD
  refine lv_lconst (v := lN 0) hx hb d_Ph_weightUpTo_0 (by decide) ?_
  refine lv_lstore_n (lv' := [(2, .long (lN 0)), (0, .ref h), (1, .int (zI ↑sl))]) hx hb d_Ph_weightUpTo_1 rfl hl (by decide) rfl ?_
  clear hl; intro ls hl
  refine lv_iconst (v := zI 0) hx hb d_Ph_weightUpTo_2 (by decide) ?_
  refine lv_istore (lv' := [(4, .int (zI 0)), (2, .long (lN 0)), (0, .ref h), (1, .int (zI ↑sl))]) hx hb d_Ph_weightUpTo_3 hl (by decide) rfl ?_
  clear hl; intro ls hl
  have loop_5 : ∀ (k : Nat) (i : Nat) (acc : Nat), (i + k = sl + 1) → (wSum cn k i acc = wSum cn (sl + 1) 0 0) → ∀ (H : Heap) (locs : List Loc) (ls : Array Slot), va_P D k_cl ([(h, .inr (1, [.ref qo, .ref qs, .int (zI ↑n), .int (zI ↑sd), .ref qp, .ref qc, .ref qt, .ref qf, .ref qn, .int (zI ↑lm), .int (zI sf), .int (zI st)])), (qn, .inl (cI, 77, .inl (kA cn)))]) H → va_D A ([(h, .inr (1, [.ref qo, .ref qs, .int (zI ↑n), .int (zI ↑sd), .ref qp, .ref qc, .ref qt, .ref qf, .ref qn, .int (zI ↑lm), .int (zI sf), .int (zI st)])), (qn, .inl (cI, 77, .inl (kA cn)))]) → va_S A s.heap H locs → lv_has ls 5 [(0, .ref h), (1, .int (zI ↑sl)), (2, .long (lN acc)), (4, .int (zI ↑i))] → W p l ev rm_Ph_weightUpTo s m ar below meth c H locs 0 0 Qf (F0 m 5 ls []) := by
    intro k
    induction k with
    | zero =>
      intro i acc hin hgo H locs ls hP hD hS hl
      refine lv_iload hx hb d_Ph_weightUpTo_5 (lv_at hl 3 rfl) ?_
      refine lv_iload_n hx hb d_Ph_weightUpTo_7 rfl (lv_at hl 1 rfl) ?_
      refine k_icmp_gt (tgt := 45) hx hb d_Ph_weightUpTo_8 (by decide) ⟨by omega, by omega⟩ ⟨by omega, by omega⟩ (fun c_8 => ?_) (fun c_8 => ?_)
      · refine lv_lload_n hx hb d_Ph_weightUpTo_45 rfl (lv_at hl 2 rfl) ?_
        rw [← hQf]
        exact k_lret hx hb hr hlocks hP hS (by rw [← hgo]; rfl) d_Ph_weightUpTo_46
      · exfalso; omega
    | succ k ih_5 =>
      intro i acc hin hgo H locs ls hP hD hS hl
      refine lv_iload hx hb d_Ph_weightUpTo_5 (lv_at hl 3 rfl) ?_
      refine lv_iload_n hx hb d_Ph_weightUpTo_7 rfl (lv_at hl 1 rfl) ?_
      refine k_icmp_gt (tgt := 45) hx hb d_Ph_weightUpTo_8 (by decide) ⟨by omega, by omega⟩ ⟨by omega, by omega⟩ (fun c_8 => ?_) (fun c_8 => ?_)
      · exfalso; omega
      · refine lv_iload hx hb d_Ph_weightUpTo_11 (lv_at hl 3 rfl) ?_
        refine lv_bipush (v := zI 9) hx hb d_Ph_weightUpTo_13 (by decide) ?_
        refine k_icmp_gt (tgt := 45) hx hb d_Ph_weightUpTo_15 (by decide) ⟨by omega, by omega⟩ ⟨by omega, by omega⟩ (fun c_15 => ?_) (fun c_15 => ?_)
        · exfalso; omega
        · refine lv_lload_n hx hb d_Ph_weightUpTo_18 rfl (lv_at hl 2 rfl) ?_
          refine lv_aload_n hx hb d_Ph_weightUpTo_19 rfl (lv_at hl 0 rfl) ?_
          refine va_get (D := D) (ci := 1) (v := .ref qn) (C := R_Ph) (T := T_Ph) (N := 12) hx hb hkw kin_Ph hown hK hP 0 rfl rfl 8 (by decide) (hkw _ kw_fieldLink_Ph_40) (fun _ h9 => h9) rfl d_Ph_weightUpTo_20 ?_
          refine lv_iload hx hb d_Ph_weightUpTo_23 (lv_at hl 3 rfl) ?_
          refine k_ald hx hb hK hP 1 0 rfl rfl (i := i) (by omega) (by omega) (by omega) d_Ph_weightUpTo_25 ?_
          have hv_1 := hcn i
          refine k_i2l (v := (cn i)) hx hb (by omega) (by omega) d_Ph_weightUpTo_26 ?_
          refine lv_ldc2 (v := lN 2520) hx hb hown (hkw _ kw_constantLong_Ph_59) d_Ph_weightUpTo_27 ?_
          refine lv_iload hx hb d_Ph_weightUpTo_30 (lv_at hl 3 rfl) ?_
          refine lv_iconst (v := zI 1) hx hb d_Ph_weightUpTo_32 (by decide) ?_
          refine k_iadd (v := ↑(i + 1)) hx hb d_Ph_weightUpTo_33 (by omega) ?_
          refine k_i2l (v := (i + 1)) hx hb (by omega) (by omega) d_Ph_weightUpTo_34 ?_
          refine k_ldiv (x := 2520) (y := (i + 1)) hx hb rfl (by omega) (by omega) (by omega) d_Ph_weightUpTo_35 ?_
          refine k_lmul (x := (cn i)) (y := 2520 / (i + 1)) hx hb rfl d_Ph_weightUpTo_36 ?_
          refine k_ladd (x := acc) (y := (cn i) * (2520 / (i + 1))) hx hb rfl d_Ph_weightUpTo_37 ?_
          refine lv_lstore_n (lv' := [(2, .long (lN (acc + ((cn i) * (2520 / (i + 1)))))), (0, .ref h), (1, .int (zI ↑sl)), (4, .int (zI ↑i))]) hx hb d_Ph_weightUpTo_38 rfl hl (by decide) rfl ?_
          clear hl; intro ls hl
          refine k_iinc (v := ↑(i + 1)) (lv' := [(4, .int (zI (↑(i + 1)))), (2, .long (lN (acc + ((cn i) * (2520 / (i + 1)))))), (0, .ref h), (1, .int (zI ↑sl))]) hx hb d_Ph_weightUpTo_39 hl (k := 3) rfl (by omega) (by decide) rfl ?_
          clear hl; intro ls hl
          refine lv_goto (tgt := 5) hx hb d_Ph_weightUpTo_42 (by decide) ?_
          exact ih_5 (i + 1) _ (by omega) hgo _ _ _ hP hD hS (lv_sub hl [2, 3, 1, 0] rfl)
  exact loop_5 (sl + 1) 0 0 (by omega) rfl _ _ _ hP hD hS (lv_sub hl [2, 3, 1, 0] rfl)

abbrev rm_Ph_isFree : Room := { frames := 0, cells := 0, slots := 0, locals := 0 }
set_option maxHeartbeats 4000000 in
set_option maxRecDepth 100000 in
theorem c_Ph_isFree (l : Launch) (D : va_G) (cI cR cG : ClassId) (h qo qs qp qc qt qf qn n sd lm : Nat) (sf st : Int) (se tr : Nat → Nat) (s0 p0 : Nat) (hs : s0 < 4) (hp : p0 ≤ 30) (hse : ∀ j, se j ≤ 1023) (htr : ∀ j, tr j ≤ 30) : k_M l y_Ph_isFree (.code y_Ph_isFree b_Ph_isFree 4 (some .boolean) :: kW) rm_Ph_isFree D k_cl (k_ty cI cR cG) [.ref h, .int (zI ↑s0), .int (zI ↑p0)] ([(h, .inr (1, [.ref qo, .ref qs, .int (zI ↑n), .int (zI ↑sd), .ref qp, .ref qc, .ref qt, .ref qf, .ref qn, .int (zI ↑lm), .int (zI sf), .int (zI st)])), (qs, .inl (cI, 4, .inl (kA se))), (qt, .inl (cI, 4, .inl (kA tr)))]) (k_Qi D k_cl (k_b (fFree tr se s0 p0 s0 0 = true)) ([(h, .inr (1, [.ref qo, .ref qs, .int (zI ↑n), .int (zI ↑sd), .ref qp, .ref qc, .ref qt, .ref qf, .ref qn, .int (zI ↑lm), .int (zI sf), .int (zI st)])), (qs, .inl (cI, 4, .inl (kA se))), (qt, .inl (cI, 4, .inl (kA tr)))])) := by
  refine k_start (cc := b_Ph_isFree) (maxL := 4) (ret := (some .boolean)) (by decide) rfl (Nat.le_of_ble_eq_true rfl) ?_
  intro p ev s m ar below meth c A ls Qf hQf hx hb hr hml hts hown hlocks hin hK hG hA hP hD hS hl
  replace hown : s.vm.findClass R_Ph = some m.cls := hown
  replace hl : lv_has ls 4 [(0, .ref h), (1, .int (zI ↑s0)), (2, .int (zI ↑p0))] := hl
  have hkw : ∀ w ∈ kW, w.before ar s = true := fun w h => hts w (List.mem_cons_of_mem _ h)
  replace hP : va_P D k_cl ([(h, .inr (1, [.ref qo, .ref qs, .int (zI ↑n), .int (zI ↑sd), .ref qp, .ref qc, .ref qt, .ref qf, .ref qn, .int (zI ↑lm), .int (zI sf), .int (zI st)])), (qs, .inl (cI, 4, .inl (kA se))), (qt, .inl (cI, 4, .inl (kA tr)))]) s.heap := hP
  replace hD : va_D A ([(h, .inr (1, [.ref qo, .ref qs, .int (zI ↑n), .int (zI ↑sd), .ref qp, .ref qc, .ref qt, .ref qf, .ref qn, .int (zI ↑lm), .int (zI sf), .int (zI st)])), (qs, .inl (cI, 4, .inl (kA se))), (qt, .inl (cI, 4, .inl (kA tr)))]) := hD
  refine lv_iconst (v := zI 0) hx hb d_Ph_isFree_0 (by decide) ?_
  refine lv_istore_n (lv' := [(3, .int (zI 0)), (0, .ref h), (1, .int (zI ↑s0)), (2, .int (zI ↑p0))]) hx hb d_Ph_isFree_1 rfl hl (by decide) rfl ?_
  clear hl; intro ls hl
  have loop_2 : ∀ (k : Nat) (i : Nat), (i + k = s0) → (fFree tr se s0 p0 k i = fFree tr se s0 p0 s0 0) → ∀ (H : Heap) (locs : List Loc) (ls : Array Slot), va_P D k_cl ([(h, .inr (1, [.ref qo, .ref qs, .int (zI ↑n), .int (zI ↑sd), .ref qp, .ref qc, .ref qt, .ref qf, .ref qn, .int (zI ↑lm), .int (zI sf), .int (zI st)])), (qs, .inl (cI, 4, .inl (kA se))), (qt, .inl (cI, 4, .inl (kA tr)))]) H → va_D A ([(h, .inr (1, [.ref qo, .ref qs, .int (zI ↑n), .int (zI ↑sd), .ref qp, .ref qc, .ref qt, .ref qf, .ref qn, .int (zI ↑lm), .int (zI sf), .int (zI st)])), (qs, .inl (cI, 4, .inl (kA se))), (qt, .inl (cI, 4, .inl (kA tr)))]) → va_S A s.heap H locs → lv_has ls 4 [(0, .ref h), (1, .int (zI ↑s0)), (2, .int (zI ↑p0)), (3, .int (zI ↑i))] → W p l ev rm_Ph_isFree s m ar below meth c H locs 0 0 Qf (F0 m 2 ls []) := by
    intro k
    induction k with
    | zero =>
      intro i hin hgo H locs ls hP hD hS hl
      refine lv_iload_n hx hb d_Ph_isFree_2 rfl (lv_at hl 3 rfl) ?_
      refine lv_iload_n hx hb d_Ph_isFree_3 rfl (lv_at hl 1 rfl) ?_
      refine k_icmp_ge (tgt := 41) hx hb d_Ph_isFree_4 (by decide) ⟨by omega, by omega⟩ ⟨by omega, by omega⟩ (fun c_4 => ?_) (fun c_4 => ?_)
      · refine lv_iconst (v := zI 1) hx hb d_Ph_isFree_41 (by decide) ?_
        rw [← hQf]
        exact k_zret hx hb hr hlocks hP hS (k_bt (by rw [← hgo]; rfl)).symm d_Ph_isFree_42
      · exfalso; omega
    | succ k ih_2 =>
      intro i hin hgo H locs ls hP hD hS hl
      refine lv_iload_n hx hb d_Ph_isFree_2 rfl (lv_at hl 3 rfl) ?_
      refine lv_iload_n hx hb d_Ph_isFree_3 rfl (lv_at hl 1 rfl) ?_
      refine k_icmp_ge (tgt := 41) hx hb d_Ph_isFree_4 (by decide) ⟨by omega, by omega⟩ ⟨by omega, by omega⟩ (fun c_4 => ?_) (fun c_4 => ?_)
      · exfalso; omega
      · refine lv_aload_n hx hb d_Ph_isFree_7 rfl (lv_at hl 0 rfl) ?_
        refine va_get (D := D) (ci := 1) (v := .ref qt) (C := R_Ph) (T := T_Ph) (N := 12) hx hb hkw kin_Ph hown hK hP 0 rfl rfl 6 (by decide) (hkw _ kw_fieldLink_Ph_34) (fun _ h9 => h9) rfl d_Ph_isFree_8 ?_
        refine lv_iload_n hx hb d_Ph_isFree_11 rfl (lv_at hl 3 rfl) ?_
        refine k_ald hx hb hK hP 2 0 rfl rfl (i := i) (by omega) (by omega) (by omega) d_Ph_isFree_12 ?_
        have hv_1 := htr i
        refine lv_iload_n hx hb d_Ph_isFree_13 rfl (lv_at hl 2 rfl) ?_
        refine k_icmp_ne (tgt := 35) hx hb d_Ph_isFree_14 (by decide) ⟨by omega, by omega⟩ ⟨by omega, by omega⟩ (fun c_14 => ?_) (fun c_14 => ?_)
        · refine k_iinc (v := ↑(i + 1)) (lv' := [(3, .int (zI (↑(i + 1)))), (0, .ref h), (1, .int (zI ↑s0)), (2, .int (zI ↑p0))]) hx hb d_Ph_isFree_35 hl (k := 3) rfl (by omega) (by decide) rfl ?_
          clear hl; intro ls hl
          refine lv_goto (tgt := 2) hx hb d_Ph_isFree_38 (by decide) ?_
          exact ih_2 (i + 1) (by omega) (by rw [fFree] at hgo; (repeat' split at hgo); all_goals first | exact hgo | (exfalso; omega) | contradiction) _ _ _ hP hD hS (lv_sub hl [1, 2, 3, 0] rfl)
        · refine lv_aload_n hx hb d_Ph_isFree_17 rfl (lv_at hl 0 rfl) ?_
          refine va_get (D := D) (ci := 1) (v := .ref qs) (C := R_Ph) (T := T_Ph) (N := 12) hx hb hkw kin_Ph hown hK hP 0 rfl rfl 1 (by decide) (hkw _ kw_fieldLink_Ph_15) (fun _ h9 => h9) rfl d_Ph_isFree_18 ?_
          refine lv_iload_n hx hb d_Ph_isFree_21 rfl (lv_at hl 3 rfl) ?_
          refine k_ald hx hb hK hP 1 0 rfl rfl (i := i) (by omega) (by omega) (by omega) d_Ph_isFree_22 ?_
          have hv_2 := hse i
          refine lv_aload_n hx hb d_Ph_isFree_23 rfl (lv_at hl 0 rfl) ?_
          refine va_get (D := D) (ci := 1) (v := .ref qs) (C := R_Ph) (T := T_Ph) (N := 12) hx hb hkw kin_Ph hown hK hP 0 rfl rfl 1 (by decide) (hkw _ kw_fieldLink_Ph_15) (fun _ h9 => h9) rfl d_Ph_isFree_24 ?_
          refine lv_iload_n hx hb d_Ph_isFree_27 rfl (lv_at hl 1 rfl) ?_
          refine k_ald hx hb hK hP 1 0 rfl rfl (i := s0) (by omega) (by omega) (by omega) d_Ph_isFree_28 ?_
          have hv_3 := hse s0
          refine k_iand (a := (se i)) (b := (se s0)) hx hb d_Ph_isFree_29 ?_
          have hv_4 := k_and_le (se i) (se s0) 1023 (by omega)
          refine k_if_eq (tgt := 35) hx hb d_Ph_isFree_30 (by decide) ⟨by omega, by omega⟩ (fun c_30 => ?_) (fun c_30 => ?_)
          · refine k_iinc (v := ↑(i + 1)) (lv' := [(3, .int (zI (↑(i + 1)))), (0, .ref h), (1, .int (zI ↑s0)), (2, .int (zI ↑p0))]) hx hb d_Ph_isFree_35 hl (k := 3) rfl (by omega) (by decide) rfl ?_
            clear hl; intro ls hl
            refine lv_goto (tgt := 2) hx hb d_Ph_isFree_38 (by decide) ?_
            exact ih_2 (i + 1) (by omega) (by rw [fFree] at hgo; (repeat' split at hgo); all_goals first | exact hgo | (exfalso; omega) | contradiction) _ _ _ hP hD hS (lv_sub hl [1, 2, 3, 0] rfl)
          · refine lv_iconst (v := zI 0) hx hb d_Ph_isFree_33 (by decide) ?_
            rw [← hQf]
            exact k_zret hx hb hr hlocks hP hS (k_bf (by rw [← hgo, fFree]; (repeat' split); all_goals first | (exfalso; omega) | simp)).symm d_Ph_isFree_34
  exact loop_2 s0 0 (by omega) rfl _ _ _ hP hD hS (lv_sub hl [1, 2, 3, 0] rfl)

abbrev rm_Ph_isShorter : Room := { frames := 0, cells := 0, slots := 0, locals := 0 }
set_option maxHeartbeats 4000000 in
set_option maxRecDepth 100000 in
theorem c_Ph_isShorter (l : Launch) (D : va_G) (cI cR cG : ClassId) (h qo qs qp qc qt qf qn n sd lm : Nat) (sf st : Int) (lo hi : Int) (hlo : -1 ≤ lo ∧ lo ≤ 30) (hhi : -1 ≤ hi ∧ hi ≤ 30) (hsf : -1 ≤ sf ∧ sf ≤ 30) (hst : -1 ≤ st ∧ st ≤ 30) : k_M l y_Ph_isShorter (.code y_Ph_isShorter b_Ph_isShorter 5 (some .boolean) :: kW) rm_Ph_isShorter D k_cl (k_ty cI cR cG) [.ref h, .int (zI lo), .int (zI hi)] ([(h, .inr (1, [.ref qo, .ref qs, .int (zI ↑n), .int (zI ↑sd), .ref qp, .ref qc, .ref qt, .ref qf, .ref qn, .int (zI ↑lm), .int (zI sf), .int (zI st)]))]) (k_Qi D k_cl (k_b (sSh lo hi sf st = true)) ([(h, .inr (1, [.ref qo, .ref qs, .int (zI ↑n), .int (zI ↑sd), .ref qp, .ref qc, .ref qt, .ref qf, .ref qn, .int (zI ↑lm), .int (zI sf), .int (zI st)]))])) := by
  refine k_start (cc := b_Ph_isShorter) (maxL := 5) (ret := (some .boolean)) (by decide) rfl (Nat.le_of_ble_eq_true rfl) ?_
  intro p ev s m ar below meth c A ls Qf hQf hx hb hr hml hts hown hlocks hin hK hG hA hP hD hS hl
  replace hown : s.vm.findClass R_Ph = some m.cls := hown
  replace hl : lv_has ls 5 [(0, .ref h), (1, .int (zI lo)), (2, .int (zI hi))] := hl
  have hkw : ∀ w ∈ kW, w.before ar s = true := fun w h => hts w (List.mem_cons_of_mem _ h)
  replace hP : va_P D k_cl ([(h, .inr (1, [.ref qo, .ref qs, .int (zI ↑n), .int (zI ↑sd), .ref qp, .ref qc, .ref qt, .ref qf, .ref qn, .int (zI ↑lm), .int (zI sf), .int (zI st)]))]) s.heap := hP
  replace hD : va_D A ([(h, .inr (1, [.ref qo, .ref qs, .int (zI ↑n), .int (zI ↑sd), .ref qp, .ref qc, .ref qt, .ref qf, .ref qn, .int (zI ↑lm), .int (zI sf), .int (zI st)]))]) := hD
  refine lv_iload_n hx hb d_Ph_isShorter_0 rfl (lv_at hl 2 rfl) ?_
  refine lv_iload_n hx hb d_Ph_isShorter_1 rfl (lv_at hl 1 rfl) ?_
  refine k_isub hx hb d_Ph_isShorter_2 rfl ?_
  refine lv_istore_n (lv' := [(3, .int (zI (hi - lo))), (0, .ref h), (1, .int (zI lo)), (2, .int (zI hi))]) hx hb d_Ph_isShorter_3 rfl hl (by decide) rfl ?_
  clear hl; intro ls hl
  refine lv_aload_n hx hb d_Ph_isShorter_4 rfl (lv_at hl 1 rfl) ?_
  refine va_get (D := D) (ci := 1) (v := .int (zI st)) (C := R_Ph) (T := T_Ph) (N := 12) hx hb hkw kin_Ph hown hK hP 0 rfl rfl 11 (by decide) (hkw _ kw_fieldLink_Ph_49) (fun _ h9 => h9) rfl d_Ph_isShorter_5 ?_
  refine lv_aload_n hx hb d_Ph_isShorter_8 rfl (lv_at hl 1 rfl) ?_
  refine va_get (D := D) (ci := 1) (v := .int (zI sf)) (C := R_Ph) (T := T_Ph) (N := 12) hx hb hkw kin_Ph hown hK hP 0 rfl rfl 10 (by decide) (hkw _ kw_fieldLink_Ph_46) (fun _ h9 => h9) rfl d_Ph_isShorter_9 ?_
  refine k_isub hx hb d_Ph_isShorter_12 rfl ?_
  refine lv_istore (lv' := [(4, .int (zI (st - sf))), (3, .int (zI (hi - lo))), (0, .ref h), (1, .int (zI lo)), (2, .int (zI hi))]) hx hb d_Ph_isShorter_13 hl (by decide) rfl ?_
  clear hl; intro ls hl
  refine lv_iload_n hx hb d_Ph_isShorter_15 rfl (lv_at hl 1 rfl) ?_
  refine lv_iload hx hb d_Ph_isShorter_16 (lv_at hl 0 rfl) ?_
  refine k_icmp_lt (tgt := 35) hx hb d_Ph_isShorter_18 (by decide) ⟨by omega, by omega⟩ ⟨by omega, by omega⟩ (fun c_18 => ?_) (fun c_18 => ?_)
  · refine lv_iconst (v := zI 1) hx hb d_Ph_isShorter_35 (by decide) ?_
    refine lv_goto (tgt := 40) hx hb d_Ph_isShorter_36 (by decide) ?_
    rw [← hQf]
    exact k_zret hx hb hr hlocks hP hS (k_bt (by unfold sSh; simp only [Bool.or_eq_true, Bool.and_eq_true, decide_eq_true_eq]; omega)).symm d_Ph_isShorter_40
  · refine lv_iload_n hx hb d_Ph_isShorter_21 rfl (lv_at hl 1 rfl) ?_
    refine lv_iload hx hb d_Ph_isShorter_22 (lv_at hl 0 rfl) ?_
    refine k_icmp_ne (tgt := 39) hx hb d_Ph_isShorter_24 (by decide) ⟨by omega, by omega⟩ ⟨by omega, by omega⟩ (fun c_24 => ?_) (fun c_24 => ?_)
    · refine lv_iconst (v := zI 0) hx hb d_Ph_isShorter_39 (by decide) ?_
      rw [← hQf]
      exact k_zret hx hb hr hlocks hP hS (k_bf (by unfold sSh; simp only [Bool.or_eq_true, Bool.and_eq_true, decide_eq_true_eq]; omega)).symm d_Ph_isShorter_40
    · refine lv_iload_n hx hb d_Ph_isShorter_27 rfl (lv_at hl 3 rfl) ?_
      refine lv_aload_n hx hb d_Ph_isShorter_28 rfl (lv_at hl 2 rfl) ?_
      refine va_get (D := D) (ci := 1) (v := .int (zI sf)) (C := R_Ph) (T := T_Ph) (N := 12) hx hb hkw kin_Ph hown hK hP 0 rfl rfl 10 (by decide) (hkw _ kw_fieldLink_Ph_46) (fun _ h9 => h9) rfl d_Ph_isShorter_29 ?_
      refine k_icmp_ge (tgt := 39) hx hb d_Ph_isShorter_32 (by decide) ⟨by omega, by omega⟩ ⟨by omega, by omega⟩ (fun c_32 => ?_) (fun c_32 => ?_)
      · refine lv_iconst (v := zI 0) hx hb d_Ph_isShorter_39 (by decide) ?_
        rw [← hQf]
        exact k_zret hx hb hr hlocks hP hS (k_bf (by unfold sSh; simp only [Bool.or_eq_true, Bool.and_eq_true, decide_eq_true_eq]; omega)).symm d_Ph_isShorter_40
      · refine lv_iconst (v := zI 1) hx hb d_Ph_isShorter_35 (by decide) ?_
        refine lv_goto (tgt := 40) hx hb d_Ph_isShorter_36 (by decide) ?_
        rw [← hQf]
        exact k_zret hx hb hr hlocks hP hS (k_bt (by unfold sSh; simp only [Bool.or_eq_true, Bool.and_eq_true, decide_eq_true_eq]; omega)).symm d_Ph_isShorter_40

abbrev rm_Ph_noteChoice : Room := { frames := 1, cells := 0, slots := 0, locals := 60 }
set_option maxHeartbeats 4000000 in
set_option maxRecDepth 100000 in
theorem c_Ph_noteChoice (l : Launch) (D : va_G) (cI cR cG : ClassId) (h qo qs qp qc qt qf qn n sd lm : Nat) (sf st : Int) (tr fc cn : Nat → Nat) (mv : Nat) (hmv : mv ≤ 1000) (hlm : lm ≤ 77) : k_M l y_Ph_noteChoice (.code y_Ph_noteChoice b_Ph_noteChoice 2 none :: kW) rm_Ph_noteChoice D k_cl (k_ty cI cR cG) [.ref h, .int (zI ↑mv)] ([(h, .inr (1, [.ref qo, .ref qs, .int (zI ↑n), .int (zI ↑sd), .ref qp, .ref qc, .ref qt, .ref qf, .ref qn, .int (zI ↑lm), .int (zI sf), .int (zI st)])), (qt, .inl (cI, 4, .inl (kA tr))), (qf, .inl (cI, 4, .inl (kA fc))), (qn, .inl (cI, 77, .inl (kA cn)))]) (k_Qv D k_cl ([(h, .inr (1, [.ref qo, .ref qs, .int (zI ↑n), .int (zI ↑sd), .ref qp, .ref qc, .ref qt, .ref qf, .ref qn, .int (zI (↑((sNote mv (tr, fc, cn, lm)).2.2.2))), .int (zI sf), .int (zI st)])), (qt, .inl (cI, 4, .inl (kA ((sNote mv (tr, fc, cn, lm)).1)))), (qf, .inl (cI, 4, .inl (kA ((sNote mv (tr, fc, cn, lm)).2.1)))), (qn, .inl (cI, 77, .inl (kA ((sNote mv (tr, fc, cn, lm)).2.2.1))))])) := by
  refine k_start (cc := b_Ph_noteChoice) (maxL := 2) (ret := none) (by decide) rfl (Nat.le_of_ble_eq_true rfl) ?_
  intro p ev s m ar below meth c A ls Qf hQf hx hb hr hml hts hown hlocks hin hK hG hA hP hD hS hl
  replace hown : s.vm.findClass R_Ph = some m.cls := hown
  replace hl : lv_has ls 2 [(0, .ref h), (1, .int (zI ↑mv))] := hl
  have hkw : ∀ w ∈ kW, w.before ar s = true := fun w h => hts w (List.mem_cons_of_mem _ h)
  replace hP : va_P D k_cl ([(h, .inr (1, [.ref qo, .ref qs, .int (zI ↑n), .int (zI ↑sd), .ref qp, .ref qc, .ref qt, .ref qf, .ref qn, .int (zI ↑lm), .int (zI sf), .int (zI st)])), (qt, .inl (cI, 4, .inl (kA tr))), (qf, .inl (cI, 4, .inl (kA fc))), (qn, .inl (cI, 77, .inl (kA cn)))]) s.heap := hP
  replace hD : va_D A ([(h, .inr (1, [.ref qo, .ref qs, .int (zI ↑n), .int (zI ↑sd), .ref qp, .ref qc, .ref qt, .ref qf, .ref qn, .int (zI ↑lm), .int (zI sf), .int (zI st)])), (qt, .inl (cI, 4, .inl (kA tr))), (qf, .inl (cI, 4, .inl (kA fc))), (qn, .inl (cI, 77, .inl (kA cn)))]) := hD
  refine lv_iload_n hx hb d_Ph_noteChoice_0 rfl (lv_at hl 1 rfl) ?_
  refine k_if_lt (tgt := 10) hx hb d_Ph_noteChoice_1 (by decide) ⟨by omega, by omega⟩ (fun c_1 => ?_) (fun c_1 => ?_)
  · exfalso; omega
  · refine lv_iload_n hx hb d_Ph_noteChoice_4 rfl (lv_at hl 1 rfl) ?_
    refine lv_bipush (v := zI 76) hx hb d_Ph_noteChoice_5 (by decide) ?_
    refine k_icmp_le (tgt := 11) hx hb d_Ph_noteChoice_7 (by decide) ⟨by omega, by omega⟩ ⟨by omega, by omega⟩ (fun c_7 => ?_) (fun c_7 => ?_)
    · refine lv_aload_n hx hb d_Ph_noteChoice_11 rfl (lv_at hl 0 rfl) ?_
      refine va_get (D := D) (ci := 1) (v := .ref qn) (C := R_Ph) (T := T_Ph) (N := 12) hx hb hkw kin_Ph hown hK hP 0 rfl rfl 8 (by decide) (hkw _ kw_fieldLink_Ph_40) (fun _ h9 => h9) rfl d_Ph_noteChoice_12 ?_
      refine lv_iload_n hx hb d_Ph_noteChoice_15 rfl (lv_at hl 1 rfl) ?_
      refine lv_dup2_11 hx hb d_Ph_noteChoice_16 rfl rfl ?_
      refine k_ald hx hb hK hP 3 0 rfl rfl (i := mv) (by omega) (by omega) (by omega) d_Ph_noteChoice_17 ?_
      refine lv_iconst (v := zI 1) hx hb d_Ph_noteChoice_18 (by decide) ?_
      refine k_iadd (v := ↑(cn mv + 1)) hx hb d_Ph_noteChoice_19 (by omega) ?_
      refine k_ast hx hb hK hP hD hS 3 0 rfl rfl (i := mv) (v := (cn mv + 1)) (by omega) (by omega) (by omega) (by omega) d_Ph_noteChoice_20 ?_
      clear hP hD hS; intro H locs hP hD hS
      replace hP : va_P D k_cl ([(h, .inr (1, [.ref qo, .ref qs, .int (zI ↑n), .int (zI ↑sd), .ref qp, .ref qc, .ref qt, .ref qf, .ref qn, .int (zI ↑lm), .int (zI sf), .int (zI st)])), (qt, .inl (cI, 4, .inl (kA tr))), (qf, .inl (cI, 4, .inl (kA fc))), (qn, .inl (cI, 77, .inl (kA (va_up cn mv (cn mv + 1)))))]) H := hP
      replace hD : va_D A ([(h, .inr (1, [.ref qo, .ref qs, .int (zI ↑n), .int (zI ↑sd), .ref qp, .ref qc, .ref qt, .ref qf, .ref qn, .int (zI ↑lm), .int (zI sf), .int (zI st)])), (qt, .inl (cI, 4, .inl (kA tr))), (qf, .inl (cI, 4, .inl (kA fc))), (qn, .inl (cI, 77, .inl (kA (va_up cn mv (cn mv + 1)))))]) := hD
      refine lv_iload_n hx hb d_Ph_noteChoice_21 rfl (lv_at hl 1 rfl) ?_
      refine lv_aload_n hx hb d_Ph_noteChoice_22 rfl (lv_at hl 0 rfl) ?_
      refine va_get (D := D) (ci := 1) (v := .int (zI ↑lm)) (C := R_Ph) (T := T_Ph) (N := 12) hx hb hkw kin_Ph hown hK hP 0 rfl rfl 9 (by decide) (hkw _ kw_fieldLink_Ph_43) (fun _ h9 => h9) rfl d_Ph_noteChoice_23 ?_
      refine k_icmp_ge (tgt := 48) hx hb d_Ph_noteChoice_26 (by decide) ⟨by omega, by omega⟩ ⟨by omega, by omega⟩ (fun c_26 => ?_) (fun c_26 => ?_)
      · rw [← hQf]
        have e9 : sNote mv (tr, fc, cn, lm) = (tr, fc, (va_up cn mv (cn mv + 1)), lm) := by unfold sNote; (repeat' split); all_goals first | rfl | (exfalso; omega) | (exfalso; simp only at *; omega)
        replace hP : va_P D k_cl [(h, .inr (1, [.ref qo, .ref qs, .int (zI ↑n), .int (zI ↑sd), .ref qp, .ref qc, .ref qt, .ref qf, .ref qn, .int (zI (↑((sNote mv (tr, fc, cn, lm)).2.2.2))), .int (zI sf), .int (zI st)])), (qt, .inl (cI, 4, .inl (kA ((sNote mv (tr, fc, cn, lm)).1)))), (qf, .inl (cI, 4, .inl (kA ((sNote mv (tr, fc, cn, lm)).2.1)))), (qn, .inl (cI, 77, .inl (kA ((sNote mv (tr, fc, cn, lm)).2.2.1))))] H := by rw [e9]; exact hP
        exact k_vret hx hb hr hlocks hP hS d_Ph_noteChoice_48
      · refine lv_aload_n hx hb d_Ph_noteChoice_29 rfl (lv_at hl 0 rfl) ?_
        refine lv_iload_n hx hb d_Ph_noteChoice_30 rfl (lv_at hl 1 rfl) ?_
        refine va_put (D := D) (ci := 1) (v := .int (zI ↑mv)) (ty := .int) (C := R_Ph) (T := T_Ph) (N := 12) hx hb hkw kin_Ph ty_Ph ty_Ph_ok nm_Ph hown hK hP hD hS 0 rfl rfl 9 (by decide) (hkw _ kw_fieldLink_Ph_43) (fun _ h9 => h9) rfl (by decide +kernel) rfl rfl (Nat.le_of_ble_eq_true rfl) d_Ph_noteChoice_31 ?_
        clear hP hD hS; intro H locs hP hD hS
        replace hP : va_P D k_cl ([(h, .inr (1, [.ref qo, .ref qs, .int (zI ↑n), .int (zI ↑sd), .ref qp, .ref qc, .ref qt, .ref qf, .ref qn, .int (zI ↑mv), .int (zI sf), .int (zI st)])), (qt, .inl (cI, 4, .inl (kA tr))), (qf, .inl (cI, 4, .inl (kA fc))), (qn, .inl (cI, 77, .inl (kA (va_up cn mv (cn mv + 1)))))]) H := hP
        replace hD : va_D A ([(h, .inr (1, [.ref qo, .ref qs, .int (zI ↑n), .int (zI ↑sd), .ref qp, .ref qc, .ref qt, .ref qf, .ref qn, .int (zI ↑mv), .int (zI sf), .int (zI st)])), (qt, .inl (cI, 4, .inl (kA tr))), (qf, .inl (cI, 4, .inl (kA fc))), (qn, .inl (cI, 77, .inl (kA (va_up cn mv (cn mv + 1)))))]) := hD
        refine lv_aload_n hx hb d_Ph_noteChoice_34 rfl (lv_at hl 0 rfl) ?_
        refine va_get (D := D) (ci := 1) (v := .ref qt) (C := R_Ph) (T := T_Ph) (N := 12) hx hb hkw kin_Ph hown hK hP 0 rfl rfl 6 (by decide) (hkw _ kw_fieldLink_Ph_34) (fun _ h9 => h9) rfl d_Ph_noteChoice_35 ?_
        refine lv_iconst (v := zI 0) hx hb d_Ph_noteChoice_38 (by decide) ?_
        refine lv_aload_n hx hb d_Ph_noteChoice_39 rfl (lv_at hl 0 rfl) ?_
        refine va_get (D := D) (ci := 1) (v := .ref qf) (C := R_Ph) (T := T_Ph) (N := 12) hx hb hkw kin_Ph hown hK hP 0 rfl rfl 7 (by decide) (hkw _ kw_fieldLink_Ph_37) (fun _ h9 => h9) rfl d_Ph_noteChoice_40 ?_
        refine lv_iconst (v := zI 0) hx hb d_Ph_noteChoice_43 (by decide) ?_
        refine lv_iconst (v := zI 4) hx hb d_Ph_noteChoice_44 (by decide) ?_
        refine k_copy4 hx hb (hml.trans hl.1.symm) hown (hkw _ kw_methodLink_Ph_100) (hkw _ kw_native_System_arraycopy) (hkw _ kw_static_System_arraycopy) (hkw _ kw_initialized_System) hK hP hD hS 1 2 0 rfl rfl rfl (Nat.le_of_ble_eq_true rfl) (by decide +kernel) d_Ph_noteChoice_45 ?_
        clear hP hD hS; intro H locs hP hD hS
        replace hP : va_P D k_cl ([(h, .inr (1, [.ref qo, .ref qs, .int (zI ↑n), .int (zI ↑sd), .ref qp, .ref qc, .ref qt, .ref qf, .ref qn, .int (zI ↑mv), .int (zI sf), .int (zI st)])), (qt, .inl (cI, 4, .inl (kA tr))), (qf, .inl (cI, 4, .inl (kA tr))), (qn, .inl (cI, 77, .inl (kA (va_up cn mv (cn mv + 1)))))]) H := hP
        replace hD : va_D A ([(h, .inr (1, [.ref qo, .ref qs, .int (zI ↑n), .int (zI ↑sd), .ref qp, .ref qc, .ref qt, .ref qf, .ref qn, .int (zI ↑mv), .int (zI sf), .int (zI st)])), (qt, .inl (cI, 4, .inl (kA tr))), (qf, .inl (cI, 4, .inl (kA tr))), (qn, .inl (cI, 77, .inl (kA (va_up cn mv (cn mv + 1)))))]) := hD
        rw [← hQf]
        have e9 : sNote mv (tr, fc, cn, lm) = (tr, tr, (va_up cn mv (cn mv + 1)), mv) := by unfold sNote; (repeat' split); all_goals first | rfl | (exfalso; omega) | (exfalso; simp only at *; omega)
        replace hP : va_P D k_cl [(h, .inr (1, [.ref qo, .ref qs, .int (zI ↑n), .int (zI ↑sd), .ref qp, .ref qc, .ref qt, .ref qf, .ref qn, .int (zI (↑((sNote mv (tr, fc, cn, lm)).2.2.2))), .int (zI sf), .int (zI st)])), (qt, .inl (cI, 4, .inl (kA ((sNote mv (tr, fc, cn, lm)).1)))), (qf, .inl (cI, 4, .inl (kA ((sNote mv (tr, fc, cn, lm)).2.1)))), (qn, .inl (cI, 77, .inl (kA ((sNote mv (tr, fc, cn, lm)).2.2.1))))] H := by rw [e9]; exact hP
        exact k_vret hx hb hr hlocks hP hS d_Ph_noteChoice_48
    · rw [← hQf]
      have e9 : sNote mv (tr, fc, cn, lm) = (tr, fc, cn, lm) := by unfold sNote; (repeat' split); all_goals first | rfl | (exfalso; omega) | (exfalso; simp only at *; omega)
      replace hP : va_P D k_cl [(h, .inr (1, [.ref qo, .ref qs, .int (zI ↑n), .int (zI ↑sd), .ref qp, .ref qc, .ref qt, .ref qf, .ref qn, .int (zI (↑((sNote mv (tr, fc, cn, lm)).2.2.2))), .int (zI sf), .int (zI st)])), (qt, .inl (cI, 4, .inl (kA ((sNote mv (tr, fc, cn, lm)).1)))), (qf, .inl (cI, 4, .inl (kA ((sNote mv (tr, fc, cn, lm)).2.1)))), (qn, .inl (cI, 77, .inl (kA ((sNote mv (tr, fc, cn, lm)).2.2.1))))] s.heap := by rw [e9]; exact hP
      exact k_vret hx hb hr hlocks hP hS d_Ph_noteChoice_10
