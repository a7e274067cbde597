theorem d_Mo_init_0 : decode b_Mo_init 0 = .ok (.aload_n 0, 1) := by decide +kernel
theorem d_Mo_init_1 : decode b_Mo_init 1 = .ok (.invokespecial 1, 3) := by decide +kernel
theorem d_Mo_init_4 : decode b_Mo_init 4 = .ok (.aload_n 0, 1) := by decide +kernel
theorem d_Mo_init_5 : decode b_Mo_init 5 = .ok (.bipush 30, 2) := by decide +kernel
theorem d_Mo_init_7 : decode b_Mo_init 7 = .ok (.newarray .int, 2) := by decide +kernel
theorem d_Mo_init_9 : decode b_Mo_init 9 = .ok (.putfield 7, 3) := by decide +kernel
theorem d_Mo_init_12 : decode b_Mo_init 12 = .ok (.aload_n 0, 1) := by decide +kernel
theorem d_Mo_init_13 : decode b_Mo_init 13 = .ok (.bipush 30, 2) := by decide +kernel
theorem d_Mo_init_15 : decode b_Mo_init 15 = .ok (.newarray .int, 2) := by decide +kernel
theorem d_Mo_init_17 : decode b_Mo_init 17 = .ok (.putfield 13, 3) := by decide +kernel
theorem d_Mo_init_20 : decode b_Mo_init 20 = .ok (.aload_n 0, 1) := by decide +kernel
theorem d_Mo_init_21 : decode b_Mo_init 21 = .ok (.bipush 30, 2) := by decide +kernel
theorem d_Mo_init_23 : decode b_Mo_init 23 = .ok (.newarray .int, 2) := by decide +kernel
theorem d_Mo_init_25 : decode b_Mo_init 25 = .ok (.putfield 16, 3) := by decide +kernel
theorem d_Mo_init_28 : decode b_Mo_init 28 = .ok (.aload_n 0, 1) := by decide +kernel
theorem d_Mo_init_29 : decode b_Mo_init 29 = .ok (.bipush 30, 2) := by decide +kernel
theorem d_Mo_init_31 : decode b_Mo_init 31 = .ok (.newarray .int, 2) := by decide +kernel
theorem d_Mo_init_33 : decode b_Mo_init 33 = .ok (.putfield 19, 3) := by decide +kernel
theorem d_Mo_init_36 : decode b_Mo_init 36 = .ok (.aload_n 0, 1) := by decide +kernel
theorem d_Mo_init_37 : decode b_Mo_init 37 = .ok (.bipush 30, 2) := by decide +kernel
theorem d_Mo_init_39 : decode b_Mo_init 39 = .ok (.newarray .int, 2) := by decide +kernel
theorem d_Mo_init_41 : decode b_Mo_init 41 = .ok (.putfield 22, 3) := by decide +kernel
theorem d_Mo_init_44 : decode b_Mo_init 44 = .ok (.aload_n 0, 1) := by decide +kernel
theorem d_Mo_init_45 : decode b_Mo_init 45 = .ok (.iconst 4, 1) := by decide +kernel
theorem d_Mo_init_46 : decode b_Mo_init 46 = .ok (.newarray .int, 2) := by decide +kernel
theorem d_Mo_init_48 : decode b_Mo_init 48 = .ok (.putfield 25, 3) := by decide +kernel
theorem d_Mo_init_51 : decode b_Mo_init 51 = .ok (.aload_n 0, 1) := by decide +kernel
theorem d_Mo_init_52 : decode b_Mo_init 52 = .ok (.iconst 4, 1) := by decide +kernel
theorem d_Mo_init_53 : decode b_Mo_init 53 = .ok (.newarray .int, 2) := by decide +kernel
theorem d_Mo_init_55 : decode b_Mo_init 55 = .ok (.putfield 28, 3) := by decide +kernel
theorem d_Mo_init_58 : decode b_Mo_init 58 = .ok (.aload_n 0, 1) := by decide +kernel
theorem d_Mo_init_59 : decode b_Mo_init 59 = .ok (.sipush 900, 3) := by decide +kernel
theorem d_Mo_init_62 : decode b_Mo_init 62 = .ok (.newarray .int, 2) := by decide +kernel
theorem d_Mo_init_64 : decode b_Mo_init 64 = .ok (.putfield 31, 3) := by decide +kernel
theorem d_Mo_init_67 : decode b_Mo_init 67 = .ok (.aload_n 0, 1) := by decide +kernel
theorem d_Mo_init_68 : decode b_Mo_init 68 = .ok (.bipush 30, 2) := by decide +kernel
theorem d_Mo_init_70 : decode b_Mo_init 70 = .ok (.newarray .int, 2) := by decide +kernel
theorem d_Mo_init_72 : decode b_Mo_init 72 = .ok (.putfield 34, 3) := by decide +kernel
theorem d_Mo_init_75 : decode b_Mo_init 75 = .ok (.aload_n 0, 1) := by decide +kernel
theorem d_Mo_init_76 : decode b_Mo_init 76 = .ok (.sipush 200, 3) := by decide +kernel
theorem d_Mo_init_79 : decode b_Mo_init 79 = .ok (.newarray .int, 2) := by decide +kernel
theorem d_Mo_init_81 : decode b_Mo_init 81 = .ok (.putfield 37, 3) := by decide +kernel
theorem d_Mo_init_84 : decode b_Mo_init 84 = .ok (.aload_n 0, 1) := by decide +kernel
theorem d_Mo_init_85 : decode b_Mo_init 85 = .ok (.iconst 4, 1) := by decide +kernel
theorem d_Mo_init_86 : decode b_Mo_init 86 = .ok (.newarray .int, 2) := by decide +kernel
theorem d_Mo_init_88 : decode b_Mo_init 88 = .ok (.putfield 40, 3) := by decide +kernel
theorem d_Mo_init_91 : decode b_Mo_init 91 = .ok (.aload_n 0, 1) := by decide +kernel
theorem d_Mo_init_92 : decode b_Mo_init 92 = .ok (.iconst 4, 1) := by decide +kernel
theorem d_Mo_init_93 : decode b_Mo_init 93 = .ok (.newarray .int, 2) := by decide +kernel
theorem d_Mo_init_95 : decode b_Mo_init 95 = .ok (.putfield 43, 3) := by decide +kernel
theorem d_Mo_init_98 : decode b_Mo_init 98 = .ok (.return_, 1) := by decide +kernel
theorem d_Mo_isPlace_0 : decode b_Mo_isPlace 0 = .ok (.iload_n 0, 1) := by decide +kernel
theorem d_Mo_isPlace_1 : decode b_Mo_isPlace 1 = .ok (.ifCond .lt 13, 3) := by decide +kernel
theorem d_Mo_isPlace_4 : decode b_Mo_isPlace 4 = .ok (.iload_n 0, 1) := by decide +kernel
theorem d_Mo_isPlace_5 : decode b_Mo_isPlace 5 = .ok (.bipush 30, 2) := by decide +kernel
theorem d_Mo_isPlace_7 : decode b_Mo_isPlace 7 = .ok (.if_icmp .ge 7, 3) := by decide +kernel
theorem d_Mo_isPlace_10 : decode b_Mo_isPlace 10 = .ok (.iconst 1, 1) := by decide +kernel
theorem d_Mo_isPlace_11 : decode b_Mo_isPlace 11 = .ok (.goto 4, 3) := by decide +kernel
theorem d_Mo_isPlace_14 : decode b_Mo_isPlace 14 = .ok (.iconst 0, 1) := by decide +kernel
theorem d_Mo_isPlace_15 : decode b_Mo_isPlace 15 = .ok (.ireturn, 1) := by decide +kernel
theorem d_Mo_isSet_0 : decode b_Mo_isSet 0 = .ok (.iload_n 0, 1) := by decide +kernel
theorem d_Mo_isSet_1 : decode b_Mo_isSet 1 = .ok (.ifCond .lt 14, 3) := by decide +kernel
theorem d_Mo_isSet_4 : decode b_Mo_isSet 4 = .ok (.iload_n 0, 1) := by decide +kernel
theorem d_Mo_isSet_5 : decode b_Mo_isSet 5 = .ok (.sipush 1023, 3) := by decide +kernel
theorem d_Mo_isSet_8 : decode b_Mo_isSet 8 = .ok (.if_icmp .gt 7, 3) := by decide +kernel
theorem d_Mo_isSet_11 : decode b_Mo_isSet 11 = .ok (.iconst 1, 1) := by decide +kernel
theorem d_Mo_isSet_12 : decode b_Mo_isSet 12 = .ok (.goto 4, 3) := by decide +kernel
theorem d_Mo_isSet_15 : decode b_Mo_isSet 15 = .ok (.iconst 0, 1) := by decide +kernel
theorem d_Mo_isSet_16 : decode b_Mo_isSet 16 = .ok (.ireturn, 1) := by decide +kernel
theorem d_Mo_put_0 : decode b_Mo_put 0 = .ok (.iload_n 1, 1) := by decide +kernel
theorem d_Mo_put_1 : decode b_Mo_put 1 = .ok (.invokestatic 46, 3) := by decide +kernel
theorem d_Mo_put_4 : decode b_Mo_put 4 = .ok (.ifCond .ne 5, 3) := by decide +kernel
theorem d_Mo_put_7 : decode b_Mo_put 7 = .ok (.iconst (-1), 1) := by decide +kernel
theorem d_Mo_put_8 : decode b_Mo_put 8 = .ok (.ireturn, 1) := by decide +kernel
theorem d_Mo_put_9 : decode b_Mo_put 9 = .ok (.iload_n 2, 1) := by decide +kernel
theorem d_Mo_put_10 : decode b_Mo_put 10 = .ok (.invokestatic 50, 3) := by decide +kernel
theorem d_Mo_put_13 : decode b_Mo_put 13 = .ok (.ifCond .ne 6, 3) := by decide +kernel
theorem d_Mo_put_16 : decode b_Mo_put 16 = .ok (.bipush (-2), 2) := by decide +kernel
theorem d_Mo_put_18 : decode b_Mo_put 18 = .ok (.ireturn, 1) := by decide +kernel
theorem d_Mo_put_19 : decode b_Mo_put 19 = .ok (.aload_n 0, 1) := by decide +kernel
theorem d_Mo_put_20 : decode b_Mo_put 20 = .ok (.getfield 7, 3) := by decide +kernel
theorem d_Mo_put_23 : decode b_Mo_put 23 = .ok (.iload_n 1, 1) := by decide +kernel
theorem d_Mo_put_24 : decode b_Mo_put 24 = .ok (.iaload, 1) := by decide +kernel
theorem d_Mo_put_25 : decode b_Mo_put 25 = .ok (.istore_n 3, 1) := by decide +kernel
theorem d_Mo_put_26 : decode b_Mo_put 26 = .ok (.aload_n 0, 1) := by decide +kernel
theorem d_Mo_put_27 : decode b_Mo_put 27 = .ok (.getfield 7, 3) := by decide +kernel
theorem d_Mo_put_30 : decode b_Mo_put 30 = .ok (.iload_n 1, 1) := by decide +kernel
theorem d_Mo_put_31 : decode b_Mo_put 31 = .ok (.iload_n 2, 1) := by decide +kernel
theorem d_Mo_put_32 : decode b_Mo_put 32 = .ok (.iastore, 1) := by decide +kernel
theorem d_Mo_put_33 : decode b_Mo_put 33 = .ok (.aload_n 0, 1) := by decide +kernel
theorem d_Mo_put_34 : decode b_Mo_put 34 = .ok (.iconst 0, 1) := by decide +kernel
theorem d_Mo_put_35 : decode b_Mo_put 35 = .ok (.putfield 53, 3) := by decide +kernel
theorem d_Mo_put_38 : decode b_Mo_put 38 = .ok (.iload_n 3, 1) := by decide +kernel
theorem d_Mo_put_39 : decode b_Mo_put 39 = .ok (.ireturn, 1) := by decide +kernel
theorem d_Mo_clear_0 : decode b_Mo_clear 0 = .ok (.iconst 0, 1) := by decide +kernel
theorem d_Mo_clear_1 : decode b_Mo_clear 1 = .ok (.istore_n 1, 1) := by decide +kernel
theorem d_Mo_clear_2 : decode b_Mo_clear 2 = .ok (.iconst 0, 1) := by decide +kernel
theorem d_Mo_clear_3 : decode b_Mo_clear 3 = .ok (.istore_n 2, 1) := by decide +kernel
theorem d_Mo_clear_4 : decode b_Mo_clear 4 = .ok (.iload_n 2, 1) := by decide +kernel
theorem d_Mo_clear_5 : decode b_Mo_clear 5 = .ok (.bipush 30, 2) := by decide +kernel
theorem d_Mo_clear_7 : decode b_Mo_clear 7 = .ok (.if_icmp .ge 33, 3) := by decide +kernel
theorem d_Mo_clear_10 : decode b_Mo_clear 10 = .ok (.iload_n 1, 1) := by decide +kernel
theorem d_Mo_clear_11 : decode b_Mo_clear 11 = .ok (.aload_n 0, 1) := by decide +kernel
theorem d_Mo_clear_12 : decode b_Mo_clear 12 = .ok (.getfield 7, 3) := by decide +kernel
theorem d_Mo_clear_15 : decode b_Mo_clear 15 = .ok (.iload_n 2, 1) := by decide +kernel
theorem d_Mo_clear_16 : decode b_Mo_clear 16 = .ok (.iaload, 1) := by decide +kernel
theorem d_Mo_clear_17 : decode b_Mo_clear 17 = .ok (.ifCond .eq 7, 3) := by decide +kernel
theorem d_Mo_clear_20 : decode b_Mo_clear 20 = .ok (.iconst 1, 1) := by decide +kernel
theorem d_Mo_clear_21 : decode b_Mo_clear 21 = .ok (.goto 4, 3) := by decide +kernel
theorem d_Mo_clear_24 : decode b_Mo_clear 24 = .ok (.iconst 0, 1) := by decide +kernel
theorem d_Mo_clear_25 : decode b_Mo_clear 25 = .ok (.iadd, 1) := by decide +kernel
theorem d_Mo_clear_26 : decode b_Mo_clear 26 = .ok (.istore_n 1, 1) := by decide +kernel
theorem d_Mo_clear_27 : decode b_Mo_clear 27 = .ok (.aload_n 0, 1) := by decide +kernel
theorem d_Mo_clear_28 : decode b_Mo_clear 28 = .ok (.getfield 7, 3) := by decide +kernel
theorem d_Mo_clear_31 : decode b_Mo_clear 31 = .ok (.iload_n 2, 1) := by decide +kernel
theorem d_Mo_clear_32 : decode b_Mo_clear 32 = .ok (.iconst 0, 1) := by decide +kernel
theorem d_Mo_clear_33 : decode b_Mo_clear 33 = .ok (.iastore, 1) := by decide +kernel
theorem d_Mo_clear_34 : decode b_Mo_clear 34 = .ok (.iinc 2 1, 3) := by decide +kernel
theorem d_Mo_clear_37 : decode b_Mo_clear 37 = .ok (.goto (-33), 3) := by decide +kernel
theorem d_Mo_clear_40 : decode b_Mo_clear 40 = .ok (.aload_n 0, 1) := by decide +kernel
theorem d_Mo_clear_41 : decode b_Mo_clear 41 = .ok (.iconst 0, 1) := by decide +kernel
theorem d_Mo_clear_42 : decode b_Mo_clear 42 = .ok (.putfield 53, 3) := by decide +kernel
theorem d_Mo_clear_45 : decode b_Mo_clear 45 = .ok (.iload_n 1, 1) := by decide +kernel
theorem d_Mo_clear_46 : decode b_Mo_clear 46 = .ok (.ireturn, 1) := by decide +kernel
theorem d_Mo_isAsk_0 : decode b_Mo_isAsk 0 = .ok (.iload_n 1, 1) := by decide +kernel
theorem d_Mo_isAsk_1 : decode b_Mo_isAsk 1 = .ok (.ifCond .lt 15, 3) := by decide +kernel
theorem d_Mo_isAsk_4 : decode b_Mo_isAsk 4 = .ok (.iload_n 1, 1) := by decide +kernel
theorem d_Mo_isAsk_5 : decode b_Mo_isAsk 5 = .ok (.aload_n 0, 1) := by decide +kernel
theorem d_Mo_isAsk_6 : decode b_Mo_isAsk 6 = .ok (.getfield 57, 3) := by decide +kernel
theorem d_Mo_isAsk_9 : decode b_Mo_isAsk 9 = .ok (.if_icmp .ge 7, 3) := by decide +kernel
theorem d_Mo_isAsk_12 : decode b_Mo_isAsk 12 = .ok (.iconst 1, 1) := by decide +kernel
theorem d_Mo_isAsk_13 : decode b_Mo_isAsk 13 = .ok (.goto 4, 3) := by decide +kernel
theorem d_Mo_isAsk_16 : decode b_Mo_isAsk 16 = .ok (.iconst 0, 1) := by decide +kernel
theorem d_Mo_isAsk_17 : decode b_Mo_isAsk 17 = .ok (.ireturn, 1) := by decide +kernel
theorem d_Mo_ask_0 : decode b_Mo_ask 0 = .ok (.iload_n 1, 1) := by decide +kernel
theorem d_Mo_ask_1 : decode b_Mo_ask 1 = .ok (.ifCond .lt 9, 3) := by decide +kernel
theorem d_Mo_ask_4 : decode b_Mo_ask 4 = .ok (.iload_n 1, 1) := by decide +kernel
theorem d_Mo_ask_5 : decode b_Mo_ask 5 = .ok (.bipush 10, 2) := by decide +kernel
theorem d_Mo_ask_7 : decode b_Mo_ask 7 = .ok (.if_icmp .le 6, 3) := by decide +kernel
theorem d_Mo_ask_10 : decode b_Mo_ask 10 = .ok (.bipush (-2), 2) := by decide +kernel
theorem d_Mo_ask_12 : decode b_Mo_ask 12 = .ok (.ireturn, 1) := by decide +kernel
theorem d_Mo_ask_13 : decode b_Mo_ask 13 = .ok (.iload_n 1, 1) := by decide +kernel
theorem d_Mo_ask_14 : decode b_Mo_ask 14 = .ok (.ifCond .eq 19, 3) := by decide +kernel
theorem d_Mo_ask_17 : decode b_Mo_ask 17 = .ok (.iload_n 1, 1) := by decide +kernel
theorem d_Mo_ask_18 : decode b_Mo_ask 18 = .ok (.iconst 2, 1) := by decide +kernel
theorem d_Mo_ask_19 : decode b_Mo_ask 19 = .ok (.if_icmp .lt 8, 3) := by decide +kernel
theorem d_Mo_ask_22 : decode b_Mo_ask 22 = .ok (.iload_n 1, 1) := by decide +kernel
theorem d_Mo_ask_23 : decode b_Mo_ask 23 = .ok (.iconst 4, 1) := by decide +kernel
theorem d_Mo_ask_24 : decode b_Mo_ask 24 = .ok (.if_icmp .le 9, 3) := by decide +kernel
theorem d_Mo_ask_27 : decode b_Mo_ask 27 = .ok (.iload_n 1, 1) := by decide +kernel
theorem d_Mo_ask_28 : decode b_Mo_ask 28 = .ok (.bipush 8, 2) := by decide +kernel
theorem d_Mo_ask_30 : decode b_Mo_ask 30 = .ok (.if_icmp .lt 7, 3) := by decide +kernel
theorem d_Mo_ask_33 : decode b_Mo_ask 33 = .ok (.iconst 1, 1) := by decide +kernel
theorem d_Mo_ask_34 : decode b_Mo_ask 34 = .ok (.goto 4, 3) := by decide +kernel
theorem d_Mo_ask_37 : decode b_Mo_ask 37 = .ok (.iconst 0, 1) := by decide +kernel
theorem d_Mo_ask_38 : decode b_Mo_ask 38 = .ok (.istore 5, 2) := by decide +kernel
theorem d_Mo_ask_40 : decode b_Mo_ask 40 = .ok (.iload 5, 2) := by decide +kernel
theorem d_Mo_ask_42 : decode b_Mo_ask 42 = .ok (.ifCond .eq 27, 3) := by decide +kernel
theorem d_Mo_ask_45 : decode b_Mo_ask 45 = .ok (.iload 4, 2) := by decide +kernel
theorem d_Mo_ask_47 : decode b_Mo_ask 47 = .ok (.ifCond .lt 19, 3) := by decide +kernel
theorem d_Mo_ask_50 : decode b_Mo_ask 50 = .ok (.iload 4, 2) := by decide +kernel
theorem d_Mo_ask_52 : decode b_Mo_ask 52 = .ok (.iload_n 1, 1) := by decide +kernel
theorem d_Mo_ask_53 : decode b_Mo_ask 53 = .ok (.ifCond .ne 8, 3) := by decide +kernel
theorem d_Mo_ask_56 : decode b_Mo_ask 56 = .ok (.bipush 9, 2) := by decide +kernel
theorem d_Mo_ask_58 : decode b_Mo_ask 58 = .ok (.goto 5, 3) := by decide +kernel
theorem d_Mo_ask_61 : decode b_Mo_ask 61 = .ok (.bipush 30, 2) := by decide +kernel
theorem d_Mo_ask_63 : decode b_Mo_ask 63 = .ok (.if_icmp .le 6, 3) := by decide +kernel
theorem d_Mo_ask_66 : decode b_Mo_ask 66 = .ok (.bipush (-2), 2) := by decide +kernel
theorem d_Mo_ask_68 : decode b_Mo_ask 68 = .ok (.ireturn, 1) := by decide +kernel
theorem d_Mo_ask_69 : decode b_Mo_ask 69 = .ok (.iload_n 1, 1) := by decide +kernel
theorem d_Mo_ask_70 : decode b_Mo_ask 70 = .ok (.ifCond .le 11, 3) := by decide +kernel
theorem d_Mo_ask_73 : decode b_Mo_ask 73 = .ok (.aload_n 0, 1) := by decide +kernel
theorem d_Mo_ask_74 : decode b_Mo_ask 74 = .ok (.iload_n 2, 1) := by decide +kernel
theorem d_Mo_ask_75 : decode b_Mo_ask 75 = .ok (.invokevirtual 61, 3) := by decide +kernel
theorem d_Mo_ask_78 : decode b_Mo_ask 78 = .ok (.ifCond .eq 21, 3) := by decide +kernel
theorem d_Mo_ask_81 : decode b_Mo_ask 81 = .ok (.iload_n 1, 1) := by decide +kernel
theorem d_Mo_ask_82 : decode b_Mo_ask 82 = .ok (.ifCond .le 19, 3) := by decide +kernel
theorem d_Mo_ask_85 : decode b_Mo_ask 85 = .ok (.iload_n 1, 1) := by decide +kernel
theorem d_Mo_ask_86 : decode b_Mo_ask 86 = .ok (.bipush 9, 2) := by decide +kernel
theorem d_Mo_ask_88 : decode b_Mo_ask 88 = .ok (.if_icmp .ge 13, 3) := by decide +kernel
theorem d_Mo_ask_91 : decode b_Mo_ask 91 = .ok (.aload_n 0, 1) := by decide +kernel
theorem d_Mo_ask_92 : decode b_Mo_ask 92 = .ok (.iload_n 3, 1) := by decide +kernel
theorem d_Mo_ask_93 : decode b_Mo_ask 93 = .ok (.invokevirtual 61, 3) := by decide +kernel
theorem d_Mo_ask_96 : decode b_Mo_ask 96 = .ok (.ifCond .ne 5, 3) := by decide +kernel
theorem d_Mo_ask_99 : decode b_Mo_ask 99 = .ok (.iconst (-1), 1) := by decide +kernel
theorem d_Mo_ask_100 : decode b_Mo_ask 100 = .ok (.ireturn, 1) := by decide +kernel
theorem d_Mo_ask_101 : decode b_Mo_ask 101 = .ok (.aload_n 0, 1) := by decide +kernel
theorem d_Mo_ask_102 : decode b_Mo_ask 102 = .ok (.getfield 57, 3) := by decide +kernel
theorem d_Mo_ask_105 : decode b_Mo_ask 105 = .ok (.bipush 30, 2) := by decide +kernel
theorem d_Mo_ask_107 : decode b_Mo_ask 107 = .ok (.if_icmp .ne 6, 3) := by decide +kernel
theorem d_Mo_ask_110 : decode b_Mo_ask 110 = .ok (.bipush (-4), 2) := by decide +kernel
theorem d_Mo_ask_112 : decode b_Mo_ask 112 = .ok (.ireturn, 1) := by decide +kernel
theorem d_Mo_ask_113 : decode b_Mo_ask 113 = .ok (.aload_n 0, 1) := by decide +kernel
theorem d_Mo_ask_114 : decode b_Mo_ask 114 = .ok (.getfield 13, 3) := by decide +kernel
theorem d_Mo_ask_117 : decode b_Mo_ask 117 = .ok (.aload_n 0, 1) := by decide +kernel
theorem d_Mo_ask_118 : decode b_Mo_ask 118 = .ok (.getfield 57, 3) := by decide +kernel
theorem d_Mo_ask_121 : decode b_Mo_ask 121 = .ok (.iload_n 1, 1) := by decide +kernel
theorem d_Mo_ask_122 : decode b_Mo_ask 122 = .ok (.iastore, 1) := by decide +kernel
theorem d_Mo_ask_123 : decode b_Mo_ask 123 = .ok (.aload_n 0, 1) := by decide +kernel
theorem d_Mo_ask_124 : decode b_Mo_ask 124 = .ok (.getfield 16, 3) := by decide +kernel
theorem d_Mo_ask_127 : decode b_Mo_ask 127 = .ok (.aload_n 0, 1) := by decide +kernel
theorem d_Mo_ask_128 : decode b_Mo_ask 128 = .ok (.getfield 57, 3) := by decide +kernel
theorem d_Mo_ask_131 : decode b_Mo_ask 131 = .ok (.iload_n 2, 1) := by decide +kernel
theorem d_Mo_ask_132 : decode b_Mo_ask 132 = .ok (.iastore, 1) := by decide +kernel
theorem d_Mo_ask_133 : decode b_Mo_ask 133 = .ok (.aload_n 0, 1) := by decide +kernel
theorem d_Mo_ask_134 : decode b_Mo_ask 134 = .ok (.getfield 19, 3) := by decide +kernel
theorem d_Mo_ask_137 : decode b_Mo_ask 137 = .ok (.aload_n 0, 1) := by decide +kernel
theorem d_Mo_ask_138 : decode b_Mo_ask 138 = .ok (.getfield 57, 3) := by decide +kernel
theorem d_Mo_ask_141 : decode b_Mo_ask 141 = .ok (.iload_n 3, 1) := by decide +kernel
theorem d_Mo_ask_142 : decode b_Mo_ask 142 = .ok (.iastore, 1) := by decide +kernel
theorem d_Mo_ask_143 : decode b_Mo_ask 143 = .ok (.aload_n 0, 1) := by decide +kernel
theorem d_Mo_ask_144 : decode b_Mo_ask 144 = .ok (.getfield 22, 3) := by decide +kernel
theorem d_Mo_ask_147 : decode b_Mo_ask 147 = .ok (.aload_n 0, 1) := by decide +kernel
theorem d_Mo_ask_148 : decode b_Mo_ask 148 = .ok (.getfield 57, 3) := by decide +kernel
theorem d_Mo_ask_151 : decode b_Mo_ask 151 = .ok (.iload 4, 2) := by decide +kernel
theorem d_Mo_ask_153 : decode b_Mo_ask 153 = .ok (.iastore, 1) := by decide +kernel
theorem d_Mo_ask_154 : decode b_Mo_ask 154 = .ok (.aload_n 0, 1) := by decide +kernel
theorem d_Mo_ask_155 : decode b_Mo_ask 155 = .ok (.dup, 1) := by decide +kernel
theorem d_Mo_ask_156 : decode b_Mo_ask 156 = .ok (.getfield 57, 3) := by decide +kernel
theorem d_Mo_ask_159 : decode b_Mo_ask 159 = .ok (.iconst 1, 1) := by decide +kernel
theorem d_Mo_ask_160 : decode b_Mo_ask 160 = .ok (.iadd, 1) := by decide +kernel
theorem d_Mo_ask_161 : decode b_Mo_ask 161 = .ok (.putfield 57, 3) := by decide +kernel
theorem d_Mo_ask_164 : decode b_Mo_ask 164 = .ok (.aload_n 0, 1) := by decide +kernel
theorem d_Mo_ask_165 : decode b_Mo_ask 165 = .ok (.getfield 57, 3) := by decide +kernel
theorem d_Mo_ask_168 : decode b_Mo_ask 168 = .ok (.iconst 1, 1) := by decide +kernel
theorem d_Mo_ask_169 : decode b_Mo_ask 169 = .ok (.isub, 1) := by decide +kernel
theorem d_Mo_ask_170 : decode b_Mo_ask 170 = .ok (.ireturn, 1) := by decide +kernel
theorem d_Mo_forget_0 : decode b_Mo_forget 0 = .ok (.aload_n 0, 1) := by decide +kernel
theorem d_Mo_forget_1 : decode b_Mo_forget 1 = .ok (.getfield 57, 3) := by decide +kernel
theorem d_Mo_forget_4 : decode b_Mo_forget 4 = .ok (.istore_n 1, 1) := by decide +kernel
theorem d_Mo_forget_5 : decode b_Mo_forget 5 = .ok (.aload_n 0, 1) := by decide +kernel
theorem d_Mo_forget_6 : decode b_Mo_forget 6 = .ok (.iconst 0, 1) := by decide +kernel
theorem d_Mo_forget_7 : decode b_Mo_forget 7 = .ok (.putfield 57, 3) := by decide +kernel
theorem d_Mo_forget_10 : decode b_Mo_forget 10 = .ok (.iload_n 1, 1) := by decide +kernel
theorem d_Mo_forget_11 : decode b_Mo_forget 11 = .ok (.ireturn, 1) := by decide +kernel
theorem d_Mo_comes_0 : decode b_Mo_comes 0 = .ok (.aload_n 0, 1) := by decide +kernel
theorem d_Mo_comes_1 : decode b_Mo_comes 1 = .ok (.getfield 34, 3) := by decide +kernel
theorem d_Mo_comes_4 : decode b_Mo_comes 4 = .ok (.iload_n 1, 1) := by decide +kernel
theorem d_Mo_comes_5 : decode b_Mo_comes 5 = .ok (.iaload, 1) := by decide +kernel
theorem d_Mo_comes_6 : decode b_Mo_comes 6 = .ok (.ifCond .lt 13, 3) := by decide +kernel
theorem d_Mo_comes_9 : decode b_Mo_comes 9 = .ok (.iload_n 2, 1) := by decide +kernel
theorem d_Mo_comes_10 : decode b_Mo_comes 10 = .ok (.aload_n 0, 1) := by decide +kernel
theorem d_Mo_comes_11 : decode b_Mo_comes 11 = .ok (.getfield 34, 3) := by decide +kernel
theorem d_Mo_comes_14 : decode b_Mo_comes 14 = .ok (.iload_n 1, 1) := by decide +kernel
theorem d_Mo_comes_15 : decode b_Mo_comes 15 = .ok (.iaload, 1) := by decide +kernel
theorem d_Mo_comes_16 : decode b_Mo_comes 16 = .ok (.if_icmp .ge 10, 3) := by decide +kernel
theorem d_Mo_comes_19 : decode b_Mo_comes 19 = .ok (.aload_n 0, 1) := by decide +kernel
theorem d_Mo_comes_20 : decode b_Mo_comes 20 = .ok (.getfield 34, 3) := by decide +kernel
theorem d_Mo_comes_23 : decode b_Mo_comes 23 = .ok (.iload_n 1, 1) := by decide +kernel
theorem d_Mo_comes_24 : decode b_Mo_comes 24 = .ok (.iload_n 2, 1) := by decide +kernel
theorem d_Mo_comes_25 : decode b_Mo_comes 25 = .ok (.iastore, 1) := by decide +kernel
theorem d_Mo_comes_26 : decode b_Mo_comes 26 = .ok (.return_, 1) := by decide +kernel
theorem d_Mo_gap_0 : decode b_Mo_gap 0 = .ok (.iload_n 2, 1) := by decide +kernel
theorem d_Mo_gap_1 : decode b_Mo_gap 1 = .ok (.iload_n 1, 1) := by decide +kernel
theorem d_Mo_gap_2 : decode b_Mo_gap 2 = .ok (.if_icmp .le 11, 3) := by decide +kernel
theorem d_Mo_gap_5 : decode b_Mo_gap 5 = .ok (.iload_n 2, 1) := by decide +kernel
theorem d_Mo_gap_6 : decode b_Mo_gap 6 = .ok (.iload_n 1, 1) := by decide +kernel
theorem d_Mo_gap_7 : decode b_Mo_gap 7 = .ok (.isub, 1) := by decide +kernel
theorem d_Mo_gap_8 : decode b_Mo_gap 8 = .ok (.iconst 1, 1) := by decide +kernel
theorem d_Mo_gap_9 : decode b_Mo_gap 9 = .ok (.isub, 1) := by decide +kernel
theorem d_Mo_gap_10 : decode b_Mo_gap 10 = .ok (.goto 17, 3) := by decide +kernel
theorem d_Mo_gap_13 : decode b_Mo_gap 13 = .ok (.iload_n 0, 1) := by decide +kernel
theorem d_Mo_gap_14 : decode b_Mo_gap 14 = .ok (.iload_n 3, 1) := by decide +kernel
theorem d_Mo_gap_15 : decode b_Mo_gap 15 = .ok (.if_icmp .le 11, 3) := by decide +kernel
theorem d_Mo_gap_18 : decode b_Mo_gap 18 = .ok (.iload_n 0, 1) := by decide +kernel
theorem d_Mo_gap_19 : decode b_Mo_gap 19 = .ok (.iload_n 3, 1) := by decide +kernel
theorem d_Mo_gap_20 : decode b_Mo_gap 20 = .ok (.isub, 1) := by decide +kernel
theorem d_Mo_gap_21 : decode b_Mo_gap 21 = .ok (.iconst 1, 1) := by decide +kernel
theorem d_Mo_gap_22 : decode b_Mo_gap 22 = .ok (.isub, 1) := by decide +kernel
theorem d_Mo_gap_23 : decode b_Mo_gap 23 = .ok (.goto 4, 3) := by decide +kernel
theorem d_Mo_gap_26 : decode b_Mo_gap 26 = .ok (.iconst (-1), 1) := by decide +kernel
theorem d_Mo_gap_27 : decode b_Mo_gap 27 = .ok (.ireturn, 1) := by decide +kernel
theorem d_Mo_pair_0 : decode b_Mo_pair 0 = .ok (.aload_n 0, 1) := by decide +kernel
theorem d_Mo_pair_1 : decode b_Mo_pair 1 = .ok (.getfield 22, 3) := by decide +kernel
theorem d_Mo_pair_4 : decode b_Mo_pair 4 = .ok (.iload_n 1, 1) := by decide +kernel
theorem d_Mo_pair_5 : decode b_Mo_pair 5 = .ok (.iaload, 1) := by decide +kernel
theorem d_Mo_pair_6 : decode b_Mo_pair 6 = .ok (.istore 6, 2) := by decide +kernel
theorem d_Mo_pair_8 : decode b_Mo_pair 8 = .ok (.aload_n 0, 1) := by decide +kernel
theorem d_Mo_pair_9 : decode b_Mo_pair 9 = .ok (.getfield 13, 3) := by decide +kernel
theorem d_Mo_pair_12 : decode b_Mo_pair 12 = .ok (.iload_n 1, 1) := by decide +kernel
theorem d_Mo_pair_13 : decode b_Mo_pair 13 = .ok (.iaload, 1) := by decide +kernel
theorem d_Mo_pair_14 : decode b_Mo_pair 14 = .ok (.istore 7, 2) := by decide +kernel
theorem d_Mo_pair_16 : decode b_Mo_pair 16 = .ok (.iload 7, 2) := by decide +kernel
theorem d_Mo_pair_18 : decode b_Mo_pair 18 = .ok (.iconst 2, 1) := by decide +kernel
theorem d_Mo_pair_19 : decode b_Mo_pair 19 = .ok (.if_icmp .eq 9, 3) := by decide +kernel
theorem d_Mo_pair_22 : decode b_Mo_pair 22 = .ok (.iload 7, 2) := by decide +kernel
theorem d_Mo_pair_24 : decode b_Mo_pair 24 = .ok (.iconst 3, 1) := by decide +kernel
theorem d_Mo_pair_25 : decode b_Mo_pair 25 = .ok (.if_icmp .ne 60, 3) := by decide +kernel
theorem d_Mo_pair_28 : decode b_Mo_pair 28 = .ok (.iload 4, 2) := by decide +kernel
theorem d_Mo_pair_30 : decode b_Mo_pair 30 = .ok (.iload_n 3, 1) := by decide +kernel
theorem d_Mo_pair_31 : decode b_Mo_pair 31 = .ok (.if_icmp .le 21, 3) := by decide +kernel
theorem d_Mo_pair_34 : decode b_Mo_pair 34 = .ok (.iload 4, 2) := by decide +kernel
theorem d_Mo_pair_36 : decode b_Mo_pair 36 = .ok (.iload_n 3, 1) := by decide +kernel
theorem d_Mo_pair_37 : decode b_Mo_pair 37 = .ok (.isub, 1) := by decide +kernel
theorem d_Mo_pair_38 : decode b_Mo_pair 38 = .ok (.iconst 1, 1) := by decide +kernel
theorem d_Mo_pair_39 : decode b_Mo_pair 39 = .ok (.isub, 1) := by decide +kernel
theorem d_Mo_pair_40 : decode b_Mo_pair 40 = .ok (.iload 6, 2) := by decide +kernel
theorem d_Mo_pair_42 : decode b_Mo_pair 42 = .ok (.if_icmp .gt 10, 3) := by decide +kernel
theorem d_Mo_pair_45 : decode b_Mo_pair 45 = .ok (.aload_n 0, 1) := by decide +kernel
theorem d_Mo_pair_46 : decode b_Mo_pair 46 = .ok (.iload_n 2, 1) := by decide +kernel
theorem d_Mo_pair_47 : decode b_Mo_pair 47 = .ok (.iload 5, 2) := by decide +kernel
theorem d_Mo_pair_49 : decode b_Mo_pair 49 = .ok (.invokevirtual 64, 3) := by decide +kernel
theorem d_Mo_pair_52 : decode b_Mo_pair 52 = .ok (.iload 7, 2) := by decide +kernel
theorem d_Mo_pair_54 : decode b_Mo_pair 54 = .ok (.iconst 3, 1) := by decide +kernel
theorem d_Mo_pair_55 : decode b_Mo_pair 55 = .ok (.if_icmp .ne 155, 3) := by decide +kernel
theorem d_Mo_pair_58 : decode b_Mo_pair 58 = .ok (.iload_n 2, 1) := by decide +kernel
theorem d_Mo_pair_59 : decode b_Mo_pair 59 = .ok (.iload 5, 2) := by decide +kernel
theorem d_Mo_pair_61 : decode b_Mo_pair 61 = .ok (.if_icmp .le 149, 3) := by decide +kernel
theorem d_Mo_pair_64 : decode b_Mo_pair 64 = .ok (.iload_n 2, 1) := by decide +kernel
theorem d_Mo_pair_65 : decode b_Mo_pair 65 = .ok (.iload 5, 2) := by decide +kernel
theorem d_Mo_pair_67 : decode b_Mo_pair 67 = .ok (.isub, 1) := by decide +kernel
theorem d_Mo_pair_68 : decode b_Mo_pair 68 = .ok (.iconst 1, 1) := by decide +kernel
theorem d_Mo_pair_69 : decode b_Mo_pair 69 = .ok (.isub, 1) := by decide +kernel
theorem d_Mo_pair_70 : decode b_Mo_pair 70 = .ok (.iload 6, 2) := by decide +kernel
theorem d_Mo_pair_72 : decode b_Mo_pair 72 = .ok (.if_icmp .gt 138, 3) := by decide +kernel
theorem d_Mo_pair_75 : decode b_Mo_pair 75 = .ok (.aload_n 0, 1) := by decide +kernel
theorem d_Mo_pair_76 : decode b_Mo_pair 76 = .ok (.iload 4, 2) := by decide +kernel
theorem d_Mo_pair_78 : decode b_Mo_pair 78 = .ok (.iload_n 3, 1) := by decide +kernel
theorem d_Mo_pair_79 : decode b_Mo_pair 79 = .ok (.invokevirtual 64, 3) := by decide +kernel
theorem d_Mo_pair_82 : decode b_Mo_pair 82 = .ok (.goto 128, 3) := by decide +kernel
theorem d_Mo_pair_85 : decode b_Mo_pair 85 = .ok (.iload 7, 2) := by decide +kernel
theorem d_Mo_pair_87 : decode b_Mo_pair 87 = .ok (.iconst 4, 1) := by decide +kernel
theorem d_Mo_pair_88 : decode b_Mo_pair 88 = .ok (.if_icmp .ne 54, 3) := by decide +kernel
theorem d_Mo_pair_91 : decode b_Mo_pair 91 = .ok (.iload_n 2, 1) := by decide +kernel
theorem d_Mo_pair_92 : decode b_Mo_pair 92 = .ok (.iload 4, 2) := by decide +kernel
theorem d_Mo_pair_94 : decode b_Mo_pair 94 = .ok (.if_icmp .ge 7, 3) := by decide +kernel
theorem d_Mo_pair_97 : decode b_Mo_pair 97 = .ok (.iload_n 2, 1) := by decide +kernel
theorem d_Mo_pair_98 : decode b_Mo_pair 98 = .ok (.goto 5, 3) := by decide +kernel
theorem d_Mo_pair_101 : decode b_Mo_pair 101 = .ok (.iload 4, 2) := by decide +kernel
theorem d_Mo_pair_103 : decode b_Mo_pair 103 = .ok (.istore 8, 2) := by decide +kernel
theorem d_Mo_pair_105 : decode b_Mo_pair 105 = .ok (.iload_n 3, 1) := by decide +kernel
theorem d_Mo_pair_106 : decode b_Mo_pair 106 = .ok (.iload 5, 2) := by decide +kernel
theorem d_Mo_pair_108 : decode b_Mo_pair 108 = .ok (.if_icmp .le 7, 3) := by decide +kernel
theorem d_Mo_pair_111 : decode b_Mo_pair 111 = .ok (.iload_n 3, 1) := by decide +kernel
theorem d_Mo_pair_112 : decode b_Mo_pair 112 = .ok (.goto 5, 3) := by decide +kernel
theorem d_Mo_pair_115 : decode b_Mo_pair 115 = .ok (.iload 5, 2) := by decide +kernel
theorem d_Mo_pair_117 : decode b_Mo_pair 117 = .ok (.istore 9, 2) := by decide +kernel
theorem d_Mo_pair_119 : decode b_Mo_pair 119 = .ok (.iload 9, 2) := by decide +kernel
theorem d_Mo_pair_121 : decode b_Mo_pair 121 = .ok (.iload 8, 2) := by decide +kernel
theorem d_Mo_pair_123 : decode b_Mo_pair 123 = .ok (.isub, 1) := by decide +kernel
theorem d_Mo_pair_124 : decode b_Mo_pair 124 = .ok (.iconst 1, 1) := by decide +kernel
theorem d_Mo_pair_125 : decode b_Mo_pair 125 = .ok (.iadd, 1) := by decide +kernel
theorem d_Mo_pair_126 : decode b_Mo_pair 126 = .ok (.iload 6, 2) := by decide +kernel
theorem d_Mo_pair_128 : decode b_Mo_pair 128 = .ok (.if_icmp .gt 11, 3) := by decide +kernel
theorem d_Mo_pair_131 : decode b_Mo_pair 131 = .ok (.aload_n 0, 1) := by decide +kernel
theorem d_Mo_pair_132 : decode b_Mo_pair 132 = .ok (.iload 8, 2) := by decide +kernel
theorem d_Mo_pair_134 : decode b_Mo_pair 134 = .ok (.iload 9, 2) := by decide +kernel
theorem d_Mo_pair_136 : decode b_Mo_pair 136 = .ok (.invokevirtual 64, 3) := by decide +kernel
theorem d_Mo_pair_139 : decode b_Mo_pair 139 = .ok (.goto 71, 3) := by decide +kernel
theorem d_Mo_pair_142 : decode b_Mo_pair 142 = .ok (.iload 7, 2) := by decide +kernel
theorem d_Mo_pair_144 : decode b_Mo_pair 144 = .ok (.iconst 5, 1) := by decide +kernel
theorem d_Mo_pair_145 : decode b_Mo_pair 145 = .ok (.if_icmp .ne 18, 3) := by decide +kernel
theorem d_Mo_pair_148 : decode b_Mo_pair 148 = .ok (.iload_n 2, 1) := by decide +kernel
theorem d_Mo_pair_149 : decode b_Mo_pair 149 = .ok (.iload 4, 2) := by decide +kernel
theorem d_Mo_pair_151 : decode b_Mo_pair 151 = .ok (.if_icmp .gt 59, 3) := by decide +kernel
theorem d_Mo_pair_154 : decode b_Mo_pair 154 = .ok (.iload 5, 2) := by decide +kernel
theorem d_Mo_pair_156 : decode b_Mo_pair 156 = .ok (.iload_n 3, 1) := by decide +kernel
theorem d_Mo_pair_157 : decode b_Mo_pair 157 = .ok (.if_icmp .gt 53, 3) := by decide +kernel
theorem d_Mo_pair_160 : decode b_Mo_pair 160 = .ok (.goto 44, 3) := by decide +kernel
theorem d_Mo_pair_163 : decode b_Mo_pair 163 = .ok (.iload 7, 2) := by decide +kernel
theorem d_Mo_pair_165 : decode b_Mo_pair 165 = .ok (.bipush 6, 2) := by decide +kernel
theorem d_Mo_pair_167 : decode b_Mo_pair 167 = .ok (.if_icmp .ne 18, 3) := by decide +kernel
theorem d_Mo_pair_170 : decode b_Mo_pair 170 = .ok (.iload 4, 2) := by decide +kernel
theorem d_Mo_pair_172 : decode b_Mo_pair 172 = .ok (.iload_n 2, 1) := by decide +kernel
theorem d_Mo_pair_173 : decode b_Mo_pair 173 = .ok (.if_icmp .gt 37, 3) := by decide +kernel
theorem d_Mo_pair_176 : decode b_Mo_pair 176 = .ok (.iload_n 3, 1) := by decide +kernel
theorem d_Mo_pair_177 : decode b_Mo_pair 177 = .ok (.iload 5, 2) := by decide +kernel
theorem d_Mo_pair_179 : decode b_Mo_pair 179 = .ok (.if_icmp .gt 31, 3) := by decide +kernel
theorem d_Mo_pair_182 : decode b_Mo_pair 182 = .ok (.goto 22, 3) := by decide +kernel
theorem d_Mo_pair_185 : decode b_Mo_pair 185 = .ok (.iload 7, 2) := by decide +kernel
theorem d_Mo_pair_187 : decode b_Mo_pair 187 = .ok (.bipush 7, 2) := by decide +kernel
theorem d_Mo_pair_189 : decode b_Mo_pair 189 = .ok (.if_icmp .ne 21, 3) := by decide +kernel
theorem d_Mo_pair_192 : decode b_Mo_pair 192 = .ok (.iload_n 2, 1) := by decide +kernel
theorem d_Mo_pair_193 : decode b_Mo_pair 193 = .ok (.iload_n 3, 1) := by decide +kernel
theorem d_Mo_pair_194 : decode b_Mo_pair 194 = .ok (.iload 4, 2) := by decide +kernel
theorem d_Mo_pair_196 : decode b_Mo_pair 196 = .ok (.iload 5, 2) := by decide +kernel
theorem d_Mo_pair_198 : decode b_Mo_pair 198 = .ok (.invokestatic 68, 3) := by decide +kernel
theorem d_Mo_pair_201 : decode b_Mo_pair 201 = .ok (.ifCond .ge 9, 3) := by decide +kernel
theorem d_Mo_pair_204 : decode b_Mo_pair 204 = .ok (.aload_n 0, 1) := by decide +kernel
theorem d_Mo_pair_205 : decode b_Mo_pair 205 = .ok (.iload_n 2, 1) := by decide +kernel
theorem d_Mo_pair_206 : decode b_Mo_pair 206 = .ok (.iload_n 3, 1) := by decide +kernel
theorem d_Mo_pair_207 : decode b_Mo_pair 207 = .ok (.invokevirtual 64, 3) := by decide +kernel
theorem d_Mo_pair_210 : decode b_Mo_pair 210 = .ok (.return_, 1) := by decide +kernel
theorem d_Mo_isFar_0 : decode b_Mo_isFar 0 = .ok (.iconst 1, 1) := by decide +kernel
theorem d_Mo_isFar_1 : decode b_Mo_isFar 1 = .ok (.istore 4, 2) := by decide +kernel
theorem d_Mo_isFar_3 : decode b_Mo_isFar 3 = .ok (.iconst 0, 1) := by decide +kernel
theorem d_Mo_isFar_4 : decode b_Mo_isFar 4 = .ok (.istore 5, 2) := by decide +kernel
theorem d_Mo_isFar_6 : decode b_Mo_isFar 6 = .ok (.iload 5, 2) := by decide +kernel
theorem d_Mo_isFar_8 : decode b_Mo_isFar 8 = .ok (.bipush 30, 2) := by decide +kernel
theorem d_Mo_isFar_10 : decode b_Mo_isFar 10 = .ok (.if_icmp .ge 72, 3) := by decide +kernel
theorem d_Mo_isFar_13 : decode b_Mo_isFar 13 = .ok (.aload_n 0, 1) := by decide +kernel
theorem d_Mo_isFar_14 : decode b_Mo_isFar 14 = .ok (.getfield 31, 3) := by decide +kernel
theorem d_Mo_isFar_17 : decode b_Mo_isFar 17 = .ok (.bipush 30, 2) := by decide +kernel
theorem d_Mo_isFar_19 : decode b_Mo_isFar 19 = .ok (.aload_n 0, 1) := by decide +kernel
theorem d_Mo_isFar_20 : decode b_Mo_isFar 20 = .ok (.getfield 19, 3) := by decide +kernel
theorem d_Mo_isFar_23 : decode b_Mo_isFar 23 = .ok (.iload_n 1, 1) := by decide +kernel
theorem d_Mo_isFar_24 : decode b_Mo_isFar 24 = .ok (.iaload, 1) := by decide +kernel
theorem d_Mo_isFar_25 : decode b_Mo_isFar 25 = .ok (.imul, 1) := by decide +kernel
theorem d_Mo_isFar_26 : decode b_Mo_isFar 26 = .ok (.iload 5, 2) := by decide +kernel
theorem d_Mo_isFar_28 : decode b_Mo_isFar 28 = .ok (.iadd, 1) := by decide +kernel
theorem d_Mo_isFar_29 : decode b_Mo_isFar 29 = .ok (.iaload, 1) := by decide +kernel
theorem d_Mo_isFar_30 : decode b_Mo_isFar 30 = .ok (.istore 6, 2) := by decide +kernel
theorem d_Mo_isFar_32 : decode b_Mo_isFar 32 = .ok (.iload 6, 2) := by decide +kernel
theorem d_Mo_isFar_34 : decode b_Mo_isFar 34 = .ok (.ifCond .lt 42, 3) := by decide +kernel
theorem d_Mo_isFar_37 : decode b_Mo_isFar 37 = .ok (.iload_n 2, 1) := by decide +kernel
theorem d_Mo_isFar_38 : decode b_Mo_isFar 38 = .ok (.iload_n 3, 1) := by decide +kernel
theorem d_Mo_isFar_39 : decode b_Mo_isFar 39 = .ok (.iload 5, 2) := by decide +kernel
theorem d_Mo_isFar_41 : decode b_Mo_isFar 41 = .ok (.iload 6, 2) := by decide +kernel
theorem d_Mo_isFar_43 : decode b_Mo_isFar 43 = .ok (.invokestatic 68, 3) := by decide +kernel
theorem d_Mo_isFar_46 : decode b_Mo_isFar 46 = .ok (.istore 7, 2) := by decide +kernel
theorem d_Mo_isFar_48 : decode b_Mo_isFar 48 = .ok (.iload 4, 2) := by decide +kernel
theorem d_Mo_isFar_50 : decode b_Mo_isFar 50 = .ok (.ifCond .eq 23, 3) := by decide +kernel
theorem d_Mo_isFar_53 : decode b_Mo_isFar 53 = .ok (.iload 7, 2) := by decide +kernel
theorem d_Mo_isFar_55 : decode b_Mo_isFar 55 = .ok (.ifCond .lt 18, 3) := by decide +kernel
theorem d_Mo_isFar_58 : decode b_Mo_isFar 58 = .ok (.iload 7, 2) := by decide +kernel
theorem d_Mo_isFar_60 : decode b_Mo_isFar 60 = .ok (.aload_n 0, 1) := by decide +kernel
theorem d_Mo_isFar_61 : decode b_Mo_isFar 61 = .ok (.getfield 22, 3) := by decide +kernel
theorem d_Mo_isFar_64 : decode b_Mo_isFar 64 = .ok (.iload_n 1, 1) := by decide +kernel
theorem d_Mo_isFar_65 : decode b_Mo_isFar 65 = .ok (.iaload, 1) := by decide +kernel
theorem d_Mo_isFar_66 : decode b_Mo_isFar 66 = .ok (.if_icmp .le 7, 3) := by decide +kernel
theorem d_Mo_isFar_69 : decode b_Mo_isFar 69 = .ok (.iconst 1, 1) := by decide +kernel
theorem d_Mo_isFar_70 : decode b_Mo_isFar 70 = .ok (.goto 4, 3) := by decide +kernel
theorem d_Mo_isFar_73 : decode b_Mo_isFar 73 = .ok (.iconst 0, 1) := by decide +kernel
theorem d_Mo_isFar_74 : decode b_Mo_isFar 74 = .ok (.istore 4, 2) := by decide +kernel
theorem d_Mo_isFar_76 : decode b_Mo_isFar 76 = .ok (.iinc 5 1, 3) := by decide +kernel
theorem d_Mo_isFar_79 : decode b_Mo_isFar 79 = .ok (.goto (-73), 3) := by decide +kernel
theorem d_Mo_isFar_82 : decode b_Mo_isFar 82 = .ok (.iload 4, 2) := by decide +kernel
theorem d_Mo_isFar_84 : decode b_Mo_isFar 84 = .ok (.ireturn, 1) := by decide +kernel
theorem d_Mo_alone_0 : decode b_Mo_alone 0 = .ok (.aload_n 0, 1) := by decide +kernel
theorem d_Mo_alone_1 : decode b_Mo_alone 1 = .ok (.getfield 22, 3) := by decide +kernel
theorem d_Mo_alone_4 : decode b_Mo_alone 4 = .ok (.iload_n 1, 1) := by decide +kernel
theorem d_Mo_alone_5 : decode b_Mo_alone 5 = .ok (.iaload, 1) := by decide +kernel
theorem d_Mo_alone_6 : decode b_Mo_alone 6 = .ok (.istore 4, 2) := by decide +kernel
theorem d_Mo_alone_8 : decode b_Mo_alone 8 = .ok (.aload_n 0, 1) := by decide +kernel
theorem d_Mo_alone_9 : decode b_Mo_alone 9 = .ok (.getfield 13, 3) := by decide +kernel
theorem d_Mo_alone_12 : decode b_Mo_alone 12 = .ok (.iload_n 1, 1) := by decide +kernel
theorem d_Mo_alone_13 : decode b_Mo_alone 13 = .ok (.iaload, 1) := by decide +kernel
theorem d_Mo_alone_14 : decode b_Mo_alone 14 = .ok (.istore 5, 2) := by decide +kernel
theorem d_Mo_alone_16 : decode b_Mo_alone 16 = .ok (.iload 5, 2) := by decide +kernel
theorem d_Mo_alone_18 : decode b_Mo_alone 18 = .ok (.iconst 1, 1) := by decide +kernel
theorem d_Mo_alone_19 : decode b_Mo_alone 19 = .ok (.if_icmp .eq 33, 3) := by decide +kernel
theorem d_Mo_alone_22 : decode b_Mo_alone 22 = .ok (.iload 5, 2) := by decide +kernel
theorem d_Mo_alone_24 : decode b_Mo_alone 24 = .ok (.bipush 8, 2) := by decide +kernel
theorem d_Mo_alone_26 : decode b_Mo_alone 26 = .ok (.if_icmp .ne 13, 3) := by decide +kernel
theorem d_Mo_alone_29 : decode b_Mo_alone 29 = .ok (.aload_n 0, 1) := by decide +kernel
theorem d_Mo_alone_30 : decode b_Mo_alone 30 = .ok (.iload_n 1, 1) := by decide +kernel
theorem d_Mo_alone_31 : decode b_Mo_alone 31 = .ok (.iload_n 2, 1) := by decide +kernel
theorem d_Mo_alone_32 : decode b_Mo_alone 32 = .ok (.iload_n 3, 1) := by decide +kernel
theorem d_Mo_alone_33 : decode b_Mo_alone 33 = .ok (.invokevirtual 72, 3) := by decide +kernel
theorem d_Mo_alone_36 : decode b_Mo_alone 36 = .ok (.ifCond .ne 16, 3) := by decide +kernel
theorem d_Mo_alone_39 : decode b_Mo_alone 39 = .ok (.iload 5, 2) := by decide +kernel
theorem d_Mo_alone_41 : decode b_Mo_alone 41 = .ok (.bipush 9, 2) := by decide +kernel
theorem d_Mo_alone_43 : decode b_Mo_alone 43 = .ok (.if_icmp .ne 18, 3) := by decide +kernel
theorem d_Mo_alone_46 : decode b_Mo_alone 46 = .ok (.iload_n 3, 1) := by decide +kernel
theorem d_Mo_alone_47 : decode b_Mo_alone 47 = .ok (.iload 4, 2) := by decide +kernel
theorem d_Mo_alone_49 : decode b_Mo_alone 49 = .ok (.if_icmp .ge 12, 3) := by decide +kernel
theorem d_Mo_alone_52 : decode b_Mo_alone 52 = .ok (.aload_n 0, 1) := by decide +kernel
theorem d_Mo_alone_53 : decode b_Mo_alone 53 = .ok (.iload_n 2, 1) := by decide +kernel
theorem d_Mo_alone_54 : decode b_Mo_alone 54 = .ok (.iload_n 3, 1) := by decide +kernel
theorem d_Mo_alone_55 : decode b_Mo_alone 55 = .ok (.invokevirtual 64, 3) := by decide +kernel
theorem d_Mo_alone_58 : decode b_Mo_alone 58 = .ok (.goto 29, 3) := by decide +kernel
theorem d_Mo_alone_61 : decode b_Mo_alone 61 = .ok (.iload 5, 2) := by decide +kernel
theorem d_Mo_alone_63 : decode b_Mo_alone 63 = .ok (.bipush 10, 2) := by decide +kernel
theorem d_Mo_alone_65 : decode b_Mo_alone 65 = .ok (.if_icmp .ne 22, 3) := by decide +kernel
theorem d_Mo_alone_68 : decode b_Mo_alone 68 = .ok (.aload_n 0, 1) := by decide +kernel
theorem d_Mo_alone_69 : decode b_Mo_alone 69 = .ok (.iload_n 2, 1) := by decide +kernel
theorem d_Mo_alone_70 : decode b_Mo_alone 70 = .ok (.iload 4, 2) := by decide +kernel
theorem d_Mo_alone_72 : decode b_Mo_alone 72 = .ok (.if_icmp .ge 7, 3) := by decide +kernel
theorem d_Mo_alone_75 : decode b_Mo_alone 75 = .ok (.iconst 0, 1) := by decide +kernel
theorem d_Mo_alone_76 : decode b_Mo_alone 76 = .ok (.goto 7, 3) := by decide +kernel
theorem d_Mo_alone_79 : decode b_Mo_alone 79 = .ok (.iload_n 2, 1) := by decide +kernel
theorem d_Mo_alone_80 : decode b_Mo_alone 80 = .ok (.iload 4, 2) := by decide +kernel
theorem d_Mo_alone_82 : decode b_Mo_alone 82 = .ok (.isub, 1) := by decide +kernel
theorem d_Mo_alone_83 : decode b_Mo_alone 83 = .ok (.iload_n 3, 1) := by decide +kernel
theorem d_Mo_alone_84 : decode b_Mo_alone 84 = .ok (.invokevirtual 64, 3) := by decide +kernel
theorem d_Mo_alone_87 : decode b_Mo_alone 87 = .ok (.return_, 1) := by decide +kernel
theorem d_Mo_find_0 : decode b_Mo_find 0 = .ok (.iconst 0, 1) := by decide +kernel
theorem d_Mo_find_1 : decode b_Mo_find 1 = .ok (.istore_n 2, 1) := by decide +kernel
theorem d_Mo_find_2 : decode b_Mo_find 2 = .ok (.iload_n 2, 1) := by decide +kernel
theorem d_Mo_find_3 : decode b_Mo_find 3 = .ok (.bipush 30, 2) := by decide +kernel
theorem d_Mo_find_5 : decode b_Mo_find 5 = .ok (.if_icmp .ge 48, 3) := by decide +kernel
theorem d_Mo_find_8 : decode b_Mo_find 8 = .ok (.aload_n 0, 1) := by decide +kernel
theorem d_Mo_find_9 : decode b_Mo_find 9 = .ok (.getfield 34, 3) := by decide +kernel
theorem d_Mo_find_12 : decode b_Mo_find 12 = .ok (.iload_n 2, 1) := by decide +kernel
theorem d_Mo_find_13 : decode b_Mo_find 13 = .ok (.aload_n 0, 1) := by decide +kernel
theorem d_Mo_find_14 : decode b_Mo_find 14 = .ok (.getfield 13, 3) := by decide +kernel
theorem d_Mo_find_17 : decode b_Mo_find 17 = .ok (.iload_n 1, 1) := by decide +kernel
theorem d_Mo_find_18 : decode b_Mo_find 18 = .ok (.iaload, 1) := by decide +kernel
theorem d_Mo_find_19 : decode b_Mo_find 19 = .ok (.ifCond .ne 26, 3) := by decide +kernel
theorem d_Mo_find_22 : decode b_Mo_find 22 = .ok (.aload_n 0, 1) := by decide +kernel
theorem d_Mo_find_23 : decode b_Mo_find 23 = .ok (.getfield 7, 3) := by decide +kernel
theorem d_Mo_find_26 : decode b_Mo_find 26 = .ok (.iload_n 2, 1) := by decide +kernel
theorem d_Mo_find_27 : decode b_Mo_find 27 = .ok (.iaload, 1) := by decide +kernel
theorem d_Mo_find_28 : decode b_Mo_find 28 = .ok (.aload_n 0, 1) := by decide +kernel
theorem d_Mo_find_29 : decode b_Mo_find 29 = .ok (.getfield 22, 3) := by decide +kernel
theorem d_Mo_find_32 : decode b_Mo_find 32 = .ok (.iload_n 1, 1) := by decide +kernel
theorem d_Mo_find_33 : decode b_Mo_find 33 = .ok (.iaload, 1) := by decide +kernel
theorem d_Mo_find_34 : decode b_Mo_find 34 = .ok (.ishr, 1) := by decide +kernel
theorem d_Mo_find_35 : decode b_Mo_find 35 = .ok (.iconst 1, 1) := by decide +kernel
theorem d_Mo_find_36 : decode b_Mo_find 36 = .ok (.iand, 1) := by decide +kernel
theorem d_Mo_find_37 : decode b_Mo_find 37 = .ok (.iconst 1, 1) := by decide +kernel
theorem d_Mo_find_38 : decode b_Mo_find 38 = .ok (.if_icmp .ne 7, 3) := by decide +kernel
theorem d_Mo_find_41 : decode b_Mo_find 41 = .ok (.iload_n 2, 1) := by decide +kernel
theorem d_Mo_find_42 : decode b_Mo_find 42 = .ok (.goto 4, 3) := by decide +kernel
theorem d_Mo_find_45 : decode b_Mo_find 45 = .ok (.iconst (-1), 1) := by decide +kernel
theorem d_Mo_find_46 : decode b_Mo_find 46 = .ok (.iastore, 1) := by decide +kernel
theorem d_Mo_find_47 : decode b_Mo_find 47 = .ok (.iinc 2 1, 3) := by decide +kernel
theorem d_Mo_find_50 : decode b_Mo_find 50 = .ok (.goto (-48), 3) := by decide +kernel
theorem d_Mo_find_53 : decode b_Mo_find 53 = .ok (.iconst 0, 1) := by decide +kernel
theorem d_Mo_find_54 : decode b_Mo_find 54 = .ok (.istore_n 2, 1) := by decide +kernel
theorem d_Mo_find_55 : decode b_Mo_find 55 = .ok (.iload_n 2, 1) := by decide +kernel
theorem d_Mo_find_56 : decode b_Mo_find 56 = .ok (.bipush 30, 2) := by decide +kernel
theorem d_Mo_find_58 : decode b_Mo_find 58 = .ok (.if_icmp .ge 166, 3) := by decide +kernel
theorem d_Mo_find_61 : decode b_Mo_find 61 = .ok (.aload_n 0, 1) := by decide +kernel
theorem d_Mo_find_62 : decode b_Mo_find 62 = .ok (.getfield 13, 3) := by decide +kernel
theorem d_Mo_find_65 : decode b_Mo_find 65 = .ok (.iload_n 1, 1) := by decide +kernel
theorem d_Mo_find_66 : decode b_Mo_find 66 = .ok (.iaload, 1) := by decide +kernel
theorem d_Mo_find_67 : decode b_Mo_find 67 = .ok (.ifCond .le 157, 3) := by decide +kernel
theorem d_Mo_find_70 : decode b_Mo_find 70 = .ok (.aload_n 0, 1) := by decide +kernel
theorem d_Mo_find_71 : decode b_Mo_find 71 = .ok (.getfield 31, 3) := by decide +kernel
theorem d_Mo_find_74 : decode b_Mo_find 74 = .ok (.bipush 30, 2) := by decide +kernel
theorem d_Mo_find_76 : decode b_Mo_find 76 = .ok (.aload_n 0, 1) := by decide +kernel
theorem d_Mo_find_77 : decode b_Mo_find 77 = .ok (.getfield 16, 3) := by decide +kernel
theorem d_Mo_find_80 : decode b_Mo_find 80 = .ok (.iload_n 1, 1) := by decide +kernel
theorem d_Mo_find_81 : decode b_Mo_find 81 = .ok (.iaload, 1) := by decide +kernel
theorem d_Mo_find_82 : decode b_Mo_find 82 = .ok (.imul, 1) := by decide +kernel
theorem d_Mo_find_83 : decode b_Mo_find 83 = .ok (.iload_n 2, 1) := by decide +kernel
theorem d_Mo_find_84 : decode b_Mo_find 84 = .ok (.iadd, 1) := by decide +kernel
theorem d_Mo_find_85 : decode b_Mo_find 85 = .ok (.iaload, 1) := by decide +kernel
theorem d_Mo_find_86 : decode b_Mo_find 86 = .ok (.istore_n 3, 1) := by decide +kernel
theorem d_Mo_find_87 : decode b_Mo_find 87 = .ok (.iload_n 3, 1) := by decide +kernel
theorem d_Mo_find_88 : decode b_Mo_find 88 = .ok (.ifCond .lt 10, 3) := by decide +kernel
theorem d_Mo_find_91 : decode b_Mo_find 91 = .ok (.aload_n 0, 1) := by decide +kernel
theorem d_Mo_find_92 : decode b_Mo_find 92 = .ok (.iload_n 1, 1) := by decide +kernel
theorem d_Mo_find_93 : decode b_Mo_find 93 = .ok (.iload_n 2, 1) := by decide +kernel
theorem d_Mo_find_94 : decode b_Mo_find 94 = .ok (.iload_n 3, 1) := by decide +kernel
theorem d_Mo_find_95 : decode b_Mo_find 95 = .ok (.invokevirtual 76, 3) := by decide +kernel
theorem d_Mo_find_98 : decode b_Mo_find 98 = .ok (.iconst 0, 1) := by decide +kernel
theorem d_Mo_find_99 : decode b_Mo_find 99 = .ok (.istore 4, 2) := by decide +kernel
theorem d_Mo_find_101 : decode b_Mo_find 101 = .ok (.iload 4, 2) := by decide +kernel
theorem d_Mo_find_103 : decode b_Mo_find 103 = .ok (.bipush 30, 2) := by decide +kernel
theorem d_Mo_find_105 : decode b_Mo_find 105 = .ok (.if_icmp .ge 69, 3) := by decide +kernel
theorem d_Mo_find_108 : decode b_Mo_find 108 = .ok (.aload_n 0, 1) := by decide +kernel
theorem d_Mo_find_109 : decode b_Mo_find 109 = .ok (.getfield 13, 3) := by decide +kernel
theorem d_Mo_find_112 : decode b_Mo_find 112 = .ok (.iload_n 1, 1) := by decide +kernel
theorem d_Mo_find_113 : decode b_Mo_find 113 = .ok (.iaload, 1) := by decide +kernel
theorem d_Mo_find_114 : decode b_Mo_find 114 = .ok (.bipush 8, 2) := by decide +kernel
theorem d_Mo_find_116 : decode b_Mo_find 116 = .ok (.if_icmp .ge 58, 3) := by decide +kernel
theorem d_Mo_find_119 : decode b_Mo_find 119 = .ok (.aload_n 0, 1) := by decide +kernel
theorem d_Mo_find_120 : decode b_Mo_find 120 = .ok (.getfield 13, 3) := by decide +kernel
theorem d_Mo_find_123 : decode b_Mo_find 123 = .ok (.iload_n 1, 1) := by decide +kernel
theorem d_Mo_find_124 : decode b_Mo_find 124 = .ok (.iaload, 1) := by decide +kernel
theorem d_Mo_find_125 : decode b_Mo_find 125 = .ok (.iconst 1, 1) := by decide +kernel
theorem d_Mo_find_126 : decode b_Mo_find 126 = .ok (.if_icmp .le 48, 3) := by decide +kernel
theorem d_Mo_find_129 : decode b_Mo_find 129 = .ok (.aload_n 0, 1) := by decide +kernel
theorem d_Mo_find_130 : decode b_Mo_find 130 = .ok (.getfield 31, 3) := by decide +kernel
theorem d_Mo_find_133 : decode b_Mo_find 133 = .ok (.bipush 30, 2) := by decide +kernel
theorem d_Mo_find_135 : decode b_Mo_find 135 = .ok (.aload_n 0, 1) := by decide +kernel
theorem d_Mo_find_136 : decode b_Mo_find 136 = .ok (.getfield 19, 3) := by decide +kernel
theorem d_Mo_find_139 : decode b_Mo_find 139 = .ok (.iload_n 1, 1) := by decide +kernel
theorem d_Mo_find_140 : decode b_Mo_find 140 = .ok (.iaload, 1) := by decide +kernel
theorem d_Mo_find_141 : decode b_Mo_find 141 = .ok (.imul, 1) := by decide +kernel
theorem d_Mo_find_142 : decode b_Mo_find 142 = .ok (.iload 4, 2) := by decide +kernel
theorem d_Mo_find_144 : decode b_Mo_find 144 = .ok (.iadd, 1) := by decide +kernel
theorem d_Mo_find_145 : decode b_Mo_find 145 = .ok (.iaload, 1) := by decide +kernel
theorem d_Mo_find_146 : decode b_Mo_find 146 = .ok (.istore 5, 2) := by decide +kernel
theorem d_Mo_find_148 : decode b_Mo_find 148 = .ok (.iload_n 3, 1) := by decide +kernel
theorem d_Mo_find_149 : decode b_Mo_find 149 = .ok (.ifCond .lt 19, 3) := by decide +kernel
theorem d_Mo_find_152 : decode b_Mo_find 152 = .ok (.iload 5, 2) := by decide +kernel
theorem d_Mo_find_154 : decode b_Mo_find 154 = .ok (.ifCond .lt 14, 3) := by decide +kernel
theorem d_Mo_find_157 : decode b_Mo_find 157 = .ok (.aload_n 0, 1) := by decide +kernel
theorem d_Mo_find_158 : decode b_Mo_find 158 = .ok (.iload_n 1, 1) := by decide +kernel
theorem d_Mo_find_159 : decode b_Mo_find 159 = .ok (.iload_n 2, 1) := by decide +kernel
theorem d_Mo_find_160 : decode b_Mo_find 160 = .ok (.iload_n 3, 1) := by decide +kernel
theorem d_Mo_find_161 : decode b_Mo_find 161 = .ok (.iload 4, 2) := by decide +kernel
theorem d_Mo_find_163 : decode b_Mo_find 163 = .ok (.iload 5, 2) := by decide +kernel
theorem d_Mo_find_165 : decode b_Mo_find 165 = .ok (.invokevirtual 80, 3) := by decide +kernel
theorem d_Mo_find_168 : decode b_Mo_find 168 = .ok (.iinc 4 1, 3) := by decide +kernel
theorem d_Mo_find_171 : decode b_Mo_find 171 = .ok (.goto (-70), 3) := by decide +kernel
theorem d_Mo_find_174 : decode b_Mo_find 174 = .ok (.aload_n 0, 1) := by decide +kernel
theorem d_Mo_find_175 : decode b_Mo_find 175 = .ok (.getfield 13, 3) := by decide +kernel
theorem d_Mo_find_178 : decode b_Mo_find 178 = .ok (.iload_n 1, 1) := by decide +kernel
theorem d_Mo_find_179 : decode b_Mo_find 179 = .ok (.iaload, 1) := by decide +kernel
theorem d_Mo_find_180 : decode b_Mo_find 180 = .ok (.iconst 1, 1) := by decide +kernel
theorem d_Mo_find_181 : decode b_Mo_find 181 = .ok (.if_icmp .ne 22, 3) := by decide +kernel
theorem d_Mo_find_184 : decode b_Mo_find 184 = .ok (.aload_n 0, 1) := by decide +kernel
theorem d_Mo_find_185 : decode b_Mo_find 185 = .ok (.getfield 31, 3) := by decide +kernel
theorem d_Mo_find_188 : decode b_Mo_find 188 = .ok (.bipush 30, 2) := by decide +kernel
theorem d_Mo_find_190 : decode b_Mo_find 190 = .ok (.aload_n 0, 1) := by decide +kernel
theorem d_Mo_find_191 : decode b_Mo_find 191 = .ok (.getfield 19, 3) := by decide +kernel
theorem d_Mo_find_194 : decode b_Mo_find 194 = .ok (.iload_n 1, 1) := by decide +kernel
theorem d_Mo_find_195 : decode b_Mo_find 195 = .ok (.iaload, 1) := by decide +kernel
theorem d_Mo_find_196 : decode b_Mo_find 196 = .ok (.imul, 1) := by decide +kernel
theorem d_Mo_find_197 : decode b_Mo_find 197 = .ok (.iload_n 2, 1) := by decide +kernel
theorem d_Mo_find_198 : decode b_Mo_find 198 = .ok (.iadd, 1) := by decide +kernel
theorem d_Mo_find_199 : decode b_Mo_find 199 = .ok (.iaload, 1) := by decide +kernel
theorem d_Mo_find_200 : decode b_Mo_find 200 = .ok (.goto 4, 3) := by decide +kernel
theorem d_Mo_find_203 : decode b_Mo_find 203 = .ok (.iconst (-1), 1) := by decide +kernel
theorem d_Mo_find_204 : decode b_Mo_find 204 = .ok (.istore 4, 2) := by decide +kernel
theorem d_Mo_find_206 : decode b_Mo_find 206 = .ok (.iload 4, 2) := by decide +kernel
theorem d_Mo_find_208 : decode b_Mo_find 208 = .ok (.ifCond .lt 10, 3) := by decide +kernel
theorem d_Mo_find_211 : decode b_Mo_find 211 = .ok (.aload_n 0, 1) := by decide +kernel
theorem d_Mo_find_212 : decode b_Mo_find 212 = .ok (.iload_n 2, 1) := by decide +kernel
theorem d_Mo_find_213 : decode b_Mo_find 213 = .ok (.iload 4, 2) := by decide +kernel
theorem d_Mo_find_215 : decode b_Mo_find 215 = .ok (.invokevirtual 64, 3) := by decide +kernel
theorem d_Mo_find_218 : decode b_Mo_find 218 = .ok (.iinc 2 1, 3) := by decide +kernel
theorem d_Mo_find_221 : decode b_Mo_find 221 = .ok (.goto (-166), 3) := by decide +kernel
theorem d_Mo_find_224 : decode b_Mo_find 224 = .ok (.bipush 30, 2) := by decide +kernel
theorem d_Mo_find_226 : decode b_Mo_find 226 = .ok (.istore_n 2, 1) := by decide +kernel
theorem d_Mo_find_227 : decode b_Mo_find 227 = .ok (.bipush 29, 2) := by decide +kernel
theorem d_Mo_find_229 : decode b_Mo_find 229 = .ok (.istore_n 3, 1) := by decide +kernel
theorem d_Mo_find_230 : decode b_Mo_find 230 = .ok (.iload_n 3, 1) := by decide +kernel
theorem d_Mo_find_231 : decode b_Mo_find 231 = .ok (.ifCond .lt 77, 3) := by decide +kernel
theorem d_Mo_find_234 : decode b_Mo_find 234 = .ok (.aload_n 0, 1) := by decide +kernel
theorem d_Mo_find_235 : decode b_Mo_find 235 = .ok (.getfield 34, 3) := by decide +kernel
theorem d_Mo_find_238 : decode b_Mo_find 238 = .ok (.iload_n 3, 1) := by decide +kernel
theorem d_Mo_find_239 : decode b_Mo_find 239 = .ok (.iaload, 1) := by decide +kernel
theorem d_Mo_find_240 : decode b_Mo_find 240 = .ok (.ifCond .lt 17, 3) := by decide +kernel
theorem d_Mo_find_243 : decode b_Mo_find 243 = .ok (.aload_n 0, 1) := by decide +kernel
theorem d_Mo_find_244 : decode b_Mo_find 244 = .ok (.getfield 34, 3) := by decide +kernel
theorem d_Mo_find_247 : decode b_Mo_find 247 = .ok (.iload_n 3, 1) := by decide +kernel
theorem d_Mo_find_248 : decode b_Mo_find 248 = .ok (.iaload, 1) := by decide +kernel
theorem d_Mo_find_249 : decode b_Mo_find 249 = .ok (.iload_n 2, 1) := by decide +kernel
theorem d_Mo_find_250 : decode b_Mo_find 250 = .ok (.if_icmp .ge 7, 3) := by decide +kernel
theorem d_Mo_find_253 : decode b_Mo_find 253 = .ok (.iconst 1, 1) := by decide +kernel
theorem d_Mo_find_254 : decode b_Mo_find 254 = .ok (.goto 4, 3) := by decide +kernel
theorem d_Mo_find_257 : decode b_Mo_find 257 = .ok (.iconst 0, 1) := by decide +kernel
theorem d_Mo_find_258 : decode b_Mo_find 258 = .ok (.istore 4, 2) := by decide +kernel
theorem d_Mo_find_260 : decode b_Mo_find 260 = .ok (.aload_n 0, 1) := by decide +kernel
theorem d_Mo_find_261 : decode b_Mo_find 261 = .ok (.getfield 31, 3) := by decide +kernel
theorem d_Mo_find_264 : decode b_Mo_find 264 = .ok (.bipush 30, 2) := by decide +kernel
theorem d_Mo_find_266 : decode b_Mo_find 266 = .ok (.iload_n 1, 1) := by decide +kernel
theorem d_Mo_find_267 : decode b_Mo_find 267 = .ok (.imul, 1) := by decide +kernel
theorem d_Mo_find_268 : decode b_Mo_find 268 = .ok (.iload_n 3, 1) := by decide +kernel
theorem d_Mo_find_269 : decode b_Mo_find 269 = .ok (.iadd, 1) := by decide +kernel
theorem d_Mo_find_270 : decode b_Mo_find 270 = .ok (.iload 4, 2) := by decide +kernel
theorem d_Mo_find_272 : decode b_Mo_find 272 = .ok (.ifCond .eq 12, 3) := by decide +kernel
theorem d_Mo_find_275 : decode b_Mo_find 275 = .ok (.aload_n 0, 1) := by decide +kernel
theorem d_Mo_find_276 : decode b_Mo_find 276 = .ok (.getfield 34, 3) := by decide +kernel
theorem d_Mo_find_279 : decode b_Mo_find 279 = .ok (.iload_n 3, 1) := by decide +kernel
theorem d_Mo_find_280 : decode b_Mo_find 280 = .ok (.iaload, 1) := by decide +kernel
theorem d_Mo_find_281 : decode b_Mo_find 281 = .ok (.goto 4, 3) := by decide +kernel
theorem d_Mo_find_284 : decode b_Mo_find 284 = .ok (.iconst (-1), 1) := by decide +kernel
theorem d_Mo_find_285 : decode b_Mo_find 285 = .ok (.iastore, 1) := by decide +kernel
theorem d_Mo_find_286 : decode b_Mo_find 286 = .ok (.iload 4, 2) := by decide +kernel
theorem d_Mo_find_288 : decode b_Mo_find 288 = .ok (.ifCond .eq 12, 3) := by decide +kernel
theorem d_Mo_find_291 : decode b_Mo_find 291 = .ok (.aload_n 0, 1) := by decide +kernel
theorem d_Mo_find_292 : decode b_Mo_find 292 = .ok (.getfield 34, 3) := by decide +kernel
theorem d_Mo_find_295 : decode b_Mo_find 295 = .ok (.iload_n 3, 1) := by decide +kernel
theorem d_Mo_find_296 : decode b_Mo_find 296 = .ok (.iaload, 1) := by decide +kernel
theorem d_Mo_find_297 : decode b_Mo_find 297 = .ok (.goto 4, 3) := by decide +kernel
theorem d_Mo_find_300 : decode b_Mo_find 300 = .ok (.iload_n 2, 1) := by decide +kernel
theorem d_Mo_find_301 : decode b_Mo_find 301 = .ok (.istore_n 2, 1) := by decide +kernel
theorem d_Mo_find_302 : decode b_Mo_find 302 = .ok (.iinc 3 (-1), 3) := by decide +kernel
theorem d_Mo_find_305 : decode b_Mo_find 305 = .ok (.goto (-75), 3) := by decide +kernel
theorem d_Mo_find_308 : decode b_Mo_find 308 = .ok (.return_, 1) := by decide +kernel
theorem d_Mo_findAll_0 : decode b_Mo_findAll 0 = .ok (.iconst 0, 1) := by decide +kernel
theorem d_Mo_findAll_1 : decode b_Mo_findAll 1 = .ok (.istore_n 2, 1) := by decide +kernel
theorem d_Mo_findAll_2 : decode b_Mo_findAll 2 = .ok (.iload_n 2, 1) := by decide +kernel
theorem d_Mo_findAll_3 : decode b_Mo_findAll 3 = .ok (.iload_n 1, 1) := by decide +kernel
theorem d_Mo_findAll_4 : decode b_Mo_findAll 4 = .ok (.if_icmp .gt 14, 3) := by decide +kernel
theorem d_Mo_findAll_7 : decode b_Mo_findAll 7 = .ok (.aload_n 0, 1) := by decide +kernel
theorem d_Mo_findAll_8 : decode b_Mo_findAll 8 = .ok (.iload_n 2, 1) := by decide +kernel
theorem d_Mo_findAll_9 : decode b_Mo_findAll 9 = .ok (.invokevirtual 84, 3) := by decide +kernel
theorem d_Mo_findAll_12 : decode b_Mo_findAll 12 = .ok (.iinc 2 1, 3) := by decide +kernel
theorem d_Mo_findAll_15 : decode b_Mo_findAll 15 = .ok (.goto (-13), 3) := by decide +kernel
theorem d_Mo_findAll_18 : decode b_Mo_findAll 18 = .ok (.return_, 1) := by decide +kernel
theorem d_Mo_count_0 : decode b_Mo_count 0 = .ok (.aload_n 0, 1) := by decide +kernel
theorem d_Mo_count_1 : decode b_Mo_count 1 = .ok (.iload_n 1, 1) := by decide +kernel
theorem d_Mo_count_2 : decode b_Mo_count 2 = .ok (.invokevirtual 61, 3) := by decide +kernel
theorem d_Mo_count_5 : decode b_Mo_count 5 = .ok (.ifCond .ne 5, 3) := by decide +kernel
theorem d_Mo_count_8 : decode b_Mo_count 8 = .ok (.iconst (-1), 1) := by decide +kernel
theorem d_Mo_count_9 : decode b_Mo_count 9 = .ok (.ireturn, 1) := by decide +kernel
theorem d_Mo_count_10 : decode b_Mo_count 10 = .ok (.aload_n 0, 1) := by decide +kernel
theorem d_Mo_count_11 : decode b_Mo_count 11 = .ok (.iload_n 1, 1) := by decide +kernel
theorem d_Mo_count_12 : decode b_Mo_count 12 = .ok (.invokevirtual 88, 3) := by decide +kernel
theorem d_Mo_count_15 : decode b_Mo_count 15 = .ok (.iconst 0, 1) := by decide +kernel
theorem d_Mo_count_16 : decode b_Mo_count 16 = .ok (.istore_n 2, 1) := by decide +kernel
theorem d_Mo_count_17 : decode b_Mo_count 17 = .ok (.iconst 0, 1) := by decide +kernel
theorem d_Mo_count_18 : decode b_Mo_count 18 = .ok (.istore_n 3, 1) := by decide +kernel
theorem d_Mo_count_19 : decode b_Mo_count 19 = .ok (.iload_n 3, 1) := by decide +kernel
theorem d_Mo_count_20 : decode b_Mo_count 20 = .ok (.bipush 30, 2) := by decide +kernel
theorem d_Mo_count_22 : decode b_Mo_count 22 = .ok (.if_icmp .ge 31, 3) := by decide +kernel
theorem d_Mo_count_25 : decode b_Mo_count 25 = .ok (.iload_n 2, 1) := by decide +kernel
theorem d_Mo_count_26 : decode b_Mo_count 26 = .ok (.aload_n 0, 1) := by decide +kernel
theorem d_Mo_count_27 : decode b_Mo_count 27 = .ok (.getfield 31, 3) := by decide +kernel
theorem d_Mo_count_30 : decode b_Mo_count 30 = .ok (.bipush 30, 2) := by decide +kernel
theorem d_Mo_count_32 : decode b_Mo_count 32 = .ok (.iload_n 1, 1) := by decide +kernel
theorem d_Mo_count_33 : decode b_Mo_count 33 = .ok (.imul, 1) := by decide +kernel
theorem d_Mo_count_34 : decode b_Mo_count 34 = .ok (.iload_n 3, 1) := by decide +kernel
theorem d_Mo_count_35 : decode b_Mo_count 35 = .ok (.iadd, 1) := by decide +kernel
theorem d_Mo_count_36 : decode b_Mo_count 36 = .ok (.iaload, 1) := by decide +kernel
theorem d_Mo_count_37 : decode b_Mo_count 37 = .ok (.ifCond .lt 7, 3) := by decide +kernel
theorem d_Mo_count_40 : decode b_Mo_count 40 = .ok (.iconst 1, 1) := by decide +kernel
theorem d_Mo_count_41 : decode b_Mo_count 41 = .ok (.goto 4, 3) := by decide +kernel
theorem d_Mo_count_44 : decode b_Mo_count 44 = .ok (.iconst 0, 1) := by decide +kernel
theorem d_Mo_count_45 : decode b_Mo_count 45 = .ok (.iadd, 1) := by decide +kernel
theorem d_Mo_count_46 : decode b_Mo_count 46 = .ok (.istore_n 2, 1) := by decide +kernel
theorem d_Mo_count_47 : decode b_Mo_count 47 = .ok (.iinc 3 1, 3) := by decide +kernel
theorem d_Mo_count_50 : decode b_Mo_count 50 = .ok (.goto (-31), 3) := by decide +kernel
theorem d_Mo_count_53 : decode b_Mo_count 53 = .ok (.iload_n 2, 1) := by decide +kernel
theorem d_Mo_count_54 : decode b_Mo_count 54 = .ok (.ireturn, 1) := by decide +kernel
theorem d_Mo_nth_0 : decode b_Mo_nth 0 = .ok (.iload_n 2, 1) := by decide +kernel
theorem d_Mo_nth_1 : decode b_Mo_nth 1 = .ok (.istore_n 3, 1) := by decide +kernel
theorem d_Mo_nth_2 : decode b_Mo_nth 2 = .ok (.iconst 0, 1) := by decide +kernel
theorem d_Mo_nth_3 : decode b_Mo_nth 3 = .ok (.istore 4, 2) := by decide +kernel
theorem d_Mo_nth_5 : decode b_Mo_nth 5 = .ok (.iload 4, 2) := by decide +kernel
theorem d_Mo_nth_7 : decode b_Mo_nth 7 = .ok (.bipush 30, 2) := by decide +kernel
theorem d_Mo_nth_9 : decode b_Mo_nth 9 = .ok (.if_icmp .ge 34, 3) := by decide +kernel
theorem d_Mo_nth_12 : decode b_Mo_nth 12 = .ok (.aload_n 0, 1) := by decide +kernel
theorem d_Mo_nth_13 : decode b_Mo_nth 13 = .ok (.getfield 31, 3) := by decide +kernel
theorem d_Mo_nth_16 : decode b_Mo_nth 16 = .ok (.bipush 30, 2) := by decide +kernel
theorem d_Mo_nth_18 : decode b_Mo_nth 18 = .ok (.iload_n 1, 1) := by decide +kernel
theorem d_Mo_nth_19 : decode b_Mo_nth 19 = .ok (.imul, 1) := by decide +kernel
theorem d_Mo_nth_20 : decode b_Mo_nth 20 = .ok (.iload 4, 2) := by decide +kernel
theorem d_Mo_nth_22 : decode b_Mo_nth 22 = .ok (.iadd, 1) := by decide +kernel
theorem d_Mo_nth_23 : decode b_Mo_nth 23 = .ok (.iaload, 1) := by decide +kernel
theorem d_Mo_nth_24 : decode b_Mo_nth 24 = .ok (.ifCond .lt 13, 3) := by decide +kernel
theorem d_Mo_nth_27 : decode b_Mo_nth 27 = .ok (.iload_n 3, 1) := by decide +kernel
theorem d_Mo_nth_28 : decode b_Mo_nth 28 = .ok (.ifCond .ne 6, 3) := by decide +kernel
theorem d_Mo_nth_31 : decode b_Mo_nth 31 = .ok (.iload 4, 2) := by decide +kernel
theorem d_Mo_nth_33 : decode b_Mo_nth 33 = .ok (.ireturn, 1) := by decide +kernel
theorem d_Mo_nth_34 : decode b_Mo_nth 34 = .ok (.iinc 3 (-1), 3) := by decide +kernel
theorem d_Mo_nth_37 : decode b_Mo_nth 37 = .ok (.iinc 4 1, 3) := by decide +kernel
theorem d_Mo_nth_40 : decode b_Mo_nth 40 = .ok (.goto (-35), 3) := by decide +kernel
theorem d_Mo_nth_43 : decode b_Mo_nth 43 = .ok (.iconst (-1), 1) := by decide +kernel
theorem d_Mo_nth_44 : decode b_Mo_nth 44 = .ok (.ireturn, 1) := by decide +kernel
theorem d_Mo_begin_0 : decode b_Mo_begin 0 = .ok (.aload_n 0, 1) := by decide +kernel
theorem d_Mo_begin_1 : decode b_Mo_begin 1 = .ok (.iload_n 1, 1) := by decide +kernel
theorem d_Mo_begin_2 : decode b_Mo_begin 2 = .ok (.invokevirtual 61, 3) := by decide +kernel
theorem d_Mo_begin_5 : decode b_Mo_begin 5 = .ok (.ifCond .ne 5, 3) := by decide +kernel
theorem d_Mo_begin_8 : decode b_Mo_begin 8 = .ok (.iconst (-1), 1) := by decide +kernel
theorem d_Mo_begin_9 : decode b_Mo_begin 9 = .ok (.ireturn, 1) := by decide +kernel
theorem d_Mo_begin_10 : decode b_Mo_begin 10 = .ok (.aload_n 0, 1) := by decide +kernel
theorem d_Mo_begin_11 : decode b_Mo_begin 11 = .ok (.iload_n 1, 1) := by decide +kernel
theorem d_Mo_begin_12 : decode b_Mo_begin 12 = .ok (.invokevirtual 88, 3) := by decide +kernel
theorem d_Mo_begin_15 : decode b_Mo_begin 15 = .ok (.aload_n 0, 1) := by decide +kernel
theorem d_Mo_begin_16 : decode b_Mo_begin 16 = .ok (.iload_n 1, 1) := by decide +kernel
theorem d_Mo_begin_17 : decode b_Mo_begin 17 = .ok (.iload_n 2, 1) := by decide +kernel
theorem d_Mo_begin_18 : decode b_Mo_begin 18 = .ok (.invokevirtual 91, 3) := by decide +kernel
theorem d_Mo_begin_21 : decode b_Mo_begin 21 = .ok (.ireturn, 1) := by decide +kernel
theorem d_Mo_end_0 : decode b_Mo_end 0 = .ok (.aload_n 0, 1) := by decide +kernel
theorem d_Mo_end_1 : decode b_Mo_end 1 = .ok (.iload_n 1, 1) := by decide +kernel
theorem d_Mo_end_2 : decode b_Mo_end 2 = .ok (.invokevirtual 61, 3) := by decide +kernel
theorem d_Mo_end_5 : decode b_Mo_end 5 = .ok (.ifCond .ne 5, 3) := by decide +kernel
theorem d_Mo_end_8 : decode b_Mo_end 8 = .ok (.iconst (-1), 1) := by decide +kernel
theorem d_Mo_end_9 : decode b_Mo_end 9 = .ok (.ireturn, 1) := by decide +kernel
theorem d_Mo_end_10 : decode b_Mo_end 10 = .ok (.aload_n 0, 1) := by decide +kernel
theorem d_Mo_end_11 : decode b_Mo_end 11 = .ok (.iload_n 1, 1) := by decide +kernel
theorem d_Mo_end_12 : decode b_Mo_end 12 = .ok (.invokevirtual 88, 3) := by decide +kernel
theorem d_Mo_end_15 : decode b_Mo_end 15 = .ok (.aload_n 0, 1) := by decide +kernel
theorem d_Mo_end_16 : decode b_Mo_end 16 = .ok (.iload_n 1, 1) := by decide +kernel
theorem d_Mo_end_17 : decode b_Mo_end 17 = .ok (.iload_n 2, 1) := by decide +kernel
theorem d_Mo_end_18 : decode b_Mo_end 18 = .ok (.invokevirtual 91, 3) := by decide +kernel
theorem d_Mo_end_21 : decode b_Mo_end 21 = .ok (.istore_n 3, 1) := by decide +kernel
theorem d_Mo_end_22 : decode b_Mo_end 22 = .ok (.iload_n 3, 1) := by decide +kernel
theorem d_Mo_end_23 : decode b_Mo_end 23 = .ok (.ifCond .ge 7, 3) := by decide +kernel
theorem d_Mo_end_26 : decode b_Mo_end 26 = .ok (.iconst (-1), 1) := by decide +kernel
theorem d_Mo_end_27 : decode b_Mo_end 27 = .ok (.goto 14, 3) := by decide +kernel
theorem d_Mo_end_30 : decode b_Mo_end 30 = .ok (.aload_n 0, 1) := by decide +kernel
theorem d_Mo_end_31 : decode b_Mo_end 31 = .ok (.getfield 31, 3) := by decide +kernel
theorem d_Mo_end_34 : decode b_Mo_end 34 = .ok (.bipush 30, 2) := by decide +kernel
theorem d_Mo_end_36 : decode b_Mo_end 36 = .ok (.iload_n 1, 1) := by decide +kernel
theorem d_Mo_end_37 : decode b_Mo_end 37 = .ok (.imul, 1) := by decide +kernel
theorem d_Mo_end_38 : decode b_Mo_end 38 = .ok (.iload_n 3, 1) := by decide +kernel
theorem d_Mo_end_39 : decode b_Mo_end 39 = .ok (.iadd, 1) := by decide +kernel
theorem d_Mo_end_40 : decode b_Mo_end 40 = .ok (.iaload, 1) := by decide +kernel
theorem d_Mo_end_41 : decode b_Mo_end 41 = .ok (.ireturn, 1) := by decide +kernel
theorem d_Mo_covered_0 : decode b_Mo_covered 0 = .ok (.aload_n 0, 1) := by decide +kernel
theorem d_Mo_covered_1 : decode b_Mo_covered 1 = .ok (.iload_n 1, 1) := by decide +kernel
theorem d_Mo_covered_2 : decode b_Mo_covered 2 = .ok (.invokevirtual 61, 3) := by decide +kernel
theorem d_Mo_covered_5 : decode b_Mo_covered 5 = .ok (.ifCond .ne 5, 3) := by decide +kernel
theorem d_Mo_covered_8 : decode b_Mo_covered 8 = .ok (.iconst (-1), 1) := by decide +kernel
theorem d_Mo_covered_9 : decode b_Mo_covered 9 = .ok (.ireturn, 1) := by decide +kernel
theorem d_Mo_covered_10 : decode b_Mo_covered 10 = .ok (.aload_n 0, 1) := by decide +kernel
theorem d_Mo_covered_11 : decode b_Mo_covered 11 = .ok (.iload_n 1, 1) := by decide +kernel
theorem d_Mo_covered_12 : decode b_Mo_covered 12 = .ok (.invokevirtual 88, 3) := by decide +kernel
theorem d_Mo_covered_15 : decode b_Mo_covered 15 = .ok (.iconst 0, 1) := by decide +kernel
theorem d_Mo_covered_16 : decode b_Mo_covered 16 = .ok (.istore_n 2, 1) := by decide +kernel
theorem d_Mo_covered_17 : decode b_Mo_covered 17 = .ok (.iconst 0, 1) := by decide +kernel
theorem d_Mo_covered_18 : decode b_Mo_covered 18 = .ok (.istore_n 3, 1) := by decide +kernel
theorem d_Mo_covered_19 : decode b_Mo_covered 19 = .ok (.iload_n 3, 1) := by decide +kernel
theorem d_Mo_covered_20 : decode b_Mo_covered 20 = .ok (.bipush 30, 2) := by decide +kernel
theorem d_Mo_covered_22 : decode b_Mo_covered 22 = .ok (.if_icmp .ge 68, 3) := by decide +kernel
theorem d_Mo_covered_25 : decode b_Mo_covered 25 = .ok (.iconst 0, 1) := by decide +kernel
theorem d_Mo_covered_26 : decode b_Mo_covered 26 = .ok (.istore 4, 2) := by decide +kernel
theorem d_Mo_covered_28 : decode b_Mo_covered 28 = .ok (.iconst 0, 1) := by decide +kernel
theorem d_Mo_covered_29 : decode b_Mo_covered 29 = .ok (.istore 5, 2) := by decide +kernel
theorem d_Mo_covered_31 : decode b_Mo_covered 31 = .ok (.iload 5, 2) := by decide +kernel
theorem d_Mo_covered_33 : decode b_Mo_covered 33 = .ok (.iload_n 3, 1) := by decide +kernel
theorem d_Mo_covered_34 : decode b_Mo_covered 34 = .ok (.if_icmp .gt 37, 3) := by decide +kernel
theorem d_Mo_covered_37 : decode b_Mo_covered 37 = .ok (.iload 4, 2) := by decide +kernel
theorem d_Mo_covered_39 : decode b_Mo_covered 39 = .ok (.ifCond .ne 19, 3) := by decide +kernel
theorem d_Mo_covered_42 : decode b_Mo_covered 42 = .ok (.aload_n 0, 1) := by decide +kernel
theorem d_Mo_covered_43 : decode b_Mo_covered 43 = .ok (.getfield 31, 3) := by decide +kernel
theorem d_Mo_covered_46 : decode b_Mo_covered 46 = .ok (.bipush 30, 2) := by decide +kernel
theorem d_Mo_covered_48 : decode b_Mo_covered 48 = .ok (.iload_n 1, 1) := by decide +kernel
theorem d_Mo_covered_49 : decode b_Mo_covered 49 = .ok (.imul, 1) := by decide +kernel
theorem d_Mo_covered_50 : decode b_Mo_covered 50 = .ok (.iload 5, 2) := by decide +kernel
theorem d_Mo_covered_52 : decode b_Mo_covered 52 = .ok (.iadd, 1) := by decide +kernel
theorem d_Mo_covered_53 : decode b_Mo_covered 53 = .ok (.iaload, 1) := by decide +kernel
theorem d_Mo_covered_54 : decode b_Mo_covered 54 = .ok (.iload_n 3, 1) := by decide +kernel
theorem d_Mo_covered_55 : decode b_Mo_covered 55 = .ok (.if_icmp .lt 7, 3) := by decide +kernel
theorem d_Mo_covered_58 : decode b_Mo_covered 58 = .ok (.iconst 1, 1) := by decide +kernel
theorem d_Mo_covered_59 : decode b_Mo_covered 59 = .ok (.goto 4, 3) := by decide +kernel
theorem d_Mo_covered_62 : decode b_Mo_covered 62 = .ok (.iconst 0, 1) := by decide +kernel
theorem d_Mo_covered_63 : decode b_Mo_covered 63 = .ok (.istore 4, 2) := by decide +kernel
theorem d_Mo_covered_65 : decode b_Mo_covered 65 = .ok (.iinc 5 1, 3) := by decide +kernel
theorem d_Mo_covered_68 : decode b_Mo_covered 68 = .ok (.goto (-37), 3) := by decide +kernel
theorem d_Mo_covered_71 : decode b_Mo_covered 71 = .ok (.iload_n 2, 1) := by decide +kernel
theorem d_Mo_covered_72 : decode b_Mo_covered 72 = .ok (.iload 4, 2) := by decide +kernel
theorem d_Mo_covered_74 : decode b_Mo_covered 74 = .ok (.ifCond .eq 7, 3) := by decide +kernel
theorem d_Mo_covered_77 : decode b_Mo_covered 77 = .ok (.iconst 1, 1) := by decide +kernel
theorem d_Mo_covered_78 : decode b_Mo_covered 78 = .ok (.goto 4, 3) := by decide +kernel
theorem d_Mo_covered_81 : decode b_Mo_covered 81 = .ok (.iconst 0, 1) := by decide +kernel
theorem d_Mo_covered_82 : decode b_Mo_covered 82 = .ok (.iadd, 1) := by decide +kernel
theorem d_Mo_covered_83 : decode b_Mo_covered 83 = .ok (.istore_n 2, 1) := by decide +kernel
theorem d_Mo_covered_84 : decode b_Mo_covered 84 = .ok (.iinc 3 1, 3) := by decide +kernel
theorem d_Mo_covered_87 : decode b_Mo_covered 87 = .ok (.goto (-68), 3) := by decide +kernel
theorem d_Mo_covered_90 : decode b_Mo_covered 90 = .ok (.iload_n 2, 1) := by decide +kernel
theorem d_Mo_covered_91 : decode b_Mo_covered 91 = .ok (.ireturn, 1) := by decide +kernel
theorem d_Mo_slot_0 : decode b_Mo_slot 0 = .ok (.iload_n 1, 1) := by decide +kernel
theorem d_Mo_slot_1 : decode b_Mo_slot 1 = .ok (.ifCond .lt 16, 3) := by decide +kernel
theorem d_Mo_slot_4 : decode b_Mo_slot 4 = .ok (.iload_n 1, 1) := by decide +kernel
theorem d_Mo_slot_5 : decode b_Mo_slot 5 = .ok (.bipush 9, 2) := by decide +kernel
theorem d_Mo_slot_7 : decode b_Mo_slot 7 = .ok (.if_icmp .gt 10, 3) := by decide +kernel
theorem d_Mo_slot_10 : decode b_Mo_slot 10 = .ok (.iload_n 2, 1) := by decide +kernel
theorem d_Mo_slot_11 : decode b_Mo_slot 11 = .ok (.invokestatic 50, 3) := by decide +kernel
theorem d_Mo_slot_14 : decode b_Mo_slot 14 = .ok (.ifCond .ne 6, 3) := by decide +kernel
theorem d_Mo_slot_17 : decode b_Mo_slot 17 = .ok (.bipush (-2), 2) := by decide +kernel
theorem d_Mo_slot_19 : decode b_Mo_slot 19 = .ok (.ireturn, 1) := by decide +kernel
theorem d_Mo_slot_20 : decode b_Mo_slot 20 = .ok (.aload_n 0, 1) := by decide +kernel
theorem d_Mo_slot_21 : decode b_Mo_slot 21 = .ok (.getfield 95, 3) := by decide +kernel
theorem d_Mo_slot_24 : decode b_Mo_slot 24 = .ok (.iconst 4, 1) := by decide +kernel
theorem d_Mo_slot_25 : decode b_Mo_slot 25 = .ok (.if_icmp .ne 6, 3) := by decide +kernel
theorem d_Mo_slot_28 : decode b_Mo_slot 28 = .ok (.bipush (-4), 2) := by decide +kernel
theorem d_Mo_slot_30 : decode b_Mo_slot 30 = .ok (.ireturn, 1) := by decide +kernel
theorem d_Mo_slot_31 : decode b_Mo_slot 31 = .ok (.aload_n 0, 1) := by decide +kernel
theorem d_Mo_slot_32 : decode b_Mo_slot 32 = .ok (.getfield 25, 3) := by decide +kernel
theorem d_Mo_slot_35 : decode b_Mo_slot 35 = .ok (.aload_n 0, 1) := by decide +kernel
theorem d_Mo_slot_36 : decode b_Mo_slot 36 = .ok (.getfield 95, 3) := by decide +kernel
theorem d_Mo_slot_39 : decode b_Mo_slot 39 = .ok (.iload_n 1, 1) := by decide +kernel
theorem d_Mo_slot_40 : decode b_Mo_slot 40 = .ok (.iastore, 1) := by decide +kernel
theorem d_Mo_slot_41 : decode b_Mo_slot 41 = .ok (.aload_n 0, 1) := by decide +kernel
theorem d_Mo_slot_42 : decode b_Mo_slot 42 = .ok (.getfield 28, 3) := by decide +kernel
theorem d_Mo_slot_45 : decode b_Mo_slot 45 = .ok (.aload_n 0, 1) := by decide +kernel
theorem d_Mo_slot_46 : decode b_Mo_slot 46 = .ok (.getfield 95, 3) := by decide +kernel
theorem d_Mo_slot_49 : decode b_Mo_slot 49 = .ok (.iload_n 2, 1) := by decide +kernel
theorem d_Mo_slot_50 : decode b_Mo_slot 50 = .ok (.iastore, 1) := by decide +kernel
theorem d_Mo_slot_51 : decode b_Mo_slot 51 = .ok (.aload_n 0, 1) := by decide +kernel
theorem d_Mo_slot_52 : decode b_Mo_slot 52 = .ok (.dup, 1) := by decide +kernel
theorem d_Mo_slot_53 : decode b_Mo_slot 53 = .ok (.getfield 95, 3) := by decide +kernel
theorem d_Mo_slot_56 : decode b_Mo_slot 56 = .ok (.iconst 1, 1) := by decide +kernel
theorem d_Mo_slot_57 : decode b_Mo_slot 57 = .ok (.iadd, 1) := by decide +kernel
theorem d_Mo_slot_58 : decode b_Mo_slot 58 = .ok (.putfield 95, 3) := by decide +kernel
theorem d_Mo_slot_61 : decode b_Mo_slot 61 = .ok (.aload_n 0, 1) := by decide +kernel
theorem d_Mo_slot_62 : decode b_Mo_slot 62 = .ok (.iconst 0, 1) := by decide +kernel
theorem d_Mo_slot_63 : decode b_Mo_slot 63 = .ok (.putfield 53, 3) := by decide +kernel
theorem d_Mo_slot_66 : decode b_Mo_slot 66 = .ok (.aload_n 0, 1) := by decide +kernel
theorem d_Mo_slot_67 : decode b_Mo_slot 67 = .ok (.getfield 95, 3) := by decide +kernel
theorem d_Mo_slot_70 : decode b_Mo_slot 70 = .ok (.iconst 1, 1) := by decide +kernel
theorem d_Mo_slot_71 : decode b_Mo_slot 71 = .ok (.isub, 1) := by decide +kernel
theorem d_Mo_slot_72 : decode b_Mo_slot 72 = .ok (.ireturn, 1) := by decide +kernel
theorem d_Mo_unslot_0 : decode b_Mo_unslot 0 = .ok (.aload_n 0, 1) := by decide +kernel
theorem d_Mo_unslot_1 : decode b_Mo_unslot 1 = .ok (.getfield 95, 3) := by decide +kernel
theorem d_Mo_unslot_4 : decode b_Mo_unslot 4 = .ok (.istore_n 1, 1) := by decide +kernel
theorem d_Mo_unslot_5 : decode b_Mo_unslot 5 = .ok (.aload_n 0, 1) := by decide +kernel
theorem d_Mo_unslot_6 : decode b_Mo_unslot 6 = .ok (.iconst 0, 1) := by decide +kernel
theorem d_Mo_unslot_7 : decode b_Mo_unslot 7 = .ok (.putfield 95, 3) := by decide +kernel
theorem d_Mo_unslot_10 : decode b_Mo_unslot 10 = .ok (.aload_n 0, 1) := by decide +kernel
theorem d_Mo_unslot_11 : decode b_Mo_unslot 11 = .ok (.iconst 0, 1) := by decide +kernel
theorem d_Mo_unslot_12 : decode b_Mo_unslot 12 = .ok (.putfield 53, 3) := by decide +kernel
theorem d_Mo_unslot_15 : decode b_Mo_unslot 15 = .ok (.iload_n 1, 1) := by decide +kernel
theorem d_Mo_unslot_16 : decode b_Mo_unslot 16 = .ok (.ireturn, 1) := by decide +kernel
theorem d_Mo_fits_0 : decode b_Mo_fits 0 = .ok (.aload_n 0, 1) := by decide +kernel
theorem d_Mo_fits_1 : decode b_Mo_fits 1 = .ok (.getfield 7, 3) := by decide +kernel
theorem d_Mo_fits_4 : decode b_Mo_fits 4 = .ok (.iload_n 2, 1) := by decide +kernel
theorem d_Mo_fits_5 : decode b_Mo_fits 5 = .ok (.iaload, 1) := by decide +kernel
theorem d_Mo_fits_6 : decode b_Mo_fits 6 = .ok (.aload_n 0, 1) := by decide +kernel
theorem d_Mo_fits_7 : decode b_Mo_fits 7 = .ok (.getfield 28, 3) := by decide +kernel
theorem d_Mo_fits_10 : decode b_Mo_fits 10 = .ok (.iload_n 1, 1) := by decide +kernel
theorem d_Mo_fits_11 : decode b_Mo_fits 11 = .ok (.iaload, 1) := by decide +kernel
theorem d_Mo_fits_12 : decode b_Mo_fits 12 = .ok (.iand, 1) := by decide +kernel
theorem d_Mo_fits_13 : decode b_Mo_fits 13 = .ok (.ifCond .ne 5, 3) := by decide +kernel
theorem d_Mo_fits_16 : decode b_Mo_fits 16 = .ok (.iconst 0, 1) := by decide +kernel
theorem d_Mo_fits_17 : decode b_Mo_fits 17 = .ok (.ireturn, 1) := by decide +kernel
theorem d_Mo_fits_18 : decode b_Mo_fits 18 = .ok (.iconst 0, 1) := by decide +kernel
theorem d_Mo_fits_19 : decode b_Mo_fits 19 = .ok (.istore_n 3, 1) := by decide +kernel
theorem d_Mo_fits_20 : decode b_Mo_fits 20 = .ok (.iload_n 3, 1) := by decide +kernel
theorem d_Mo_fits_21 : decode b_Mo_fits 21 = .ok (.iload_n 1, 1) := by decide +kernel
theorem d_Mo_fits_22 : decode b_Mo_fits 22 = .ok (.if_icmp .ge 37, 3) := by decide +kernel
theorem d_Mo_fits_25 : decode b_Mo_fits 25 = .ok (.aload_n 0, 1) := by decide +kernel
theorem d_Mo_fits_26 : decode b_Mo_fits 26 = .ok (.getfield 43, 3) := by decide +kernel
theorem d_Mo_fits_29 : decode b_Mo_fits 29 = .ok (.iload_n 3, 1) := by decide +kernel
theorem d_Mo_fits_30 : decode b_Mo_fits 30 = .ok (.iaload, 1) := by decide +kernel
theorem d_Mo_fits_31 : decode b_Mo_fits 31 = .ok (.iload_n 2, 1) := by decide +kernel
theorem d_Mo_fits_32 : decode b_Mo_fits 32 = .ok (.if_icmp .ne 21, 3) := by decide +kernel
theorem d_Mo_fits_35 : decode b_Mo_fits 35 = .ok (.aload_n 0, 1) := by decide +kernel
theorem d_Mo_fits_36 : decode b_Mo_fits 36 = .ok (.getfield 28, 3) := by decide +kernel
theorem d_Mo_fits_39 : decode b_Mo_fits 39 = .ok (.iload_n 3, 1) := by decide +kernel
theorem d_Mo_fits_40 : decode b_Mo_fits 40 = .ok (.iaload, 1) := by decide +kernel
theorem d_Mo_fits_41 : decode b_Mo_fits 41 = .ok (.aload_n 0, 1) := by decide +kernel
theorem d_Mo_fits_42 : decode b_Mo_fits 42 = .ok (.getfield 28, 3) := by decide +kernel
theorem d_Mo_fits_45 : decode b_Mo_fits 45 = .ok (.iload_n 1, 1) := by decide +kernel
theorem d_Mo_fits_46 : decode b_Mo_fits 46 = .ok (.iaload, 1) := by decide +kernel
theorem d_Mo_fits_47 : decode b_Mo_fits 47 = .ok (.iand, 1) := by decide +kernel
theorem d_Mo_fits_48 : decode b_Mo_fits 48 = .ok (.ifCond .eq 5, 3) := by decide +kernel
theorem d_Mo_fits_51 : decode b_Mo_fits 51 = .ok (.iconst 0, 1) := by decide +kernel
theorem d_Mo_fits_52 : decode b_Mo_fits 52 = .ok (.ireturn, 1) := by decide +kernel
theorem d_Mo_fits_53 : decode b_Mo_fits 53 = .ok (.iinc 3 1, 3) := by decide +kernel
theorem d_Mo_fits_56 : decode b_Mo_fits 56 = .ok (.goto (-36), 3) := by decide +kernel
theorem d_Mo_fits_59 : decode b_Mo_fits 59 = .ok (.iconst 1, 1) := by decide +kernel
theorem d_Mo_fits_60 : decode b_Mo_fits 60 = .ok (.ireturn, 1) := by decide +kernel
theorem d_Mo_moved_0 : decode b_Mo_moved 0 = .ok (.ldc 98, 2) := by decide +kernel
theorem d_Mo_moved_2 : decode b_Mo_moved 2 = .ok (.istore_n 1, 1) := by decide +kernel
theorem d_Mo_moved_3 : decode b_Mo_moved 3 = .ok (.bipush (-9), 2) := by decide +kernel
theorem d_Mo_moved_5 : decode b_Mo_moved 5 = .ok (.istore_n 2, 1) := by decide +kernel
theorem d_Mo_moved_6 : decode b_Mo_moved 6 = .ok (.iload_n 2, 1) := by decide +kernel
theorem d_Mo_moved_7 : decode b_Mo_moved 7 = .ok (.bipush 30, 2) := by decide +kernel
theorem d_Mo_moved_9 : decode b_Mo_moved 9 = .ok (.if_icmp .ge 75, 3) := by decide +kernel
theorem d_Mo_moved_12 : decode b_Mo_moved 12 = .ok (.iconst 0, 1) := by decide +kernel
theorem d_Mo_moved_13 : decode b_Mo_moved 13 = .ok (.istore_n 3, 1) := by decide +kernel
theorem d_Mo_moved_14 : decode b_Mo_moved 14 = .ok (.iconst 0, 1) := by decide +kernel
theorem d_Mo_moved_15 : decode b_Mo_moved 15 = .ok (.istore 4, 2) := by decide +kernel
theorem d_Mo_moved_17 : decode b_Mo_moved 17 = .ok (.iload 4, 2) := by decide +kernel
theorem d_Mo_moved_19 : decode b_Mo_moved 19 = .ok (.aload_n 0, 1) := by decide +kernel
theorem d_Mo_moved_20 : decode b_Mo_moved 20 = .ok (.getfield 95, 3) := by decide +kernel
theorem d_Mo_moved_23 : decode b_Mo_moved 23 = .ok (.if_icmp .ge 44, 3) := by decide +kernel
theorem d_Mo_moved_26 : decode b_Mo_moved 26 = .ok (.aload_n 0, 1) := by decide +kernel
theorem d_Mo_moved_27 : decode b_Mo_moved 27 = .ok (.getfield 43, 3) := by decide +kernel
theorem d_Mo_moved_30 : decode b_Mo_moved 30 = .ok (.iload 4, 2) := by decide +kernel
theorem d_Mo_moved_32 : decode b_Mo_moved 32 = .ok (.iaload, 1) := by decide +kernel
theorem d_Mo_moved_33 : decode b_Mo_moved 33 = .ok (.aload_n 0, 1) := by decide +kernel
theorem d_Mo_moved_34 : decode b_Mo_moved 34 = .ok (.getfield 25, 3) := by decide +kernel
theorem d_Mo_moved_37 : decode b_Mo_moved 37 = .ok (.iload 4, 2) := by decide +kernel
theorem d_Mo_moved_39 : decode b_Mo_moved 39 = .ok (.iaload, 1) := by decide +kernel
theorem d_Mo_moved_40 : decode b_Mo_moved 40 = .ok (.isub, 1) := by decide +kernel
theorem d_Mo_moved_41 : decode b_Mo_moved 41 = .ok (.iload_n 2, 1) := by decide +kernel
theorem d_Mo_moved_42 : decode b_Mo_moved 42 = .ok (.isub, 1) := by decide +kernel
theorem d_Mo_moved_43 : decode b_Mo_moved 43 = .ok (.istore 5, 2) := by decide +kernel
theorem d_Mo_moved_45 : decode b_Mo_moved 45 = .ok (.iload_n 3, 1) := by decide +kernel
theorem d_Mo_moved_46 : decode b_Mo_moved 46 = .ok (.iload 5, 2) := by decide +kernel
theorem d_Mo_moved_48 : decode b_Mo_moved 48 = .ok (.ifCond .ge 9, 3) := by decide +kernel
theorem d_Mo_moved_51 : decode b_Mo_moved 51 = .ok (.iload 5, 2) := by decide +kernel
theorem d_Mo_moved_53 : decode b_Mo_moved 53 = .ok (.ineg, 1) := by decide +kernel
theorem d_Mo_moved_54 : decode b_Mo_moved 54 = .ok (.goto 5, 3) := by decide +kernel
theorem d_Mo_moved_57 : decode b_Mo_moved 57 = .ok (.iload 5, 2) := by decide +kernel
theorem d_Mo_moved_59 : decode b_Mo_moved 59 = .ok (.iadd, 1) := by decide +kernel
theorem d_Mo_moved_60 : decode b_Mo_moved 60 = .ok (.istore_n 3, 1) := by decide +kernel
theorem d_Mo_moved_61 : decode b_Mo_moved 61 = .ok (.iinc 4 1, 3) := by decide +kernel
theorem d_Mo_moved_64 : decode b_Mo_moved 64 = .ok (.goto (-47), 3) := by decide +kernel
theorem d_Mo_moved_67 : decode b_Mo_moved 67 = .ok (.iload_n 3, 1) := by decide +kernel
theorem d_Mo_moved_68 : decode b_Mo_moved 68 = .ok (.iload_n 1, 1) := by decide +kernel
theorem d_Mo_moved_69 : decode b_Mo_moved 69 = .ok (.if_icmp .ge 7, 3) := by decide +kernel
theorem d_Mo_moved_72 : decode b_Mo_moved 72 = .ok (.iload_n 3, 1) := by decide +kernel
theorem d_Mo_moved_73 : decode b_Mo_moved 73 = .ok (.goto 4, 3) := by decide +kernel
theorem d_Mo_moved_76 : decode b_Mo_moved 76 = .ok (.iload_n 1, 1) := by decide +kernel
theorem d_Mo_moved_77 : decode b_Mo_moved 77 = .ok (.istore_n 1, 1) := by decide +kernel
theorem d_Mo_moved_78 : decode b_Mo_moved 78 = .ok (.iinc 2 1, 3) := by decide +kernel
theorem d_Mo_moved_81 : decode b_Mo_moved 81 = .ok (.goto (-75), 3) := by decide +kernel
theorem d_Mo_moved_84 : decode b_Mo_moved 84 = .ok (.iload_n 1, 1) := by decide +kernel
theorem d_Mo_moved_85 : decode b_Mo_moved 85 = .ok (.ireturn, 1) := by decide +kernel
theorem d_Mo_choose_0 : decode b_Mo_choose 0 = .ok (.aload_n 0, 1) := by decide +kernel
theorem d_Mo_choose_1 : decode b_Mo_choose 1 = .ok (.invokevirtual 99, 3) := by decide +kernel
theorem d_Mo_choose_4 : decode b_Mo_choose 4 = .ok (.istore_n 1, 1) := by decide +kernel
theorem d_Mo_choose_5 : decode b_Mo_choose 5 = .ok (.aload_n 0, 1) := by decide +kernel
theorem d_Mo_choose_6 : decode b_Mo_choose 6 = .ok (.getfield 37, 3) := by decide +kernel
theorem d_Mo_choose_9 : decode b_Mo_choose 9 = .ok (.iload_n 1, 1) := by decide +kernel
theorem d_Mo_choose_10 : decode b_Mo_choose 10 = .ok (.dup2, 1) := by decide +kernel
theorem d_Mo_choose_11 : decode b_Mo_choose 11 = .ok (.iaload, 1) := by decide +kernel
theorem d_Mo_choose_12 : decode b_Mo_choose 12 = .ok (.iconst 1, 1) := by decide +kernel
theorem d_Mo_choose_13 : decode b_Mo_choose 13 = .ok (.iadd, 1) := by decide +kernel
theorem d_Mo_choose_14 : decode b_Mo_choose 14 = .ok (.iastore, 1) := by decide +kernel
theorem d_Mo_choose_15 : decode b_Mo_choose 15 = .ok (.aload_n 0, 1) := by decide +kernel
theorem d_Mo_choose_16 : decode b_Mo_choose 16 = .ok (.getfield 103, 3) := by decide +kernel
theorem d_Mo_choose_19 : decode b_Mo_choose 19 = .ok (.ifCond .eq 11, 3) := by decide +kernel
theorem d_Mo_choose_22 : decode b_Mo_choose 22 = .ok (.iload_n 1, 1) := by decide +kernel
theorem d_Mo_choose_23 : decode b_Mo_choose 23 = .ok (.aload_n 0, 1) := by decide +kernel
theorem d_Mo_choose_24 : decode b_Mo_choose 24 = .ok (.getfield 106, 3) := by decide +kernel
theorem d_Mo_choose_27 : decode b_Mo_choose 27 = .ok (.if_icmp .ge 36, 3) := by decide +kernel
theorem d_Mo_choose_30 : decode b_Mo_choose 30 = .ok (.aload_n 0, 1) := by decide +kernel
theorem d_Mo_choose_31 : decode b_Mo_choose 31 = .ok (.iload_n 1, 1) := by decide +kernel
theorem d_Mo_choose_32 : decode b_Mo_choose 32 = .ok (.putfield 106, 3) := by decide +kernel
theorem d_Mo_choose_35 : decode b_Mo_choose 35 = .ok (.iconst 0, 1) := by decide +kernel
theorem d_Mo_choose_36 : decode b_Mo_choose 36 = .ok (.istore_n 2, 1) := by decide +kernel
theorem d_Mo_choose_37 : decode b_Mo_choose 37 = .ok (.iload_n 2, 1) := by decide +kernel
theorem d_Mo_choose_38 : decode b_Mo_choose 38 = .ok (.aload_n 0, 1) := by decide +kernel
theorem d_Mo_choose_39 : decode b_Mo_choose 39 = .ok (.getfield 95, 3) := by decide +kernel
theorem d_Mo_choose_42 : decode b_Mo_choose 42 = .ok (.if_icmp .ge 21, 3) := by decide +kernel
theorem d_Mo_choose_45 : decode b_Mo_choose 45 = .ok (.aload_n 0, 1) := by decide +kernel
theorem d_Mo_choose_46 : decode b_Mo_choose 46 = .ok (.getfield 40, 3) := by decide +kernel
theorem d_Mo_choose_49 : decode b_Mo_choose 49 = .ok (.iload_n 2, 1) := by decide +kernel
theorem d_Mo_choose_50 : decode b_Mo_choose 50 = .ok (.aload_n 0, 1) := by decide +kernel
theorem d_Mo_choose_51 : decode b_Mo_choose 51 = .ok (.getfield 43, 3) := by decide +kernel
theorem d_Mo_choose_54 : decode b_Mo_choose 54 = .ok (.iload_n 2, 1) := by decide +kernel
theorem d_Mo_choose_55 : decode b_Mo_choose 55 = .ok (.iaload, 1) := by decide +kernel
theorem d_Mo_choose_56 : decode b_Mo_choose 56 = .ok (.iastore, 1) := by decide +kernel
theorem d_Mo_choose_57 : decode b_Mo_choose 57 = .ok (.iinc 2 1, 3) := by decide +kernel
theorem d_Mo_choose_60 : decode b_Mo_choose 60 = .ok (.goto (-23), 3) := by decide +kernel
theorem d_Mo_choose_63 : decode b_Mo_choose 63 = .ok (.bipush 30, 2) := by decide +kernel
theorem d_Mo_choose_65 : decode b_Mo_choose 65 = .ok (.istore_n 2, 1) := by decide +kernel
theorem d_Mo_choose_66 : decode b_Mo_choose 66 = .ok (.iconst (-1), 1) := by decide +kernel
theorem d_Mo_choose_67 : decode b_Mo_choose 67 = .ok (.istore_n 3, 1) := by decide +kernel
theorem d_Mo_choose_68 : decode b_Mo_choose 68 = .ok (.iconst 0, 1) := by decide +kernel
theorem d_Mo_choose_69 : decode b_Mo_choose 69 = .ok (.istore 4, 2) := by decide +kernel
theorem d_Mo_choose_71 : decode b_Mo_choose 71 = .ok (.iload 4, 2) := by decide +kernel
theorem d_Mo_choose_73 : decode b_Mo_choose 73 = .ok (.aload_n 0, 1) := by decide +kernel
theorem d_Mo_choose_74 : decode b_Mo_choose 74 = .ok (.getfield 95, 3) := by decide +kernel
theorem d_Mo_choose_77 : decode b_Mo_choose 77 = .ok (.if_icmp .ge 55, 3) := by decide +kernel
theorem d_Mo_choose_80 : decode b_Mo_choose 80 = .ok (.aload_n 0, 1) := by decide +kernel
theorem d_Mo_choose_81 : decode b_Mo_choose 81 = .ok (.getfield 43, 3) := by decide +kernel
theorem d_Mo_choose_84 : decode b_Mo_choose 84 = .ok (.iload 4, 2) := by decide +kernel
theorem d_Mo_choose_86 : decode b_Mo_choose 86 = .ok (.iaload, 1) := by decide +kernel
theorem d_Mo_choose_87 : decode b_Mo_choose 87 = .ok (.iload_n 2, 1) := by decide +kernel
theorem d_Mo_choose_88 : decode b_Mo_choose 88 = .ok (.if_icmp .ge 13, 3) := by decide +kernel
theorem d_Mo_choose_91 : decode b_Mo_choose 91 = .ok (.aload_n 0, 1) := by decide +kernel
theorem d_Mo_choose_92 : decode b_Mo_choose 92 = .ok (.getfield 43, 3) := by decide +kernel
theorem d_Mo_choose_95 : decode b_Mo_choose 95 = .ok (.iload 4, 2) := by decide +kernel
theorem d_Mo_choose_97 : decode b_Mo_choose 97 = .ok (.iaload, 1) := by decide +kernel
theorem d_Mo_choose_98 : decode b_Mo_choose 98 = .ok (.goto 4, 3) := by decide +kernel
theorem d_Mo_choose_101 : decode b_Mo_choose 101 = .ok (.iload_n 2, 1) := by decide +kernel
theorem d_Mo_choose_102 : decode b_Mo_choose 102 = .ok (.istore_n 2, 1) := by decide +kernel
theorem d_Mo_choose_103 : decode b_Mo_choose 103 = .ok (.aload_n 0, 1) := by decide +kernel
theorem d_Mo_choose_104 : decode b_Mo_choose 104 = .ok (.getfield 43, 3) := by decide +kernel
theorem d_Mo_choose_107 : decode b_Mo_choose 107 = .ok (.iload 4, 2) := by decide +kernel
theorem d_Mo_choose_109 : decode b_Mo_choose 109 = .ok (.iaload, 1) := by decide +kernel
theorem d_Mo_choose_110 : decode b_Mo_choose 110 = .ok (.iload_n 3, 1) := by decide +kernel
theorem d_Mo_choose_111 : decode b_Mo_choose 111 = .ok (.if_icmp .le 13, 3) := by decide +kernel
theorem d_Mo_choose_114 : decode b_Mo_choose 114 = .ok (.aload_n 0, 1) := by decide +kernel
theorem d_Mo_choose_115 : decode b_Mo_choose 115 = .ok (.getfield 43, 3) := by decide +kernel
theorem d_Mo_choose_118 : decode b_Mo_choose 118 = .ok (.iload 4, 2) := by decide +kernel
theorem d_Mo_choose_120 : decode b_Mo_choose 120 = .ok (.iaload, 1) := by decide +kernel
theorem d_Mo_choose_121 : decode b_Mo_choose 121 = .ok (.goto 4, 3) := by decide +kernel
theorem d_Mo_choose_124 : decode b_Mo_choose 124 = .ok (.iload_n 3, 1) := by decide +kernel
theorem d_Mo_choose_125 : decode b_Mo_choose 125 = .ok (.istore_n 3, 1) := by decide +kernel
theorem d_Mo_choose_126 : decode b_Mo_choose 126 = .ok (.iinc 4 1, 3) := by decide +kernel
theorem d_Mo_choose_129 : decode b_Mo_choose 129 = .ok (.goto (-58), 3) := by decide +kernel
theorem d_Mo_choose_132 : decode b_Mo_choose 132 = .ok (.aload_n 0, 1) := by decide +kernel
theorem d_Mo_choose_133 : decode b_Mo_choose 133 = .ok (.getfield 103, 3) := by decide +kernel
theorem d_Mo_choose_136 : decode b_Mo_choose 136 = .ok (.ifCond .eq 41, 3) := by decide +kernel
theorem d_Mo_choose_139 : decode b_Mo_choose 139 = .ok (.iload_n 3, 1) := by decide +kernel
theorem d_Mo_choose_140 : decode b_Mo_choose 140 = .ok (.iload_n 2, 1) := by decide +kernel
theorem d_Mo_choose_141 : decode b_Mo_choose 141 = .ok (.isub, 1) := by decide +kernel
theorem d_Mo_choose_142 : decode b_Mo_choose 142 = .ok (.aload_n 0, 1) := by decide +kernel
theorem d_Mo_choose_143 : decode b_Mo_choose 143 = .ok (.getfield 109, 3) := by decide +kernel
theorem d_Mo_choose_146 : decode b_Mo_choose 146 = .ok (.aload_n 0, 1) := by decide +kernel
theorem d_Mo_choose_147 : decode b_Mo_choose 147 = .ok (.getfield 112, 3) := by decide +kernel
theorem d_Mo_choose_150 : decode b_Mo_choose 150 = .ok (.isub, 1) := by decide +kernel
theorem d_Mo_choose_151 : decode b_Mo_choose 151 = .ok (.if_icmp .lt 26, 3) := by decide +kernel
theorem d_Mo_choose_154 : decode b_Mo_choose 154 = .ok (.iload_n 3, 1) := by decide +kernel
theorem d_Mo_choose_155 : decode b_Mo_choose 155 = .ok (.iload_n 2, 1) := by decide +kernel
theorem d_Mo_choose_156 : decode b_Mo_choose 156 = .ok (.isub, 1) := by decide +kernel
theorem d_Mo_choose_157 : decode b_Mo_choose 157 = .ok (.aload_n 0, 1) := by decide +kernel
theorem d_Mo_choose_158 : decode b_Mo_choose 158 = .ok (.getfield 109, 3) := by decide +kernel
theorem d_Mo_choose_161 : decode b_Mo_choose 161 = .ok (.aload_n 0, 1) := by decide +kernel
theorem d_Mo_choose_162 : decode b_Mo_choose 162 = .ok (.getfield 112, 3) := by decide +kernel
theorem d_Mo_choose_165 : decode b_Mo_choose 165 = .ok (.isub, 1) := by decide +kernel
theorem d_Mo_choose_166 : decode b_Mo_choose 166 = .ok (.if_icmp .ne 21, 3) := by decide +kernel
theorem d_Mo_choose_169 : decode b_Mo_choose 169 = .ok (.iload_n 2, 1) := by decide +kernel
theorem d_Mo_choose_170 : decode b_Mo_choose 170 = .ok (.aload_n 0, 1) := by decide +kernel
theorem d_Mo_choose_171 : decode b_Mo_choose 171 = .ok (.getfield 112, 3) := by decide +kernel
theorem d_Mo_choose_174 : decode b_Mo_choose 174 = .ok (.if_icmp .ge 13, 3) := by decide +kernel
theorem d_Mo_choose_177 : decode b_Mo_choose 177 = .ok (.aload_n 0, 1) := by decide +kernel
theorem d_Mo_choose_178 : decode b_Mo_choose 178 = .ok (.iload_n 2, 1) := by decide +kernel
theorem d_Mo_choose_179 : decode b_Mo_choose 179 = .ok (.putfield 112, 3) := by decide +kernel
theorem d_Mo_choose_182 : decode b_Mo_choose 182 = .ok (.aload_n 0, 1) := by decide +kernel
theorem d_Mo_choose_183 : decode b_Mo_choose 183 = .ok (.iload_n 3, 1) := by decide +kernel
theorem d_Mo_choose_184 : decode b_Mo_choose 184 = .ok (.putfield 109, 3) := by decide +kernel
theorem d_Mo_choose_187 : decode b_Mo_choose 187 = .ok (.aload_n 0, 1) := by decide +kernel
theorem d_Mo_choose_188 : decode b_Mo_choose 188 = .ok (.dup, 1) := by decide +kernel
theorem d_Mo_choose_189 : decode b_Mo_choose 189 = .ok (.getfield 103, 3) := by decide +kernel
theorem d_Mo_choose_192 : decode b_Mo_choose 192 = .ok (.iconst 1, 1) := by decide +kernel
theorem d_Mo_choose_193 : decode b_Mo_choose 193 = .ok (.iadd, 1) := by decide +kernel
theorem d_Mo_choose_194 : decode b_Mo_choose 194 = .ok (.putfield 103, 3) := by decide +kernel
theorem d_Mo_choose_197 : decode b_Mo_choose 197 = .ok (.return_, 1) := by decide +kernel
theorem d_Mo_know_0 : decode b_Mo_know 0 = .ok (.aload_n 0, 1) := by decide +kernel
theorem d_Mo_know_1 : decode b_Mo_know 1 = .ok (.getfield 53, 3) := by decide +kernel
theorem d_Mo_know_4 : decode b_Mo_know 4 = .ok (.ifCond .eq 4, 3) := by decide +kernel
theorem d_Mo_know_7 : decode b_Mo_know 7 = .ok (.return_, 1) := by decide +kernel
theorem d_Mo_know_8 : decode b_Mo_know 8 = .ok (.aload_n 0, 1) := by decide +kernel
theorem d_Mo_know_9 : decode b_Mo_know 9 = .ok (.iconst 1, 1) := by decide +kernel
theorem d_Mo_know_10 : decode b_Mo_know 10 = .ok (.putfield 53, 3) := by decide +kernel
theorem d_Mo_know_13 : decode b_Mo_know 13 = .ok (.aload_n 0, 1) := by decide +kernel
theorem d_Mo_know_14 : decode b_Mo_know 14 = .ok (.iconst 0, 1) := by decide +kernel
theorem d_Mo_know_15 : decode b_Mo_know 15 = .ok (.putfield 103, 3) := by decide +kernel
theorem d_Mo_know_18 : decode b_Mo_know 18 = .ok (.iconst 0, 1) := by decide +kernel
theorem d_Mo_know_19 : decode b_Mo_know 19 = .ok (.istore_n 1, 1) := by decide +kernel
theorem d_Mo_know_20 : decode b_Mo_know 20 = .ok (.iload_n 1, 1) := by decide +kernel
theorem d_Mo_know_21 : decode b_Mo_know 21 = .ok (.sipush 200, 3) := by decide +kernel
theorem d_Mo_know_24 : decode b_Mo_know 24 = .ok (.if_icmp .ge 16, 3) := by decide +kernel
theorem d_Mo_know_27 : decode b_Mo_know 27 = .ok (.aload_n 0, 1) := by decide +kernel
theorem d_Mo_know_28 : decode b_Mo_know 28 = .ok (.getfield 37, 3) := by decide +kernel
theorem d_Mo_know_31 : decode b_Mo_know 31 = .ok (.iload_n 1, 1) := by decide +kernel
theorem d_Mo_know_32 : decode b_Mo_know 32 = .ok (.iconst 0, 1) := by decide +kernel
theorem d_Mo_know_33 : decode b_Mo_know 33 = .ok (.iastore, 1) := by decide +kernel
theorem d_Mo_know_34 : decode b_Mo_know 34 = .ok (.iinc 1 1, 3) := by decide +kernel
theorem d_Mo_know_37 : decode b_Mo_know 37 = .ok (.goto (-17), 3) := by decide +kernel
theorem d_Mo_know_40 : decode b_Mo_know 40 = .ok (.iconst 0, 1) := by decide +kernel
theorem d_Mo_know_41 : decode b_Mo_know 41 = .ok (.istore_n 1, 1) := by decide +kernel
theorem d_Mo_know_42 : decode b_Mo_know 42 = .ok (.aload_n 0, 1) := by decide +kernel
theorem d_Mo_know_43 : decode b_Mo_know 43 = .ok (.getfield 43, 3) := by decide +kernel
theorem d_Mo_know_46 : decode b_Mo_know 46 = .ok (.iconst 0, 1) := by decide +kernel
theorem d_Mo_know_47 : decode b_Mo_know 47 = .ok (.iconst (-1), 1) := by decide +kernel
theorem d_Mo_know_48 : decode b_Mo_know 48 = .ok (.iastore, 1) := by decide +kernel
theorem d_Mo_know_49 : decode b_Mo_know 49 = .ok (.iload_n 1, 1) := by decide +kernel
theorem d_Mo_know_50 : decode b_Mo_know 50 = .ok (.ifCond .lt 89, 3) := by decide +kernel
theorem d_Mo_know_53 : decode b_Mo_know 53 = .ok (.aload_n 0, 1) := by decide +kernel
theorem d_Mo_know_54 : decode b_Mo_know 54 = .ok (.getfield 95, 3) := by decide +kernel
theorem d_Mo_know_57 : decode b_Mo_know 57 = .ok (.ifCond .le 82, 3) := by decide +kernel
theorem d_Mo_know_60 : decode b_Mo_know 60 = .ok (.aload_n 0, 1) := by decide +kernel
theorem d_Mo_know_61 : decode b_Mo_know 61 = .ok (.getfield 43, 3) := by decide +kernel
theorem d_Mo_know_64 : decode b_Mo_know 64 = .ok (.iload_n 1, 1) := by decide +kernel
theorem d_Mo_know_65 : decode b_Mo_know 65 = .ok (.iaload, 1) := by decide +kernel
theorem d_Mo_know_66 : decode b_Mo_know 66 = .ok (.iconst 1, 1) := by decide +kernel
theorem d_Mo_know_67 : decode b_Mo_know 67 = .ok (.iadd, 1) := by decide +kernel
theorem d_Mo_know_68 : decode b_Mo_know 68 = .ok (.istore_n 2, 1) := by decide +kernel
theorem d_Mo_know_69 : decode b_Mo_know 69 = .ok (.iload_n 2, 1) := by decide +kernel
theorem d_Mo_know_70 : decode b_Mo_know 70 = .ok (.bipush 30, 2) := by decide +kernel
theorem d_Mo_know_72 : decode b_Mo_know 72 = .ok (.if_icmp .ge 18, 3) := by decide +kernel
theorem d_Mo_know_75 : decode b_Mo_know 75 = .ok (.aload_n 0, 1) := by decide +kernel
theorem d_Mo_know_76 : decode b_Mo_know 76 = .ok (.iload_n 1, 1) := by decide +kernel
theorem d_Mo_know_77 : decode b_Mo_know 77 = .ok (.iload_n 2, 1) := by decide +kernel
theorem d_Mo_know_78 : decode b_Mo_know 78 = .ok (.invokevirtual 115, 3) := by decide +kernel
theorem d_Mo_know_81 : decode b_Mo_know 81 = .ok (.ifCond .ne 9, 3) := by decide +kernel
theorem d_Mo_know_84 : decode b_Mo_know 84 = .ok (.iinc 2 1, 3) := by decide +kernel
theorem d_Mo_know_87 : decode b_Mo_know 87 = .ok (.goto (-18), 3) := by decide +kernel
theorem d_Mo_know_90 : decode b_Mo_know 90 = .ok (.aload_n 0, 1) := by decide +kernel
theorem d_Mo_know_91 : decode b_Mo_know 91 = .ok (.getfield 43, 3) := by decide +kernel
theorem d_Mo_know_94 : decode b_Mo_know 94 = .ok (.iload_n 1, 1) := by decide +kernel
theorem d_Mo_know_95 : decode b_Mo_know 95 = .ok (.iload_n 2, 1) := by decide +kernel
theorem d_Mo_know_96 : decode b_Mo_know 96 = .ok (.iastore, 1) := by decide +kernel
theorem d_Mo_know_97 : decode b_Mo_know 97 = .ok (.iload_n 2, 1) := by decide +kernel
theorem d_Mo_know_98 : decode b_Mo_know 98 = .ok (.bipush 30, 2) := by decide +kernel
theorem d_Mo_know_100 : decode b_Mo_know 100 = .ok (.if_icmp .ne 9, 3) := by decide +kernel
theorem d_Mo_know_103 : decode b_Mo_know 103 = .ok (.iinc 1 (-1), 3) := by decide +kernel
theorem d_Mo_know_106 : decode b_Mo_know 106 = .ok (.goto 30, 3) := by decide +kernel
theorem d_Mo_know_109 : decode b_Mo_know 109 = .ok (.iload_n 1, 1) := by decide +kernel
theorem d_Mo_know_110 : decode b_Mo_know 110 = .ok (.aload_n 0, 1) := by decide +kernel
theorem d_Mo_know_111 : decode b_Mo_know 111 = .ok (.getfield 95, 3) := by decide +kernel
theorem d_Mo_know_114 : decode b_Mo_know 114 = .ok (.iconst 1, 1) := by decide +kernel
theorem d_Mo_know_115 : decode b_Mo_know 115 = .ok (.isub, 1) := by decide +kernel
theorem d_Mo_know_116 : decode b_Mo_know 116 = .ok (.if_icmp .ne 10, 3) := by decide +kernel
theorem d_Mo_know_119 : decode b_Mo_know 119 = .ok (.aload_n 0, 1) := by decide +kernel
theorem d_Mo_know_120 : decode b_Mo_know 120 = .ok (.invokevirtual 119, 3) := by decide +kernel
theorem d_Mo_know_123 : decode b_Mo_know 123 = .ok (.goto 13, 3) := by decide +kernel
theorem d_Mo_know_126 : decode b_Mo_know 126 = .ok (.iinc 1 1, 3) := by decide +kernel
theorem d_Mo_know_129 : decode b_Mo_know 129 = .ok (.aload_n 0, 1) := by decide +kernel
theorem d_Mo_know_130 : decode b_Mo_know 130 = .ok (.getfield 43, 3) := by decide +kernel
theorem d_Mo_know_133 : decode b_Mo_know 133 = .ok (.iload_n 1, 1) := by decide +kernel
theorem d_Mo_know_134 : decode b_Mo_know 134 = .ok (.iconst (-1), 1) := by decide +kernel
theorem d_Mo_know_135 : decode b_Mo_know 135 = .ok (.iastore, 1) := by decide +kernel
theorem d_Mo_know_136 : decode b_Mo_know 136 = .ok (.goto (-87), 3) := by decide +kernel
theorem d_Mo_know_139 : decode b_Mo_know 139 = .ok (.return_, 1) := by decide +kernel
theorem d_Mo_matches_0 : decode b_Mo_matches 0 = .ok (.iload_n 1, 1) := by decide +kernel
theorem d_Mo_matches_1 : decode b_Mo_matches 1 = .ok (.ifCond .lt 9, 3) := by decide +kernel
theorem d_Mo_matches_4 : decode b_Mo_matches 4 = .ok (.iload_n 1, 1) := by decide +kernel
theorem d_Mo_matches_5 : decode b_Mo_matches 5 = .ok (.bipush 9, 2) := by decide +kernel
theorem d_Mo_matches_7 : decode b_Mo_matches 7 = .ok (.if_icmp .le 6, 3) := by decide +kernel
theorem d_Mo_matches_10 : decode b_Mo_matches 10 = .ok (.bipush (-2), 2) := by decide +kernel
theorem d_Mo_matches_12 : decode b_Mo_matches 12 = .ok (.ireturn, 1) := by decide +kernel
theorem d_Mo_matches_13 : decode b_Mo_matches 13 = .ok (.aload_n 0, 1) := by decide +kernel
theorem d_Mo_matches_14 : decode b_Mo_matches 14 = .ok (.invokevirtual 122, 3) := by decide +kernel
theorem d_Mo_matches_17 : decode b_Mo_matches 17 = .ok (.iconst 0, 1) := by decide +kernel
theorem d_Mo_matches_18 : decode b_Mo_matches 18 = .ok (.istore_n 2, 1) := by decide +kernel
theorem d_Mo_matches_19 : decode b_Mo_matches 19 = .ok (.iconst 0, 1) := by decide +kernel
theorem d_Mo_matches_20 : decode b_Mo_matches 20 = .ok (.istore_n 3, 1) := by decide +kernel
theorem d_Mo_matches_21 : decode b_Mo_matches 21 = .ok (.iload_n 3, 1) := by decide +kernel
theorem d_Mo_matches_22 : decode b_Mo_matches 22 = .ok (.iload_n 1, 1) := by decide +kernel
theorem d_Mo_matches_23 : decode b_Mo_matches 23 = .ok (.if_icmp .gt 18, 3) := by decide +kernel
theorem d_Mo_matches_26 : decode b_Mo_matches 26 = .ok (.iload_n 2, 1) := by decide +kernel
theorem d_Mo_matches_27 : decode b_Mo_matches 27 = .ok (.aload_n 0, 1) := by decide +kernel
theorem d_Mo_matches_28 : decode b_Mo_matches 28 = .ok (.getfield 37, 3) := by decide +kernel
theorem d_Mo_matches_31 : decode b_Mo_matches 31 = .ok (.iload_n 3, 1) := by decide +kernel
theorem d_Mo_matches_32 : decode b_Mo_matches 32 = .ok (.iaload, 1) := by decide +kernel
theorem d_Mo_matches_33 : decode b_Mo_matches 33 = .ok (.iadd, 1) := by decide +kernel
theorem d_Mo_matches_34 : decode b_Mo_matches 34 = .ok (.istore_n 2, 1) := by decide +kernel
theorem d_Mo_matches_35 : decode b_Mo_matches 35 = .ok (.iinc 3 1, 3) := by decide +kernel
theorem d_Mo_matches_38 : decode b_Mo_matches 38 = .ok (.goto (-17), 3) := by decide +kernel
theorem d_Mo_matches_41 : decode b_Mo_matches 41 = .ok (.iload_n 2, 1) := by decide +kernel
theorem d_Mo_matches_42 : decode b_Mo_matches 42 = .ok (.ireturn, 1) := by decide +kernel
theorem d_Mo_weight_0 : decode b_Mo_weight 0 = .ok (.iload_n 1, 1) := by decide +kernel
theorem d_Mo_weight_1 : decode b_Mo_weight 1 = .ok (.ifCond .lt 9, 3) := by decide +kernel
theorem d_Mo_weight_4 : decode b_Mo_weight 4 = .ok (.iload_n 1, 1) := by decide +kernel
theorem d_Mo_weight_5 : decode b_Mo_weight 5 = .ok (.bipush 9, 2) := by decide +kernel
theorem d_Mo_weight_7 : decode b_Mo_weight 7 = .ok (.if_icmp .le 7, 3) := by decide +kernel
theorem d_Mo_weight_10 : decode b_Mo_weight 10 = .ok (.ldc2_w 125, 3) := by decide +kernel
theorem d_Mo_weight_13 : decode b_Mo_weight 13 = .ok (.lreturn, 1) := by decide +kernel
theorem d_Mo_weight_14 : decode b_Mo_weight 14 = .ok (.aload_n 0, 1) := by decide +kernel
theorem d_Mo_weight_15 : decode b_Mo_weight 15 = .ok (.invokevirtual 122, 3) := by decide +kernel
theorem d_Mo_weight_18 : decode b_Mo_weight 18 = .ok (.lconst 0, 1) := by decide +kernel
theorem d_Mo_weight_19 : decode b_Mo_weight 19 = .ok (.lstore_n 2, 1) := by decide +kernel
theorem d_Mo_weight_20 : decode b_Mo_weight 20 = .ok (.iconst 0, 1) := by decide +kernel
theorem d_Mo_weight_21 : decode b_Mo_weight 21 = .ok (.istore 4, 2) := by decide +kernel
theorem d_Mo_weight_23 : decode b_Mo_weight 23 = .ok (.iload 4, 2) := by decide +kernel
theorem d_Mo_weight_25 : decode b_Mo_weight 25 = .ok (.iload_n 1, 1) := by decide +kernel
theorem d_Mo_weight_26 : decode b_Mo_weight 26 = .ok (.if_icmp .gt 30, 3) := by decide +kernel
theorem d_Mo_weight_29 : decode b_Mo_weight 29 = .ok (.lload_n 2, 1) := by decide +kernel
theorem d_Mo_weight_30 : decode b_Mo_weight 30 = .ok (.aload_n 0, 1) := by decide +kernel
theorem d_Mo_weight_31 : decode b_Mo_weight 31 = .ok (.getfield 37, 3) := by decide +kernel
theorem d_Mo_weight_34 : decode b_Mo_weight 34 = .ok (.iload 4, 2) := by decide +kernel
theorem d_Mo_weight_36 : decode b_Mo_weight 36 = .ok (.iaload, 1) := by decide +kernel
theorem d_Mo_weight_37 : decode b_Mo_weight 37 = .ok (.i2l, 1) := by decide +kernel
theorem d_Mo_weight_38 : decode b_Mo_weight 38 = .ok (.sipush 2520, 3) := by decide +kernel
theorem d_Mo_weight_41 : decode b_Mo_weight 41 = .ok (.iload 4, 2) := by decide +kernel
theorem d_Mo_weight_43 : decode b_Mo_weight 43 = .ok (.iconst 1, 1) := by decide +kernel
theorem d_Mo_weight_44 : decode b_Mo_weight 44 = .ok (.iadd, 1) := by decide +kernel
theorem d_Mo_weight_45 : decode b_Mo_weight 45 = .ok (.idiv, 1) := by decide +kernel
theorem d_Mo_weight_46 : decode b_Mo_weight 46 = .ok (.i2l, 1) := by decide +kernel
theorem d_Mo_weight_47 : decode b_Mo_weight 47 = .ok (.lmul, 1) := by decide +kernel
theorem d_Mo_weight_48 : decode b_Mo_weight 48 = .ok (.ladd, 1) := by decide +kernel
theorem d_Mo_weight_49 : decode b_Mo_weight 49 = .ok (.lstore_n 2, 1) := by decide +kernel
theorem d_Mo_weight_50 : decode b_Mo_weight 50 = .ok (.iinc 4 1, 3) := by decide +kernel
theorem d_Mo_weight_53 : decode b_Mo_weight 53 = .ok (.goto (-30), 3) := by decide +kernel
theorem d_Mo_weight_56 : decode b_Mo_weight 56 = .ok (.lload_n 2, 1) := by decide +kernel
theorem d_Mo_weight_57 : decode b_Mo_weight 57 = .ok (.lreturn, 1) := by decide +kernel
theorem d_Mo_least_0 : decode b_Mo_least 0 = .ok (.aload_n 0, 1) := by decide +kernel
theorem d_Mo_least_1 : decode b_Mo_least 1 = .ok (.invokevirtual 122, 3) := by decide +kernel
theorem d_Mo_least_4 : decode b_Mo_least 4 = .ok (.aload_n 0, 1) := by decide +kernel
theorem d_Mo_least_5 : decode b_Mo_least 5 = .ok (.getfield 103, 3) := by decide +kernel
theorem d_Mo_least_8 : decode b_Mo_least 8 = .ok (.ifCond .ne 8, 3) := by decide +kernel
theorem d_Mo_least_11 : decode b_Mo_least 11 = .ok (.bipush (-3), 2) := by decide +kernel
theorem d_Mo_least_13 : decode b_Mo_least 13 = .ok (.goto 7, 3) := by decide +kernel
theorem d_Mo_least_16 : decode b_Mo_least 16 = .ok (.aload_n 0, 1) := by decide +kernel
theorem d_Mo_least_17 : decode b_Mo_least 17 = .ok (.getfield 106, 3) := by decide +kernel
theorem d_Mo_least_20 : decode b_Mo_least 20 = .ok (.ireturn, 1) := by decide +kernel
theorem d_Mo_chosen_0 : decode b_Mo_chosen 0 = .ok (.iload_n 1, 1) := by decide +kernel
theorem d_Mo_chosen_1 : decode b_Mo_chosen 1 = .ok (.ifCond .lt 11, 3) := by decide +kernel
theorem d_Mo_chosen_4 : decode b_Mo_chosen 4 = .ok (.iload_n 1, 1) := by decide +kernel
theorem d_Mo_chosen_5 : decode b_Mo_chosen 5 = .ok (.aload_n 0, 1) := by decide +kernel
theorem d_Mo_chosen_6 : decode b_Mo_chosen 6 = .ok (.getfield 95, 3) := by decide +kernel
theorem d_Mo_chosen_9 : decode b_Mo_chosen 9 = .ok (.if_icmp .lt 5, 3) := by decide +kernel
theorem d_Mo_chosen_12 : decode b_Mo_chosen 12 = .ok (.iconst (-1), 1) := by decide +kernel
theorem d_Mo_chosen_13 : decode b_Mo_chosen 13 = .ok (.ireturn, 1) := by decide +kernel
theorem d_Mo_chosen_14 : decode b_Mo_chosen 14 = .ok (.aload_n 0, 1) := by decide +kernel
theorem d_Mo_chosen_15 : decode b_Mo_chosen 15 = .ok (.invokevirtual 122, 3) := by decide +kernel
theorem d_Mo_chosen_18 : decode b_Mo_chosen 18 = .ok (.aload_n 0, 1) := by decide +kernel
theorem d_Mo_chosen_19 : decode b_Mo_chosen 19 = .ok (.getfield 103, 3) := by decide +kernel
theorem d_Mo_chosen_22 : decode b_Mo_chosen 22 = .ok (.ifCond .ne 8, 3) := by decide +kernel
theorem d_Mo_chosen_25 : decode b_Mo_chosen 25 = .ok (.bipush (-3), 2) := by decide +kernel
theorem d_Mo_chosen_27 : decode b_Mo_chosen 27 = .ok (.goto 9, 3) := by decide +kernel
theorem d_Mo_chosen_30 : decode b_Mo_chosen 30 = .ok (.aload_n 0, 1) := by decide +kernel
theorem d_Mo_chosen_31 : decode b_Mo_chosen 31 = .ok (.getfield 40, 3) := by decide +kernel
theorem d_Mo_chosen_34 : decode b_Mo_chosen 34 = .ok (.iload_n 1, 1) := by decide +kernel
theorem d_Mo_chosen_35 : decode b_Mo_chosen 35 = .ok (.iaload, 1) := by decide +kernel
theorem d_Mo_chosen_36 : decode b_Mo_chosen 36 = .ok (.ireturn, 1) := by decide +kernel
theorem d_Mo_ties_0 : decode b_Mo_ties 0 = .ok (.aload_n 0, 1) := by decide +kernel
theorem d_Mo_ties_1 : decode b_Mo_ties 1 = .ok (.invokevirtual 122, 3) := by decide +kernel
theorem d_Mo_ties_4 : decode b_Mo_ties 4 = .ok (.aload_n 0, 1) := by decide +kernel
theorem d_Mo_ties_5 : decode b_Mo_ties 5 = .ok (.getfield 103, 3) := by decide +kernel
theorem d_Mo_ties_8 : decode b_Mo_ties 8 = .ok (.ifCond .ne 7, 3) := by decide +kernel
theorem d_Mo_ties_11 : decode b_Mo_ties 11 = .ok (.iconst 0, 1) := by decide +kernel
theorem d_Mo_ties_12 : decode b_Mo_ties 12 = .ok (.goto 12, 3) := by decide +kernel
theorem d_Mo_ties_15 : decode b_Mo_ties 15 = .ok (.aload_n 0, 1) := by decide +kernel
theorem d_Mo_ties_16 : decode b_Mo_ties 16 = .ok (.getfield 37, 3) := by decide +kernel
theorem d_Mo_ties_19 : decode b_Mo_ties 19 = .ok (.aload_n 0, 1) := by decide +kernel
theorem d_Mo_ties_20 : decode b_Mo_ties 20 = .ok (.getfield 106, 3) := by decide +kernel
theorem d_Mo_ties_23 : decode b_Mo_ties 23 = .ok (.iaload, 1) := by decide +kernel
theorem d_Mo_ties_24 : decode b_Mo_ties 24 = .ok (.ireturn, 1) := by decide +kernel
theorem d_Mo_shortest_0 : decode b_Mo_shortest 0 = .ok (.iload_n 1, 1) := by decide +kernel
theorem d_Mo_shortest_1 : decode b_Mo_shortest 1 = .ok (.ifCond .lt 8, 3) := by decide +kernel
theorem d_Mo_shortest_4 : decode b_Mo_shortest 4 = .ok (.iload_n 1, 1) := by decide +kernel
theorem d_Mo_shortest_5 : decode b_Mo_shortest 5 = .ok (.iconst 1, 1) := by decide +kernel
theorem d_Mo_shortest_6 : decode b_Mo_shortest 6 = .ok (.if_icmp .le 6, 3) := by decide +kernel
theorem d_Mo_shortest_9 : decode b_Mo_shortest 9 = .ok (.bipush (-2), 2) := by decide +kernel
theorem d_Mo_shortest_11 : decode b_Mo_shortest 11 = .ok (.ireturn, 1) := by decide +kernel
theorem d_Mo_shortest_12 : decode b_Mo_shortest 12 = .ok (.aload_n 0, 1) := by decide +kernel
theorem d_Mo_shortest_13 : decode b_Mo_shortest 13 = .ok (.invokevirtual 122, 3) := by decide +kernel
theorem d_Mo_shortest_16 : decode b_Mo_shortest 16 = .ok (.aload_n 0, 1) := by decide +kernel
theorem d_Mo_shortest_17 : decode b_Mo_shortest 17 = .ok (.getfield 103, 3) := by decide +kernel
theorem d_Mo_shortest_20 : decode b_Mo_shortest 20 = .ok (.ifCond .ne 8, 3) := by decide +kernel
theorem d_Mo_shortest_23 : decode b_Mo_shortest 23 = .ok (.bipush (-3), 2) := by decide +kernel
theorem d_Mo_shortest_25 : decode b_Mo_shortest 25 = .ok (.goto 18, 3) := by decide +kernel
theorem d_Mo_shortest_28 : decode b_Mo_shortest 28 = .ok (.iload_n 1, 1) := by decide +kernel
theorem d_Mo_shortest_29 : decode b_Mo_shortest 29 = .ok (.ifCond .ne 10, 3) := by decide +kernel
theorem d_Mo_shortest_32 : decode b_Mo_shortest 32 = .ok (.aload_n 0, 1) := by decide +kernel
theorem d_Mo_shortest_33 : decode b_Mo_shortest 33 = .ok (.getfield 112, 3) := by decide +kernel
theorem d_Mo_shortest_36 : decode b_Mo_shortest 36 = .ok (.goto 7, 3) := by decide +kernel
theorem d_Mo_shortest_39 : decode b_Mo_shortest 39 = .ok (.aload_n 0, 1) := by decide +kernel
theorem d_Mo_shortest_40 : decode b_Mo_shortest 40 = .ok (.getfield 109, 3) := by decide +kernel
theorem d_Mo_shortest_43 : decode b_Mo_shortest 43 = .ok (.ireturn, 1) := by decide +kernel
