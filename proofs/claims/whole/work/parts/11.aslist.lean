theorem d_Ja_fill_0 : decode b_Ja_fill 0 = .ok (.iconst 0, 1) := by decide +kernel
theorem d_Ja_fill_1 : decode b_Ja_fill 1 = .ok (.istore_n 2, 1) := by decide +kernel
theorem d_Ja_fill_2 : decode b_Ja_fill 2 = .ok (.aload_n 0, 1) := by decide +kernel
theorem d_Ja_fill_3 : decode b_Ja_fill 3 = .ok (.arraylength, 1) := by decide +kernel
theorem d_Ja_fill_4 : decode b_Ja_fill 4 = .ok (.istore_n 3, 1) := by decide +kernel
theorem d_Ja_fill_5 : decode b_Ja_fill 5 = .ok (.iload_n 2, 1) := by decide +kernel
theorem d_Ja_fill_6 : decode b_Ja_fill 6 = .ok (.iload_n 3, 1) := by decide +kernel
theorem d_Ja_fill_7 : decode b_Ja_fill 7 = .ok (.if_icmp .ge 13, 3) := by decide +kernel
theorem d_Ja_fill_10 : decode b_Ja_fill 10 = .ok (.aload_n 0, 1) := by decide +kernel
theorem d_Ja_fill_11 : decode b_Ja_fill 11 = .ok (.iload_n 2, 1) := by decide +kernel
theorem d_Ja_fill_12 : decode b_Ja_fill 12 = .ok (.iload_n 1, 1) := by decide +kernel
theorem d_Ja_fill_13 : decode b_Ja_fill 13 = .ok (.iastore, 1) := by decide +kernel
theorem d_Ja_fill_14 : decode b_Ja_fill 14 = .ok (.iinc 2 1, 3) := by decide +kernel
theorem d_Ja_fill_17 : decode b_Ja_fill 17 = .ok (.goto (-12), 3) := by decide +kernel
theorem d_Ja_fill_20 : decode b_Ja_fill 20 = .ok (.return_, 1) := by decide +kernel
theorem d_As_init_0 : decode b_As_init 0 = .ok (.aload_n 0, 1) := by decide +kernel
theorem d_As_init_1 : decode b_As_init 1 = .ok (.invokespecial 3, 3) := by decide +kernel
theorem d_As_init_4 : decode b_As_init 4 = .ok (.aload_n 0, 1) := by decide +kernel
theorem d_As_init_5 : decode b_As_init 5 = .ok (.bipush 30, 2) := by decide +kernel
theorem d_As_init_7 : decode b_As_init 7 = .ok (.newarray .int, 2) := by decide +kernel
theorem d_As_init_9 : decode b_As_init 9 = .ok (.putfield 9, 3) := by decide +kernel
theorem d_As_init_12 : decode b_As_init 12 = .ok (.aload_n 0, 1) := by decide +kernel
theorem d_As_init_13 : decode b_As_init 13 = .ok (.bipush 30, 2) := by decide +kernel
theorem d_As_init_15 : decode b_As_init 15 = .ok (.newarray .int, 2) := by decide +kernel
theorem d_As_init_17 : decode b_As_init 17 = .ok (.putfield 15, 3) := by decide +kernel
theorem d_As_init_20 : decode b_As_init 20 = .ok (.aload_n 0, 1) := by decide +kernel
theorem d_As_init_21 : decode b_As_init 21 = .ok (.bipush 30, 2) := by decide +kernel
theorem d_As_init_23 : decode b_As_init 23 = .ok (.newarray .int, 2) := by decide +kernel
theorem d_As_init_25 : decode b_As_init 25 = .ok (.putfield 18, 3) := by decide +kernel
theorem d_As_init_28 : decode b_As_init 28 = .ok (.aload_n 0, 1) := by decide +kernel
theorem d_As_init_29 : decode b_As_init 29 = .ok (.bipush 30, 2) := by decide +kernel
theorem d_As_init_31 : decode b_As_init 31 = .ok (.newarray .int, 2) := by decide +kernel
theorem d_As_init_33 : decode b_As_init 33 = .ok (.putfield 21, 3) := by decide +kernel
theorem d_As_init_36 : decode b_As_init 36 = .ok (.aload_n 0, 1) := by decide +kernel
theorem d_As_init_37 : decode b_As_init 37 = .ok (.bipush 30, 2) := by decide +kernel
theorem d_As_init_39 : decode b_As_init 39 = .ok (.anewarray 24, 3) := by decide +kernel
theorem d_As_init_42 : decode b_As_init 42 = .ok (.putfield 26, 3) := by decide +kernel
theorem d_As_init_45 : decode b_As_init 45 = .ok (.iconst 0, 1) := by decide +kernel
theorem d_As_init_46 : decode b_As_init 46 = .ok (.istore_n 1, 1) := by decide +kernel
theorem d_As_init_47 : decode b_As_init 47 = .ok (.iload_n 1, 1) := by decide +kernel
theorem d_As_init_48 : decode b_As_init 48 = .ok (.bipush 30, 2) := by decide +kernel
theorem d_As_init_50 : decode b_As_init 50 = .ok (.if_icmp .ge 22, 3) := by decide +kernel
theorem d_As_init_53 : decode b_As_init 53 = .ok (.aload_n 0, 1) := by decide +kernel
theorem d_As_init_54 : decode b_As_init 54 = .ok (.getfield 26, 3) := by decide +kernel
theorem d_As_init_57 : decode b_As_init 57 = .ok (.iload_n 1, 1) := by decide +kernel
theorem d_As_init_58 : decode b_As_init 58 = .ok (.new 24, 3) := by decide +kernel
theorem d_As_init_61 : decode b_As_init 61 = .ok (.dup, 1) := by decide +kernel
theorem d_As_init_62 : decode b_As_init 62 = .ok (.invokespecial 30, 3) := by decide +kernel
theorem d_As_init_65 : decode b_As_init 65 = .ok (.aastore, 1) := by decide +kernel
theorem d_As_init_66 : decode b_As_init 66 = .ok (.iinc 1 1, 3) := by decide +kernel
theorem d_As_init_69 : decode b_As_init 69 = .ok (.goto (-22), 3) := by decide +kernel
theorem d_As_init_72 : decode b_As_init 72 = .ok (.aload_n 0, 1) := by decide +kernel
theorem d_As_init_73 : decode b_As_init 73 = .ok (.iconst 0, 1) := by decide +kernel
theorem d_As_init_74 : decode b_As_init 74 = .ok (.putfield 31, 3) := by decide +kernel
theorem d_As_init_77 : decode b_As_init 77 = .ok (.aload_n 0, 1) := by decide +kernel
theorem d_As_init_78 : decode b_As_init 78 = .ok (.iconst 0, 1) := by decide +kernel
theorem d_As_init_79 : decode b_As_init 79 = .ok (.putfield 35, 3) := by decide +kernel
theorem d_As_init_82 : decode b_As_init 82 = .ok (.return_, 1) := by decide +kernel
theorem d_As_has_0 : decode b_As_has 0 = .ok (.iload_n 1, 1) := by decide +kernel
theorem d_As_has_1 : decode b_As_has 1 = .ok (.ifCond .lt 15, 3) := by decide +kernel
theorem d_As_has_4 : decode b_As_has 4 = .ok (.iload_n 1, 1) := by decide +kernel
theorem d_As_has_5 : decode b_As_has 5 = .ok (.aload_n 0, 1) := by decide +kernel
theorem d_As_has_6 : decode b_As_has 6 = .ok (.getfield 31, 3) := by decide +kernel
theorem d_As_has_9 : decode b_As_has 9 = .ok (.if_icmp .ge 7, 3) := by decide +kernel
theorem d_As_has_12 : decode b_As_has 12 = .ok (.iconst 1, 1) := by decide +kernel
theorem d_As_has_13 : decode b_As_has 13 = .ok (.goto 4, 3) := by decide +kernel
theorem d_As_has_16 : decode b_As_has 16 = .ok (.iconst 0, 1) := by decide +kernel
theorem d_As_has_17 : decode b_As_has 17 = .ok (.ireturn, 1) := by decide +kernel
theorem d_As_append_0 : decode b_As_append 0 = .ok (.aload_n 0, 1) := by decide +kernel
theorem d_As_append_1 : decode b_As_append 1 = .ok (.getfield 31, 3) := by decide +kernel
theorem d_As_append_4 : decode b_As_append 4 = .ok (.bipush 30, 2) := by decide +kernel
theorem d_As_append_6 : decode b_As_append 6 = .ok (.if_icmp .lt 6, 3) := by decide +kernel
theorem d_As_append_9 : decode b_As_append 9 = .ok (.bipush (-4), 2) := by decide +kernel
theorem d_As_append_11 : decode b_As_append 11 = .ok (.ireturn, 1) := by decide +kernel
theorem d_As_append_12 : decode b_As_append 12 = .ok (.aload_n 0, 1) := by decide +kernel
theorem d_As_append_13 : decode b_As_append 13 = .ok (.getfield 9, 3) := by decide +kernel
theorem d_As_append_16 : decode b_As_append 16 = .ok (.aload_n 0, 1) := by decide +kernel
theorem d_As_append_17 : decode b_As_append 17 = .ok (.getfield 31, 3) := by decide +kernel
theorem d_As_append_20 : decode b_As_append 20 = .ok (.iload_n 1, 1) := by decide +kernel
theorem d_As_append_21 : decode b_As_append 21 = .ok (.iastore, 1) := by decide +kernel
theorem d_As_append_22 : decode b_As_append 22 = .ok (.aload_n 0, 1) := by decide +kernel
theorem d_As_append_23 : decode b_As_append 23 = .ok (.getfield 15, 3) := by decide +kernel
theorem d_As_append_26 : decode b_As_append 26 = .ok (.aload_n 0, 1) := by decide +kernel
theorem d_As_append_27 : decode b_As_append 27 = .ok (.getfield 31, 3) := by decide +kernel
theorem d_As_append_30 : decode b_As_append 30 = .ok (.iload_n 2, 1) := by decide +kernel
theorem d_As_append_31 : decode b_As_append 31 = .ok (.iastore, 1) := by decide +kernel
theorem d_As_append_32 : decode b_As_append 32 = .ok (.aload_n 0, 1) := by decide +kernel
theorem d_As_append_33 : decode b_As_append 33 = .ok (.getfield 18, 3) := by decide +kernel
theorem d_As_append_36 : decode b_As_append 36 = .ok (.aload_n 0, 1) := by decide +kernel
theorem d_As_append_37 : decode b_As_append 37 = .ok (.getfield 31, 3) := by decide +kernel
theorem d_As_append_40 : decode b_As_append 40 = .ok (.iload_n 3, 1) := by decide +kernel
theorem d_As_append_41 : decode b_As_append 41 = .ok (.iastore, 1) := by decide +kernel
theorem d_As_append_42 : decode b_As_append 42 = .ok (.aload_n 0, 1) := by decide +kernel
theorem d_As_append_43 : decode b_As_append 43 = .ok (.getfield 21, 3) := by decide +kernel
theorem d_As_append_46 : decode b_As_append 46 = .ok (.aload_n 0, 1) := by decide +kernel
theorem d_As_append_47 : decode b_As_append 47 = .ok (.getfield 31, 3) := by decide +kernel
theorem d_As_append_50 : decode b_As_append 50 = .ok (.iload 4, 2) := by decide +kernel
theorem d_As_append_52 : decode b_As_append 52 = .ok (.iastore, 1) := by decide +kernel
theorem d_As_append_53 : decode b_As_append 53 = .ok (.aload_n 0, 1) := by decide +kernel
theorem d_As_append_54 : decode b_As_append 54 = .ok (.dup, 1) := by decide +kernel
theorem d_As_append_55 : decode b_As_append 55 = .ok (.getfield 31, 3) := by decide +kernel
theorem d_As_append_58 : decode b_As_append 58 = .ok (.iconst 1, 1) := by decide +kernel
theorem d_As_append_59 : decode b_As_append 59 = .ok (.iadd, 1) := by decide +kernel
theorem d_As_append_60 : decode b_As_append 60 = .ok (.putfield 31, 3) := by decide +kernel
theorem d_As_append_63 : decode b_As_append 63 = .ok (.aload_n 0, 1) := by decide +kernel
theorem d_As_append_64 : decode b_As_append 64 = .ok (.getfield 31, 3) := by decide +kernel
theorem d_As_append_67 : decode b_As_append 67 = .ok (.iconst 1, 1) := by decide +kernel
theorem d_As_append_68 : decode b_As_append 68 = .ok (.isub, 1) := by decide +kernel
theorem d_As_append_69 : decode b_As_append 69 = .ok (.ireturn, 1) := by decide +kernel
theorem d_As_dropAll_0 : decode b_As_dropAll 0 = .ok (.aload_n 0, 1) := by decide +kernel
theorem d_As_dropAll_1 : decode b_As_dropAll 1 = .ok (.getfield 31, 3) := by decide +kernel
theorem d_As_dropAll_4 : decode b_As_dropAll 4 = .ok (.istore_n 1, 1) := by decide +kernel
theorem d_As_dropAll_5 : decode b_As_dropAll 5 = .ok (.aload_n 0, 1) := by decide +kernel
theorem d_As_dropAll_6 : decode b_As_dropAll 6 = .ok (.iconst 0, 1) := by decide +kernel
theorem d_As_dropAll_7 : decode b_As_dropAll 7 = .ok (.putfield 31, 3) := by decide +kernel
theorem d_As_dropAll_10 : decode b_As_dropAll 10 = .ok (.aload_n 0, 1) := by decide +kernel
theorem d_As_dropAll_11 : decode b_As_dropAll 11 = .ok (.iconst 0, 1) := by decide +kernel
theorem d_As_dropAll_12 : decode b_As_dropAll 12 = .ok (.putfield 35, 3) := by decide +kernel
theorem d_As_dropAll_15 : decode b_As_dropAll 15 = .ok (.iload_n 1, 1) := by decide +kernel
theorem d_As_dropAll_16 : decode b_As_dropAll 16 = .ok (.ireturn, 1) := by decide +kernel
theorem d_As_outdate_0 : decode b_As_outdate 0 = .ok (.aload_n 0, 1) := by decide +kernel
theorem d_As_outdate_1 : decode b_As_outdate 1 = .ok (.iconst 0, 1) := by decide +kernel
theorem d_As_outdate_2 : decode b_As_outdate 2 = .ok (.putfield 35, 3) := by decide +kernel
theorem d_As_outdate_5 : decode b_As_outdate 5 = .ok (.return_, 1) := by decide +kernel
theorem d_As_rowOf_0 : decode b_As_rowOf 0 = .ok (.aload_n 0, 1) := by decide +kernel
theorem d_As_rowOf_1 : decode b_As_rowOf 1 = .ok (.getfield 35, 3) := by decide +kernel
theorem d_As_rowOf_4 : decode b_As_rowOf 4 = .ok (.istore_n 3, 1) := by decide +kernel
theorem d_As_rowOf_5 : decode b_As_rowOf 5 = .ok (.iload_n 3, 1) := by decide +kernel
theorem d_As_rowOf_6 : decode b_As_rowOf 6 = .ok (.iload_n 1, 1) := by decide +kernel
theorem d_As_rowOf_7 : decode b_As_rowOf 7 = .ok (.if_icmp .gt 30, 3) := by decide +kernel
theorem d_As_rowOf_10 : decode b_As_rowOf 10 = .ok (.iload_n 3, 1) := by decide +kernel
theorem d_As_rowOf_11 : decode b_As_rowOf 11 = .ok (.aload_n 0, 1) := by decide +kernel
theorem d_As_rowOf_12 : decode b_As_rowOf 12 = .ok (.getfield 31, 3) := by decide +kernel
theorem d_As_rowOf_15 : decode b_As_rowOf 15 = .ok (.if_icmp .ge 22, 3) := by decide +kernel
theorem d_As_rowOf_18 : decode b_As_rowOf 18 = .ok (.aload_n 0, 1) := by decide +kernel
theorem d_As_rowOf_19 : decode b_As_rowOf 19 = .ok (.iload_n 3, 1) := by decide +kernel
theorem d_As_rowOf_20 : decode b_As_rowOf 20 = .ok (.aload_n 2, 1) := by decide +kernel
theorem d_As_rowOf_21 : decode b_As_rowOf 21 = .ok (.invokevirtual 38, 3) := by decide +kernel
theorem d_As_rowOf_24 : decode b_As_rowOf 24 = .ok (.aload_n 0, 1) := by decide +kernel
theorem d_As_rowOf_25 : decode b_As_rowOf 25 = .ok (.iload_n 3, 1) := by decide +kernel
theorem d_As_rowOf_26 : decode b_As_rowOf 26 = .ok (.iconst 1, 1) := by decide +kernel
theorem d_As_rowOf_27 : decode b_As_rowOf 27 = .ok (.iadd, 1) := by decide +kernel
theorem d_As_rowOf_28 : decode b_As_rowOf 28 = .ok (.putfield 35, 3) := by decide +kernel
theorem d_As_rowOf_31 : decode b_As_rowOf 31 = .ok (.iinc 3 1, 3) := by decide +kernel
theorem d_As_rowOf_34 : decode b_As_rowOf 34 = .ok (.goto (-29), 3) := by decide +kernel
theorem d_As_rowOf_37 : decode b_As_rowOf 37 = .ok (.aload_n 0, 1) := by decide +kernel
theorem d_As_rowOf_38 : decode b_As_rowOf 38 = .ok (.getfield 26, 3) := by decide +kernel
theorem d_As_rowOf_41 : decode b_As_rowOf 41 = .ok (.iload_n 1, 1) := by decide +kernel
theorem d_As_rowOf_42 : decode b_As_rowOf 42 = .ok (.aaload, 1) := by decide +kernel
theorem d_As_rowOf_43 : decode b_As_rowOf 43 = .ok (.areturn, 1) := by decide +kernel
theorem d_As_workOut_0 : decode b_As_workOut 0 = .ok (.aload_n 0, 1) := by decide +kernel
theorem d_As_workOut_1 : decode b_As_workOut 1 = .ok (.getfield 26, 3) := by decide +kernel
theorem d_As_workOut_4 : decode b_As_workOut 4 = .ok (.iload_n 1, 1) := by decide +kernel
theorem d_As_workOut_5 : decode b_As_workOut 5 = .ok (.aaload, 1) := by decide +kernel
theorem d_As_workOut_6 : decode b_As_workOut 6 = .ok (.astore_n 3, 1) := by decide +kernel
theorem d_As_workOut_7 : decode b_As_workOut 7 = .ok (.aload_n 0, 1) := by decide +kernel
theorem d_As_workOut_8 : decode b_As_workOut 8 = .ok (.getfield 26, 3) := by decide +kernel
theorem d_As_workOut_11 : decode b_As_workOut 11 = .ok (.aload_n 0, 1) := by decide +kernel
theorem d_As_workOut_12 : decode b_As_workOut 12 = .ok (.getfield 15, 3) := by decide +kernel
theorem d_As_workOut_15 : decode b_As_workOut 15 = .ok (.iload_n 1, 1) := by decide +kernel
theorem d_As_workOut_16 : decode b_As_workOut 16 = .ok (.iaload, 1) := by decide +kernel
theorem d_As_workOut_17 : decode b_As_workOut 17 = .ok (.aaload, 1) := by decide +kernel
theorem d_As_workOut_18 : decode b_As_workOut 18 = .ok (.astore 4, 2) := by decide +kernel
theorem d_As_workOut_20 : decode b_As_workOut 20 = .ok (.aload_n 0, 1) := by decide +kernel
theorem d_As_workOut_21 : decode b_As_workOut 21 = .ok (.getfield 26, 3) := by decide +kernel
theorem d_As_workOut_24 : decode b_As_workOut 24 = .ok (.aload_n 0, 1) := by decide +kernel
theorem d_As_workOut_25 : decode b_As_workOut 25 = .ok (.getfield 18, 3) := by decide +kernel
theorem d_As_workOut_28 : decode b_As_workOut 28 = .ok (.iload_n 1, 1) := by decide +kernel
theorem d_As_workOut_29 : decode b_As_workOut 29 = .ok (.iaload, 1) := by decide +kernel
theorem d_As_workOut_30 : decode b_As_workOut 30 = .ok (.aaload, 1) := by decide +kernel
theorem d_As_workOut_31 : decode b_As_workOut 31 = .ok (.astore 5, 2) := by decide +kernel
theorem d_As_workOut_33 : decode b_As_workOut 33 = .ok (.aload_n 0, 1) := by decide +kernel
theorem d_As_workOut_34 : decode b_As_workOut 34 = .ok (.getfield 21, 3) := by decide +kernel
theorem d_As_workOut_37 : decode b_As_workOut 37 = .ok (.iload_n 1, 1) := by decide +kernel
theorem d_As_workOut_38 : decode b_As_workOut 38 = .ok (.iaload, 1) := by decide +kernel
theorem d_As_workOut_39 : decode b_As_workOut 39 = .ok (.istore 6, 2) := by decide +kernel
theorem d_As_workOut_41 : decode b_As_workOut 41 = .ok (.aload_n 3, 1) := by decide +kernel
theorem d_As_workOut_42 : decode b_As_workOut 42 = .ok (.invokevirtual 42, 3) := by decide +kernel
theorem d_As_workOut_45 : decode b_As_workOut 45 = .ok (.aload_n 0, 1) := by decide +kernel
theorem d_As_workOut_46 : decode b_As_workOut 46 = .ok (.getfield 9, 3) := by decide +kernel
theorem d_As_workOut_49 : decode b_As_workOut 49 = .ok (.iload_n 1, 1) := by decide +kernel
theorem d_As_workOut_50 : decode b_As_workOut 50 = .ok (.iaload, 1) := by decide +kernel
theorem d_As_workOut_51 : decode b_As_workOut 51 = .ok (.tableswitch 204 0 10 #[57, 69, 84, 97, 120, 133, 144, 155, 168, 182, 193], 57) := by decide +kernel
theorem d_As_workOut_108 : decode b_As_workOut 108 = .ok (.aload_n 3, 1) := by decide +kernel
theorem d_As_workOut_109 : decode b_As_workOut 109 = .ok (.iconst 1, 1) := by decide +kernel
theorem d_As_workOut_110 : decode b_As_workOut 110 = .ok (.iload 6, 2) := by decide +kernel
theorem d_As_workOut_112 : decode b_As_workOut 112 = .ok (.ishl, 1) := by decide +kernel
theorem d_As_workOut_113 : decode b_As_workOut 113 = .ok (.aload_n 2, 1) := by decide +kernel
theorem d_As_workOut_114 : decode b_As_workOut 114 = .ok (.invokevirtual 45, 3) := by decide +kernel
theorem d_As_workOut_117 : decode b_As_workOut 117 = .ok (.goto 138, 3) := by decide +kernel
theorem d_As_workOut_120 : decode b_As_workOut 120 = .ok (.aload_n 3, 1) := by decide +kernel
theorem d_As_workOut_121 : decode b_As_workOut 121 = .ok (.aload 4, 2) := by decide +kernel
theorem d_As_workOut_123 : decode b_As_workOut 123 = .ok (.invokevirtual 48, 3) := by decide +kernel
theorem d_As_workOut_126 : decode b_As_workOut 126 = .ok (.aload_n 3, 1) := by decide +kernel
theorem d_As_workOut_127 : decode b_As_workOut 127 = .ok (.aload 5, 2) := by decide +kernel
theorem d_As_workOut_129 : decode b_As_workOut 129 = .ok (.invokevirtual 48, 3) := by decide +kernel
theorem d_As_workOut_132 : decode b_As_workOut 132 = .ok (.goto 123, 3) := by decide +kernel
theorem d_As_workOut_135 : decode b_As_workOut 135 = .ok (.aload_n 3, 1) := by decide +kernel
theorem d_As_workOut_136 : decode b_As_workOut 136 = .ok (.aload 4, 2) := by decide +kernel
theorem d_As_workOut_138 : decode b_As_workOut 138 = .ok (.aload 5, 2) := by decide +kernel
theorem d_As_workOut_140 : decode b_As_workOut 140 = .ok (.iload 6, 2) := by decide +kernel
theorem d_As_workOut_142 : decode b_As_workOut 142 = .ok (.invokevirtual 52, 3) := by decide +kernel
theorem d_As_workOut_145 : decode b_As_workOut 145 = .ok (.goto 110, 3) := by decide +kernel
theorem d_As_workOut_148 : decode b_As_workOut 148 = .ok (.aload_n 3, 1) := by decide +kernel
theorem d_As_workOut_149 : decode b_As_workOut 149 = .ok (.aload 4, 2) := by decide +kernel
theorem d_As_workOut_151 : decode b_As_workOut 151 = .ok (.aload 5, 2) := by decide +kernel
theorem d_As_workOut_153 : decode b_As_workOut 153 = .ok (.iload 6, 2) := by decide +kernel
theorem d_As_workOut_155 : decode b_As_workOut 155 = .ok (.invokevirtual 52, 3) := by decide +kernel
theorem d_As_workOut_158 : decode b_As_workOut 158 = .ok (.aload_n 3, 1) := by decide +kernel
theorem d_As_workOut_159 : decode b_As_workOut 159 = .ok (.aload 5, 2) := by decide +kernel
theorem d_As_workOut_161 : decode b_As_workOut 161 = .ok (.aload 4, 2) := by decide +kernel
theorem d_As_workOut_163 : decode b_As_workOut 163 = .ok (.iload 6, 2) := by decide +kernel
theorem d_As_workOut_165 : decode b_As_workOut 165 = .ok (.invokevirtual 52, 3) := by decide +kernel
theorem d_As_workOut_168 : decode b_As_workOut 168 = .ok (.goto 87, 3) := by decide +kernel
theorem d_As_workOut_171 : decode b_As_workOut 171 = .ok (.aload_n 3, 1) := by decide +kernel
theorem d_As_workOut_172 : decode b_As_workOut 172 = .ok (.aload 4, 2) := by decide +kernel
theorem d_As_workOut_174 : decode b_As_workOut 174 = .ok (.aload 5, 2) := by decide +kernel
theorem d_As_workOut_176 : decode b_As_workOut 176 = .ok (.iload 6, 2) := by decide +kernel
theorem d_As_workOut_178 : decode b_As_workOut 178 = .ok (.invokevirtual 56, 3) := by decide +kernel
theorem d_As_workOut_181 : decode b_As_workOut 181 = .ok (.goto 74, 3) := by decide +kernel
theorem d_As_workOut_184 : decode b_As_workOut 184 = .ok (.aload_n 3, 1) := by decide +kernel
theorem d_As_workOut_185 : decode b_As_workOut 185 = .ok (.aload 4, 2) := by decide +kernel
theorem d_As_workOut_187 : decode b_As_workOut 187 = .ok (.aload 5, 2) := by decide +kernel
theorem d_As_workOut_189 : decode b_As_workOut 189 = .ok (.invokevirtual 59, 3) := by decide +kernel
theorem d_As_workOut_192 : decode b_As_workOut 192 = .ok (.goto 63, 3) := by decide +kernel
theorem d_As_workOut_195 : decode b_As_workOut 195 = .ok (.aload_n 3, 1) := by decide +kernel
theorem d_As_workOut_196 : decode b_As_workOut 196 = .ok (.aload 4, 2) := by decide +kernel
theorem d_As_workOut_198 : decode b_As_workOut 198 = .ok (.aload 5, 2) := by decide +kernel
theorem d_As_workOut_200 : decode b_As_workOut 200 = .ok (.invokevirtual 63, 3) := by decide +kernel
theorem d_As_workOut_203 : decode b_As_workOut 203 = .ok (.goto 52, 3) := by decide +kernel
theorem d_As_workOut_206 : decode b_As_workOut 206 = .ok (.aload_n 3, 1) := by decide +kernel
theorem d_As_workOut_207 : decode b_As_workOut 207 = .ok (.aload 4, 2) := by decide +kernel
theorem d_As_workOut_209 : decode b_As_workOut 209 = .ok (.aload 5, 2) := by decide +kernel
theorem d_As_workOut_211 : decode b_As_workOut 211 = .ok (.iconst (-1), 1) := by decide +kernel
theorem d_As_workOut_212 : decode b_As_workOut 212 = .ok (.iconst 1, 1) := by decide +kernel
theorem d_As_workOut_213 : decode b_As_workOut 213 = .ok (.invokevirtual 66, 3) := by decide +kernel
theorem d_As_workOut_216 : decode b_As_workOut 216 = .ok (.goto 39, 3) := by decide +kernel
theorem d_As_workOut_219 : decode b_As_workOut 219 = .ok (.aload_n 3, 1) := by decide +kernel
theorem d_As_workOut_220 : decode b_As_workOut 220 = .ok (.aload 4, 2) := by decide +kernel
theorem d_As_workOut_222 : decode b_As_workOut 222 = .ok (.aload 5, 2) := by decide +kernel
theorem d_As_workOut_224 : decode b_As_workOut 224 = .ok (.iload 6, 2) := by decide +kernel
theorem d_As_workOut_226 : decode b_As_workOut 226 = .ok (.iconst 0, 1) := by decide +kernel
theorem d_As_workOut_227 : decode b_As_workOut 227 = .ok (.invokevirtual 66, 3) := by decide +kernel
theorem d_As_workOut_230 : decode b_As_workOut 230 = .ok (.goto 25, 3) := by decide +kernel
theorem d_As_workOut_233 : decode b_As_workOut 233 = .ok (.aload_n 3, 1) := by decide +kernel
theorem d_As_workOut_234 : decode b_As_workOut 234 = .ok (.aload 4, 2) := by decide +kernel
theorem d_As_workOut_236 : decode b_As_workOut 236 = .ok (.iload 6, 2) := by decide +kernel
theorem d_As_workOut_238 : decode b_As_workOut 238 = .ok (.invokevirtual 70, 3) := by decide +kernel
theorem d_As_workOut_241 : decode b_As_workOut 241 = .ok (.goto 14, 3) := by decide +kernel
theorem d_As_workOut_244 : decode b_As_workOut 244 = .ok (.aload_n 3, 1) := by decide +kernel
theorem d_As_workOut_245 : decode b_As_workOut 245 = .ok (.aload 4, 2) := by decide +kernel
theorem d_As_workOut_247 : decode b_As_workOut 247 = .ok (.iload 6, 2) := by decide +kernel
theorem d_As_workOut_249 : decode b_As_workOut 249 = .ok (.invokevirtual 74, 3) := by decide +kernel
theorem d_As_workOut_252 : decode b_As_workOut 252 = .ok (.goto 3, 3) := by decide +kernel
theorem d_As_workOut_255 : decode b_As_workOut 255 = .ok (.aload_n 3, 1) := by decide +kernel
theorem d_As_workOut_256 : decode b_As_workOut 256 = .ok (.invokevirtual 77, 3) := by decide +kernel
theorem d_As_workOut_259 : decode b_As_workOut 259 = .ok (.return_, 1) := by decide +kernel
abbrev rm_Ja_fill : Room := { frames := 0, cells := 0, slots := 0, locals := 0 }
set_option maxHeartbeats 4000000 in
set_option maxRecDepth 100000 in
theorem c_Ja_fill (l : Launch) (D : va_G) (cI cR cG : ClassId) (q N v : Nat) (G0 : Nat → Nat) (hN : N ≤ 1000) : k_M l y_Ja_fill (.code y_Ja_fill b_Ja_fill 4 none :: kW) rm_Ja_fill D k_cl (k_ty cI cR cG) [.ref q, .int (zI ↑v)] ([(q, .inl (cI, N, .inl (kA G0)))]) (k_Qv D k_cl [(q, .inl (cI, N, .inl (kA (fun _ => v))))]) := by
  refine k_start (cc := b_Ja_fill) (maxL := 4) (ret := none) (by decide) rfl (Nat.le_of_ble_eq_true rfl) ?_
  intro p ev s m ar below meth c A ls Qf hQf hx hb hr hml hts hown hlocks hin hK hG hA hP hD hS hl
  replace hown : s.vm.findClass "java/util/Arrays" = some m.cls := hown
  replace hl : lv_has ls 4 [(0, .ref q), (1, .int (zI ↑v))] := hl
  have hkw : ∀ w ∈ kW, w.before ar s = true := fun w h => hts w (List.mem_cons_of_mem _ h)
  replace hP : va_P D k_cl ([(q, .inl (cI, N, .inl (kA G0)))]) s.heap := hP
  replace hD : va_D A ([(q, .inl (cI, N, .inl (kA G0)))]) := hD
  refine lv_iconst (v := zI 0) hx hb d_Ja_fill_0 (by decide) ?_
  refine lv_istore_n (lv' := [(2, .int (zI 0)), (0, .ref q), (1, .int (zI ↑v))]) hx hb d_Ja_fill_1 rfl hl (by decide) rfl ?_
  clear hl; intro ls hl
  refine lv_aload_n hx hb d_Ja_fill_2 rfl (lv_at hl 1 rfl) ?_
  refine k_alen (v := ↑N) hx hb hK hP 0 0 rfl rfl (by first | rfl | omega) d_Ja_fill_3 ?_
  refine lv_istore_n (lv' := [(3, .int (zI ↑N)), (2, .int (zI 0)), (0, .ref q), (1, .int (zI ↑v))]) hx hb d_Ja_fill_4 rfl hl (by decide) rfl ?_
  clear hl; intro ls hl
  have loop_5 : ∀ (n : Nat) (i : Nat) (F : Nat → Nat), (i + n = N) → (∀ j, j < i → F j = v) → ∀ (H : Heap) (locs : List Loc) (ls : Array Slot), va_P D k_cl ([(q, .inl (cI, N, .inl (kA F)))]) H → va_D A ([(q, .inl (cI, N, .inl (kA F)))]) → va_S A s.heap H locs → lv_has ls 4 [(0, .ref q), (1, .int (zI ↑v)), (2, .int (zI ↑i)), (3, .int (zI ↑N))] → W p l ev rm_Ja_fill s m ar below meth c H locs 0 0 Qf (F0 m 5 ls []) := by
    intro n
    induction n with
    | zero =>
      intro i F hin hgo H locs ls hP hD hS hl
      refine lv_iload_n hx hb d_Ja_fill_5 rfl (lv_at hl 2 rfl) ?_
      refine lv_iload_n hx hb d_Ja_fill_6 rfl (lv_at hl 3 rfl) ?_
      refine k_icmp_ge (tgt := 20) hx hb d_Ja_fill_7 (by decide) ⟨by omega, by omega⟩ ⟨by omega, by omega⟩ (fun c_7 => ?_) (fun c_7 => ?_)
      · rw [← hQf]
        have hP : va_P D k_cl [(q, .inl (cI, N, .inl (kA (fun _ => v))))] H := k_at_mem (fun u hu => by
          have hu := List.mem_singleton.mp hu
          subst hu
          have h0 := hP 0 _ rfl
          show H[q]? = some (vp_cell cI (N, .inl (kA (fun _ => v))))
          rw [k_ext (g := kA F) (fun j hj => by unfold kA; rw [hgo j (by omega)])]
          exact h0)
        exact k_vret hx hb hr hlocks hP hS d_Ja_fill_20
      · exfalso; omega
    | succ n ih_5 =>
      intro i F hin hgo H locs ls hP hD hS hl
      refine lv_iload_n hx hb d_Ja_fill_5 rfl (lv_at hl 2 rfl) ?_
      refine lv_iload_n hx hb d_Ja_fill_6 rfl (lv_at hl 3 rfl) ?_
      refine k_icmp_ge (tgt := 20) hx hb d_Ja_fill_7 (by decide) ⟨by omega, by omega⟩ ⟨by omega, by omega⟩ (fun c_7 => ?_) (fun c_7 => ?_)
      · exfalso; omega
      · refine lv_aload_n hx hb d_Ja_fill_10 rfl (lv_at hl 0 rfl) ?_
        refine lv_iload_n hx hb d_Ja_fill_11 rfl (lv_at hl 2 rfl) ?_
        refine lv_iload_n hx hb d_Ja_fill_12 rfl (lv_at hl 1 rfl) ?_
        refine k_ast hx hb hK hP hD hS 0 0 rfl rfl (i := i) (v := v) (by omega) (by omega) (by omega) (by omega) d_Ja_fill_13 ?_
        clear hP hD hS; intro H locs hP hD hS
        replace hP : va_P D k_cl ([(q, .inl (cI, N, .inl (kA (va_up F i v))))]) H := hP
        replace hD : va_D A ([(q, .inl (cI, N, .inl (kA (va_up F i v))))]) := hD
        refine k_iinc (v := ↑(i + 1)) (lv' := [(2, .int (zI (↑(i + 1)))), (0, .ref q), (1, .int (zI ↑v)), (3, .int (zI ↑N))]) hx hb d_Ja_fill_14 hl (k := 2) rfl (by omega) (by decide) rfl ?_
        clear hl; intro ls hl
        refine lv_goto (tgt := 5) hx hb d_Ja_fill_17 (by decide) ?_
        exact ih_5 (i + 1) (va_up F i v) (by omega) (by intro j hj; unfold va_up; split <;> first | rfl | exact hgo j (by omega)) _ _ _ hP hD hS (lv_sub hl [1, 2, 0, 3] rfl)
  exact loop_5 N 0 G0 (by omega) (by omega) _ _ _ hP hD hS (lv_sub hl [2, 3, 1, 0] rfl)

abbrev rm_Row_empty : Room := { frames := 1, cells := 0, slots := 0, locals := 23 }
set_option maxHeartbeats 4000000 in
set_option maxRecDepth 100000 in
theorem c_Row_empty (l : Launch) (D : va_G) (cI cR cG : ClassId) (h e : Nat) (G0 : Nat → Nat)  : k_M l y_Ro_empty (.code y_Ro_empty b_Ro_empty 1 none :: kW) rm_Row_empty D k_cl (k_ty cI cR cG) [.ref h] ([(h, .inr (2, [.ref e])), (e, .inl (cI, 30, .inl (kA G0)))]) (k_Qv D k_cl [(h, .inr (2, [.ref e])), (e, .inl (cI, 30, .inl (kA e30)))]) := by
  refine k_start (cc := b_Ro_empty) (maxL := 1) (ret := none) (by decide) rfl (Nat.le_of_ble_eq_true rfl) ?_
  intro p ev s m ar below meth c A ls Qf hQf hx hb hr hml hts hown hlocks hin hK hG hA hP hD hS hl
  replace hown : s.vm.findClass R_Ro = some m.cls := hown
  replace hl : lv_has ls 1 [(0, .ref h)] := hl
  have hkw : ∀ w ∈ kW, w.before ar s = true := fun w h => hts w (List.mem_cons_of_mem _ h)
  replace hP : va_P D k_cl ([(h, .inr (2, [.ref e])), (e, .inl (cI, 30, .inl (kA G0)))]) s.heap := hP
  replace hD : va_D A ([(h, .inr (2, [.ref e])), (e, .inl (cI, 30, .inl (kA G0)))]) := hD
  refine lv_aload_n hx hb d_Ro_empty_0 rfl (lv_at hl 0 rfl) ?_
  refine va_get (D := D) (ci := 2) (v := .ref e) (C := R_Ro) (T := T_Ro) (N := 1) hx hb hkw kin_Ro hown hK hP 0 rfl rfl 0 (by decide) (hkw _ kw_fieldLink_Ro_9) (fun _ h9 => h9) rfl d_Ro_empty_1 ?_
  refine lv_bipush (v := zI 30) hx hb d_Ro_empty_4 (by decide) ?_
  refine k_beV (va_runS (As := [.ref e, .int (zI 30)]) (rest := []) ⟨hx, hb, hml, hown, hkw⟩ (c_Ja_fill l D cI cR cG e 30 30 G0 (by decide) _) (va_cwS 2 hkw (k_gS kw_methodLink_Ro_15 kw_static_Arrays_fill kw_initialized_Arrays kw_code_Arrays_fill) rfl rfl rfl (by decide +kernel) ⟨(Nat.le_of_ble_eq_true rfl), (Nat.le_of_ble_eq_true rfl)⟩) (k_preS hK hG hP hD [1] rfl rfl) rfl rfl hl.1 rfl (lv_room (Nat.le_of_ble_eq_true rfl)) d_Ro_empty_6 ⟨Nat.zero_le _, Nat.zero_le _⟩) hP hD hS hA [1] rfl (Eq.trans (b := [e]) rfl rfl) ?_
  clear hP hD hS; intro H locs hP hD hS
  replace hP : va_P D k_cl ([(h, .inr (2, [.ref e])), (e, .inl (cI, 30, .inl (kA (fun _ => 30))))]) H := hP
  replace hD : va_D A ([(h, .inr (2, [.ref e])), (e, .inl (cI, 30, .inl (kA (fun _ => 30))))]) := hD
  rw [← hQf]
  exact k_vret hx hb hr hlocks hP hS d_Ro_empty_9

abbrev rm_As_has : Room := { frames := 0, cells := 0, slots := 0, locals := 0 }
set_option maxHeartbeats 4000000 in
set_option maxRecDepth 100000 in
theorem c_As_has (l : Launch) (D : va_G) (cI cR cG : ClassId) (h qk qf qs qn qr n r : Nat) (x : Int) (hx1 : k_sm x) (hn : n ≤ 30) : k_M l y_As_has (.code y_As_has b_As_has 2 (some .boolean) :: kW) rm_As_has D k_cl (k_ty cI cR cG) [.ref h, .int (zI x)] ([(h, .inr (0, [.ref qk, .ref qf, .ref qs, .ref qn, .ref qr, .int (zI ↑n), .int (zI ↑r)]))]) (k_Qi D k_cl (k_b (0 ≤ x ∧ x < ↑n)) [(h, .inr (0, [.ref qk, .ref qf, .ref qs, .ref qn, .ref qr, .int (zI ↑n), .int (zI ↑r)]))]) := by
  refine k_start (cc := b_As_has) (maxL := 2) (ret := (some .boolean)) (by decide) rfl (Nat.le_of_ble_eq_true rfl) ?_
  intro p ev s m ar below meth c A ls Qf hQf hx hb hr hml hts hown hlocks hin hK hG hA hP hD hS hl
  replace hown : s.vm.findClass R_As = some m.cls := hown
  replace hl : lv_has ls 2 [(0, .ref h), (1, .int (zI x))] := hl
  have hkw : ∀ w ∈ kW, w.before ar s = true := fun w h => hts w (List.mem_cons_of_mem _ h)
  replace hP : va_P D k_cl ([(h, .inr (0, [.ref qk, .ref qf, .ref qs, .ref qn, .ref qr, .int (zI ↑n), .int (zI ↑r)]))]) s.heap := hP
  replace hD : va_D A ([(h, .inr (0, [.ref qk, .ref qf, .ref qs, .ref qn, .ref qr, .int (zI ↑n), .int (zI ↑r)]))]) := hD
  have hx2 := hx1.1
  have hx3 := hx1.2
  refine lv_iload_n hx hb d_As_has_0 rfl (lv_at hl 1 rfl) ?_
  refine k_if_lt (tgt := 16) hx hb d_As_has_1 (by decide) ⟨by omega, by omega⟩ (fun c_1 => ?_) (fun c_1 => ?_)
  · refine lv_iconst (v := zI 0) hx hb d_As_has_16 (by decide) ?_
    rw [← hQf]
    exact k_zret hx hb hr hlocks hP hS (k_bf (by omega)).symm d_As_has_17
  · refine lv_iload_n hx hb d_As_has_4 rfl (lv_at hl 1 rfl) ?_
    refine lv_aload_n hx hb d_As_has_5 rfl (lv_at hl 0 rfl) ?_
    refine va_get (D := D) (ci := 0) (v := .int (zI ↑n)) (C := R_As) (T := T_As) (N := 7) hx hb hkw kin_As hown hK hP 0 rfl rfl 5 (by decide) (hkw _ kw_fieldLink_As_31) (fun _ h9 => h9) rfl d_As_has_6 ?_
    refine k_icmp_ge (tgt := 16) hx hb d_As_has_9 (by decide) ⟨by omega, by omega⟩ ⟨by omega, by omega⟩ (fun c_9 => ?_) (fun c_9 => ?_)
    · refine lv_iconst (v := zI 0) hx hb d_As_has_16 (by decide) ?_
      rw [← hQf]
      exact k_zret hx hb hr hlocks hP hS (k_bf (by omega)).symm d_As_has_17
    · refine lv_iconst (v := zI 1) hx hb d_As_has_12 (by decide) ?_
      refine lv_goto (tgt := 17) hx hb d_As_has_13 (by decide) ?_
      rw [← hQf]
      exact k_zret hx hb hr hlocks hP hS (k_bt (by omega)).symm d_As_has_17

abbrev rm_As_append : Room := { frames := 0, cells := 0, slots := 0, locals := 0 }
set_option maxHeartbeats 4000000 in
set_option maxRecDepth 100000 in
theorem c_As_append (l : Launch) (D : va_G) (cI cR cG : ClassId) (h qk qf qs qn qr n r : Nat) (K fi se nu : Nat → Nat) (a b d f : Nat) (hn : n < 30) : k_M l y_As_append (.code y_As_append b_As_append 5 (some .int) :: kW) rm_As_append D k_cl (k_ty cI cR cG) [.ref h, .int (zI ↑a), .int (zI ↑b), .int (zI ↑d), .int (zI ↑f)] ([(h, .inr (0, [.ref qk, .ref qf, .ref qs, .ref qn, .ref qr, .int (zI ↑n), .int (zI ↑r)])), (qk, .inl (cI, 30, .inl (kA K))), (qf, .inl (cI, 30, .inl (kA fi))), (qs, .inl (cI, 30, .inl (kA se))), (qn, .inl (cI, 30, .inl (kA nu)))]) (k_Qi D k_cl (zI ↑n) [(h, .inr (0, [.ref qk, .ref qf, .ref qs, .ref qn, .ref qr, .int (zI (↑(n + 1))), .int (zI ↑r)])), (qk, .inl (cI, 30, .inl (kA (va_up K n a)))), (qf, .inl (cI, 30, .inl (kA (va_up fi n b)))), (qs, .inl (cI, 30, .inl (kA (va_up se n d)))), (qn, .inl (cI, 30, .inl (kA (va_up nu n f))))]) := by
  refine k_start (cc := b_As_append) (maxL := 5) (ret := (some .int)) (by decide) rfl (Nat.le_of_ble_eq_true rfl) ?_
  intro p ev s m ar below meth c A ls Qf hQf hx hb hr hml hts hown hlocks hin hK hG hA hP hD hS hl
  replace hown : s.vm.findClass R_As = some m.cls := hown
  replace hl : lv_has ls 5 [(0, .ref h), (1, .int (zI ↑a)), (2, .int (zI ↑b)), (3, .int (zI ↑d)), (4, .int (zI ↑f))] := hl
  have hkw : ∀ w ∈ kW, w.before ar s = true := fun w h => hts w (List.mem_cons_of_mem _ h)
  replace hP : va_P D k_cl ([(h, .inr (0, [.ref qk, .ref qf, .ref qs, .ref qn, .ref qr, .int (zI ↑n), .int (zI ↑r)])), (qk, .inl (cI, 30, .inl (kA K))), (qf, .inl (cI, 30, .inl (kA fi))), (qs, .inl (cI, 30, .inl (kA se))), (qn, .inl (cI, 30, .inl (kA nu)))]) s.heap := hP
  replace hD : va_D A ([(h, .inr (0, [.ref qk, .ref qf, .ref qs, .ref qn, .ref qr, .int (zI ↑n), .int (zI ↑r)])), (qk, .inl (cI, 30, .inl (kA K))), (qf, .inl (cI, 30, .inl (kA fi))), (qs, .inl (cI, 30, .inl (kA se))), (qn, .inl (cI, 30, .inl (kA nu)))]) := hD
  refine lv_aload_n hx hb d_As_append_0 rfl (lv_at hl 0 rfl) ?_
  refine va_get (D := D) (ci := 0) (v := .int (zI ↑n)) (C := R_As) (T := T_As) (N := 7) hx hb hkw kin_As hown hK hP 0 rfl rfl 5 (by decide) (hkw _ kw_fieldLink_As_31) (fun _ h9 => h9) rfl d_As_append_1 ?_
  refine lv_bipush (v := zI 30) hx hb d_As_append_4 (by decide) ?_
  refine k_icmp_lt (tgt := 12) hx hb d_As_append_6 (by decide) ⟨by omega, by omega⟩ ⟨by omega, by omega⟩ (fun c_6 => ?_) (fun c_6 => ?_)
  · refine lv_aload_n hx hb d_As_append_12 rfl (lv_at hl 0 rfl) ?_
    refine va_get (D := D) (ci := 0) (v := .ref qk) (C := R_As) (T := T_As) (N := 7) hx hb hkw kin_As hown hK hP 0 rfl rfl 0 (by decide) (hkw _ kw_fieldLink_As_9) (fun _ h9 => h9) rfl d_As_append_13 ?_
    refine lv_aload_n hx hb d_As_append_16 rfl (lv_at hl 0 rfl) ?_
    refine va_get (D := D) (ci := 0) (v := .int (zI ↑n)) (C := R_As) (T := T_As) (N := 7) hx hb hkw kin_As hown hK hP 0 rfl rfl 5 (by decide) (hkw _ kw_fieldLink_As_31) (fun _ h9 => h9) rfl d_As_append_17 ?_
    refine lv_iload_n hx hb d_As_append_20 rfl (lv_at hl 1 rfl) ?_
    refine k_ast hx hb hK hP hD hS 1 0 rfl rfl (i := n) (v := a) (by omega) (by omega) (by omega) (by omega) d_As_append_21 ?_
    clear hP hD hS; intro H locs hP hD hS
    replace hP : va_P D k_cl ([(h, .inr (0, [.ref qk, .ref qf, .ref qs, .ref qn, .ref qr, .int (zI ↑n), .int (zI ↑r)])), (qk, .inl (cI, 30, .inl (kA (va_up K n a)))), (qf, .inl (cI, 30, .inl (kA fi))), (qs, .inl (cI, 30, .inl (kA se))), (qn, .inl (cI, 30, .inl (kA nu)))]) H := hP
    replace hD : va_D A ([(h, .inr (0, [.ref qk, .ref qf, .ref qs, .ref qn, .ref qr, .int (zI ↑n), .int (zI ↑r)])), (qk, .inl (cI, 30, .inl (kA (va_up K n a)))), (qf, .inl (cI, 30, .inl (kA fi))), (qs, .inl (cI, 30, .inl (kA se))), (qn, .inl (cI, 30, .inl (kA nu)))]) := hD
    refine lv_aload_n hx hb d_As_append_22 rfl (lv_at hl 0 rfl) ?_
    refine va_get (D := D) (ci := 0) (v := .ref qf) (C := R_As) (T := T_As) (N := 7) hx hb hkw kin_As hown hK hP 0 rfl rfl 1 (by decide) (hkw _ kw_fieldLink_As_15) (fun _ h9 => h9) rfl d_As_append_23 ?_
    refine lv_aload_n hx hb d_As_append_26 rfl (lv_at hl 0 rfl) ?_
    refine va_get (D := D) (ci := 0) (v := .int (zI ↑n)) (C := R_As) (T := T_As) (N := 7) hx hb hkw kin_As hown hK hP 0 rfl rfl 5 (by decide) (hkw _ kw_fieldLink_As_31) (fun _ h9 => h9) rfl d_As_append_27 ?_
    refine lv_iload_n hx hb d_As_append_30 rfl (lv_at hl 2 rfl) ?_
    refine k_ast hx hb hK hP hD hS 2 0 rfl rfl (i := n) (v := b) (by omega) (by omega) (by omega) (by omega) d_As_append_31 ?_
    clear hP hD hS; intro H locs hP hD hS
    replace hP : va_P D k_cl ([(h, .inr (0, [.ref qk, .ref qf, .ref qs, .ref qn, .ref qr, .int (zI ↑n), .int (zI ↑r)])), (qk, .inl (cI, 30, .inl (kA (va_up K n a)))), (qf, .inl (cI, 30, .inl (kA (va_up fi n b)))), (qs, .inl (cI, 30, .inl (kA se))), (qn, .inl (cI, 30, .inl (kA nu)))]) H := hP
    replace hD : va_D A ([(h, .inr (0, [.ref qk, .ref qf, .ref qs, .ref qn, .ref qr, .int (zI ↑n), .int (zI ↑r)])), (qk, .inl (cI, 30, .inl (kA (va_up K n a)))), (qf, .inl (cI, 30, .inl (kA (va_up fi n b)))), (qs, .inl (cI, 30, .inl (kA se))), (qn, .inl (cI, 30, .inl (kA nu)))]) := hD
    refine lv_aload_n hx hb d_As_append_32 rfl (lv_at hl 0 rfl) ?_
    refine va_get (D := D) (ci := 0) (v := .ref qs) (C := R_As) (T := T_As) (N := 7) hx hb hkw kin_As hown hK hP 0 rfl rfl 2 (by decide) (hkw _ kw_fieldLink_As_18) (fun _ h9 => h9) rfl d_As_append_33 ?_
    refine lv_aload_n hx hb d_As_append_36 rfl (lv_at hl 0 rfl) ?_
    refine va_get (D := D) (ci := 0) (v := .int (zI ↑n)) (C := R_As) (T := T_As) (N := 7) hx hb hkw kin_As hown hK hP 0 rfl rfl 5 (by decide) (hkw _ kw_fieldLink_As_31) (fun _ h9 => h9) rfl d_As_append_37 ?_
    refine lv_iload_n hx hb d_As_append_40 rfl (lv_at hl 3 rfl) ?_
    refine k_ast hx hb hK hP hD hS 3 0 rfl rfl (i := n) (v := d) (by omega) (by omega) (by omega) (by omega) d_As_append_41 ?_
    clear hP hD hS; intro H locs hP hD hS
    replace hP : va_P D k_cl ([(h, .inr (0, [.ref qk, .ref qf, .ref qs, .ref qn, .ref qr, .int (zI ↑n), .int (zI ↑r)])), (qk, .inl (cI, 30, .inl (kA (va_up K n a)))), (qf, .inl (cI, 30, .inl (kA (va_up fi n b)))), (qs, .inl (cI, 30, .inl (kA (va_up se n d)))), (qn, .inl (cI, 30, .inl (kA nu)))]) H := hP
    replace hD : va_D A ([(h, .inr (0, [.ref qk, .ref qf, .ref qs, .ref qn, .ref qr, .int (zI ↑n), .int (zI ↑r)])), (qk, .inl (cI, 30, .inl (kA (va_up K n a)))), (qf, .inl (cI, 30, .inl (kA (va_up fi n b)))), (qs, .inl (cI, 30, .inl (kA (va_up se n d)))), (qn, .inl (cI, 30, .inl (kA nu)))]) := hD
    refine lv_aload_n hx hb d_As_append_42 rfl (lv_at hl 0 rfl) ?_
    refine va_get (D := D) (ci := 0) (v := .ref qn) (C := R_As) (T := T_As) (N := 7) hx hb hkw kin_As hown hK hP 0 rfl rfl 3 (by decide) (hkw _ kw_fieldLink_As_21) (fun _ h9 => h9) rfl d_As_append_43 ?_
    refine lv_aload_n hx hb d_As_append_46 rfl (lv_at hl 0 rfl) ?_
    refine va_get (D := D) (ci := 0) (v := .int (zI ↑n)) (C := R_As) (T := T_As) (N := 7) hx hb hkw kin_As hown hK hP 0 rfl rfl 5 (by decide) (hkw _ kw_fieldLink_As_31) (fun _ h9 => h9) rfl d_As_append_47 ?_
    refine lv_iload hx hb d_As_append_50 (lv_at hl 4 rfl) ?_
    refine k_ast hx hb hK hP hD hS 4 0 rfl rfl (i := n) (v := f) (by omega) (by omega) (by omega) (by omega) d_As_append_52 ?_
    clear hP hD hS; intro H locs hP hD hS
    replace hP : va_P D k_cl ([(h, .inr (0, [.ref qk, .ref qf, .ref qs, .ref qn, .ref qr, .int (zI ↑n), .int (zI ↑r)])), (qk, .inl (cI, 30, .inl (kA (va_up K n a)))), (qf, .inl (cI, 30, .inl (kA (va_up fi n b)))), (qs, .inl (cI, 30, .inl (kA (va_up se n d)))), (qn, .inl (cI, 30, .inl (kA (va_up nu n f))))]) H := hP
    replace hD : va_D A ([(h, .inr (0, [.ref qk, .ref qf, .ref qs, .ref qn, .ref qr, .int (zI ↑n), .int (zI ↑r)])), (qk, .inl (cI, 30, .inl (kA (va_up K n a)))), (qf, .inl (cI, 30, .inl (kA (va_up fi n b)))), (qs, .inl (cI, 30, .inl (kA (va_up se n d)))), (qn, .inl (cI, 30, .inl (kA (va_up nu n f))))]) := hD
    refine lv_aload_n hx hb d_As_append_53 rfl (lv_at hl 0 rfl) ?_
    refine lv_dup hx hb d_As_append_54 rfl ?_
    refine va_get (D := D) (ci := 0) (v := .int (zI ↑n)) (C := R_As) (T := T_As) (N := 7) hx hb hkw kin_As hown hK hP 0 rfl rfl 5 (by decide) (hkw _ kw_fieldLink_As_31) (fun _ h9 => h9) rfl d_As_append_55 ?_
    refine lv_iconst (v := zI 1) hx hb d_As_append_58 (by decide) ?_
    refine k_iadd (v := ↑(n + 1)) hx hb d_As_append_59 (by omega) ?_
    refine va_put (D := D) (ci := 0) (v := .int (zI (↑(n + 1)))) (ty := .int) (C := R_As) (T := T_As) (N := 7) hx hb hkw kin_As ty_As ty_As_ok nm_As hown hK hP hD hS 0 rfl rfl 5 (by decide) (hkw _ kw_fieldLink_As_31) (fun _ h9 => h9) rfl (by decide +kernel) rfl rfl (Nat.le_of_ble_eq_true rfl) d_As_append_60 ?_
    clear hP hD hS; intro H locs hP hD hS
    replace hP : va_P D k_cl ([(h, .inr (0, [.ref qk, .ref qf, .ref qs, .ref qn, .ref qr, .int (zI (↑(n + 1))), .int (zI ↑r)])), (qk, .inl (cI, 30, .inl (kA (va_up K n a)))), (qf, .inl (cI, 30, .inl (kA (va_up fi n b)))), (qs, .inl (cI, 30, .inl (kA (va_up se n d)))), (qn, .inl (cI, 30, .inl (kA (va_up nu n f))))]) H := hP
    replace hD : va_D A ([(h, .inr (0, [.ref qk, .ref qf, .ref qs, .ref qn, .ref qr, .int (zI (↑(n + 1))), .int (zI ↑r)])), (qk, .inl (cI, 30, .inl (kA (va_up K n a)))), (qf, .inl (cI, 30, .inl (kA (va_up fi n b)))), (qs, .inl (cI, 30, .inl (kA (va_up se n d)))), (qn, .inl (cI, 30, .inl (kA (va_up nu n f))))]) := hD
    refine lv_aload_n hx hb d_As_append_63 rfl (lv_at hl 0 rfl) ?_
    refine va_get (D := D) (ci := 0) (v := .int (zI (↑(n + 1)))) (C := R_As) (T := T_As) (N := 7) hx hb hkw kin_As hown hK hP 0 rfl rfl 5 (by decide) (hkw _ kw_fieldLink_As_31) (fun _ h9 => h9) rfl d_As_append_64 ?_
    refine lv_iconst (v := zI 1) hx hb d_As_append_67 (by decide) ?_
    refine k_isub (v := ↑n) hx hb d_As_append_68 (by omega) ?_
    rw [← hQf]
    exact k_iret hx hb hr hlocks hP hS rfl d_As_append_69
  · exfalso; omega

abbrev rm_As_append_full : Room := { frames := 0, cells := 0, slots := 0, locals := 0 }
set_option maxHeartbeats 4000000 in
set_option maxRecDepth 100000 in
theorem c_As_append_full (l : Launch) (D : va_G) (cI cR cG : ClassId) (h qk qf qs qn qr n r : Nat) (a b d f : Int) (hn : n = 30) : k_M l y_As_append (.code y_As_append b_As_append 5 (some .int) :: kW) rm_As_append_full D k_cl (k_ty cI cR cG) [.ref h, .int (zI a), .int (zI b), .int (zI d), .int (zI f)] ([(h, .inr (0, [.ref qk, .ref qf, .ref qs, .ref qn, .ref qr, .int (zI ↑n), .int (zI ↑r)]))]) (k_Qi D k_cl (zI (-4)) [(h, .inr (0, [.ref qk, .ref qf, .ref qs, .ref qn, .ref qr, .int (zI ↑n), .int (zI ↑r)]))]) := by
  refine k_start (cc := b_As_append) (maxL := 5) (ret := (some .int)) (by decide) rfl (Nat.le_of_ble_eq_true rfl) ?_
  intro p ev s m ar below meth c A ls Qf hQf hx hb hr hml hts hown hlocks hin hK hG hA hP hD hS hl
  replace hown : s.vm.findClass R_As = some m.cls := hown
  replace hl : lv_has ls 5 [(0, .ref h), (1, .int (zI a)), (2, .int (zI b)), (3, .int (zI d)), (4, .int (zI f))] := hl
  have hkw : ∀ w ∈ kW, w.before ar s = true := fun w h => hts w (List.mem_cons_of_mem _ h)
  replace hP : va_P D k_cl ([(h, .inr (0, [.ref qk, .ref qf, .ref qs, .ref qn, .ref qr, .int (zI ↑n), .int (zI ↑r)]))]) s.heap := hP
  replace hD : va_D A ([(h, .inr (0, [.ref qk, .ref qf, .ref qs, .ref qn, .ref qr, .int (zI ↑n), .int (zI ↑r)]))]) := hD
  refine lv_aload_n hx hb d_As_append_0 rfl (lv_at hl 0 rfl) ?_
  refine va_get (D := D) (ci := 0) (v := .int (zI ↑n)) (C := R_As) (T := T_As) (N := 7) hx hb hkw kin_As hown hK hP 0 rfl rfl 5 (by decide) (hkw _ kw_fieldLink_As_31) (fun _ h9 => h9) rfl d_As_append_1 ?_
  refine lv_bipush (v := zI 30) hx hb d_As_append_4 (by decide) ?_
  refine k_icmp_lt (tgt := 12) hx hb d_As_append_6 (by decide) ⟨by omega, by omega⟩ ⟨by omega, by omega⟩ (fun c_6 => ?_) (fun c_6 => ?_)
  · exfalso; omega
  · refine lv_bipush (v := zI (-4)) hx hb d_As_append_9 (by decide) ?_
    rw [← hQf]
    exact k_iret hx hb hr hlocks hP hS rfl d_As_append_11

abbrev rm_As_dropAll : Room := { frames := 0, cells := 0, slots := 0, locals := 0 }
set_option maxHeartbeats 4000000 in
set_option maxRecDepth 100000 in
theorem c_As_dropAll (l : Launch) (D : va_G) (cI cR cG : ClassId) (h qk qf qs qn qr n r : Nat)  : k_M l y_As_dropAll (.code y_As_dropAll b_As_dropAll 2 (some .int) :: kW) rm_As_dropAll D k_cl (k_ty cI cR cG) [.ref h] ([(h, .inr (0, [.ref qk, .ref qf, .ref qs, .ref qn, .ref qr, .int (zI ↑n), .int (zI ↑r)]))]) (k_Qi D k_cl (zI ↑n) [(h, .inr (0, [.ref qk, .ref qf, .ref qs, .ref qn, .ref qr, .int (zI 0), .int (zI 0)]))]) := by
  refine k_start (cc := b_As_dropAll) (maxL := 2) (ret := (some .int)) (by decide) rfl (Nat.le_of_ble_eq_true rfl) ?_
  intro p ev s m ar below meth c A ls Qf hQf hx hb hr hml hts hown hlocks hin hK hG hA hP hD hS hl
  replace hown : s.vm.findClass R_As = some m.cls := hown
  replace hl : lv_has ls 2 [(0, .ref h)] := hl
  have hkw : ∀ w ∈ kW, w.before ar s = true := fun w h => hts w (List.mem_cons_of_mem _ h)
  replace hP : va_P D k_cl ([(h, .inr (0, [.ref qk, .ref qf, .ref qs, .ref qn, .ref qr, .int (zI ↑n), .int (zI ↑r)]))]) s.heap := hP
  replace hD : va_D A ([(h, .inr (0, [.ref qk, .ref qf, .ref qs, .ref qn, .ref qr, .int (zI ↑n), .int (zI ↑r)]))]) := hD
  refine lv_aload_n hx hb d_As_dropAll_0 rfl (lv_at hl 0 rfl) ?_
  refine va_get (D := D) (ci := 0) (v := .int (zI ↑n)) (C := R_As) (T := T_As) (N := 7) hx hb hkw kin_As hown hK hP 0 rfl rfl 5 (by decide) (hkw _ kw_fieldLink_As_31) (fun _ h9 => h9) rfl d_As_dropAll_1 ?_
  refine lv_istore_n (lv' := [(1, .int (zI ↑n)), (0, .ref h)]) hx hb d_As_dropAll_4 rfl hl (by decide) rfl ?_
  clear hl; intro ls hl
  refine lv_aload_n hx hb d_As_dropAll_5 rfl (lv_at hl 1 rfl) ?_
  refine lv_iconst (v := zI 0) hx hb d_As_dropAll_6 (by decide) ?_
  refine va_put (D := D) (ci := 0) (v := .int (zI 0)) (ty := .int) (C := R_As) (T := T_As) (N := 7) hx hb hkw kin_As ty_As ty_As_ok nm_As hown hK hP hD hS 0 rfl rfl 5 (by decide) (hkw _ kw_fieldLink_As_31) (fun _ h9 => h9) rfl (by decide +kernel) rfl rfl (Nat.le_of_ble_eq_true rfl) d_As_dropAll_7 ?_
  clear hP hD hS; intro H locs hP hD hS
  replace hP : va_P D k_cl ([(h, .inr (0, [.ref qk, .ref qf, .ref qs, .ref qn, .ref qr, .int (zI 0), .int (zI ↑r)]))]) H := hP
  replace hD : va_D A ([(h, .inr (0, [.ref qk, .ref qf, .ref qs, .ref qn, .ref qr, .int (zI 0), .int (zI ↑r)]))]) := hD
  refine lv_aload_n hx hb d_As_dropAll_10 rfl (lv_at hl 1 rfl) ?_
  refine lv_iconst (v := zI 0) hx hb d_As_dropAll_11 (by decide) ?_
  refine va_put (D := D) (ci := 0) (v := .int (zI 0)) (ty := .int) (C := R_As) (T := T_As) (N := 7) hx hb hkw kin_As ty_As ty_As_ok nm_As hown hK hP hD hS 0 rfl rfl 6 (by decide) (hkw _ kw_fieldLink_As_35) (fun _ h9 => h9) rfl (by decide +kernel) rfl rfl (Nat.le_of_ble_eq_true rfl) d_As_dropAll_12 ?_
  clear hP hD hS; intro H locs hP hD hS
  replace hP : va_P D k_cl ([(h, .inr (0, [.ref qk, .ref qf, .ref qs, .ref qn, .ref qr, .int (zI 0), .int (zI 0)]))]) H := hP
  replace hD : va_D A ([(h, .inr (0, [.ref qk, .ref qf, .ref qs, .ref qn, .ref qr, .int (zI 0), .int (zI 0)]))]) := hD
  refine lv_iload_n hx hb d_As_dropAll_15 rfl (lv_at hl 0 rfl) ?_
  rw [← hQf]
  exact k_iret hx hb hr hlocks hP hS rfl d_As_dropAll_16

abbrev rm_As_outdate : Room := { frames := 0, cells := 0, slots := 0, locals := 0 }
set_option maxHeartbeats 4000000 in
set_option maxRecDepth 100000 in
theorem c_As_outdate (l : Launch) (D : va_G) (cI cR cG : ClassId) (h qk qf qs qn qr n r : Nat)  : k_M l y_As_outdate (.code y_As_outdate b_As_outdate 1 none :: kW) rm_As_outdate D k_cl (k_ty cI cR cG) [.ref h] ([(h, .inr (0, [.ref qk, .ref qf, .ref qs, .ref qn, .ref qr, .int (zI ↑n), .int (zI ↑r)]))]) (k_Qv D k_cl [(h, .inr (0, [.ref qk, .ref qf, .ref qs, .ref qn, .ref qr, .int (zI ↑n), .int (zI 0)]))]) := by
  refine k_start (cc := b_As_outdate) (maxL := 1) (ret := none) (by decide) rfl (Nat.le_of_ble_eq_true rfl) ?_
  intro p ev s m ar below meth c A ls Qf hQf hx hb hr hml hts hown hlocks hin hK hG hA hP hD hS hl
  replace hown : s.vm.findClass R_As = some m.cls := hown
  replace hl : lv_has ls 1 [(0, .ref h)] := hl
  have hkw : ∀ w ∈ kW, w.before ar s = true := fun w h => hts w (List.mem_cons_of_mem _ h)
  replace hP : va_P D k_cl ([(h, .inr (0, [.ref qk, .ref qf, .ref qs, .ref qn, .ref qr, .int (zI ↑n), .int (zI ↑r)]))]) s.heap := hP
  replace hD : va_D A ([(h, .inr (0, [.ref qk, .ref qf, .ref qs, .ref qn, .ref qr, .int (zI ↑n), .int (zI ↑r)]))]) := hD
  refine lv_aload_n hx hb d_As_outdate_0 rfl (lv_at hl 0 rfl) ?_
  refine lv_iconst (v := zI 0) hx hb d_As_outdate_1 (by decide) ?_
  refine va_put (D := D) (ci := 0) (v := .int (zI 0)) (ty := .int) (C := R_As) (T := T_As) (N := 7) hx hb hkw kin_As ty_As ty_As_ok nm_As hown hK hP hD hS 0 rfl rfl 6 (by decide) (hkw _ kw_fieldLink_As_35) (fun _ h9 => h9) rfl (by decide +kernel) rfl rfl (Nat.le_of_ble_eq_true rfl) d_As_outdate_2 ?_
  clear hP hD hS; intro H locs hP hD hS
  replace hP : va_P D k_cl ([(h, .inr (0, [.ref qk, .ref qf, .ref qs, .ref qn, .ref qr, .int (zI ↑n), .int (zI 0)]))]) H := hP
  replace hD : va_D A ([(h, .inr (0, [.ref qk, .ref qf, .ref qs, .ref qn, .ref qr, .int (zI ↑n), .int (zI 0)]))]) := hD
  rw [← hQf]
  exact k_vret hx hb hr hlocks hP hS d_As_outdate_5

abbrev rm_As_workOut0 : Room := { frames := 3, cells := 0, slots := 0, locals := 65 }
set_option maxHeartbeats 4000000 in
set_option maxRecDepth 100000 in
theorem c_As_workOut0 (l : Launch) (D : va_G) (cI cR cG : ClassId) (h qk qf qs qn qr n r q tx : Nat) (ro en K fi se nu t G : Nat → Nat) (hq : q < 30) (hfi : fi q = q) (hse : se q = q) (hkd : K q = 0) (hnu : nu q ≤ 30) (hn0 : K q = 0 → nu q < 10) (ht : ∀ j, t j ≤ 1023) (hG0 : ∀ j, G j ≤ 30) : k_M l y_As_workOut (.code y_As_workOut b_As_workOut 7 none :: kW) rm_As_workOut0 D k_cl (k_ty cI cR cG) [.ref h, .int (zI ↑q), .ref tx] ([(h, .inr (0, [.ref qk, .ref qf, .ref qs, .ref qn, .ref qr, .int (zI ↑n), .int (zI ↑r)])), (qk, .inl (cI, 30, .inl (kA K))), (qf, .inl (cI, 30, .inl (kA fi))), (qs, .inl (cI, 30, .inl (kA se))), (qn, .inl (cI, 30, .inl (kA nu))), (qr, .inl (cR, 30, .inr (.inr (.inr (.inr (fun i => some (ro i))))))), (tx, .inl (cI, 30, .inl (kA t))), (ro q, .inr (2, [.ref (en q)])), (en q, .inl (cI, 30, .inl (kA G)))]) (k_Qv D k_cl [(h, .inr (0, [.ref qk, .ref qf, .ref qs, .ref qn, .ref qr, .int (zI ↑n), .int (zI ↑r)])), (qk, .inl (cI, 30, .inl (kA K))), (qf, .inl (cI, 30, .inl (kA fi))), (qs, .inl (cI, 30, .inl (kA se))), (qn, .inl (cI, 30, .inl (kA nu))), (qr, .inl (cR, 30, .inr (.inr (.inr (.inr (fun i => some (ro i))))))), (tx, .inl (cI, 30, .inl (kA t))), (ro q, .inr (2, [.ref (en q)])), (en q, .inl (cI, 30, .inl (kA (rowVal t (K q) (nu q) G G))))]) := by
  refine k_start (cc := b_As_workOut) (maxL := 7) (ret := none) (by decide) rfl (Nat.le_of_ble_eq_true rfl) ?_
  intro p ev s m ar below meth c A ls Qf hQf hx hb hr hml hts hown hlocks hin hK hG hA hP hD hS hl
  replace hown : s.vm.findClass R_As = some m.cls := hown
  replace hl : lv_has ls 7 [(0, .ref h), (1, .int (zI ↑q)), (2, .ref tx)] := hl
  have hkw : ∀ w ∈ kW, w.before ar s = true := fun w h => hts w (List.mem_cons_of_mem _ h)
  replace hP : va_P D k_cl ([(h, .inr (0, [.ref qk, .ref qf, .ref qs, .ref qn, .ref qr, .int (zI ↑n), .int (zI ↑r)])), (qk, .inl (cI, 30, .inl (kA K))), (qf, .inl (cI, 30, .inl (kA fi))), (qs, .inl (cI, 30, .inl (kA se))), (qn, .inl (cI, 30, .inl (kA nu))), (qr, .inl (cR, 30, .inr (.inr (.inr (.inr (fun i => some (ro i))))))), (tx, .inl (cI, 30, .inl (kA t))), (ro q, .inr (2, [.ref (en q)])), (en q, .inl (cI, 30, .inl (kA G)))]) s.heap := hP
  replace hD : va_D A ([(h, .inr (0, [.ref qk, .ref qf, .ref qs, .ref qn, .ref qr, .int (zI ↑n), .int (zI ↑r)])), (qk, .inl (cI, 30, .inl (kA K))), (qf, .inl (cI, 30, .inl (kA fi))), (qs, .inl (cI, 30, .inl (kA se))), (qn, .inl (cI, 30, .inl (kA nu))), (qr, .inl (cR, 30, .inr (.inr (.inr (.inr (fun i => some (ro i))))))), (tx, .inl (cI, 30, .inl (kA t))), (ro q, .inr (2, [.ref (en q)])), (en q, .inl (cI, 30, .inl (kA G)))]) := hD
  refine lv_aload_n hx hb d_As_workOut_0 rfl (lv_at hl 0 rfl) ?_
  refine va_get (D := D) (ci := 0) (v := .ref qr) (C := R_As) (T := T_As) (N := 7) hx hb hkw kin_As hown hK hP 0 rfl rfl 4 (by decide) (hkw _ kw_fieldLink_As_26) (fun _ h9 => h9) rfl d_As_workOut_1 ?_
  refine lv_iload_n hx hb d_As_workOut_4 rfl (lv_at hl 1 rfl) ?_
  refine k_aald hx hb hK hP 5 1 rfl rfl (i := q) (by omega) (by omega) (by omega) d_As_workOut_5 ?_
  refine lv_astore_n (lv' := [(3, .ref (ro q)), (0, .ref h), (1, .int (zI ↑q)), (2, .ref tx)]) hx hb d_As_workOut_6 rfl hl (by decide) rfl ?_
  clear hl; intro ls hl
  refine lv_aload_n hx hb d_As_workOut_7 rfl (lv_at hl 1 rfl) ?_
  refine va_get (D := D) (ci := 0) (v := .ref qr) (C := R_As) (T := T_As) (N := 7) hx hb hkw kin_As hown hK hP 0 rfl rfl 4 (by decide) (hkw _ kw_fieldLink_As_26) (fun _ h9 => h9) rfl d_As_workOut_8 ?_
  refine lv_aload_n hx hb d_As_workOut_11 rfl (lv_at hl 1 rfl) ?_
  refine va_get (D := D) (ci := 0) (v := .ref qf) (C := R_As) (T := T_As) (N := 7) hx hb hkw kin_As hown hK hP 0 rfl rfl 1 (by decide) (hkw _ kw_fieldLink_As_15) (fun _ h9 => h9) rfl d_As_workOut_12 ?_
  refine lv_iload_n hx hb d_As_workOut_15 rfl (lv_at hl 2 rfl) ?_
  refine k_ald hx hb hK hP 2 0 rfl rfl (i := q) (by omega) (by omega) (by omega) d_As_workOut_16 ?_
  refine k_aald hx hb hK hP 5 1 rfl rfl (i := q) (by omega) (by omega) (by omega) d_As_workOut_17 ?_
  refine lv_astore (lv' := [(4, .ref (ro q)), (3, .ref (ro q)), (0, .ref h), (1, .int (zI ↑q)), (2, .ref tx)]) hx hb d_As_workOut_18 hl (by decide) rfl ?_
  clear hl; intro ls hl
  refine lv_aload_n hx hb d_As_workOut_20 rfl (lv_at hl 2 rfl) ?_
  refine va_get (D := D) (ci := 0) (v := .ref qr) (C := R_As) (T := T_As) (N := 7) hx hb hkw kin_As hown hK hP 0 rfl rfl 4 (by decide) (hkw _ kw_fieldLink_As_26) (fun _ h9 => h9) rfl d_As_workOut_21 ?_
  refine lv_aload_n hx hb d_As_workOut_24 rfl (lv_at hl 2 rfl) ?_
  refine va_get (D := D) (ci := 0) (v := .ref qs) (C := R_As) (T := T_As) (N := 7) hx hb hkw kin_As hown hK hP 0 rfl rfl 2 (by decide) (hkw _ kw_fieldLink_As_18) (fun _ h9 => h9) rfl d_As_workOut_25 ?_
  refine lv_iload_n hx hb d_As_workOut_28 rfl (lv_at hl 3 rfl) ?_
  refine k_ald hx hb hK hP 3 0 rfl rfl (i := q) (by omega) (by omega) (by omega) d_As_workOut_29 ?_
  refine k_aald hx hb hK hP 5 1 rfl rfl (i := q) (by omega) (by omega) (by omega) d_As_workOut_30 ?_
  refine lv_astore (lv' := [(5, .ref (ro q)), (4, .ref (ro q)), (3, .ref (ro q)), (0, .ref h), (1, .int (zI ↑q)), (2, .ref tx)]) hx hb d_As_workOut_31 hl (by decide) rfl ?_
  clear hl; intro ls hl
  refine lv_aload_n hx hb d_As_workOut_33 rfl (lv_at hl 3 rfl) ?_
  refine va_get (D := D) (ci := 0) (v := .ref qn) (C := R_As) (T := T_As) (N := 7) hx hb hkw kin_As hown hK hP 0 rfl rfl 3 (by decide) (hkw _ kw_fieldLink_As_21) (fun _ h9 => h9) rfl d_As_workOut_34 ?_
  refine lv_iload_n hx hb d_As_workOut_37 rfl (lv_at hl 4 rfl) ?_
  refine k_ald hx hb hK hP 4 0 rfl rfl (i := q) (by omega) (by omega) (by omega) d_As_workOut_38 ?_
  refine lv_istore (lv' := [(6, .int (zI (↑(nu q)))), (5, .ref (ro q)), (4, .ref (ro q)), (3, .ref (ro q)), (0, .ref h), (1, .int (zI ↑q)), (2, .ref tx)]) hx hb d_As_workOut_39 hl (by decide) rfl ?_
  clear hl; intro ls hl
  refine lv_aload_n hx hb d_As_workOut_41 rfl (lv_at hl 3 rfl) ?_
  refine k_beV (va_runV (As := []) (rest := []) ⟨hx, hb, hml, hown, hkw⟩ (c_Row_empty l D cI cR cG (ro q) (en q) G _) (cwV 0 hkw (k_gV kw_methodLink_As_42 kw_instanceMethod_Ro_empty kw_selects_Ro_empty kw_initialized_Ro kw_code_Ro_empty) rfl rfl rfl (by decide +kernel) ⟨(Nat.le_of_ble_eq_true rfl), (Nat.le_of_ble_eq_true rfl)⟩) (k_preV (q0 := 0) hK hG hP hD [7, 8] rfl rfl rfl rfl) rfl rfl hl.1 rfl (lv_room (Nat.le_of_ble_eq_true rfl)) d_As_workOut_42 ⟨Nat.zero_le _, Nat.zero_le _⟩) hP hD hS hA [7, 8] rfl (Eq.trans (b := [ro q, en q]) rfl rfl) ?_
  clear hP hD hS; intro H locs hP hD hS
  replace hP : va_P D k_cl ([(h, .inr (0, [.ref qk, .ref qf, .ref qs, .ref qn, .ref qr, .int (zI ↑n), .int (zI ↑r)])), (qk, .inl (cI, 30, .inl (kA K))), (qf, .inl (cI, 30, .inl (kA fi))), (qs, .inl (cI, 30, .inl (kA se))), (qn, .inl (cI, 30, .inl (kA nu))), (qr, .inl (cR, 30, .inr (.inr (.inr (.inr (fun i => some (ro i))))))), (tx, .inl (cI, 30, .inl (kA t))), (ro q, .inr (2, [.ref (en q)])), (en q, .inl (cI, 30, .inl (kA e30)))]) H := hP
  replace hD : va_D A ([(h, .inr (0, [.ref qk, .ref qf, .ref qs, .ref qn, .ref qr, .int (zI ↑n), .int (zI ↑r)])), (qk, .inl (cI, 30, .inl (kA K))), (qf, .inl (cI, 30, .inl (kA fi))), (qs, .inl (cI, 30, .inl (kA se))), (qn, .inl (cI, 30, .inl (kA nu))), (qr, .inl (cR, 30, .inr (.inr (.inr (.inr (fun i => some (ro i))))))), (tx, .inl (cI, 30, .inl (kA t))), (ro q, .inr (2, [.ref (en q)])), (en q, .inl (cI, 30, .inl (kA e30)))]) := hD
  refine lv_aload_n hx hb d_As_workOut_45 rfl (lv_at hl 4 rfl) ?_
  refine va_get (D := D) (ci := 0) (v := .ref qk) (C := R_As) (T := T_As) (N := 7) hx hb hkw kin_As hown hK hP 0 rfl rfl 0 (by decide) (hkw _ kw_fieldLink_As_9) (fun _ h9 => h9) rfl d_As_workOut_46 ?_
  refine lv_iload_n hx hb d_As_workOut_49 rfl (lv_at hl 5 rfl) ?_
  refine k_ald hx hb hK hP 1 0 rfl rfl (i := q) (by omega) (by omega) (by omega) d_As_workOut_50 ?_
  have hc := hkd
  have hn9 := hn0 hc
  refine k_table (v := 0) (tgt := 108) hx hb d_As_workOut_51 (by omega) (by decide) (by decide) rfl (by decide) ?_
  refine lv_aload_n hx hb d_As_workOut_108 rfl (lv_at hl 3 rfl) ?_
  refine lv_iconst (v := zI 1) hx hb d_As_workOut_109 (by decide) ?_
  refine lv_iload hx hb d_As_workOut_110 (lv_at hl 0 rfl) ?_
  refine k_ishl1 (n := (nu q)) hx hb (by omega) d_As_workOut_112 ?_
  refine lv_aload_n hx hb d_As_workOut_113 rfl (lv_at hl 6 rfl) ?_
  refine k_beV (va_runV (As := [.int (zI (↑(2 ^ (nu q)))), .ref tx]) (rest := []) ⟨hx, hb, hml, hown, hkw⟩ (c_Row_addPlacesWith l D cI cR cG (ro q) (en q) tx (2 ^ (nu q)) e30 t (k_p10 hn9) e30_le ht _) (cwV 2 hkw (k_gV kw_methodLink_As_45 kw_instanceMethod_Ro_addPlacesWith kw_selects_Ro_addPlacesWith kw_initialized_Ro kw_code_Ro_addPlacesWith) rfl rfl rfl (by decide +kernel) ⟨(Nat.le_of_ble_eq_true rfl), (Nat.le_of_ble_eq_true rfl)⟩) (k_preV (q0 := 0) hK hG hP hD [7, 8, 6] rfl rfl rfl rfl) rfl rfl hl.1 rfl (lv_room (Nat.le_of_ble_eq_true rfl)) d_As_workOut_114 ⟨Nat.zero_le _, Nat.zero_le _⟩) hP hD hS hA [7, 8, 6] rfl (Eq.trans (b := [ro q, en q, tx]) rfl rfl) ?_
  clear hP hD hS; intro H locs hP hD hS
  replace hP : va_P D k_cl ([(h, .inr (0, [.ref qk, .ref qf, .ref qs, .ref qn, .ref qr, .int (zI ↑n), .int (zI ↑r)])), (qk, .inl (cI, 30, .inl (kA K))), (qf, .inl (cI, 30, .inl (kA fi))), (qs, .inl (cI, 30, .inl (kA se))), (qn, .inl (cI, 30, .inl (kA nu))), (qr, .inl (cR, 30, .inr (.inr (.inr (.inr (fun i => some (ro i))))))), (tx, .inl (cI, 30, .inl (kA t))), (ro q, .inr (2, [.ref (en q)])), (en q, .inl (cI, 30, .inl (kA (rWith t (2 ^ (nu q)) 30 0 e30))))]) H := hP
  replace hD : va_D A ([(h, .inr (0, [.ref qk, .ref qf, .ref qs, .ref qn, .ref qr, .int (zI ↑n), .int (zI ↑r)])), (qk, .inl (cI, 30, .inl (kA K))), (qf, .inl (cI, 30, .inl (kA fi))), (qs, .inl (cI, 30, .inl (kA se))), (qn, .inl (cI, 30, .inl (kA nu))), (qr, .inl (cR, 30, .inr (.inr (.inr (.inr (fun i => some (ro i))))))), (tx, .inl (cI, 30, .inl (kA t))), (ro q, .inr (2, [.ref (en q)])), (en q, .inl (cI, 30, .inl (kA (rWith t (2 ^ (nu q)) 30 0 e30))))]) := hD
  refine lv_goto (tgt := 255) hx hb d_As_workOut_117 (by decide) ?_
  refine lv_aload_n hx hb d_As_workOut_255 rfl (lv_at hl 3 rfl) ?_
  refine k_beV (va_runV (As := []) (rest := []) ⟨hx, hb, hml, hown, hkw⟩ (c_Row_keepLeast l D cI cR cG (ro q) (en q) (rWith t (2 ^ (nu q)) 30 0 e30) (r_bd_rWith (by omega) e30_le) _) (cwV 0 hkw (k_gV kw_methodLink_As_77 kw_instanceMethod_Ro_keepLeast kw_selects_Ro_keepLeast kw_initialized_Ro kw_code_Ro_keepLeast) rfl rfl rfl (by decide +kernel) ⟨(Nat.le_of_ble_eq_true rfl), (Nat.le_of_ble_eq_true rfl)⟩) (k_preV (q0 := 0) hK hG hP hD [7, 8] rfl rfl rfl rfl) rfl rfl hl.1 rfl (lv_room (Nat.le_of_ble_eq_true rfl)) d_As_workOut_256 ⟨Nat.zero_le _, Nat.zero_le _⟩) hP hD hS hA [7, 8] rfl (Eq.trans (b := [ro q, en q]) rfl rfl) ?_
  clear hP hD hS; intro H locs hP hD hS
  replace hP : va_P D k_cl ([(h, .inr (0, [.ref qk, .ref qf, .ref qs, .ref qn, .ref qr, .int (zI ↑n), .int (zI ↑r)])), (qk, .inl (cI, 30, .inl (kA K))), (qf, .inl (cI, 30, .inl (kA fi))), (qs, .inl (cI, 30, .inl (kA se))), (qn, .inl (cI, 30, .inl (kA nu))), (qr, .inl (cR, 30, .inr (.inr (.inr (.inr (fun i => some (ro i))))))), (tx, .inl (cI, 30, .inl (kA t))), (ro q, .inr (2, [.ref (en q)])), (en q, .inl (cI, 30, .inl (kA (rKL 30 (rWith t (2 ^ (nu q)) 30 0 e30) 30))))]) H := hP
  replace hD : va_D A ([(h, .inr (0, [.ref qk, .ref qf, .ref qs, .ref qn, .ref qr, .int (zI ↑n), .int (zI ↑r)])), (qk, .inl (cI, 30, .inl (kA K))), (qf, .inl (cI, 30, .inl (kA fi))), (qs, .inl (cI, 30, .inl (kA se))), (qn, .inl (cI, 30, .inl (kA nu))), (qr, .inl (cR, 30, .inr (.inr (.inr (.inr (fun i => some (ro i))))))), (tx, .inl (cI, 30, .inl (kA t))), (ro q, .inr (2, [.ref (en q)])), (en q, .inl (cI, 30, .inl (kA (rKL 30 (rWith t (2 ^ (nu q)) 30 0 e30) 30))))]) := hD
  rw [← hQf]
  have hP : va_P D k_cl [(h, .inr (0, [.ref qk, .ref qf, .ref qs, .ref qn, .ref qr, .int (zI ↑n), .int (zI ↑r)])), (qk, .inl (cI, 30, .inl (kA K))), (qf, .inl (cI, 30, .inl (kA fi))), (qs, .inl (cI, 30, .inl (kA se))), (qn, .inl (cI, 30, .inl (kA nu))), (qr, .inl (cR, 30, .inr (.inr (.inr (.inr (fun i => some (ro i))))))), (tx, .inl (cI, 30, .inl (kA t))), (ro q, .inr (2, [.ref (en q)])), (en q, .inl (cI, 30, .inl (kA (rowVal t (K q) (nu q) G G))))] H := by
    rw [show rowVal t (K q) (nu q) G G = rKL 30 (rWith t (2 ^ (nu q)) 30 0 e30) 30 from by rw [hc]; rfl]
    exact hP
  exact k_vret hx hb hr hlocks hP hS d_As_workOut_259

abbrev rm_As_workOut1 : Room := { frames := 4, cells := 0, slots := 0, locals := 93 }
set_option maxHeartbeats 4000000 in
set_option maxRecDepth 100000 in
theorem c_As_workOut1 (l : Launch) (D : va_G) (cI cR cG : ClassId) (h qk qf qs qn qr n r q tx x : Nat) (ro en K fi se nu t G a : Nat → Nat) (hq : q < 30) (hfi : fi q = x) (hse : se q = x) (hx3 : x < 30) (hkd : K q ≤ 10) (hnu : nu q ≤ 30) (hn0 : K q = 0 → nu q < 10) (ht : ∀ j, t j ≤ 1023) (hG0 : ∀ j, G j ≤ 30) (ha30 : ∀ j, a j ≤ 30) : k_M l y_As_workOut (.code y_As_workOut b_As_workOut 7 none :: kW) rm_As_workOut1 D k_cl (k_ty cI cR cG) [.ref h, .int (zI ↑q), .ref tx] ([(h, .inr (0, [.ref qk, .ref qf, .ref qs, .ref qn, .ref qr, .int (zI ↑n), .int (zI ↑r)])), (qk, .inl (cI, 30, .inl (kA K))), (qf, .inl (cI, 30, .inl (kA fi))), (qs, .inl (cI, 30, .inl (kA se))), (qn, .inl (cI, 30, .inl (kA nu))), (qr, .inl (cR, 30, .inr (.inr (.inr (.inr (fun i => some (ro i))))))), (tx, .inl (cI, 30, .inl (kA t))), (ro q, .inr (2, [.ref (en q)])), (en q, .inl (cI, 30, .inl (kA G))), (ro x, .inr (2, [.ref (en x)])), (en x, .inl (cI, 30, .inl (kA a)))]) (k_Qv D k_cl [(h, .inr (0, [.ref qk, .ref qf, .ref qs, .ref qn, .ref qr, .int (zI ↑n), .int (zI ↑r)])), (qk, .inl (cI, 30, .inl (kA K))), (qf, .inl (cI, 30, .inl (kA fi))), (qs, .inl (cI, 30, .inl (kA se))), (qn, .inl (cI, 30, .inl (kA nu))), (qr, .inl (cR, 30, .inr (.inr (.inr (.inr (fun i => some (ro i))))))), (tx, .inl (cI, 30, .inl (kA t))), (ro q, .inr (2, [.ref (en q)])), (en q, .inl (cI, 30, .inl (kA (rowVal t (K q) (nu q) a a)))), (ro x, .inr (2, [.ref (en x)])), (en x, .inl (cI, 30, .inl (kA a)))]) := by
  refine k_start (cc := b_As_workOut) (maxL := 7) (ret := none) (by decide) rfl (Nat.le_of_ble_eq_true rfl) ?_
  intro p ev s m ar below meth c A ls Qf hQf hx hb hr hml hts hown hlocks hin hK hG hA hP hD hS hl
  replace hown : s.vm.findClass R_As = some m.cls := hown
  replace hl : lv_has ls 7 [(0, .ref h), (1, .int (zI ↑q)), (2, .ref tx)] := hl
  have hkw : ∀ w ∈ kW, w.before ar s = true := fun w h => hts w (List.mem_cons_of_mem _ h)
  replace hP : va_P D k_cl ([(h, .inr (0, [.ref qk, .ref qf, .ref qs, .ref qn, .ref qr, .int (zI ↑n), .int (zI ↑r)])), (qk, .inl (cI, 30, .inl (kA K))), (qf, .inl (cI, 30, .inl (kA fi))), (qs, .inl (cI, 30, .inl (kA se))), (qn, .inl (cI, 30, .inl (kA nu))), (qr, .inl (cR, 30, .inr (.inr (.inr (.inr (fun i => some (ro i))))))), (tx, .inl (cI, 30, .inl (kA t))), (ro q, .inr (2, [.ref (en q)])), (en q, .inl (cI, 30, .inl (kA G))), (ro x, .inr (2, [.ref (en x)])), (en x, .inl (cI, 30, .inl (kA a)))]) s.heap := hP
  replace hD : va_D A ([(h, .inr (0, [.ref qk, .ref qf, .ref qs, .ref qn, .ref qr, .int (zI ↑n), .int (zI ↑r)])), (qk, .inl (cI, 30, .inl (kA K))), (qf, .inl (cI, 30, .inl (kA fi))), (qs, .inl (cI, 30, .inl (kA se))), (qn, .inl (cI, 30, .inl (kA nu))), (qr, .inl (cR, 30, .inr (.inr (.inr (.inr (fun i => some (ro i))))))), (tx, .inl (cI, 30, .inl (kA t))), (ro q, .inr (2, [.ref (en q)])), (en q, .inl (cI, 30, .inl (kA G))), (ro x, .inr (2, [.ref (en x)])), (en x, .inl (cI, 30, .inl (kA a)))]) := hD
  refine lv_aload_n hx hb d_As_workOut_0 rfl (lv_at hl 0 rfl) ?_
  refine va_get (D := D) (ci := 0) (v := .ref qr) (C := R_As) (T := T_As) (N := 7) hx hb hkw kin_As hown hK hP 0 rfl rfl 4 (by decide) (hkw _ kw_fieldLink_As_26) (fun _ h9 => h9) rfl d_As_workOut_1 ?_
  refine lv_iload_n hx hb d_As_workOut_4 rfl (lv_at hl 1 rfl) ?_
  refine k_aald hx hb hK hP 5 1 rfl rfl (i := q) (by omega) (by omega) (by omega) d_As_workOut_5 ?_
  refine lv_astore_n (lv' := [(3, .ref (ro q)), (0, .ref h), (1, .int (zI ↑q)), (2, .ref tx)]) hx hb d_As_workOut_6 rfl hl (by decide) rfl ?_
  clear hl; intro ls hl
  refine lv_aload_n hx hb d_As_workOut_7 rfl (lv_at hl 1 rfl) ?_
  refine va_get (D := D) (ci := 0) (v := .ref qr) (C := R_As) (T := T_As) (N := 7) hx hb hkw kin_As hown hK hP 0 rfl rfl 4 (by decide) (hkw _ kw_fieldLink_As_26) (fun _ h9 => h9) rfl d_As_workOut_8 ?_
  refine lv_aload_n hx hb d_As_workOut_11 rfl (lv_at hl 1 rfl) ?_
  refine va_get (D := D) (ci := 0) (v := .ref qf) (C := R_As) (T := T_As) (N := 7) hx hb hkw kin_As hown hK hP 0 rfl rfl 1 (by decide) (hkw _ kw_fieldLink_As_15) (fun _ h9 => h9) rfl d_As_workOut_12 ?_
  refine lv_iload_n hx hb d_As_workOut_15 rfl (lv_at hl 2 rfl) ?_
  refine k_ald hx hb hK hP 2 0 rfl rfl (i := q) (by omega) (by omega) (by omega) d_As_workOut_16 ?_
  refine k_aald hx hb hK hP 5 1 rfl rfl (i := x) (by omega) (by omega) (by omega) d_As_workOut_17 ?_
  refine lv_astore (lv' := [(4, .ref (ro x)), (3, .ref (ro q)), (0, .ref h), (1, .int (zI ↑q)), (2, .ref tx)]) hx hb d_As_workOut_18 hl (by decide) rfl ?_
  clear hl; intro ls hl
  refine lv_aload_n hx hb d_As_workOut_20 rfl (lv_at hl 2 rfl) ?_
  refine va_get (D := D) (ci := 0) (v := .ref qr) (C := R_As) (T := T_As) (N := 7) hx hb hkw kin_As hown hK hP 0 rfl rfl 4 (by decide) (hkw _ kw_fieldLink_As_26) (fun _ h9 => h9) rfl d_As_workOut_21 ?_
  refine lv_aload_n hx hb d_As_workOut_24 rfl (lv_at hl 2 rfl) ?_
  refine va_get (D := D) (ci := 0) (v := .ref qs) (C := R_As) (T := T_As) (N := 7) hx hb hkw kin_As hown hK hP 0 rfl rfl 2 (by decide) (hkw _ kw_fieldLink_As_18) (fun _ h9 => h9) rfl d_As_workOut_25 ?_
  refine lv_iload_n hx hb d_As_workOut_28 rfl (lv_at hl 3 rfl) ?_
  refine k_ald hx hb hK hP 3 0 rfl rfl (i := q) (by omega) (by omega) (by omega) d_As_workOut_29 ?_
  refine k_aald hx hb hK hP 5 1 rfl rfl (i := x) (by omega) (by omega) (by omega) d_As_workOut_30 ?_
  refine lv_astore (lv' := [(5, .ref (ro x)), (4, .ref (ro x)), (3, .ref (ro q)), (0, .ref h), (1, .int (zI ↑q)), (2, .ref tx)]) hx hb d_As_workOut_31 hl (by decide) rfl ?_
  clear hl; intro ls hl
  refine lv_aload_n hx hb d_As_workOut_33 rfl (lv_at hl 3 rfl) ?_
  refine va_get (D := D) (ci := 0) (v := .ref qn) (C := R_As) (T := T_As) (N := 7) hx hb hkw kin_As hown hK hP 0 rfl rfl 3 (by decide) (hkw _ kw_fieldLink_As_21) (fun _ h9 => h9) rfl d_As_workOut_34 ?_
  refine lv_iload_n hx hb d_As_workOut_37 rfl (lv_at hl 4 rfl) ?_
  refine k_ald hx hb hK hP 4 0 rfl rfl (i := q) (by omega) (by omega) (by omega) d_As_workOut_38 ?_
  refine lv_istore (lv' := [(6, .int (zI (↑(nu q)))), (5, .ref (ro x)), (4, .ref (ro x)), (3, .ref (ro q)), (0, .ref h), (1, .int (zI ↑q)), (2, .ref tx)]) hx hb d_As_workOut_39 hl (by decide) rfl ?_
  clear hl; intro ls hl
  refine lv_aload_n hx hb d_As_workOut_41 rfl (lv_at hl 3 rfl) ?_
  refine k_beV (va_runV (As := []) (rest := []) ⟨hx, hb, hml, hown, hkw⟩ (c_Row_empty l D cI cR cG (ro q) (en q) G _) (cwV 0 hkw (k_gV kw_methodLink_As_42 kw_instanceMethod_Ro_empty kw_selects_Ro_empty kw_initialized_Ro kw_code_Ro_empty) rfl rfl rfl (by decide +kernel) ⟨(Nat.le_of_ble_eq_true rfl), (Nat.le_of_ble_eq_true rfl)⟩) (k_preV (q0 := 0) hK hG hP hD [7, 8] rfl rfl rfl rfl) rfl rfl hl.1 rfl (lv_room (Nat.le_of_ble_eq_true rfl)) d_As_workOut_42 ⟨Nat.zero_le _, Nat.zero_le _⟩) hP hD hS hA [7, 8] rfl (Eq.trans (b := [ro q, en q]) rfl rfl) ?_
  clear hP hD hS; intro H locs hP hD hS
  replace hP : va_P D k_cl ([(h, .inr (0, [.ref qk, .ref qf, .ref qs, .ref qn, .ref qr, .int (zI ↑n), .int (zI ↑r)])), (qk, .inl (cI, 30, .inl (kA K))), (qf, .inl (cI, 30, .inl (kA fi))), (qs, .inl (cI, 30, .inl (kA se))), (qn, .inl (cI, 30, .inl (kA nu))), (qr, .inl (cR, 30, .inr (.inr (.inr (.inr (fun i => some (ro i))))))), (tx, .inl (cI, 30, .inl (kA t))), (ro q, .inr (2, [.ref (en q)])), (en q, .inl (cI, 30, .inl (kA e30))), (ro x, .inr (2, [.ref (en x)])), (en x, .inl (cI, 30, .inl (kA a)))]) H := hP
  replace hD : va_D A ([(h, .inr (0, [.ref qk, .ref qf, .ref qs, .ref qn, .ref qr, .int (zI ↑n), .int (zI ↑r)])), (qk, .inl (cI, 30, .inl (kA K))), (qf, .inl (cI, 30, .inl (kA fi))), (qs, .inl (cI, 30, .inl (kA se))), (qn, .inl (cI, 30, .inl (kA nu))), (qr, .inl (cR, 30, .inr (.inr (.inr (.inr (fun i => some (ro i))))))), (tx, .inl (cI, 30, .inl (kA t))), (ro q, .inr (2, [.ref (en q)])), (en q, .inl (cI, 30, .inl (kA e30))), (ro x, .inr (2, [.ref (en x)])), (en x, .inl (cI, 30, .inl (kA a)))]) := hD
  refine lv_aload_n hx hb d_As_workOut_45 rfl (lv_at hl 4 rfl) ?_
  refine va_get (D := D) (ci := 0) (v := .ref qk) (C := R_As) (T := T_As) (N := 7) hx hb hkw kin_As hown hK hP 0 rfl rfl 0 (by decide) (hkw _ kw_fieldLink_As_9) (fun _ h9 => h9) rfl d_As_workOut_46 ?_
  refine lv_iload_n hx hb d_As_workOut_49 rfl (lv_at hl 5 rfl) ?_
  refine k_ald hx hb hK hP 1 0 rfl rfl (i := q) (by omega) (by omega) (by omega) d_As_workOut_50 ?_
  obtain hc | hc | hc | hc | hc | hc | hc | hc | hc | hc | hc : K q = 0 ∨ K q = 1 ∨ K q = 2 ∨ K q = 3 ∨ K q = 4 ∨ K q = 5 ∨ K q = 6 ∨ K q = 7 ∨ K q = 8 ∨ K q = 9 ∨ K q = 10 := by omega
  · have hn9 := hn0 hc
    refine k_table (v := 0) (tgt := 108) hx hb d_As_workOut_51 (by omega) (by decide) (by decide) rfl (by decide) ?_
    refine lv_aload_n hx hb d_As_workOut_108 rfl (lv_at hl 3 rfl) ?_
    refine lv_iconst (v := zI 1) hx hb d_As_workOut_109 (by decide) ?_
    refine lv_iload hx hb d_As_workOut_110 (lv_at hl 0 rfl) ?_
    refine k_ishl1 (n := (nu q)) hx hb (by omega) d_As_workOut_112 ?_
    refine lv_aload_n hx hb d_As_workOut_113 rfl (lv_at hl 6 rfl) ?_
    refine k_beV (va_runV (As := [.int (zI (↑(2 ^ (nu q)))), .ref tx]) (rest := []) ⟨hx, hb, hml, hown, hkw⟩ (c_Row_addPlacesWith l D cI cR cG (ro q) (en q) tx (2 ^ (nu q)) e30 t (k_p10 hn9) e30_le ht _) (cwV 2 hkw (k_gV kw_methodLink_As_45 kw_instanceMethod_Ro_addPlacesWith kw_selects_Ro_addPlacesWith kw_initialized_Ro kw_code_Ro_addPlacesWith) rfl rfl rfl (by decide +kernel) ⟨(Nat.le_of_ble_eq_true rfl), (Nat.le_of_ble_eq_true rfl)⟩) (k_preV (q0 := 0) hK hG hP hD [7, 8, 6] rfl rfl rfl rfl) rfl rfl hl.1 rfl (lv_room (Nat.le_of_ble_eq_true rfl)) d_As_workOut_114 ⟨Nat.zero_le _, Nat.zero_le _⟩) hP hD hS hA [7, 8, 6] rfl (Eq.trans (b := [ro q, en q, tx]) rfl rfl) ?_
    clear hP hD hS; intro H locs hP hD hS
    replace hP : va_P D k_cl ([(h, .inr (0, [.ref qk, .ref qf, .ref qs, .ref qn, .ref qr, .int (zI ↑n), .int (zI ↑r)])), (qk, .inl (cI, 30, .inl (kA K))), (qf, .inl (cI, 30, .inl (kA fi))), (qs, .inl (cI, 30, .inl (kA se))), (qn, .inl (cI, 30, .inl (kA nu))), (qr, .inl (cR, 30, .inr (.inr (.inr (.inr (fun i => some (ro i))))))), (tx, .inl (cI, 30, .inl (kA t))), (ro q, .inr (2, [.ref (en q)])), (en q, .inl (cI, 30, .inl (kA (rWith t (2 ^ (nu q)) 30 0 e30)))), (ro x, .inr (2, [.ref (en x)])), (en x, .inl (cI, 30, .inl (kA a)))]) H := hP
    replace hD : va_D A ([(h, .inr (0, [.ref qk, .ref qf, .ref qs, .ref qn, .ref qr, .int (zI ↑n), .int (zI ↑r)])), (qk, .inl (cI, 30, .inl (kA K))), (qf, .inl (cI, 30, .inl (kA fi))), (qs, .inl (cI, 30, .inl (kA se))), (qn, .inl (cI, 30, .inl (kA nu))), (qr, .inl (cR, 30, .inr (.inr (.inr (.inr (fun i => some (ro i))))))), (tx, .inl (cI, 30, .inl (kA t))), (ro q, .inr (2, [.ref (en q)])), (en q, .inl (cI, 30, .inl (kA (rWith t (2 ^ (nu q)) 30 0 e30)))), (ro x, .inr (2, [.ref (en x)])), (en x, .inl (cI, 30, .inl (kA a)))]) := hD
    refine lv_goto (tgt := 255) hx hb d_As_workOut_117 (by decide) ?_
    refine lv_aload_n hx hb d_As_workOut_255 rfl (lv_at hl 3 rfl) ?_
    refine k_beV (va_runV (As := []) (rest := []) ⟨hx, hb, hml, hown, hkw⟩ (c_Row_keepLeast l D cI cR cG (ro q) (en q) (rWith t (2 ^ (nu q)) 30 0 e30) (r_bd_rWith (by omega) e30_le) _) (cwV 0 hkw (k_gV kw_methodLink_As_77 kw_instanceMethod_Ro_keepLeast kw_selects_Ro_keepLeast kw_initialized_Ro kw_code_Ro_keepLeast) rfl rfl rfl (by decide +kernel) ⟨(Nat.le_of_ble_eq_true rfl), (Nat.le_of_ble_eq_true rfl)⟩) (k_preV (q0 := 0) hK hG hP hD [7, 8] rfl rfl rfl rfl) rfl rfl hl.1 rfl (lv_room (Nat.le_of_ble_eq_true rfl)) d_As_workOut_256 ⟨Nat.zero_le _, Nat.zero_le _⟩) hP hD hS hA [7, 8] rfl (Eq.trans (b := [ro q, en q]) rfl rfl) ?_
    clear hP hD hS; intro H locs hP hD hS
    replace hP : va_P D k_cl ([(h, .inr (0, [.ref qk, .ref qf, .ref qs, .ref qn, .ref qr, .int (zI ↑n), .int (zI ↑r)])), (qk, .inl (cI, 30, .inl (kA K))), (qf, .inl (cI, 30, .inl (kA fi))), (qs, .inl (cI, 30, .inl (kA se))), (qn, .inl (cI, 30, .inl (kA nu))), (qr, .inl (cR, 30, .inr (.inr (.inr (.inr (fun i => some (ro i))))))), (tx, .inl (cI, 30, .inl (kA t))), (ro q, .inr (2, [.ref (en q)])), (en q, .inl (cI, 30, .inl (kA (rKL 30 (rWith t (2 ^ (nu q)) 30 0 e30) 30)))), (ro x, .inr (2, [.ref (en x)])), (en x, .inl (cI, 30, .inl (kA a)))]) H := hP
    replace hD : va_D A ([(h, .inr (0, [.ref qk, .ref qf, .ref qs, .ref qn, .ref qr, .int (zI ↑n), .int (zI ↑r)])), (qk, .inl (cI, 30, .inl (kA K))), (qf, .inl (cI, 30, .inl (kA fi))), (qs, .inl (cI, 30, .inl (kA se))), (qn, .inl (cI, 30, .inl (kA nu))), (qr, .inl (cR, 30, .inr (.inr (.inr (.inr (fun i => some (ro i))))))), (tx, .inl (cI, 30, .inl (kA t))), (ro q, .inr (2, [.ref (en q)])), (en q, .inl (cI, 30, .inl (kA (rKL 30 (rWith t (2 ^ (nu q)) 30 0 e30) 30)))), (ro x, .inr (2, [.ref (en x)])), (en x, .inl (cI, 30, .inl (kA a)))]) := hD
    rw [← hQf]
    have hP : va_P D k_cl [(h, .inr (0, [.ref qk, .ref qf, .ref qs, .ref qn, .ref qr, .int (zI ↑n), .int (zI ↑r)])), (qk, .inl (cI, 30, .inl (kA K))), (qf, .inl (cI, 30, .inl (kA fi))), (qs, .inl (cI, 30, .inl (kA se))), (qn, .inl (cI, 30, .inl (kA nu))), (qr, .inl (cR, 30, .inr (.inr (.inr (.inr (fun i => some (ro i))))))), (tx, .inl (cI, 30, .inl (kA t))), (ro q, .inr (2, [.ref (en q)])), (en q, .inl (cI, 30, .inl (kA (rowVal t (K q) (nu q) a a)))), (ro x, .inr (2, [.ref (en x)])), (en x, .inl (cI, 30, .inl (kA a)))] H := by
      rw [show rowVal t (K q) (nu q) a a = rKL 30 (rWith t (2 ^ (nu q)) 30 0 e30) 30 from by rw [hc]; rfl]
      exact hP
    exact k_vret hx hb hr hlocks hP hS d_As_workOut_259
  · refine k_table (v := 1) (tgt := 120) hx hb d_As_workOut_51 (by omega) (by decide) (by decide) rfl (by decide) ?_
    refine lv_aload_n hx hb d_As_workOut_120 rfl (lv_at hl 3 rfl) ?_
    refine lv_aload hx hb d_As_workOut_121 (lv_at hl 2 rfl) ?_
    refine k_beV (va_runV (As := [.ref (ro x)]) (rest := []) ⟨hx, hb, hml, hown, hkw⟩ (c_Row_addAll l D cI cR cG (ro q) (en q) (ro x) (en x) e30 a e30_le ha30 _) (cwV 1 hkw (k_gV kw_methodLink_As_48 kw_instanceMethod_Ro_addAll kw_selects_Ro_addAll kw_initialized_Ro kw_code_Ro_addAll) rfl rfl rfl (by decide +kernel) ⟨(Nat.le_of_ble_eq_true rfl), (Nat.le_of_ble_eq_true rfl)⟩) (k_preV (q0 := 0) hK hG hP hD [7, 8, 9, 10] rfl rfl rfl rfl) rfl rfl hl.1 rfl (lv_room (Nat.le_of_ble_eq_true rfl)) d_As_workOut_123 ⟨Nat.zero_le _, Nat.zero_le _⟩) hP hD hS hA [7, 8, 9, 10] rfl (Eq.trans (b := [ro q, en q, ro x, en x]) rfl rfl) ?_
    clear hP hD hS; intro H locs hP hD hS
    replace hP : va_P D k_cl ([(h, .inr (0, [.ref qk, .ref qf, .ref qs, .ref qn, .ref qr, .int (zI ↑n), .int (zI ↑r)])), (qk, .inl (cI, 30, .inl (kA K))), (qf, .inl (cI, 30, .inl (kA fi))), (qs, .inl (cI, 30, .inl (kA se))), (qn, .inl (cI, 30, .inl (kA nu))), (qr, .inl (cR, 30, .inr (.inr (.inr (.inr (fun i => some (ro i))))))), (tx, .inl (cI, 30, .inl (kA t))), (ro q, .inr (2, [.ref (en q)])), (en q, .inl (cI, 30, .inl (kA (rGrown a 0 30 0 e30)))), (ro x, .inr (2, [.ref (en x)])), (en x, .inl (cI, 30, .inl (kA a)))]) H := hP
    replace hD : va_D A ([(h, .inr (0, [.ref qk, .ref qf, .ref qs, .ref qn, .ref qr, .int (zI ↑n), .int (zI ↑r)])), (qk, .inl (cI, 30, .inl (kA K))), (qf, .inl (cI, 30, .inl (kA fi))), (qs, .inl (cI, 30, .inl (kA se))), (qn, .inl (cI, 30, .inl (kA nu))), (qr, .inl (cR, 30, .inr (.inr (.inr (.inr (fun i => some (ro i))))))), (tx, .inl (cI, 30, .inl (kA t))), (ro q, .inr (2, [.ref (en q)])), (en q, .inl (cI, 30, .inl (kA (rGrown a 0 30 0 e30)))), (ro x, .inr (2, [.ref (en x)])), (en x, .inl (cI, 30, .inl (kA a)))]) := hD
    refine lv_aload_n hx hb d_As_workOut_126 rfl (lv_at hl 3 rfl) ?_
    refine lv_aload hx hb d_As_workOut_127 (lv_at hl 1 rfl) ?_
    refine k_beV (va_runV (As := [.ref (ro x)]) (rest := []) ⟨hx, hb, hml, hown, hkw⟩ (c_Row_addAll l D cI cR cG (ro q) (en q) (ro x) (en x) (rGrown a 0 30 0 e30) a (r_bd_rGrown e30_le ha30) ha30 _) (cwV 1 hkw (k_gV kw_methodLink_As_48 kw_instanceMethod_Ro_addAll kw_selects_Ro_addAll kw_initialized_Ro kw_code_Ro_addAll) rfl rfl rfl (by decide +kernel) ⟨(Nat.le_of_ble_eq_true rfl), (Nat.le_of_ble_eq_true rfl)⟩) (k_preV (q0 := 0) hK hG hP hD [7, 8, 9, 10] rfl rfl rfl rfl) rfl rfl hl.1 rfl (lv_room (Nat.le_of_ble_eq_true rfl)) d_As_workOut_129 ⟨Nat.zero_le _, Nat.zero_le _⟩) hP hD hS hA [7, 8, 9, 10] rfl (Eq.trans (b := [ro q, en q, ro x, en x]) rfl rfl) ?_
    clear hP hD hS; intro H locs hP hD hS
    replace hP : va_P D k_cl ([(h, .inr (0, [.ref qk, .ref qf, .ref qs, .ref qn, .ref qr, .int (zI ↑n), .int (zI ↑r)])), (qk, .inl (cI, 30, .inl (kA K))), (qf, .inl (cI, 30, .inl (kA fi))), (qs, .inl (cI, 30, .inl (kA se))), (qn, .inl (cI, 30, .inl (kA nu))), (qr, .inl (cR, 30, .inr (.inr (.inr (.inr (fun i => some (ro i))))))), (tx, .inl (cI, 30, .inl (kA t))), (ro q, .inr (2, [.ref (en q)])), (en q, .inl (cI, 30, .inl (kA (rGrown a 0 30 0 (rGrown a 0 30 0 e30))))), (ro x, .inr (2, [.ref (en x)])), (en x, .inl (cI, 30, .inl (kA a)))]) H := hP
    replace hD : va_D A ([(h, .inr (0, [.ref qk, .ref qf, .ref qs, .ref qn, .ref qr, .int (zI ↑n), .int (zI ↑r)])), (qk, .inl (cI, 30, .inl (kA K))), (qf, .inl (cI, 30, .inl (kA fi))), (qs, .inl (cI, 30, .inl (kA se))), (qn, .inl (cI, 30, .inl (kA nu))), (qr, .inl (cR, 30, .inr (.inr (.inr (.inr (fun i => some (ro i))))))), (tx, .inl (cI, 30, .inl (kA t))), (ro q, .inr (2, [.ref (en q)])), (en q, .inl (cI, 30, .inl (kA (rGrown a 0 30 0 (rGrown a 0 30 0 e30))))), (ro x, .inr (2, [.ref (en x)])), (en x, .inl (cI, 30, .inl (kA a)))]) := hD
    refine lv_goto (tgt := 255) hx hb d_As_workOut_132 (by decide) ?_
    refine lv_aload_n hx hb d_As_workOut_255 rfl (lv_at hl 3 rfl) ?_
    refine k_beV (va_runV (As := []) (rest := []) ⟨hx, hb, hml, hown, hkw⟩ (c_Row_keepLeast l D cI cR cG (ro q) (en q) (rGrown a 0 30 0 (rGrown a 0 30 0 e30)) (r_bd_rGrown (r_bd_rGrown e30_le ha30) ha30) _) (cwV 0 hkw (k_gV kw_methodLink_As_77 kw_instanceMethod_Ro_keepLeast kw_selects_Ro_keepLeast kw_initialized_Ro kw_code_Ro_keepLeast) rfl rfl rfl (by decide +kernel) ⟨(Nat.le_of_ble_eq_true rfl), (Nat.le_of_ble_eq_true rfl)⟩) (k_preV (q0 := 0) hK hG hP hD [7, 8] rfl rfl rfl rfl) rfl rfl hl.1 rfl (lv_room (Nat.le_of_ble_eq_true rfl)) d_As_workOut_256 ⟨Nat.zero_le _, Nat.zero_le _⟩) hP hD hS hA [7, 8] rfl (Eq.trans (b := [ro q, en q]) rfl rfl) ?_
    clear hP hD hS; intro H locs hP hD hS
    replace hP : va_P D k_cl ([(h, .inr (0, [.ref qk, .ref qf, .ref qs, .ref qn, .ref qr, .int (zI ↑n), .int (zI ↑r)])), (qk, .inl (cI, 30, .inl (kA K))), (qf, .inl (cI, 30, .inl (kA fi))), (qs, .inl (cI, 30, .inl (kA se))), (qn, .inl (cI, 30, .inl (kA nu))), (qr, .inl (cR, 30, .inr (.inr (.inr (.inr (fun i => some (ro i))))))), (tx, .inl (cI, 30, .inl (kA t))), (ro q, .inr (2, [.ref (en q)])), (en q, .inl (cI, 30, .inl (kA (rKL 30 (rGrown a 0 30 0 (rGrown a 0 30 0 e30)) 30)))), (ro x, .inr (2, [.ref (en x)])), (en x, .inl (cI, 30, .inl (kA a)))]) H := hP
    replace hD : va_D A ([(h, .inr (0, [.ref qk, .ref qf, .ref qs, .ref qn, .ref qr, .int (zI ↑n), .int (zI ↑r)])), (qk, .inl (cI, 30, .inl (kA K))), (qf, .inl (cI, 30, .inl (kA fi))), (qs, .inl (cI, 30, .inl (kA se))), (qn, .inl (cI, 30, .inl (kA nu))), (qr, .inl (cR, 30, .inr (.inr (.inr (.inr (fun i => some (ro i))))))), (tx, .inl (cI, 30, .inl (kA t))), (ro q, .inr (2, [.ref (en q)])), (en q, .inl (cI, 30, .inl (kA (rKL 30 (rGrown a 0 30 0 (rGrown a 0 30 0 e30)) 30)))), (ro x, .inr (2, [.ref (en x)])), (en x, .inl (cI, 30, .inl (kA a)))]) := hD
    rw [← hQf]
    have hP : va_P D k_cl [(h, .inr (0, [.ref qk, .ref qf, .ref qs, .ref qn, .ref qr, .int (zI ↑n), .int (zI ↑r)])), (qk, .inl (cI, 30, .inl (kA K))), (qf, .inl (cI, 30, .inl (kA fi))), (qs, .inl (cI, 30, .inl (kA se))), (qn, .inl (cI, 30, .inl (kA nu))), (qr, .inl (cR, 30, .inr (.inr (.inr (.inr (fun i => some (ro i))))))), (tx, .inl (cI, 30, .inl (kA t))), (ro q, .inr (2, [.ref (en q)])), (en q, .inl (cI, 30, .inl (kA (rowVal t (K q) (nu q) a a)))), (ro x, .inr (2, [.ref (en x)])), (en x, .inl (cI, 30, .inl (kA a)))] H := by
      rw [show rowVal t (K q) (nu q) a a = rKL 30 (rGrown a 0 30 0 (rGrown a 0 30 0 e30)) 30 from by rw [hc]; rfl]
      exact hP
    exact k_vret hx hb hr hlocks hP hS d_As_workOut_259
  · refine k_table (v := 2) (tgt := 135) hx hb d_As_workOut_51 (by omega) (by decide) (by decide) rfl (by decide) ?_
    refine lv_aload_n hx hb d_As_workOut_135 rfl (lv_at hl 3 rfl) ?_
    refine lv_aload hx hb d_As_workOut_136 (lv_at hl 2 rfl) ?_
    refine lv_aload hx hb d_As_workOut_138 (lv_at hl 1 rfl) ?_
    refine lv_iload hx hb d_As_workOut_140 (lv_at hl 0 rfl) ?_
    refine k_beV (va_runV (As := [.ref (ro x), .ref (ro x), .int (zI (↑(nu q)))]) (rest := []) ⟨hx, hb, hml, hown, hkw⟩ (c_Row_addBehind_same l D cI cR cG (ro q) (en q) (ro x) (en x) (nu q) e30 a (by omega) e30_le ha30 _) (cwV 3 hkw (k_gV kw_methodLink_As_52 kw_instanceMethod_Ro_addBehind kw_selects_Ro_addBehind kw_initialized_Ro kw_code_Ro_addBehind) rfl rfl rfl (by decide +kernel) ⟨(Nat.le_of_ble_eq_true rfl), (Nat.le_of_ble_eq_true rfl)⟩) (k_preV (q0 := 0) hK hG hP hD [7, 8, 9, 10] rfl rfl rfl rfl) rfl rfl hl.1 rfl (lv_room (Nat.le_of_ble_eq_true rfl)) d_As_workOut_142 ⟨Nat.zero_le _, Nat.zero_le _⟩) hP hD hS hA [7, 8, 9, 10] rfl (Eq.trans (b := [ro q, en q, ro x, en x]) rfl rfl) ?_
    clear hP hD hS; intro H locs hP hD hS
    replace hP : va_P D k_cl ([(h, .inr (0, [.ref qk, .ref qf, .ref qs, .ref qn, .ref qr, .int (zI ↑n), .int (zI ↑r)])), (qk, .inl (cI, 30, .inl (kA K))), (qf, .inl (cI, 30, .inl (kA fi))), (qs, .inl (cI, 30, .inl (kA se))), (qn, .inl (cI, 30, .inl (kA nu))), (qr, .inl (cR, 30, .inr (.inr (.inr (.inr (fun i => some (ro i))))))), (tx, .inl (cI, 30, .inl (kA t))), (ro q, .inr (2, [.ref (en q)])), (en q, .inl (cI, 30, .inl (kA (rBehind a a (nu q) 30 0 e30)))), (ro x, .inr (2, [.ref (en x)])), (en x, .inl (cI, 30, .inl (kA a)))]) H := hP
    replace hD : va_D A ([(h, .inr (0, [.ref qk, .ref qf, .ref qs, .ref qn, .ref qr, .int (zI ↑n), .int (zI ↑r)])), (qk, .inl (cI, 30, .inl (kA K))), (qf, .inl (cI, 30, .inl (kA fi))), (qs, .inl (cI, 30, .inl (kA se))), (qn, .inl (cI, 30, .inl (kA nu))), (qr, .inl (cR, 30, .inr (.inr (.inr (.inr (fun i => some (ro i))))))), (tx, .inl (cI, 30, .inl (kA t))), (ro q, .inr (2, [.ref (en q)])), (en q, .inl (cI, 30, .inl (kA (rBehind a a (nu q) 30 0 e30)))), (ro x, .inr (2, [.ref (en x)])), (en x, .inl (cI, 30, .inl (kA a)))]) := hD
    refine lv_goto (tgt := 255) hx hb d_As_workOut_145 (by decide) ?_
    refine lv_aload_n hx hb d_As_workOut_255 rfl (lv_at hl 3 rfl) ?_
    refine k_beV (va_runV (As := []) (rest := []) ⟨hx, hb, hml, hown, hkw⟩ (c_Row_keepLeast l D cI cR cG (ro q) (en q) (rBehind a a (nu q) 30 0 e30) (r_bd_rBehind e30_le ha30) _) (cwV 0 hkw (k_gV kw_methodLink_As_77 kw_instanceMethod_Ro_keepLeast kw_selects_Ro_keepLeast kw_initialized_Ro kw_code_Ro_keepLeast) rfl rfl rfl (by decide +kernel) ⟨(Nat.le_of_ble_eq_true rfl), (Nat.le_of_ble_eq_true rfl)⟩) (k_preV (q0 := 0) hK hG hP hD [7, 8] rfl rfl rfl rfl) rfl rfl hl.1 rfl (lv_room (Nat.le_of_ble_eq_true rfl)) d_As_workOut_256 ⟨Nat.zero_le _, Nat.zero_le _⟩) hP hD hS hA [7, 8] rfl (Eq.trans (b := [ro q, en q]) rfl rfl) ?_
    clear hP hD hS; intro H locs hP hD hS
    replace hP : va_P D k_cl ([(h, .inr (0, [.ref qk, .ref qf, .ref qs, .ref qn, .ref qr, .int (zI ↑n), .int (zI ↑r)])), (qk, .inl (cI, 30, .inl (kA K))), (qf, .inl (cI, 30, .inl (kA fi))), (qs, .inl (cI, 30, .inl (kA se))), (qn, .inl (cI, 30, .inl (kA nu))), (qr, .inl (cR, 30, .inr (.inr (.inr (.inr (fun i => some (ro i))))))), (tx, .inl (cI, 30, .inl (kA t))), (ro q, .inr (2, [.ref (en q)])), (en q, .inl (cI, 30, .inl (kA (rKL 30 (rBehind a a (nu q) 30 0 e30) 30)))), (ro x, .inr (2, [.ref (en x)])), (en x, .inl (cI, 30, .inl (kA a)))]) H := hP
    replace hD : va_D A ([(h, .inr (0, [.ref qk, .ref qf, .ref qs, .ref qn, .ref qr, .int (zI ↑n), .int (zI ↑r)])), (qk, .inl (cI, 30, .inl (kA K))), (qf, .inl (cI, 30, .inl (kA fi))), (qs, .inl (cI, 30, .inl (kA se))), (qn, .inl (cI, 30, .inl (kA nu))), (qr, .inl (cR, 30, .inr (.inr (.inr (.inr (fun i => some (ro i))))))), (tx, .inl (cI, 30, .inl (kA t))), (ro q, .inr (2, [.ref (en q)])), (en q, .inl (cI, 30, .inl (kA (rKL 30 (rBehind a a (nu q) 30 0 e30) 30)))), (ro x, .inr (2, [.ref (en x)])), (en x, .inl (cI, 30, .inl (kA a)))]) := hD
    rw [← hQf]
    have hP : va_P D k_cl [(h, .inr (0, [.ref qk, .ref qf, .ref qs, .ref qn, .ref qr, .int (zI ↑n), .int (zI ↑r)])), (qk, .inl (cI, 30, .inl (kA K))), (qf, .inl (cI, 30, .inl (kA fi))), (qs, .inl (cI, 30, .inl (kA se))), (qn, .inl (cI, 30, .inl (kA nu))), (qr, .inl (cR, 30, .inr (.inr (.inr (.inr (fun i => some (ro i))))))), (tx, .inl (cI, 30, .inl (kA t))), (ro q, .inr (2, [.ref (en q)])), (en q, .inl (cI, 30, .inl (kA (rowVal t (K q) (nu q) a a)))), (ro x, .inr (2, [.ref (en x)])), (en x, .inl (cI, 30, .inl (kA a)))] H := by
      rw [show rowVal t (K q) (nu q) a a = rKL 30 (rBehind a a (nu q) 30 0 e30) 30 from by rw [hc]; rfl]
      exact hP
    exact k_vret hx hb hr hlocks hP hS d_As_workOut_259
  · refine k_table (v := 3) (tgt := 148) hx hb d_As_workOut_51 (by omega) (by decide) (by decide) rfl (by decide) ?_
    refine lv_aload_n hx hb d_As_workOut_148 rfl (lv_at hl 3 rfl) ?_
    refine lv_aload hx hb d_As_workOut_149 (lv_at hl 2 rfl) ?_
    refine lv_aload hx hb d_As_workOut_151 (lv_at hl 1 rfl) ?_
    refine lv_iload hx hb d_As_workOut_153 (lv_at hl 0 rfl) ?_
    refine k_beV (va_runV (As := [.ref (ro x), .ref (ro x), .int (zI (↑(nu q)))]) (rest := []) ⟨hx, hb, hml, hown, hkw⟩ (c_Row_addBehind_same l D cI cR cG (ro q) (en q) (ro x) (en x) (nu q) e30 a (by omega) e30_le ha30 _) (cwV 3 hkw (k_gV kw_methodLink_As_52 kw_instanceMethod_Ro_addBehind kw_selects_Ro_addBehind kw_initialized_Ro kw_code_Ro_addBehind) rfl rfl rfl (by decide +kernel) ⟨(Nat.le_of_ble_eq_true rfl), (Nat.le_of_ble_eq_true rfl)⟩) (k_preV (q0 := 0) hK hG hP hD [7, 8, 9, 10] rfl rfl rfl rfl) rfl rfl hl.1 rfl (lv_room (Nat.le_of_ble_eq_true rfl)) d_As_workOut_155 ⟨Nat.zero_le _, Nat.zero_le _⟩) hP hD hS hA [7, 8, 9, 10] rfl (Eq.trans (b := [ro q, en q, ro x, en x]) rfl rfl) ?_
    clear hP hD hS; intro H locs hP hD hS
    replace hP : va_P D k_cl ([(h, .inr (0, [.ref qk, .ref qf, .ref qs, .ref qn, .ref qr, .int (zI ↑n), .int (zI ↑r)])), (qk, .inl (cI, 30, .inl (kA K))), (qf, .inl (cI, 30, .inl (kA fi))), (qs, .inl (cI, 30, .inl (kA se))), (qn, .inl (cI, 30, .inl (kA nu))), (qr, .inl (cR, 30, .inr (.inr (.inr (.inr (fun i => some (ro i))))))), (tx, .inl (cI, 30, .inl (kA t))), (ro q, .inr (2, [.ref (en q)])), (en q, .inl (cI, 30, .inl (kA (rBehind a a (nu q) 30 0 e30)))), (ro x, .inr (2, [.ref (en x)])), (en x, .inl (cI, 30, .inl (kA a)))]) H := hP
    replace hD : va_D A ([(h, .inr (0, [.ref qk, .ref qf, .ref qs, .ref qn, .ref qr, .int (zI ↑n), .int (zI ↑r)])), (qk, .inl (cI, 30, .inl (kA K))), (qf, .inl (cI, 30, .inl (kA fi))), (qs, .inl (cI, 30, .inl (kA se))), (qn, .inl (cI, 30, .inl (kA nu))), (qr, .inl (cR, 30, .inr (.inr (.inr (.inr (fun i => some (ro i))))))), (tx, .inl (cI, 30, .inl (kA t))), (ro q, .inr (2, [.ref (en q)])), (en q, .inl (cI, 30, .inl (kA (rBehind a a (nu q) 30 0 e30)))), (ro x, .inr (2, [.ref (en x)])), (en x, .inl (cI, 30, .inl (kA a)))]) := hD
    refine lv_aload_n hx hb d_As_workOut_158 rfl (lv_at hl 3 rfl) ?_
    refine lv_aload hx hb d_As_workOut_159 (lv_at hl 1 rfl) ?_
    refine lv_aload hx hb d_As_workOut_161 (lv_at hl 2 rfl) ?_
    refine lv_iload hx hb d_As_workOut_163 (lv_at hl 0 rfl) ?_
    refine k_beV (va_runV (As := [.ref (ro x), .ref (ro x), .int (zI (↑(nu q)))]) (rest := []) ⟨hx, hb, hml, hown, hkw⟩ (c_Row_addBehind_same l D cI cR cG (ro q) (en q) (ro x) (en x) (nu q) (rBehind a a (nu q) 30 0 e30) a (by omega) (r_bd_rBehind e30_le ha30) ha30 _) (cwV 3 hkw (k_gV kw_methodLink_As_52 kw_instanceMethod_Ro_addBehind kw_selects_Ro_addBehind kw_initialized_Ro kw_code_Ro_addBehind) rfl rfl rfl (by decide +kernel) ⟨(Nat.le_of_ble_eq_true rfl), (Nat.le_of_ble_eq_true rfl)⟩) (k_preV (q0 := 0) hK hG hP hD [7, 8, 9, 10] rfl rfl rfl rfl) rfl rfl hl.1 rfl (lv_room (Nat.le_of_ble_eq_true rfl)) d_As_workOut_165 ⟨Nat.zero_le _, Nat.zero_le _⟩) hP hD hS hA [7, 8, 9, 10] rfl (Eq.trans (b := [ro q, en q, ro x, en x]) rfl rfl) ?_
    clear hP hD hS; intro H locs hP hD hS
    replace hP : va_P D k_cl ([(h, .inr (0, [.ref qk, .ref qf, .ref qs, .ref qn, .ref qr, .int (zI ↑n), .int (zI ↑r)])), (qk, .inl (cI, 30, .inl (kA K))), (qf, .inl (cI, 30, .inl (kA fi))), (qs, .inl (cI, 30, .inl (kA se))), (qn, .inl (cI, 30, .inl (kA nu))), (qr, .inl (cR, 30, .inr (.inr (.inr (.inr (fun i => some (ro i))))))), (tx, .inl (cI, 30, .inl (kA t))), (ro q, .inr (2, [.ref (en q)])), (en q, .inl (cI, 30, .inl (kA (rBehind a a (nu q) 30 0 (rBehind a a (nu q) 30 0 e30))))), (ro x, .inr (2, [.ref (en x)])), (en x, .inl (cI, 30, .inl (kA a)))]) H := hP
    replace hD : va_D A ([(h, .inr (0, [.ref qk, .ref qf, .ref qs, .ref qn, .ref qr, .int (zI ↑n), .int (zI ↑r)])), (qk, .inl (cI, 30, .inl (kA K))), (qf, .inl (cI, 30, .inl (kA fi))), (qs, .inl (cI, 30, .inl (kA se))), (qn, .inl (cI, 30, .inl (kA nu))), (qr, .inl (cR, 30, .inr (.inr (.inr (.inr (fun i => some (ro i))))))), (tx, .inl (cI, 30, .inl (kA t))), (ro q, .inr (2, [.ref (en q)])), (en q, .inl (cI, 30, .inl (kA (rBehind a a (nu q) 30 0 (rBehind a a (nu q) 30 0 e30))))), (ro x, .inr (2, [.ref (en x)])), (en x, .inl (cI, 30, .inl (kA a)))]) := hD
    refine lv_goto (tgt := 255) hx hb d_As_workOut_168 (by decide) ?_
    refine lv_aload_n hx hb d_As_workOut_255 rfl (lv_at hl 3 rfl) ?_
    refine k_beV (va_runV (As := []) (rest := []) ⟨hx, hb, hml, hown, hkw⟩ (c_Row_keepLeast l D cI cR cG (ro q) (en q) (rBehind a a (nu q) 30 0 (rBehind a a (nu q) 30 0 e30)) (r_bd_rBehind (r_bd_rBehind e30_le ha30) ha30) _) (cwV 0 hkw (k_gV kw_methodLink_As_77 kw_instanceMethod_Ro_keepLeast kw_selects_Ro_keepLeast kw_initialized_Ro kw_code_Ro_keepLeast) rfl rfl rfl (by decide +kernel) ⟨(Nat.le_of_ble_eq_true rfl), (Nat.le_of_ble_eq_true rfl)⟩) (k_preV (q0 := 0) hK hG hP hD [7, 8] rfl rfl rfl rfl) rfl rfl hl.1 rfl (lv_room (Nat.le_of_ble_eq_true rfl)) d_As_workOut_256 ⟨Nat.zero_le _, Nat.zero_le _⟩) hP hD hS hA [7, 8] rfl (Eq.trans (b := [ro q, en q]) rfl rfl) ?_
    clear hP hD hS; intro H locs hP hD hS
    replace hP : va_P D k_cl ([(h, .inr (0, [.ref qk, .ref qf, .ref qs, .ref qn, .ref qr, .int (zI ↑n), .int (zI ↑r)])), (qk, .inl (cI, 30, .inl (kA K))), (qf, .inl (cI, 30, .inl (kA fi))), (qs, .inl (cI, 30, .inl (kA se))), (qn, .inl (cI, 30, .inl (kA nu))), (qr, .inl (cR, 30, .inr (.inr (.inr (.inr (fun i => some (ro i))))))), (tx, .inl (cI, 30, .inl (kA t))), (ro q, .inr (2, [.ref (en q)])), (en q, .inl (cI, 30, .inl (kA (rKL 30 (rBehind a a (nu q) 30 0 (rBehind a a (nu q) 30 0 e30)) 30)))), (ro x, .inr (2, [.ref (en x)])), (en x, .inl (cI, 30, .inl (kA a)))]) H := hP
    replace hD : va_D A ([(h, .inr (0, [.ref qk, .ref qf, .ref qs, .ref qn, .ref qr, .int (zI ↑n), .int (zI ↑r)])), (qk, .inl (cI, 30, .inl (kA K))), (qf, .inl (cI, 30, .inl (kA fi))), (qs, .inl (cI, 30, .inl (kA se))), (qn, .inl (cI, 30, .inl (kA nu))), (qr, .inl (cR, 30, .inr (.inr (.inr (.inr (fun i => some (ro i))))))), (tx, .inl (cI, 30, .inl (kA t))), (ro q, .inr (2, [.ref (en q)])), (en q, .inl (cI, 30, .inl (kA (rKL 30 (rBehind a a (nu q) 30 0 (rBehind a a (nu q) 30 0 e30)) 30)))), (ro x, .inr (2, [.ref (en x)])), (en x, .inl (cI, 30, .inl (kA a)))]) := hD
    rw [← hQf]
    have hP : va_P D k_cl [(h, .inr (0, [.ref qk, .ref qf, .ref qs, .ref qn, .ref qr, .int (zI ↑n), .int (zI ↑r)])), (qk, .inl (cI, 30, .inl (kA K))), (qf, .inl (cI, 30, .inl (kA fi))), (qs, .inl (cI, 30, .inl (kA se))), (qn, .inl (cI, 30, .inl (kA nu))), (qr, .inl (cR, 30, .inr (.inr (.inr (.inr (fun i => some (ro i))))))), (tx, .inl (cI, 30, .inl (kA t))), (ro q, .inr (2, [.ref (en q)])), (en q, .inl (cI, 30, .inl (kA (rowVal t (K q) (nu q) a a)))), (ro x, .inr (2, [.ref (en x)])), (en x, .inl (cI, 30, .inl (kA a)))] H := by
      rw [show rowVal t (K q) (nu q) a a = rKL 30 (rBehind a a (nu q) 30 0 (rBehind a a (nu q) 30 0 e30)) 30 from by rw [hc]; rfl]
      exact hP
    exact k_vret hx hb hr hlocks hP hS d_As_workOut_259
  · refine k_table (v := 4) (tgt := 171) hx hb d_As_workOut_51 (by omega) (by decide) (by decide) rfl (by decide) ?_
    refine lv_aload_n hx hb d_As_workOut_171 rfl (lv_at hl 3 rfl) ?_
    refine lv_aload hx hb d_As_workOut_172 (lv_at hl 2 rfl) ?_
    refine lv_aload hx hb d_As_workOut_174 (lv_at hl 1 rfl) ?_
    refine lv_iload hx hb d_As_workOut_176 (lv_at hl 0 rfl) ?_
    refine k_beV (va_runV (As := [.ref (ro x), .ref (ro x), .int (zI (↑(nu q)))]) (rest := []) ⟨hx, hb, hml, hown, hkw⟩ (c_Row_addBoth_same l D cI cR cG (ro q) (en q) (ro x) (en x) (nu q) e30 a (by omega) e30_le ha30 _) (cwV 3 hkw (k_gV kw_methodLink_As_56 kw_instanceMethod_Ro_addBoth kw_selects_Ro_addBoth kw_initialized_Ro kw_code_Ro_addBoth) rfl rfl rfl (by decide +kernel) ⟨(Nat.le_of_ble_eq_true rfl), (Nat.le_of_ble_eq_true rfl)⟩) (k_preV (q0 := 0) hK hG hP hD [7, 8, 9, 10] rfl rfl rfl rfl) rfl rfl hl.1 rfl (lv_room (Nat.le_of_ble_eq_true rfl)) d_As_workOut_178 ⟨Nat.zero_le _, Nat.zero_le _⟩) hP hD hS hA [7, 8, 9, 10] rfl (Eq.trans (b := [ro q, en q, ro x, en x]) rfl rfl) ?_
    clear hP hD hS; intro H locs hP hD hS
    replace hP : va_P D k_cl ([(h, .inr (0, [.ref qk, .ref qf, .ref qs, .ref qn, .ref qr, .int (zI ↑n), .int (zI ↑r)])), (qk, .inl (cI, 30, .inl (kA K))), (qf, .inl (cI, 30, .inl (kA fi))), (qs, .inl (cI, 30, .inl (kA se))), (qn, .inl (cI, 30, .inl (kA nu))), (qr, .inl (cR, 30, .inr (.inr (.inr (.inr (fun i => some (ro i))))))), (tx, .inl (cI, 30, .inl (kA t))), (ro q, .inr (2, [.ref (en q)])), (en q, .inl (cI, 30, .inl (kA (rBoth a a (nu q) 30 0 e30)))), (ro x, .inr (2, [.ref (en x)])), (en x, .inl (cI, 30, .inl (kA a)))]) H := hP
    replace hD : va_D A ([(h, .inr (0, [.ref qk, .ref qf, .ref qs, .ref qn, .ref qr, .int (zI ↑n), .int (zI ↑r)])), (qk, .inl (cI, 30, .inl (kA K))), (qf, .inl (cI, 30, .inl (kA fi))), (qs, .inl (cI, 30, .inl (kA se))), (qn, .inl (cI, 30, .inl (kA nu))), (qr, .inl (cR, 30, .inr (.inr (.inr (.inr (fun i => some (ro i))))))), (tx, .inl (cI, 30, .inl (kA t))), (ro q, .inr (2, [.ref (en q)])), (en q, .inl (cI, 30, .inl (kA (rBoth a a (nu q) 30 0 e30)))), (ro x, .inr (2, [.ref (en x)])), (en x, .inl (cI, 30, .inl (kA a)))]) := hD
    refine lv_goto (tgt := 255) hx hb d_As_workOut_181 (by decide) ?_
    refine lv_aload_n hx hb d_As_workOut_255 rfl (lv_at hl 3 rfl) ?_
    refine k_beV (va_runV (As := []) (rest := []) ⟨hx, hb, hml, hown, hkw⟩ (c_Row_keepLeast l D cI cR cG (ro q) (en q) (rBoth a a (nu q) 30 0 e30) (r_bd_rBoth e30_le ha30 ha30) _) (cwV 0 hkw (k_gV kw_methodLink_As_77 kw_instanceMethod_Ro_keepLeast kw_selects_Ro_keepLeast kw_initialized_Ro kw_code_Ro_keepLeast) rfl rfl rfl (by decide +kernel) ⟨(Nat.le_of_ble_eq_true rfl), (Nat.le_of_ble_eq_true rfl)⟩) (k_preV (q0 := 0) hK hG hP hD [7, 8] rfl rfl rfl rfl) rfl rfl hl.1 rfl (lv_room (Nat.le_of_ble_eq_true rfl)) d_As_workOut_256 ⟨Nat.zero_le _, Nat.zero_le _⟩) hP hD hS hA [7, 8] rfl (Eq.trans (b := [ro q, en q]) rfl rfl) ?_
    clear hP hD hS; intro H locs hP hD hS
    replace hP : va_P D k_cl ([(h, .inr (0, [.ref qk, .ref qf, .ref qs, .ref qn, .ref qr, .int (zI ↑n), .int (zI ↑r)])), (qk, .inl (cI, 30, .inl (kA K))), (qf, .inl (cI, 30, .inl (kA fi))), (qs, .inl (cI, 30, .inl (kA se))), (qn, .inl (cI, 30, .inl (kA nu))), (qr, .inl (cR, 30, .inr (.inr (.inr (.inr (fun i => some (ro i))))))), (tx, .inl (cI, 30, .inl (kA t))), (ro q, .inr (2, [.ref (en q)])), (en q, .inl (cI, 30, .inl (kA (rKL 30 (rBoth a a (nu q) 30 0 e30) 30)))), (ro x, .inr (2, [.ref (en x)])), (en x, .inl (cI, 30, .inl (kA a)))]) H := hP
    replace hD : va_D A ([(h, .inr (0, [.ref qk, .ref qf, .ref qs, .ref qn, .ref qr, .int (zI ↑n), .int (zI ↑r)])), (qk, .inl (cI, 30, .inl (kA K))), (qf, .inl (cI, 30, .inl (kA fi))), (qs, .inl (cI, 30, .inl (kA se))), (qn, .inl (cI, 30, .inl (kA nu))), (qr, .inl (cR, 30, .inr (.inr (.inr (.inr (fun i => some (ro i))))))), (tx, .inl (cI, 30, .inl (kA t))), (ro q, .inr (2, [.ref (en q)])), (en q, .inl (cI, 30, .inl (kA (rKL 30 (rBoth a a (nu q) 30 0 e30) 30)))), (ro x, .inr (2, [.ref (en x)])), (en x, .inl (cI, 30, .inl (kA a)))]) := hD
    rw [← hQf]
    have hP : va_P D k_cl [(h, .inr (0, [.ref qk, .ref qf, .ref qs, .ref qn, .ref qr, .int (zI ↑n), .int (zI ↑r)])), (qk, .inl (cI, 30, .inl (kA K))), (qf, .inl (cI, 30, .inl (kA fi))), (qs, .inl (cI, 30, .inl (kA se))), (qn, .inl (cI, 30, .inl (kA nu))), (qr, .inl (cR, 30, .inr (.inr (.inr (.inr (fun i => some (ro i))))))), (tx, .inl (cI, 30, .inl (kA t))), (ro q, .inr (2, [.ref (en q)])), (en q, .inl (cI, 30, .inl (kA (rowVal t (K q) (nu q) a a)))), (ro x, .inr (2, [.ref (en x)])), (en x, .inl (cI, 30, .inl (kA a)))] H := by
      rw [show rowVal t (K q) (nu q) a a = rKL 30 (rBoth a a (nu q) 30 0 e30) 30 from by rw [hc]; rfl]
      exact hP
    exact k_vret hx hb hr hlocks hP hS d_As_workOut_259
  · refine k_table (v := 5) (tgt := 184) hx hb d_As_workOut_51 (by omega) (by decide) (by decide) rfl (by decide) ?_
    refine lv_aload_n hx hb d_As_workOut_184 rfl (lv_at hl 3 rfl) ?_
    refine lv_aload hx hb d_As_workOut_185 (lv_at hl 2 rfl) ?_
    refine lv_aload hx hb d_As_workOut_187 (lv_at hl 1 rfl) ?_
    refine k_beV (va_runV (As := [.ref (ro x), .ref (ro x)]) (rest := []) ⟨hx, hb, hml, hown, hkw⟩ (c_Row_addHolding_same l D cI cR cG (ro q) (en q) (ro x) (en x) e30 a e30_le ha30 _) (cwV 2 hkw (k_gV kw_methodLink_As_59 kw_instanceMethod_Ro_addHolding kw_selects_Ro_addHolding kw_initialized_Ro kw_code_Ro_addHolding) rfl rfl rfl (by decide +kernel) ⟨(Nat.le_of_ble_eq_true rfl), (Nat.le_of_ble_eq_true rfl)⟩) (k_preV (q0 := 0) hK hG hP hD [7, 8, 9, 10] rfl rfl rfl rfl) rfl rfl hl.1 rfl (lv_room (Nat.le_of_ble_eq_true rfl)) d_As_workOut_189 ⟨Nat.zero_le _, Nat.zero_le _⟩) hP hD hS hA [7, 8, 9, 10] rfl (Eq.trans (b := [ro q, en q, ro x, en x]) rfl rfl) ?_
    clear hP hD hS; intro H locs hP hD hS
    replace hP : va_P D k_cl ([(h, .inr (0, [.ref qk, .ref qf, .ref qs, .ref qn, .ref qr, .int (zI ↑n), .int (zI ↑r)])), (qk, .inl (cI, 30, .inl (kA K))), (qf, .inl (cI, 30, .inl (kA fi))), (qs, .inl (cI, 30, .inl (kA se))), (qn, .inl (cI, 30, .inl (kA nu))), (qr, .inl (cR, 30, .inr (.inr (.inr (.inr (fun i => some (ro i))))))), (tx, .inl (cI, 30, .inl (kA t))), (ro q, .inr (2, [.ref (en q)])), (en q, .inl (cI, 30, .inl (kA (rHolding a a 30 0 e30)))), (ro x, .inr (2, [.ref (en x)])), (en x, .inl (cI, 30, .inl (kA a)))]) H := hP
    replace hD : va_D A ([(h, .inr (0, [.ref qk, .ref qf, .ref qs, .ref qn, .ref qr, .int (zI ↑n), .int (zI ↑r)])), (qk, .inl (cI, 30, .inl (kA K))), (qf, .inl (cI, 30, .inl (kA fi))), (qs, .inl (cI, 30, .inl (kA se))), (qn, .inl (cI, 30, .inl (kA nu))), (qr, .inl (cR, 30, .inr (.inr (.inr (.inr (fun i => some (ro i))))))), (tx, .inl (cI, 30, .inl (kA t))), (ro q, .inr (2, [.ref (en q)])), (en q, .inl (cI, 30, .inl (kA (rHolding a a 30 0 e30)))), (ro x, .inr (2, [.ref (en x)])), (en x, .inl (cI, 30, .inl (kA a)))]) := hD
    refine lv_goto (tgt := 255) hx hb d_As_workOut_192 (by decide) ?_
    refine lv_aload_n hx hb d_As_workOut_255 rfl (lv_at hl 3 rfl) ?_
    refine k_beV (va_runV (As := []) (rest := []) ⟨hx, hb, hml, hown, hkw⟩ (c_Row_keepLeast l D cI cR cG (ro q) (en q) (rHolding a a 30 0 e30) (r_bd_rHolding e30_le ha30) _) (cwV 0 hkw (k_gV kw_methodLink_As_77 kw_instanceMethod_Ro_keepLeast kw_selects_Ro_keepLeast kw_initialized_Ro kw_code_Ro_keepLeast) rfl rfl rfl (by decide +kernel) ⟨(Nat.le_of_ble_eq_true rfl), (Nat.le_of_ble_eq_true rfl)⟩) (k_preV (q0 := 0) hK hG hP hD [7, 8] rfl rfl rfl rfl) rfl rfl hl.1 rfl (lv_room (Nat.le_of_ble_eq_true rfl)) d_As_workOut_256 ⟨Nat.zero_le _, Nat.zero_le _⟩) hP hD hS hA [7, 8] rfl (Eq.trans (b := [ro q, en q]) rfl rfl) ?_
    clear hP hD hS; intro H locs hP hD hS
    replace hP : va_P D k_cl ([(h, .inr (0, [.ref qk, .ref qf, .ref qs, .ref qn, .ref qr, .int (zI ↑n), .int (zI ↑r)])), (qk, .inl (cI, 30, .inl (kA K))), (qf, .inl (cI, 30, .inl (kA fi))), (qs, .inl (cI, 30, .inl (kA se))), (qn, .inl (cI, 30, .inl (kA nu))), (qr, .inl (cR, 30, .inr (.inr (.inr (.inr (fun i => some (ro i))))))), (tx, .inl (cI, 30, .inl (kA t))), (ro q, .inr (2, [.ref (en q)])), (en q, .inl (cI, 30, .inl (kA (rKL 30 (rHolding a a 30 0 e30) 30)))), (ro x, .inr (2, [.ref (en x)])), (en x, .inl (cI, 30, .inl (kA a)))]) H := hP
    replace hD : va_D A ([(h, .inr (0, [.ref qk, .ref qf, .ref qs, .ref qn, .ref qr, .int (zI ↑n), .int (zI ↑r)])), (qk, .inl (cI, 30, .inl (kA K))), (qf, .inl (cI, 30, .inl (kA fi))), (qs, .inl (cI, 30, .inl (kA se))), (qn, .inl (cI, 30, .inl (kA nu))), (qr, .inl (cR, 30, .inr (.inr (.inr (.inr (fun i => some (ro i))))))), (tx, .inl (cI, 30, .inl (kA t))), (ro q, .inr (2, [.ref (en q)])), (en q, .inl (cI, 30, .inl (kA (rKL 30 (rHolding a a 30 0 e30) 30)))), (ro x, .inr (2, [.ref (en x)])), (en x, .inl (cI, 30, .inl (kA a)))]) := hD
    rw [← hQf]
    have hP : va_P D k_cl [(h, .inr (0, [.ref qk, .ref qf, .ref qs, .ref qn, .ref qr, .int (zI ↑n), .int (zI ↑r)])), (qk, .inl (cI, 30, .inl (kA K))), (qf, .inl (cI, 30, .inl (kA fi))), (qs, .inl (cI, 30, .inl (kA se))), (qn, .inl (cI, 30, .inl (kA nu))), (qr, .inl (cR, 30, .inr (.inr (.inr (.inr (fun i => some (ro i))))))), (tx, .inl (cI, 30, .inl (kA t))), (ro q, .inr (2, [.ref (en q)])), (en q, .inl (cI, 30, .inl (kA (rowVal t (K q) (nu q) a a)))), (ro x, .inr (2, [.ref (en x)])), (en x, .inl (cI, 30, .inl (kA a)))] H := by
      rw [show rowVal t (K q) (nu q) a a = rKL 30 (rHolding a a 30 0 e30) 30 from by rw [hc]; rfl]
      exact hP
    exact k_vret hx hb hr hlocks hP hS d_As_workOut_259
  · refine k_table (v := 6) (tgt := 195) hx hb d_As_workOut_51 (by omega) (by decide) (by decide) rfl (by decide) ?_
    refine lv_aload_n hx hb d_As_workOut_195 rfl (lv_at hl 3 rfl) ?_
    refine lv_aload hx hb d_As_workOut_196 (lv_at hl 2 rfl) ?_
    refine lv_aload hx hb d_As_workOut_198 (lv_at hl 1 rfl) ?_
    refine k_beV (va_runV (As := [.ref (ro x), .ref (ro x)]) (rest := []) ⟨hx, hb, hml, hown, hkw⟩ (c_Row_addIn_same l D cI cR cG (ro q) (en q) (ro x) (en x) e30 a e30_le ha30 _) (cwV 2 hkw (k_gV kw_methodLink_As_63 kw_instanceMethod_Ro_addIn kw_selects_Ro_addIn kw_initialized_Ro kw_code_Ro_addIn) rfl rfl rfl (by decide +kernel) ⟨(Nat.le_of_ble_eq_true rfl), (Nat.le_of_ble_eq_true rfl)⟩) (k_preV (q0 := 0) hK hG hP hD [7, 8, 9, 10] rfl rfl rfl rfl) rfl rfl hl.1 rfl (lv_room (Nat.le_of_ble_eq_true rfl)) d_As_workOut_200 ⟨Nat.zero_le _, Nat.zero_le _⟩) hP hD hS hA [7, 8, 9, 10] rfl (Eq.trans (b := [ro q, en q, ro x, en x]) rfl rfl) ?_
    clear hP hD hS; intro H locs hP hD hS
    replace hP : va_P D k_cl ([(h, .inr (0, [.ref qk, .ref qf, .ref qs, .ref qn, .ref qr, .int (zI ↑n), .int (zI ↑r)])), (qk, .inl (cI, 30, .inl (kA K))), (qf, .inl (cI, 30, .inl (kA fi))), (qs, .inl (cI, 30, .inl (kA se))), (qn, .inl (cI, 30, .inl (kA nu))), (qr, .inl (cR, 30, .inr (.inr (.inr (.inr (fun i => some (ro i))))))), (tx, .inl (cI, 30, .inl (kA t))), (ro q, .inr (2, [.ref (en q)])), (en q, .inl (cI, 30, .inl (kA (rIn a a 30 0 e30)))), (ro x, .inr (2, [.ref (en x)])), (en x, .inl (cI, 30, .inl (kA a)))]) H := hP
    replace hD : va_D A ([(h, .inr (0, [.ref qk, .ref qf, .ref qs, .ref qn, .ref qr, .int (zI ↑n), .int (zI ↑r)])), (qk, .inl (cI, 30, .inl (kA K))), (qf, .inl (cI, 30, .inl (kA fi))), (qs, .inl (cI, 30, .inl (kA se))), (qn, .inl (cI, 30, .inl (kA nu))), (qr, .inl (cR, 30, .inr (.inr (.inr (.inr (fun i => some (ro i))))))), (tx, .inl (cI, 30, .inl (kA t))), (ro q, .inr (2, [.ref (en q)])), (en q, .inl (cI, 30, .inl (kA (rIn a a 30 0 e30)))), (ro x, .inr (2, [.ref (en x)])), (en x, .inl (cI, 30, .inl (kA a)))]) := hD
    refine lv_goto (tgt := 255) hx hb d_As_workOut_203 (by decide) ?_
    refine lv_aload_n hx hb d_As_workOut_255 rfl (lv_at hl 3 rfl) ?_
    refine k_beV (va_runV (As := []) (rest := []) ⟨hx, hb, hml, hown, hkw⟩ (c_Row_keepLeast l D cI cR cG (ro q) (en q) (rIn a a 30 0 e30) (r_bd_rIn e30_le ha30) _) (cwV 0 hkw (k_gV kw_methodLink_As_77 kw_instanceMethod_Ro_keepLeast kw_selects_Ro_keepLeast kw_initialized_Ro kw_code_Ro_keepLeast) rfl rfl rfl (by decide +kernel) ⟨(Nat.le_of_ble_eq_true rfl), (Nat.le_of_ble_eq_true rfl)⟩) (k_preV (q0 := 0) hK hG hP hD [7, 8] rfl rfl rfl rfl) rfl rfl hl.1 rfl (lv_room (Nat.le_of_ble_eq_true rfl)) d_As_workOut_256 ⟨Nat.zero_le _, Nat.zero_le _⟩) hP hD hS hA [7, 8] rfl (Eq.trans (b := [ro q, en q]) rfl rfl) ?_
    clear hP hD hS; intro H locs hP hD hS
    replace hP : va_P D k_cl ([(h, .inr (0, [.ref qk, .ref qf, .ref qs, .ref qn, .ref qr, .int (zI ↑n), .int (zI ↑r)])), (qk, .inl (cI, 30, .inl (kA K))), (qf, .inl (cI, 30, .inl (kA fi))), (qs, .inl (cI, 30, .inl (kA se))), (qn, .inl (cI, 30, .inl (kA nu))), (qr, .inl (cR, 30, .inr (.inr (.inr (.inr (fun i => some (ro i))))))), (tx, .inl (cI, 30, .inl (kA t))), (ro q, .inr (2, [.ref (en q)])), (en q, .inl (cI, 30, .inl (kA (rKL 30 (rIn a a 30 0 e30) 30)))), (ro x, .inr (2, [.ref (en x)])), (en x, .inl (cI, 30, .inl (kA a)))]) H := hP
    replace hD : va_D A ([(h, .inr (0, [.ref qk, .ref qf, .ref qs, .ref qn, .ref qr, .int (zI ↑n), .int (zI ↑r)])), (qk, .inl (cI, 30, .inl (kA K))), (qf, .inl (cI, 30, .inl (kA fi))), (qs, .inl (cI, 30, .inl (kA se))), (qn, .inl (cI, 30, .inl (kA nu))), (qr, .inl (cR, 30, .inr (.inr (.inr (.inr (fun i => some (ro i))))))), (tx, .inl (cI, 30, .inl (kA t))), (ro q, .inr (2, [.ref (en q)])), (en q, .inl (cI, 30, .inl (kA (rKL 30 (rIn a a 30 0 e30) 30)))), (ro x, .inr (2, [.ref (en x)])), (en x, .inl (cI, 30, .inl (kA a)))]) := hD
    rw [← hQf]
    have hP : va_P D k_cl [(h, .inr (0, [.ref qk, .ref qf, .ref qs, .ref qn, .ref qr, .int (zI ↑n), .int (zI ↑r)])), (qk, .inl (cI, 30, .inl (kA K))), (qf, .inl (cI, 30, .inl (kA fi))), (qs, .inl (cI, 30, .inl (kA se))), (qn, .inl (cI, 30, .inl (kA nu))), (qr, .inl (cR, 30, .inr (.inr (.inr (.inr (fun i => some (ro i))))))), (tx, .inl (cI, 30, .inl (kA t))), (ro q, .inr (2, [.ref (en q)])), (en q, .inl (cI, 30, .inl (kA (rowVal t (K q) (nu q) a a)))), (ro x, .inr (2, [.ref (en x)])), (en x, .inl (cI, 30, .inl (kA a)))] H := by
      rw [show rowVal t (K q) (nu q) a a = rKL 30 (rIn a a 30 0 e30) 30 from by rw [hc]; rfl]
      exact hP
    exact k_vret hx hb hr hlocks hP hS d_As_workOut_259
  · refine k_table (v := 7) (tgt := 206) hx hb d_As_workOut_51 (by omega) (by decide) (by decide) rfl (by decide) ?_
    refine lv_aload_n hx hb d_As_workOut_206 rfl (lv_at hl 3 rfl) ?_
    refine lv_aload hx hb d_As_workOut_207 (lv_at hl 2 rfl) ?_
    refine lv_aload hx hb d_As_workOut_209 (lv_at hl 1 rfl) ?_
    refine lv_iconst (v := zI (-1)) hx hb d_As_workOut_211 (by decide) ?_
    refine lv_iconst (v := zI 1) hx hb d_As_workOut_212 (by decide) ?_
    refine k_stk (st2 := [.int (k_b (true = true)), .int (zI (-1)), .ref (ro x), .ref (ro x), .ref (ro q)]) (by rw [k_tt]) ?_
    refine k_beV (va_runV (As := [.ref (ro x), .ref (ro x), .int (zI (-1)), .int (k_b (true = true))]) (rest := []) ⟨hx, hb, hml, hown, hkw⟩ (c_Row_addByNearness_same l D cI cR cG (ro q) (en q) (ro x) (en x) (-1) true e30 a (by omega) e30_le ha30 _) (cwV 4 hkw (k_gV kw_methodLink_As_66 kw_instanceMethod_Ro_addByNearness kw_selects_Ro_addByNearness kw_initialized_Ro kw_code_Ro_addByNearness) rfl rfl rfl (by decide +kernel) ⟨(Nat.le_of_ble_eq_true rfl), (Nat.le_of_ble_eq_true rfl)⟩) (k_preV (q0 := 0) hK hG hP hD [7, 8, 9, 10] rfl rfl rfl rfl) rfl rfl hl.1 rfl (lv_room (Nat.le_of_ble_eq_true rfl)) d_As_workOut_213 ⟨Nat.zero_le _, Nat.zero_le _⟩) hP hD hS hA [7, 8, 9, 10] rfl (Eq.trans (b := [ro q, en q, ro x, en x]) rfl rfl) ?_
    clear hP hD hS; intro H locs hP hD hS
    replace hP : va_P D k_cl ([(h, .inr (0, [.ref qk, .ref qf, .ref qs, .ref qn, .ref qr, .int (zI ↑n), .int (zI ↑r)])), (qk, .inl (cI, 30, .inl (kA K))), (qf, .inl (cI, 30, .inl (kA fi))), (qs, .inl (cI, 30, .inl (kA se))), (qn, .inl (cI, 30, .inl (kA nu))), (qr, .inl (cR, 30, .inr (.inr (.inr (.inr (fun i => some (ro i))))))), (tx, .inl (cI, 30, .inl (kA t))), (ro q, .inr (2, [.ref (en q)])), (en q, .inl (cI, 30, .inl (kA (rNear a a (-1) true 30 0 e30)))), (ro x, .inr (2, [.ref (en x)])), (en x, .inl (cI, 30, .inl (kA a)))]) H := hP
    replace hD : va_D A ([(h, .inr (0, [.ref qk, .ref qf, .ref qs, .ref qn, .ref qr, .int (zI ↑n), .int (zI ↑r)])), (qk, .inl (cI, 30, .inl (kA K))), (qf, .inl (cI, 30, .inl (kA fi))), (qs, .inl (cI, 30, .inl (kA se))), (qn, .inl (cI, 30, .inl (kA nu))), (qr, .inl (cR, 30, .inr (.inr (.inr (.inr (fun i => some (ro i))))))), (tx, .inl (cI, 30, .inl (kA t))), (ro q, .inr (2, [.ref (en q)])), (en q, .inl (cI, 30, .inl (kA (rNear a a (-1) true 30 0 e30)))), (ro x, .inr (2, [.ref (en x)])), (en x, .inl (cI, 30, .inl (kA a)))]) := hD
    refine lv_goto (tgt := 255) hx hb d_As_workOut_216 (by decide) ?_
    refine lv_aload_n hx hb d_As_workOut_255 rfl (lv_at hl 3 rfl) ?_
    refine k_beV (va_runV (As := []) (rest := []) ⟨hx, hb, hml, hown, hkw⟩ (c_Row_keepLeast l D cI cR cG (ro q) (en q) (rNear a a (-1) true 30 0 e30) (r_bd_rNear e30_le ha30) _) (cwV 0 hkw (k_gV kw_methodLink_As_77 kw_instanceMethod_Ro_keepLeast kw_selects_Ro_keepLeast kw_initialized_Ro kw_code_Ro_keepLeast) rfl rfl rfl (by decide +kernel) ⟨(Nat.le_of_ble_eq_true rfl), (Nat.le_of_ble_eq_true rfl)⟩) (k_preV (q0 := 0) hK hG hP hD [7, 8] rfl rfl rfl rfl) rfl rfl hl.1 rfl (lv_room (Nat.le_of_ble_eq_true rfl)) d_As_workOut_256 ⟨Nat.zero_le _, Nat.zero_le _⟩) hP hD hS hA [7, 8] rfl (Eq.trans (b := [ro q, en q]) rfl rfl) ?_
    clear hP hD hS; intro H locs hP hD hS
    replace hP : va_P D k_cl ([(h, .inr (0, [.ref qk, .ref qf, .ref qs, .ref qn, .ref qr, .int (zI ↑n), .int (zI ↑r)])), (qk, .inl (cI, 30, .inl (kA K))), (qf, .inl (cI, 30, .inl (kA fi))), (qs, .inl (cI, 30, .inl (kA se))), (qn, .inl (cI, 30, .inl (kA nu))), (qr, .inl (cR, 30, .inr (.inr (.inr (.inr (fun i => some (ro i))))))), (tx, .inl (cI, 30, .inl (kA t))), (ro q, .inr (2, [.ref (en q)])), (en q, .inl (cI, 30, .inl (kA (rKL 30 (rNear a a (-1) true 30 0 e30) 30)))), (ro x, .inr (2, [.ref (en x)])), (en x, .inl (cI, 30, .inl (kA a)))]) H := hP
    replace hD : va_D A ([(h, .inr (0, [.ref qk, .ref qf, .ref qs, .ref qn, .ref qr, .int (zI ↑n), .int (zI ↑r)])), (qk, .inl (cI, 30, .inl (kA K))), (qf, .inl (cI, 30, .inl (kA fi))), (qs, .inl (cI, 30, .inl (kA se))), (qn, .inl (cI, 30, .inl (kA nu))), (qr, .inl (cR, 30, .inr (.inr (.inr (.inr (fun i => some (ro i))))))), (tx, .inl (cI, 30, .inl (kA t))), (ro q, .inr (2, [.ref (en q)])), (en q, .inl (cI, 30, .inl (kA (rKL 30 (rNear a a (-1) true 30 0 e30) 30)))), (ro x, .inr (2, [.ref (en x)])), (en x, .inl (cI, 30, .inl (kA a)))]) := hD
    rw [← hQf]
    have hP : va_P D k_cl [(h, .inr (0, [.ref qk, .ref qf, .ref qs, .ref qn, .ref qr, .int (zI ↑n), .int (zI ↑r)])), (qk, .inl (cI, 30, .inl (kA K))), (qf, .inl (cI, 30, .inl (kA fi))), (qs, .inl (cI, 30, .inl (kA se))), (qn, .inl (cI, 30, .inl (kA nu))), (qr, .inl (cR, 30, .inr (.inr (.inr (.inr (fun i => some (ro i))))))), (tx, .inl (cI, 30, .inl (kA t))), (ro q, .inr (2, [.ref (en q)])), (en q, .inl (cI, 30, .inl (kA (rowVal t (K q) (nu q) a a)))), (ro x, .inr (2, [.ref (en x)])), (en x, .inl (cI, 30, .inl (kA a)))] H := by
      rw [show rowVal t (K q) (nu q) a a = rKL 30 (rNear a a (-1) true 30 0 e30) 30 from by rw [hc]; rfl]
      exact hP
    exact k_vret hx hb hr hlocks hP hS d_As_workOut_259
  · refine k_table (v := 8) (tgt := 219) hx hb d_As_workOut_51 (by omega) (by decide) (by decide) rfl (by decide) ?_
    refine lv_aload_n hx hb d_As_workOut_219 rfl (lv_at hl 3 rfl) ?_
    refine lv_aload hx hb d_As_workOut_220 (lv_at hl 2 rfl) ?_
    refine lv_aload hx hb d_As_workOut_222 (lv_at hl 1 rfl) ?_
    refine lv_iload hx hb d_As_workOut_224 (lv_at hl 0 rfl) ?_
    refine lv_iconst (v := zI 0) hx hb d_As_workOut_226 (by decide) ?_
    refine k_stk (st2 := [.int (k_b (false = true)), .int (zI (↑(nu q))), .ref (ro x), .ref (ro x), .ref (ro q)]) (by rw [k_ff]) ?_
    refine k_beV (va_runV (As := [.ref (ro x), .ref (ro x), .int (zI (↑(nu q))), .int (k_b (false = true))]) (rest := []) ⟨hx, hb, hml, hown, hkw⟩ (c_Row_addByNearness_same l D cI cR cG (ro q) (en q) (ro x) (en x) (↑(nu q)) false e30 a (by omega) e30_le ha30 _) (cwV 4 hkw (k_gV kw_methodLink_As_66 kw_instanceMethod_Ro_addByNearness kw_selects_Ro_addByNearness kw_initialized_Ro kw_code_Ro_addByNearness) rfl rfl rfl (by decide +kernel) ⟨(Nat.le_of_ble_eq_true rfl), (Nat.le_of_ble_eq_true rfl)⟩) (k_preV (q0 := 0) hK hG hP hD [7, 8, 9, 10] rfl rfl rfl rfl) rfl rfl hl.1 rfl (lv_room (Nat.le_of_ble_eq_true rfl)) d_As_workOut_227 ⟨Nat.zero_le _, Nat.zero_le _⟩) hP hD hS hA [7, 8, 9, 10] rfl (Eq.trans (b := [ro q, en q, ro x, en x]) rfl rfl) ?_
    clear hP hD hS; intro H locs hP hD hS
    replace hP : va_P D k_cl ([(h, .inr (0, [.ref qk, .ref qf, .ref qs, .ref qn, .ref qr, .int (zI ↑n), .int (zI ↑r)])), (qk, .inl (cI, 30, .inl (kA K))), (qf, .inl (cI, 30, .inl (kA fi))), (qs, .inl (cI, 30, .inl (kA se))), (qn, .inl (cI, 30, .inl (kA nu))), (qr, .inl (cR, 30, .inr (.inr (.inr (.inr (fun i => some (ro i))))))), (tx, .inl (cI, 30, .inl (kA t))), (ro q, .inr (2, [.ref (en q)])), (en q, .inl (cI, 30, .inl (kA (rNear a a (↑(nu q)) false 30 0 e30)))), (ro x, .inr (2, [.ref (en x)])), (en x, .inl (cI, 30, .inl (kA a)))]) H := hP
    replace hD : va_D A ([(h, .inr (0, [.ref qk, .ref qf, .ref qs, .ref qn, .ref qr, .int (zI ↑n), .int (zI ↑r)])), (qk, .inl (cI, 30, .inl (kA K))), (qf, .inl (cI, 30, .inl (kA fi))), (qs, .inl (cI, 30, .inl (kA se))), (qn, .inl (cI, 30, .inl (kA nu))), (qr, .inl (cR, 30, .inr (.inr (.inr (.inr (fun i => some (ro i))))))), (tx, .inl (cI, 30, .inl (kA t))), (ro q, .inr (2, [.ref (en q)])), (en q, .inl (cI, 30, .inl (kA (rNear a a (↑(nu q)) false 30 0 e30)))), (ro x, .inr (2, [.ref (en x)])), (en x, .inl (cI, 30, .inl (kA a)))]) := hD
    refine lv_goto (tgt := 255) hx hb d_As_workOut_230 (by decide) ?_
    refine lv_aload_n hx hb d_As_workOut_255 rfl (lv_at hl 3 rfl) ?_
    refine k_beV (va_runV (As := []) (rest := []) ⟨hx, hb, hml, hown, hkw⟩ (c_Row_keepLeast l D cI cR cG (ro q) (en q) (rNear a a (↑(nu q)) false 30 0 e30) (r_bd_rNear e30_le ha30) _) (cwV 0 hkw (k_gV kw_methodLink_As_77 kw_instanceMethod_Ro_keepLeast kw_selects_Ro_keepLeast kw_initialized_Ro kw_code_Ro_keepLeast) rfl rfl rfl (by decide +kernel) ⟨(Nat.le_of_ble_eq_true rfl), (Nat.le_of_ble_eq_true rfl)⟩) (k_preV (q0 := 0) hK hG hP hD [7, 8] rfl rfl rfl rfl) rfl rfl hl.1 rfl (lv_room (Nat.le_of_ble_eq_true rfl)) d_As_workOut_256 ⟨Nat.zero_le _, Nat.zero_le _⟩) hP hD hS hA [7, 8] rfl (Eq.trans (b := [ro q, en q]) rfl rfl) ?_
    clear hP hD hS; intro H locs hP hD hS
    replace hP : va_P D k_cl ([(h, .inr (0, [.ref qk, .ref qf, .ref qs, .ref qn, .ref qr, .int (zI ↑n), .int (zI ↑r)])), (qk, .inl (cI, 30, .inl (kA K))), (qf, .inl (cI, 30, .inl (kA fi))), (qs, .inl (cI, 30, .inl (kA se))), (qn, .inl (cI, 30, .inl (kA nu))), (qr, .inl (cR, 30, .inr (.inr (.inr (.inr (fun i => some (ro i))))))), (tx, .inl (cI, 30, .inl (kA t))), (ro q, .inr (2, [.ref (en q)])), (en q, .inl (cI, 30, .inl (kA (rKL 30 (rNear a a (↑(nu q)) false 30 0 e30) 30)))), (ro x, .inr (2, [.ref (en x)])), (en x, .inl (cI, 30, .inl (kA a)))]) H := hP
    replace hD : va_D A ([(h, .inr (0, [.ref qk, .ref qf, .ref qs, .ref qn, .ref qr, .int (zI ↑n), .int (zI ↑r)])), (qk, .inl (cI, 30, .inl (kA K))), (qf, .inl (cI, 30, .inl (kA fi))), (qs, .inl (cI, 30, .inl (kA se))), (qn, .inl (cI, 30, .inl (kA nu))), (qr, .inl (cR, 30, .inr (.inr (.inr (.inr (fun i => some (ro i))))))), (tx, .inl (cI, 30, .inl (kA t))), (ro q, .inr (2, [.ref (en q)])), (en q, .inl (cI, 30, .inl (kA (rKL 30 (rNear a a (↑(nu q)) false 30 0 e30) 30)))), (ro x, .inr (2, [.ref (en x)])), (en x, .inl (cI, 30, .inl (kA a)))]) := hD
    rw [← hQf]
    have hP : va_P D k_cl [(h, .inr (0, [.ref qk, .ref qf, .ref qs, .ref qn, .ref qr, .int (zI ↑n), .int (zI ↑r)])), (qk, .inl (cI, 30, .inl (kA K))), (qf, .inl (cI, 30, .inl (kA fi))), (qs, .inl (cI, 30, .inl (kA se))), (qn, .inl (cI, 30, .inl (kA nu))), (qr, .inl (cR, 30, .inr (.inr (.inr (.inr (fun i => some (ro i))))))), (tx, .inl (cI, 30, .inl (kA t))), (ro q, .inr (2, [.ref (en q)])), (en q, .inl (cI, 30, .inl (kA (rowVal t (K q) (nu q) a a)))), (ro x, .inr (2, [.ref (en x)])), (en x, .inl (cI, 30, .inl (kA a)))] H := by
      rw [show rowVal t (K q) (nu q) a a = rKL 30 (rNear a a (↑(nu q)) false 30 0 e30) 30 from by rw [hc]; rfl]
      exact hP
    exact k_vret hx hb hr hlocks hP hS d_As_workOut_259
  · refine k_table (v := 9) (tgt := 233) hx hb d_As_workOut_51 (by omega) (by decide) (by decide) rfl (by decide) ?_
    refine lv_aload_n hx hb d_As_workOut_233 rfl (lv_at hl 3 rfl) ?_
    refine lv_aload hx hb d_As_workOut_234 (lv_at hl 2 rfl) ?_
    refine lv_iload hx hb d_As_workOut_236 (lv_at hl 0 rfl) ?_
    refine k_beV (va_runV (As := [.ref (ro x), .int (zI (↑(nu q)))]) (rest := []) ⟨hx, hb, hml, hown, hkw⟩ (c_Row_addEndingBefore l D cI cR cG (ro q) (en q) (ro x) (en x) (nu q) e30 a (by omega) e30_le ha30 _) (cwV 2 hkw (k_gV kw_methodLink_As_70 kw_instanceMethod_Ro_addEndingBefore kw_selects_Ro_addEndingBefore kw_initialized_Ro kw_code_Ro_addEndingBefore) rfl rfl rfl (by decide +kernel) ⟨(Nat.le_of_ble_eq_true rfl), (Nat.le_of_ble_eq_true rfl)⟩) (k_preV (q0 := 0) hK hG hP hD [7, 8, 9, 10] rfl rfl rfl rfl) rfl rfl hl.1 rfl (lv_room (Nat.le_of_ble_eq_true rfl)) d_As_workOut_238 ⟨Nat.zero_le _, Nat.zero_le _⟩) hP hD hS hA [7, 8, 9, 10] rfl (Eq.trans (b := [ro q, en q, ro x, en x]) rfl rfl) ?_
    clear hP hD hS; intro H locs hP hD hS
    replace hP : va_P D k_cl ([(h, .inr (0, [.ref qk, .ref qf, .ref qs, .ref qn, .ref qr, .int (zI ↑n), .int (zI ↑r)])), (qk, .inl (cI, 30, .inl (kA K))), (qf, .inl (cI, 30, .inl (kA fi))), (qs, .inl (cI, 30, .inl (kA se))), (qn, .inl (cI, 30, .inl (kA nu))), (qr, .inl (cR, 30, .inr (.inr (.inr (.inr (fun i => some (ro i))))))), (tx, .inl (cI, 30, .inl (kA t))), (ro q, .inr (2, [.ref (en q)])), (en q, .inl (cI, 30, .inl (kA (rBefore a (nu q) 30 0 e30)))), (ro x, .inr (2, [.ref (en x)])), (en x, .inl (cI, 30, .inl (kA a)))]) H := hP
    replace hD : va_D A ([(h, .inr (0, [.ref qk, .ref qf, .ref qs, .ref qn, .ref qr, .int (zI ↑n), .int (zI ↑r)])), (qk, .inl (cI, 30, .inl (kA K))), (qf, .inl (cI, 30, .inl (kA fi))), (qs, .inl (cI, 30, .inl (kA se))), (qn, .inl (cI, 30, .inl (kA nu))), (qr, .inl (cR, 30, .inr (.inr (.inr (.inr (fun i => some (ro i))))))), (tx, .inl (cI, 30, .inl (kA t))), (ro q, .inr (2, [.ref (en q)])), (en q, .inl (cI, 30, .inl (kA (rBefore a (nu q) 30 0 e30)))), (ro x, .inr (2, [.ref (en x)])), (en x, .inl (cI, 30, .inl (kA a)))]) := hD
    refine lv_goto (tgt := 255) hx hb d_As_workOut_241 (by decide) ?_
    refine lv_aload_n hx hb d_As_workOut_255 rfl (lv_at hl 3 rfl) ?_
    refine k_beV (va_runV (As := []) (rest := []) ⟨hx, hb, hml, hown, hkw⟩ (c_Row_keepLeast l D cI cR cG (ro q) (en q) (rBefore a (nu q) 30 0 e30) (r_bd_rBefore e30_le ha30) _) (cwV 0 hkw (k_gV kw_methodLink_As_77 kw_instanceMethod_Ro_keepLeast kw_selects_Ro_keepLeast kw_initialized_Ro kw_code_Ro_keepLeast) rfl rfl rfl (by decide +kernel) ⟨(Nat.le_of_ble_eq_true rfl), (Nat.le_of_ble_eq_true rfl)⟩) (k_preV (q0 := 0) hK hG hP hD [7, 8] rfl rfl rfl rfl) rfl rfl hl.1 rfl (lv_room (Nat.le_of_ble_eq_true rfl)) d_As_workOut_256 ⟨Nat.zero_le _, Nat.zero_le _⟩) hP hD hS hA [7, 8] rfl (Eq.trans (b := [ro q, en q]) rfl rfl) ?_
    clear hP hD hS; intro H locs hP hD hS
    replace hP : va_P D k_cl ([(h, .inr (0, [.ref qk, .ref qf, .ref qs, .ref qn, .ref qr, .int (zI ↑n), .int (zI ↑r)])), (qk, .inl (cI, 30, .inl (kA K))), (qf, .inl (cI, 30, .inl (kA fi))), (qs, .inl (cI, 30, .inl (kA se))), (qn, .inl (cI, 30, .inl (kA nu))), (qr, .inl (cR, 30, .inr (.inr (.inr (.inr (fun i => some (ro i))))))), (tx, .inl (cI, 30, .inl (kA t))), (ro q, .inr (2, [.ref (en q)])), (en q, .inl (cI, 30, .inl (kA (rKL 30 (rBefore a (nu q) 30 0 e30) 30)))), (ro x, .inr (2, [.ref (en x)])), (en x, .inl (cI, 30, .inl (kA a)))]) H := hP
    replace hD : va_D A ([(h, .inr (0, [.ref qk, .ref qf, .ref qs, .ref qn, .ref qr, .int (zI ↑n), .int (zI ↑r)])), (qk, .inl (cI, 30, .inl (kA K))), (qf, .inl (cI, 30, .inl (kA fi))), (qs, .inl (cI, 30, .inl (kA se))), (qn, .inl (cI, 30, .inl (kA nu))), (qr, .inl (cR, 30, .inr (.inr (.inr (.inr (fun i => some (ro i))))))), (tx, .inl (cI, 30, .inl (kA t))), (ro q, .inr (2, [.ref (en q)])), (en q, .inl (cI, 30, .inl (kA (rKL 30 (rBefore a (nu q) 30 0 e30) 30)))), (ro x, .inr (2, [.ref (en x)])), (en x, .inl (cI, 30, .inl (kA a)))]) := hD
    rw [← hQf]
    have hP : va_P D k_cl [(h, .inr (0, [.ref qk, .ref qf, .ref qs, .ref qn, .ref qr, .int (zI ↑n), .int (zI ↑r)])), (qk, .inl (cI, 30, .inl (kA K))), (qf, .inl (cI, 30, .inl (kA fi))), (qs, .inl (cI, 30, .inl (kA se))), (qn, .inl (cI, 30, .inl (kA nu))), (qr, .inl (cR, 30, .inr (.inr (.inr (.inr (fun i => some (ro i))))))), (tx, .inl (cI, 30, .inl (kA t))), (ro q, .inr (2, [.ref (en q)])), (en q, .inl (cI, 30, .inl (kA (rowVal t (K q) (nu q) a a)))), (ro x, .inr (2, [.ref (en x)])), (en x, .inl (cI, 30, .inl (kA a)))] H := by
      rw [show rowVal t (K q) (nu q) a a = rKL 30 (rBefore a (nu q) 30 0 e30) 30 from by rw [hc]; rfl]
      exact hP
    exact k_vret hx hb hr hlocks hP hS d_As_workOut_259
  · refine k_table (v := 10) (tgt := 244) hx hb d_As_workOut_51 (by omega) (by decide) (by decide) rfl (by decide) ?_
    refine lv_aload_n hx hb d_As_workOut_244 rfl (lv_at hl 3 rfl) ?_
    refine lv_aload hx hb d_As_workOut_245 (lv_at hl 2 rfl) ?_
    refine lv_iload hx hb d_As_workOut_247 (lv_at hl 0 rfl) ?_
    refine k_beV (va_runV (As := [.ref (ro x), .int (zI (↑(nu q)))]) (rest := []) ⟨hx, hb, hml, hown, hkw⟩ (c_Row_addGrown l D cI cR cG (ro q) (en q) (ro x) (en x) (nu q) e30 a (by omega) e30_le ha30 _) (cwV 2 hkw (k_gV kw_methodLink_As_74 kw_instanceMethod_Ro_addGrown kw_selects_Ro_addGrown kw_initialized_Ro kw_code_Ro_addGrown) rfl rfl rfl (by decide +kernel) ⟨(Nat.le_of_ble_eq_true rfl), (Nat.le_of_ble_eq_true rfl)⟩) (k_preV (q0 := 0) hK hG hP hD [7, 8, 9, 10] rfl rfl rfl rfl) rfl rfl hl.1 rfl (lv_room (Nat.le_of_ble_eq_true rfl)) d_As_workOut_249 ⟨Nat.zero_le _, Nat.zero_le _⟩) hP hD hS hA [7, 8, 9, 10] rfl (Eq.trans (b := [ro q, en q, ro x, en x]) rfl rfl) ?_
    clear hP hD hS; intro H locs hP hD hS
    replace hP : va_P D k_cl ([(h, .inr (0, [.ref qk, .ref qf, .ref qs, .ref qn, .ref qr, .int (zI ↑n), .int (zI ↑r)])), (qk, .inl (cI, 30, .inl (kA K))), (qf, .inl (cI, 30, .inl (kA fi))), (qs, .inl (cI, 30, .inl (kA se))), (qn, .inl (cI, 30, .inl (kA nu))), (qr, .inl (cR, 30, .inr (.inr (.inr (.inr (fun i => some (ro i))))))), (tx, .inl (cI, 30, .inl (kA t))), (ro q, .inr (2, [.ref (en q)])), (en q, .inl (cI, 30, .inl (kA (rGrown a (nu q) 30 0 e30)))), (ro x, .inr (2, [.ref (en x)])), (en x, .inl (cI, 30, .inl (kA a)))]) H := hP
    replace hD : va_D A ([(h, .inr (0, [.ref qk, .ref qf, .ref qs, .ref qn, .ref qr, .int (zI ↑n), .int (zI ↑r)])), (qk, .inl (cI, 30, .inl (kA K))), (qf, .inl (cI, 30, .inl (kA fi))), (qs, .inl (cI, 30, .inl (kA se))), (qn, .inl (cI, 30, .inl (kA nu))), (qr, .inl (cR, 30, .inr (.inr (.inr (.inr (fun i => some (ro i))))))), (tx, .inl (cI, 30, .inl (kA t))), (ro q, .inr (2, [.ref (en q)])), (en q, .inl (cI, 30, .inl (kA (rGrown a (nu q) 30 0 e30)))), (ro x, .inr (2, [.ref (en x)])), (en x, .inl (cI, 30, .inl (kA a)))]) := hD
    refine lv_goto (tgt := 255) hx hb d_As_workOut_252 (by decide) ?_
    refine lv_aload_n hx hb d_As_workOut_255 rfl (lv_at hl 3 rfl) ?_
    refine k_beV (va_runV (As := []) (rest := []) ⟨hx, hb, hml, hown, hkw⟩ (c_Row_keepLeast l D cI cR cG (ro q) (en q) (rGrown a (nu q) 30 0 e30) (r_bd_rGrown e30_le ha30) _) (cwV 0 hkw (k_gV kw_methodLink_As_77 kw_instanceMethod_Ro_keepLeast kw_selects_Ro_keepLeast kw_initialized_Ro kw_code_Ro_keepLeast) rfl rfl rfl (by decide +kernel) ⟨(Nat.le_of_ble_eq_true rfl), (Nat.le_of_ble_eq_true rfl)⟩) (k_preV (q0 := 0) hK hG hP hD [7, 8] rfl rfl rfl rfl) rfl rfl hl.1 rfl (lv_room (Nat.le_of_ble_eq_true rfl)) d_As_workOut_256 ⟨Nat.zero_le _, Nat.zero_le _⟩) hP hD hS hA [7, 8] rfl (Eq.trans (b := [ro q, en q]) rfl rfl) ?_
    clear hP hD hS; intro H locs hP hD hS
    replace hP : va_P D k_cl ([(h, .inr (0, [.ref qk, .ref qf, .ref qs, .ref qn, .ref qr, .int (zI ↑n), .int (zI ↑r)])), (qk, .inl (cI, 30, .inl (kA K))), (qf, .inl (cI, 30, .inl (kA fi))), (qs, .inl (cI, 30, .inl (kA se))), (qn, .inl (cI, 30, .inl (kA nu))), (qr, .inl (cR, 30, .inr (.inr (.inr (.inr (fun i => some (ro i))))))), (tx, .inl (cI, 30, .inl (kA t))), (ro q, .inr (2, [.ref (en q)])), (en q, .inl (cI, 30, .inl (kA (rKL 30 (rGrown a (nu q) 30 0 e30) 30)))), (ro x, .inr (2, [.ref (en x)])), (en x, .inl (cI, 30, .inl (kA a)))]) H := hP
    replace hD : va_D A ([(h, .inr (0, [.ref qk, .ref qf, .ref qs, .ref qn, .ref qr, .int (zI ↑n), .int (zI ↑r)])), (qk, .inl (cI, 30, .inl (kA K))), (qf, .inl (cI, 30, .inl (kA fi))), (qs, .inl (cI, 30, .inl (kA se))), (qn, .inl (cI, 30, .inl (kA nu))), (qr, .inl (cR, 30, .inr (.inr (.inr (.inr (fun i => some (ro i))))))), (tx, .inl (cI, 30, .inl (kA t))), (ro q, .inr (2, [.ref (en q)])), (en q, .inl (cI, 30, .inl (kA (rKL 30 (rGrown a (nu q) 30 0 e30) 30)))), (ro x, .inr (2, [.ref (en x)])), (en x, .inl (cI, 30, .inl (kA a)))]) := hD
    rw [← hQf]
    have hP : va_P D k_cl [(h, .inr (0, [.ref qk, .ref qf, .ref qs, .ref qn, .ref qr, .int (zI ↑n), .int (zI ↑r)])), (qk, .inl (cI, 30, .inl (kA K))), (qf, .inl (cI, 30, .inl (kA fi))), (qs, .inl (cI, 30, .inl (kA se))), (qn, .inl (cI, 30, .inl (kA nu))), (qr, .inl (cR, 30, .inr (.inr (.inr (.inr (fun i => some (ro i))))))), (tx, .inl (cI, 30, .inl (kA t))), (ro q, .inr (2, [.ref (en q)])), (en q, .inl (cI, 30, .inl (kA (rowVal t (K q) (nu q) a a)))), (ro x, .inr (2, [.ref (en x)])), (en x, .inl (cI, 30, .inl (kA a)))] H := by
      rw [show rowVal t (K q) (nu q) a a = rKL 30 (rGrown a (nu q) 30 0 e30) 30 from by rw [hc]; rfl]
      exact hP
    exact k_vret hx hb hr hlocks hP hS d_As_workOut_259

abbrev rm_As_workOut2 : Room := { frames := 4, cells := 0, slots := 0, locals := 93 }
set_option maxHeartbeats 4000000 in
set_option maxRecDepth 100000 in
theorem c_As_workOut2 (l : Launch) (D : va_G) (cI cR cG : ClassId) (h qk qf qs qn qr n r q tx x y : Nat) (ro en K fi se nu t G a b : Nat → Nat) (hq : q < 30) (hfi : fi q = x) (hse : se q = y) (hx3 : x < 30) (hy3 : y < 30) (hkd : K q ≤ 10) (hnu : nu q ≤ 30) (hn0 : K q = 0 → nu q < 10) (ht : ∀ j, t j ≤ 1023) (hG0 : ∀ j, G j ≤ 30) (ha30 : ∀ j, a j ≤ 30) (hb30 : ∀ j, b j ≤ 30) : k_M l y_As_workOut (.code y_As_workOut b_As_workOut 7 none :: kW) rm_As_workOut2 D k_cl (k_ty cI cR cG) [.ref h, .int (zI ↑q), .ref tx] ([(h, .inr (0, [.ref qk, .ref qf, .ref qs, .ref qn, .ref qr, .int (zI ↑n), .int (zI ↑r)])), (qk, .inl (cI, 30, .inl (kA K))), (qf, .inl (cI, 30, .inl (kA fi))), (qs, .inl (cI, 30, .inl (kA se))), (qn, .inl (cI, 30, .inl (kA nu))), (qr, .inl (cR, 30, .inr (.inr (.inr (.inr (fun i => some (ro i))))))), (tx, .inl (cI, 30, .inl (kA t))), (ro q, .inr (2, [.ref (en q)])), (en q, .inl (cI, 30, .inl (kA G))), (ro x, .inr (2, [.ref (en x)])), (en x, .inl (cI, 30, .inl (kA a))), (ro y, .inr (2, [.ref (en y)])), (en y, .inl (cI, 30, .inl (kA b)))]) (k_Qv D k_cl [(h, .inr (0, [.ref qk, .ref qf, .ref qs, .ref qn, .ref qr, .int (zI ↑n), .int (zI ↑r)])), (qk, .inl (cI, 30, .inl (kA K))), (qf, .inl (cI, 30, .inl (kA fi))), (qs, .inl (cI, 30, .inl (kA se))), (qn, .inl (cI, 30, .inl (kA nu))), (qr, .inl (cR, 30, .inr (.inr (.inr (.inr (fun i => some (ro i))))))), (tx, .inl (cI, 30, .inl (kA t))), (ro q, .inr (2, [.ref (en q)])), (en q, .inl (cI, 30, .inl (kA (rowVal t (K q) (nu q) a b)))), (ro x, .inr (2, [.ref (en x)])), (en x, .inl (cI, 30, .inl (kA a))), (ro y, .inr (2, [.ref (en y)])), (en y, .inl (cI, 30, .inl (kA b)))]) := by
  refine k_start (cc := b_As_workOut) (maxL := 7) (ret := none) (by decide) rfl (Nat.le_of_ble_eq_true rfl) ?_
  intro p ev s m ar below meth c A ls Qf hQf hx hb hr hml hts hown hlocks hin hK hG hA hP hD hS hl
  replace hown : s.vm.findClass R_As = some m.cls := hown
  replace hl : lv_has ls 7 [(0, .ref h), (1, .int (zI ↑q)), (2, .ref tx)] := hl
  have hkw : ∀ w ∈ kW, w.before ar s = true := fun w h => hts w (List.mem_cons_of_mem _ h)
  replace hP : va_P D k_cl ([(h, .inr (0, [.ref qk, .ref qf, .ref qs, .ref qn, .ref qr, .int (zI ↑n), .int (zI ↑r)])), (qk, .inl (cI, 30, .inl (kA K))), (qf, .inl (cI, 30, .inl (kA fi))), (qs, .inl (cI, 30, .inl (kA se))), (qn, .inl (cI, 30, .inl (kA nu))), (qr, .inl (cR, 30, .inr (.inr (.inr (.inr (fun i => some (ro i))))))), (tx, .inl (cI, 30, .inl (kA t))), (ro q, .inr (2, [.ref (en q)])), (en q, .inl (cI, 30, .inl (kA G))), (ro x, .inr (2, [.ref (en x)])), (en x, .inl (cI, 30, .inl (kA a))), (ro y, .inr (2, [.ref (en y)])), (en y, .inl (cI, 30, .inl (kA b)))]) s.heap := hP
  replace hD : va_D A ([(h, .inr (0, [.ref qk, .ref qf, .ref qs, .ref qn, .ref qr, .int (zI ↑n), .int (zI ↑r)])), (qk, .inl (cI, 30, .inl (kA K))), (qf, .inl (cI, 30, .inl (kA fi))), (qs, .inl (cI, 30, .inl (kA se))), (qn, .inl (cI, 30, .inl (kA nu))), (qr, .inl (cR, 30, .inr (.inr (.inr (.inr (fun i => some (ro i))))))), (tx, .inl (cI, 30, .inl (kA t))), (ro q, .inr (2, [.ref (en q)])), (en q, .inl (cI, 30, .inl (kA G))), (ro x, .inr (2, [.ref (en x)])), (en x, .inl (cI, 30, .inl (kA a))), (ro y, .inr (2, [.ref (en y)])), (en y, .inl (cI, 30, .inl (kA b)))]) := hD
  refine lv_aload_n hx hb d_As_workOut_0 rfl (lv_at hl 0 rfl) ?_
  refine va_get (D := D) (ci := 0) (v := .ref qr) (C := R_As) (T := T_As) (N := 7) hx hb hkw kin_As hown hK hP 0 rfl rfl 4 (by decide) (hkw _ kw_fieldLink_As_26) (fun _ h9 => h9) rfl d_As_workOut_1 ?_
  refine lv_iload_n hx hb d_As_workOut_4 rfl (lv_at hl 1 rfl) ?_
  refine k_aald hx hb hK hP 5 1 rfl rfl (i := q) (by omega) (by omega) (by omega) d_As_workOut_5 ?_
  refine lv_astore_n (lv' := [(3, .ref (ro q)), (0, .ref h), (1, .int (zI ↑q)), (2, .ref tx)]) hx hb d_As_workOut_6 rfl hl (by decide) rfl ?_
  clear hl; intro ls hl
  refine lv_aload_n hx hb d_As_workOut_7 rfl (lv_at hl 1 rfl) ?_
  refine va_get (D := D) (ci := 0) (v := .ref qr) (C := R_As) (T := T_As) (N := 7) hx hb hkw kin_As hown hK hP 0 rfl rfl 4 (by decide) (hkw _ kw_fieldLink_As_26) (fun _ h9 => h9) rfl d_As_workOut_8 ?_
  refine lv_aload_n hx hb d_As_workOut_11 rfl (lv_at hl 1 rfl) ?_
  refine va_get (D := D) (ci := 0) (v := .ref qf) (C := R_As) (T := T_As) (N := 7) hx hb hkw kin_As hown hK hP 0 rfl rfl 1 (by decide) (hkw _ kw_fieldLink_As_15) (fun _ h9 => h9) rfl d_As_workOut_12 ?_
  refine lv_iload_n hx hb d_As_workOut_15 rfl (lv_at hl 2 rfl) ?_
  refine k_ald hx hb hK hP 2 0 rfl rfl (i := q) (by omega) (by omega) (by omega) d_As_workOut_16 ?_
  refine k_aald hx hb hK hP 5 1 rfl rfl (i := x) (by omega) (by omega) (by omega) d_As_workOut_17 ?_
  refine lv_astore (lv' := [(4, .ref (ro x)), (3, .ref (ro q)), (0, .ref h), (1, .int (zI ↑q)), (2, .ref tx)]) hx hb d_As_workOut_18 hl (by decide) rfl ?_
  clear hl; intro ls hl
  refine lv_aload_n hx hb d_As_workOut_20 rfl (lv_at hl 2 rfl) ?_
  refine va_get (D := D) (ci := 0) (v := .ref qr) (C := R_As) (T := T_As) (N := 7) hx hb hkw kin_As hown hK hP 0 rfl rfl 4 (by decide) (hkw _ kw_fieldLink_As_26) (fun _ h9 => h9) rfl d_As_workOut_21 ?_
  refine lv_aload_n hx hb d_As_workOut_24 rfl (lv_at hl 2 rfl) ?_
  refine va_get (D := D) (ci := 0) (v := .ref qs) (C := R_As) (T := T_As) (N := 7) hx hb hkw kin_As hown hK hP 0 rfl rfl 2 (by decide) (hkw _ kw_fieldLink_As_18) (fun _ h9 => h9) rfl d_As_workOut_25 ?_
  refine lv_iload_n hx hb d_As_workOut_28 rfl (lv_at hl 3 rfl) ?_
  refine k_ald hx hb hK hP 3 0 rfl rfl (i := q) (by omega) (by omega) (by omega) d_As_workOut_29 ?_
  refine k_aald hx hb hK hP 5 1 rfl rfl (i := y) (by omega) (by omega) (by omega) d_As_workOut_30 ?_
  refine lv_astore (lv' := [(5, .ref (ro y)), (4, .ref (ro x)), (3, .ref (ro q)), (0, .ref h), (1, .int (zI ↑q)), (2, .ref tx)]) hx hb d_As_workOut_31 hl (by decide) rfl ?_
  clear hl; intro ls hl
  refine lv_aload_n hx hb d_As_workOut_33 rfl (lv_at hl 3 rfl) ?_
  refine va_get (D := D) (ci := 0) (v := .ref qn) (C := R_As) (T := T_As) (N := 7) hx hb hkw kin_As hown hK hP 0 rfl rfl 3 (by decide) (hkw _ kw_fieldLink_As_21) (fun _ h9 => h9) rfl d_As_workOut_34 ?_
  refine lv_iload_n hx hb d_As_workOut_37 rfl (lv_at hl 4 rfl) ?_
  refine k_ald hx hb hK hP 4 0 rfl rfl (i := q) (by omega) (by omega) (by omega) d_As_workOut_38 ?_
  refine lv_istore (lv' := [(6, .int (zI (↑(nu q)))), (5, .ref (ro y)), (4, .ref (ro x)), (3, .ref (ro q)), (0, .ref h), (1, .int (zI ↑q)), (2, .ref tx)]) hx hb d_As_workOut_39 hl (by decide) rfl ?_
  clear hl; intro ls hl
  refine lv_aload_n hx hb d_As_workOut_41 rfl (lv_at hl 3 rfl) ?_
  refine k_beV (va_runV (As := []) (rest := []) ⟨hx, hb, hml, hown, hkw⟩ (c_Row_empty l D cI cR cG (ro q) (en q) G _) (cwV 0 hkw (k_gV kw_methodLink_As_42 kw_instanceMethod_Ro_empty kw_selects_Ro_empty kw_initialized_Ro kw_code_Ro_empty) rfl rfl rfl (by decide +kernel) ⟨(Nat.le_of_ble_eq_true rfl), (Nat.le_of_ble_eq_true rfl)⟩) (k_preV (q0 := 0) hK hG hP hD [7, 8] rfl rfl rfl rfl) rfl rfl hl.1 rfl (lv_room (Nat.le_of_ble_eq_true rfl)) d_As_workOut_42 ⟨Nat.zero_le _, Nat.zero_le _⟩) hP hD hS hA [7, 8] rfl (Eq.trans (b := [ro q, en q]) rfl rfl) ?_
  clear hP hD hS; intro H locs hP hD hS
  replace hP : va_P D k_cl ([(h, .inr (0, [.ref qk, .ref qf, .ref qs, .ref qn, .ref qr, .int (zI ↑n), .int (zI ↑r)])), (qk, .inl (cI, 30, .inl (kA K))), (qf, .inl (cI, 30, .inl (kA fi))), (qs, .inl (cI, 30, .inl (kA se))), (qn, .inl (cI, 30, .inl (kA nu))), (qr, .inl (cR, 30, .inr (.inr (.inr (.inr (fun i => some (ro i))))))), (tx, .inl (cI, 30, .inl (kA t))), (ro q, .inr (2, [.ref (en q)])), (en q, .inl (cI, 30, .inl (kA e30))), (ro x, .inr (2, [.ref (en x)])), (en x, .inl (cI, 30, .inl (kA a))), (ro y, .inr (2, [.ref (en y)])), (en y, .inl (cI, 30, .inl (kA b)))]) H := hP
  replace hD : va_D A ([(h, .inr (0, [.ref qk, .ref qf, .ref qs, .ref qn, .ref qr, .int (zI ↑n), .int (zI ↑r)])), (qk, .inl (cI, 30, .inl (kA K))), (qf, .inl (cI, 30, .inl (kA fi))), (qs, .inl (cI, 30, .inl (kA se))), (qn, .inl (cI, 30, .inl (kA nu))), (qr, .inl (cR, 30, .inr (.inr (.inr (.inr (fun i => some (ro i))))))), (tx, .inl (cI, 30, .inl (kA t))), (ro q, .inr (2, [.ref (en q)])), (en q, .inl (cI, 30, .inl (kA e30))), (ro x, .inr (2, [.ref (en x)])), (en x, .inl (cI, 30, .inl (kA a))), (ro y, .inr (2, [.ref (en y)])), (en y, .inl (cI, 30, .inl (kA b)))]) := hD
  refine lv_aload_n hx hb d_As_workOut_45 rfl (lv_at hl 4 rfl) ?_
  refine va_get (D := D) (ci := 0) (v := .ref qk) (C := R_As) (T := T_As) (N := 7) hx hb hkw kin_As hown hK hP 0 rfl rfl 0 (by decide) (hkw _ kw_fieldLink_As_9) (fun _ h9 => h9) rfl d_As_workOut_46 ?_
  refine lv_iload_n hx hb d_As_workOut_49 rfl (lv_at hl 5 rfl) ?_
  refine k_ald hx hb hK hP 1 0 rfl rfl (i := q) (by omega) (by omega) (by omega) d_As_workOut_50 ?_
  obtain hc | hc | hc | hc | hc | hc | hc | hc | hc | hc | hc : K q = 0 ∨ K q = 1 ∨ K q = 2 ∨ K q = 3 ∨ K q = 4 ∨ K q = 5 ∨ K q = 6 ∨ K q = 7 ∨ K q = 8 ∨ K q = 9 ∨ K q = 10 := by omega
  · have hn9 := hn0 hc
    refine k_table (v := 0) (tgt := 108) hx hb d_As_workOut_51 (by omega) (by decide) (by decide) rfl (by decide) ?_
    refine lv_aload_n hx hb d_As_workOut_108 rfl (lv_at hl 3 rfl) ?_
    refine lv_iconst (v := zI 1) hx hb d_As_workOut_109 (by decide) ?_
    refine lv_iload hx hb d_As_workOut_110 (lv_at hl 0 rfl) ?_
    refine k_ishl1 (n := (nu q)) hx hb (by omega) d_As_workOut_112 ?_
    refine lv_aload_n hx hb d_As_workOut_113 rfl (lv_at hl 6 rfl) ?_
    refine k_beV (va_runV (As := [.int (zI (↑(2 ^ (nu q)))), .ref tx]) (rest := []) ⟨hx, hb, hml, hown, hkw⟩ (c_Row_addPlacesWith l D cI cR cG (ro q) (en q) tx (2 ^ (nu q)) e30 t (k_p10 hn9) e30_le ht _) (cwV 2 hkw (k_gV kw_methodLink_As_45 kw_instanceMethod_Ro_addPlacesWith kw_selects_Ro_addPlacesWith kw_initialized_Ro kw_code_Ro_addPlacesWith) rfl rfl rfl (by decide +kernel) ⟨(Nat.le_of_ble_eq_true rfl), (Nat.le_of_ble_eq_true rfl)⟩) (k_preV (q0 := 0) hK hG hP hD [7, 8, 6] rfl rfl rfl rfl) rfl rfl hl.1 rfl (lv_room (Nat.le_of_ble_eq_true rfl)) d_As_workOut_114 ⟨Nat.zero_le _, Nat.zero_le _⟩) hP hD hS hA [7, 8, 6] rfl (Eq.trans (b := [ro q, en q, tx]) rfl rfl) ?_
    clear hP hD hS; intro H locs hP hD hS
    replace hP : va_P D k_cl ([(h, .inr (0, [.ref qk, .ref qf, .ref qs, .ref qn, .ref qr, .int (zI ↑n), .int (zI ↑r)])), (qk, .inl (cI, 30, .inl (kA K))), (qf, .inl (cI, 30, .inl (kA fi))), (qs, .inl (cI, 30, .inl (kA se))), (qn, .inl (cI, 30, .inl (kA nu))), (qr, .inl (cR, 30, .inr (.inr (.inr (.inr (fun i => some (ro i))))))), (tx, .inl (cI, 30, .inl (kA t))), (ro q, .inr (2, [.ref (en q)])), (en q, .inl (cI, 30, .inl (kA (rWith t (2 ^ (nu q)) 30 0 e30)))), (ro x, .inr (2, [.ref (en x)])), (en x, .inl (cI, 30, .inl (kA a))), (ro y, .inr (2, [.ref (en y)])), (en y, .inl (cI, 30, .inl (kA b)))]) H := hP
    replace hD : va_D A ([(h, .inr (0, [.ref qk, .ref qf, .ref qs, .ref qn, .ref qr, .int (zI ↑n), .int (zI ↑r)])), (qk, .inl (cI, 30, .inl (kA K))), (qf, .inl (cI, 30, .inl (kA fi))), (qs, .inl (cI, 30, .inl (kA se))), (qn, .inl (cI, 30, .inl (kA nu))), (qr, .inl (cR, 30, .inr (.inr (.inr (.inr (fun i => some (ro i))))))), (tx, .inl (cI, 30, .inl (kA t))), (ro q, .inr (2, [.ref (en q)])), (en q, .inl (cI, 30, .inl (kA (rWith t (2 ^ (nu q)) 30 0 e30)))), (ro x, .inr (2, [.ref (en x)])), (en x, .inl (cI, 30, .inl (kA a))), (ro y, .inr (2, [.ref (en y)])), (en y, .inl (cI, 30, .inl (kA b)))]) := hD
    refine lv_goto (tgt := 255) hx hb d_As_workOut_117 (by decide) ?_
    refine lv_aload_n hx hb d_As_workOut_255 rfl (lv_at hl 3 rfl) ?_
    refine k_beV (va_runV (As := []) (rest := []) ⟨hx, hb, hml, hown, hkw⟩ (c_Row_keepLeast l D cI cR cG (ro q) (en q) (rWith t (2 ^ (nu q)) 30 0 e30) (r_bd_rWith (by omega) e30_le) _) (cwV 0 hkw (k_gV kw_methodLink_As_77 kw_instanceMethod_Ro_keepLeast kw_selects_Ro_keepLeast kw_initialized_Ro kw_code_Ro_keepLeast) rfl rfl rfl (by decide +kernel) ⟨(Nat.le_of_ble_eq_true rfl), (Nat.le_of_ble_eq_true rfl)⟩) (k_preV (q0 := 0) hK hG hP hD [7, 8] rfl rfl rfl rfl) rfl rfl hl.1 rfl (lv_room (Nat.le_of_ble_eq_true rfl)) d_As_workOut_256 ⟨Nat.zero_le _, Nat.zero_le _⟩) hP hD hS hA [7, 8] rfl (Eq.trans (b := [ro q, en q]) rfl rfl) ?_
    clear hP hD hS; intro H locs hP hD hS
    replace hP : va_P D k_cl ([(h, .inr (0, [.ref qk, .ref qf, .ref qs, .ref qn, .ref qr, .int (zI ↑n), .int (zI ↑r)])), (qk, .inl (cI, 30, .inl (kA K))), (qf, .inl (cI, 30, .inl (kA fi))), (qs, .inl (cI, 30, .inl (kA se))), (qn, .inl (cI, 30, .inl (kA nu))), (qr, .inl (cR, 30, .inr (.inr (.inr (.inr (fun i => some (ro i))))))), (tx, .inl (cI, 30, .inl (kA t))), (ro q, .inr (2, [.ref (en q)])), (en q, .inl (cI, 30, .inl (kA (rKL 30 (rWith t (2 ^ (nu q)) 30 0 e30) 30)))), (ro x, .inr (2, [.ref (en x)])), (en x, .inl (cI, 30, .inl (kA a))), (ro y, .inr (2, [.ref (en y)])), (en y, .inl (cI, 30, .inl (kA b)))]) H := hP
    replace hD : va_D A ([(h, .inr (0, [.ref qk, .ref qf, .ref qs, .ref qn, .ref qr, .int (zI ↑n), .int (zI ↑r)])), (qk, .inl (cI, 30, .inl (kA K))), (qf, .inl (cI, 30, .inl (kA fi))), (qs, .inl (cI, 30, .inl (kA se))), (qn, .inl (cI, 30, .inl (kA nu))), (qr, .inl (cR, 30, .inr (.inr (.inr (.inr (fun i => some (ro i))))))), (tx, .inl (cI, 30, .inl (kA t))), (ro q, .inr (2, [.ref (en q)])), (en q, .inl (cI, 30, .inl (kA (rKL 30 (rWith t (2 ^ (nu q)) 30 0 e30) 30)))), (ro x, .inr (2, [.ref (en x)])), (en x, .inl (cI, 30, .inl (kA a))), (ro y, .inr (2, [.ref (en y)])), (en y, .inl (cI, 30, .inl (kA b)))]) := hD
    rw [← hQf]
    have hP : va_P D k_cl [(h, .inr (0, [.ref qk, .ref qf, .ref qs, .ref qn, .ref qr, .int (zI ↑n), .int (zI ↑r)])), (qk, .inl (cI, 30, .inl (kA K))), (qf, .inl (cI, 30, .inl (kA fi))), (qs, .inl (cI, 30, .inl (kA se))), (qn, .inl (cI, 30, .inl (kA nu))), (qr, .inl (cR, 30, .inr (.inr (.inr (.inr (fun i => some (ro i))))))), (tx, .inl (cI, 30, .inl (kA t))), (ro q, .inr (2, [.ref (en q)])), (en q, .inl (cI, 30, .inl (kA (rowVal t (K q) (nu q) a b)))), (ro x, .inr (2, [.ref (en x)])), (en x, .inl (cI, 30, .inl (kA a))), (ro y, .inr (2, [.ref (en y)])), (en y, .inl (cI, 30, .inl (kA b)))] H := by
      rw [show rowVal t (K q) (nu q) a b = rKL 30 (rWith t (2 ^ (nu q)) 30 0 e30) 30 from by rw [hc]; rfl]
      exact hP
    exact k_vret hx hb hr hlocks hP hS d_As_workOut_259
  · refine k_table (v := 1) (tgt := 120) hx hb d_As_workOut_51 (by omega) (by decide) (by decide) rfl (by decide) ?_
    refine lv_aload_n hx hb d_As_workOut_120 rfl (lv_at hl 3 rfl) ?_
    refine lv_aload hx hb d_As_workOut_121 (lv_at hl 2 rfl) ?_
    refine k_beV (va_runV (As := [.ref (ro x)]) (rest := []) ⟨hx, hb, hml, hown, hkw⟩ (c_Row_addAll l D cI cR cG (ro q) (en q) (ro x) (en x) e30 a e30_le ha30 _) (cwV 1 hkw (k_gV kw_methodLink_As_48 kw_instanceMethod_Ro_addAll kw_selects_Ro_addAll kw_initialized_Ro kw_code_Ro_addAll) rfl rfl rfl (by decide +kernel) ⟨(Nat.le_of_ble_eq_true rfl), (Nat.le_of_ble_eq_true rfl)⟩) (k_preV (q0 := 0) hK hG hP hD [7, 8, 9, 10] rfl rfl rfl rfl) rfl rfl hl.1 rfl (lv_room (Nat.le_of_ble_eq_true rfl)) d_As_workOut_123 ⟨Nat.zero_le _, Nat.zero_le _⟩) hP hD hS hA [7, 8, 9, 10] rfl (Eq.trans (b := [ro q, en q, ro x, en x]) rfl rfl) ?_
    clear hP hD hS; intro H locs hP hD hS
    replace hP : va_P D k_cl ([(h, .inr (0, [.ref qk, .ref qf, .ref qs, .ref qn, .ref qr, .int (zI ↑n), .int (zI ↑r)])), (qk, .inl (cI, 30, .inl (kA K))), (qf, .inl (cI, 30, .inl (kA fi))), (qs, .inl (cI, 30, .inl (kA se))), (qn, .inl (cI, 30, .inl (kA nu))), (qr, .inl (cR, 30, .inr (.inr (.inr (.inr (fun i => some (ro i))))))), (tx, .inl (cI, 30, .inl (kA t))), (ro q, .inr (2, [.ref (en q)])), (en q, .inl (cI, 30, .inl (kA (rGrown a 0 30 0 e30)))), (ro x, .inr (2, [.ref (en x)])), (en x, .inl (cI, 30, .inl (kA a))), (ro y, .inr (2, [.ref (en y)])), (en y, .inl (cI, 30, .inl (kA b)))]) H := hP
    replace hD : va_D A ([(h, .inr (0, [.ref qk, .ref qf, .ref qs, .ref qn, .ref qr, .int (zI ↑n), .int (zI ↑r)])), (qk, .inl (cI, 30, .inl (kA K))), (qf, .inl (cI, 30, .inl (kA fi))), (qs, .inl (cI, 30, .inl (kA se))), (qn, .inl (cI, 30, .inl (kA nu))), (qr, .inl (cR, 30, .inr (.inr (.inr (.inr (fun i => some (ro i))))))), (tx, .inl (cI, 30, .inl (kA t))), (ro q, .inr (2, [.ref (en q)])), (en q, .inl (cI, 30, .inl (kA (rGrown a 0 30 0 e30)))), (ro x, .inr (2, [.ref (en x)])), (en x, .inl (cI, 30, .inl (kA a))), (ro y, .inr (2, [.ref (en y)])), (en y, .inl (cI, 30, .inl (kA b)))]) := hD
    refine lv_aload_n hx hb d_As_workOut_126 rfl (lv_at hl 3 rfl) ?_
    refine lv_aload hx hb d_As_workOut_127 (lv_at hl 1 rfl) ?_
    refine k_beV (va_runV (As := [.ref (ro y)]) (rest := []) ⟨hx, hb, hml, hown, hkw⟩ (c_Row_addAll l D cI cR cG (ro q) (en q) (ro y) (en y) (rGrown a 0 30 0 e30) b (r_bd_rGrown e30_le ha30) hb30 _) (cwV 1 hkw (k_gV kw_methodLink_As_48 kw_instanceMethod_Ro_addAll kw_selects_Ro_addAll kw_initialized_Ro kw_code_Ro_addAll) rfl rfl rfl (by decide +kernel) ⟨(Nat.le_of_ble_eq_true rfl), (Nat.le_of_ble_eq_true rfl)⟩) (k_preV (q0 := 0) hK hG hP hD [7, 8, 11, 12] rfl rfl rfl rfl) rfl rfl hl.1 rfl (lv_room (Nat.le_of_ble_eq_true rfl)) d_As_workOut_129 ⟨Nat.zero_le _, Nat.zero_le _⟩) hP hD hS hA [7, 8, 11, 12] rfl (Eq.trans (b := [ro q, en q, ro y, en y]) rfl rfl) ?_
    clear hP hD hS; intro H locs hP hD hS
    replace hP : va_P D k_cl ([(h, .inr (0, [.ref qk, .ref qf, .ref qs, .ref qn, .ref qr, .int (zI ↑n), .int (zI ↑r)])), (qk, .inl (cI, 30, .inl (kA K))), (qf, .inl (cI, 30, .inl (kA fi))), (qs, .inl (cI, 30, .inl (kA se))), (qn, .inl (cI, 30, .inl (kA nu))), (qr, .inl (cR, 30, .inr (.inr (.inr (.inr (fun i => some (ro i))))))), (tx, .inl (cI, 30, .inl (kA t))), (ro q, .inr (2, [.ref (en q)])), (en q, .inl (cI, 30, .inl (kA (rGrown b 0 30 0 (rGrown a 0 30 0 e30))))), (ro x, .inr (2, [.ref (en x)])), (en x, .inl (cI, 30, .inl (kA a))), (ro y, .inr (2, [.ref (en y)])), (en y, .inl (cI, 30, .inl (kA b)))]) H := hP
    replace hD : va_D A ([(h, .inr (0, [.ref qk, .ref qf, .ref qs, .ref qn, .ref qr, .int (zI ↑n), .int (zI ↑r)])), (qk, .inl (cI, 30, .inl (kA K))), (qf, .inl (cI, 30, .inl (kA fi))), (qs, .inl (cI, 30, .inl (kA se))), (qn, .inl (cI, 30, .inl (kA nu))), (qr, .inl (cR, 30, .inr (.inr (.inr (.inr (fun i => some (ro i))))))), (tx, .inl (cI, 30, .inl (kA t))), (ro q, .inr (2, [.ref (en q)])), (en q, .inl (cI, 30, .inl (kA (rGrown b 0 30 0 (rGrown a 0 30 0 e30))))), (ro x, .inr (2, [.ref (en x)])), (en x, .inl (cI, 30, .inl (kA a))), (ro y, .inr (2, [.ref (en y)])), (en y, .inl (cI, 30, .inl (kA b)))]) := hD
    refine lv_goto (tgt := 255) hx hb d_As_workOut_132 (by decide) ?_
    refine lv_aload_n hx hb d_As_workOut_255 rfl (lv_at hl 3 rfl) ?_
    refine k_beV (va_runV (As := []) (rest := []) ⟨hx, hb, hml, hown, hkw⟩ (c_Row_keepLeast l D cI cR cG (ro q) (en q) (rGrown b 0 30 0 (rGrown a 0 30 0 e30)) (r_bd_rGrown (r_bd_rGrown e30_le ha30) hb30) _) (cwV 0 hkw (k_gV kw_methodLink_As_77 kw_instanceMethod_Ro_keepLeast kw_selects_Ro_keepLeast kw_initialized_Ro kw_code_Ro_keepLeast) rfl rfl rfl (by decide +kernel) ⟨(Nat.le_of_ble_eq_true rfl), (Nat.le_of_ble_eq_true rfl)⟩) (k_preV (q0 := 0) hK hG hP hD [7, 8] rfl rfl rfl rfl) rfl rfl hl.1 rfl (lv_room (Nat.le_of_ble_eq_true rfl)) d_As_workOut_256 ⟨Nat.zero_le _, Nat.zero_le _⟩) hP hD hS hA [7, 8] rfl (Eq.trans (b := [ro q, en q]) rfl rfl) ?_
    clear hP hD hS; intro H locs hP hD hS
    replace hP : va_P D k_cl ([(h, .inr (0, [.ref qk, .ref qf, .ref qs, .ref qn, .ref qr, .int (zI ↑n), .int (zI ↑r)])), (qk, .inl (cI, 30, .inl (kA K))), (qf, .inl (cI, 30, .inl (kA fi))), (qs, .inl (cI, 30, .inl (kA se))), (qn, .inl (cI, 30, .inl (kA nu))), (qr, .inl (cR, 30, .inr (.inr (.inr (.inr (fun i => some (ro i))))))), (tx, .inl (cI, 30, .inl (kA t))), (ro q, .inr (2, [.ref (en q)])), (en q, .inl (cI, 30, .inl (kA (rKL 30 (rGrown b 0 30 0 (rGrown a 0 30 0 e30)) 30)))), (ro x, .inr (2, [.ref (en x)])), (en x, .inl (cI, 30, .inl (kA a))), (ro y, .inr (2, [.ref (en y)])), (en y, .inl (cI, 30, .inl (kA b)))]) H := hP
    replace hD : va_D A ([(h, .inr (0, [.ref qk, .ref qf, .ref qs, .ref qn, .ref qr, .int (zI ↑n), .int (zI ↑r)])), (qk, .inl (cI, 30, .inl (kA K))), (qf, .inl (cI, 30, .inl (kA fi))), (qs, .inl (cI, 30, .inl (kA se))), (qn, .inl (cI, 30, .inl (kA nu))), (qr, .inl (cR, 30, .inr (.inr (.inr (.inr (fun i => some (ro i))))))), (tx, .inl (cI, 30, .inl (kA t))), (ro q, .inr (2, [.ref (en q)])), (en q, .inl (cI, 30, .inl (kA (rKL 30 (rGrown b 0 30 0 (rGrown a 0 30 0 e30)) 30)))), (ro x, .inr (2, [.ref (en x)])), (en x, .inl (cI, 30, .inl (kA a))), (ro y, .inr (2, [.ref (en y)])), (en y, .inl (cI, 30, .inl (kA b)))]) := hD
    rw [← hQf]
    have hP : va_P D k_cl [(h, .inr (0, [.ref qk, .ref qf, .ref qs, .ref qn, .ref qr, .int (zI ↑n), .int (zI ↑r)])), (qk, .inl (cI, 30, .inl (kA K))), (qf, .inl (cI, 30, .inl (kA fi))), (qs, .inl (cI, 30, .inl (kA se))), (qn, .inl (cI, 30, .inl (kA nu))), (qr, .inl (cR, 30, .inr (.inr (.inr (.inr (fun i => some (ro i))))))), (tx, .inl (cI, 30, .inl (kA t))), (ro q, .inr (2, [.ref (en q)])), (en q, .inl (cI, 30, .inl (kA (rowVal t (K q) (nu q) a b)))), (ro x, .inr (2, [.ref (en x)])), (en x, .inl (cI, 30, .inl (kA a))), (ro y, .inr (2, [.ref (en y)])), (en y, .inl (cI, 30, .inl (kA b)))] H := by
      rw [show rowVal t (K q) (nu q) a b = rKL 30 (rGrown b 0 30 0 (rGrown a 0 30 0 e30)) 30 from by rw [hc]; rfl]
      exact hP
    exact k_vret hx hb hr hlocks hP hS d_As_workOut_259
  · refine k_table (v := 2) (tgt := 135) hx hb d_As_workOut_51 (by omega) (by decide) (by decide) rfl (by decide) ?_
    refine lv_aload_n hx hb d_As_workOut_135 rfl (lv_at hl 3 rfl) ?_
    refine lv_aload hx hb d_As_workOut_136 (lv_at hl 2 rfl) ?_
    refine lv_aload hx hb d_As_workOut_138 (lv_at hl 1 rfl) ?_
    refine lv_iload hx hb d_As_workOut_140 (lv_at hl 0 rfl) ?_
    refine k_beV (va_runV (As := [.ref (ro x), .ref (ro y), .int (zI (↑(nu q)))]) (rest := []) ⟨hx, hb, hml, hown, hkw⟩ (c_Row_addBehind l D cI cR cG (ro q) (en q) (ro x) (en x) (ro y) (en y) (nu q) e30 a b (by omega) e30_le ha30 hb30 _) (cwV 3 hkw (k_gV kw_methodLink_As_52 kw_instanceMethod_Ro_addBehind kw_selects_Ro_addBehind kw_initialized_Ro kw_code_Ro_addBehind) rfl rfl rfl (by decide +kernel) ⟨(Nat.le_of_ble_eq_true rfl), (Nat.le_of_ble_eq_true rfl)⟩) (k_preV (q0 := 0) hK hG hP hD [7, 8, 9, 10, 11, 12] rfl rfl rfl rfl) rfl rfl hl.1 rfl (lv_room (Nat.le_of_ble_eq_true rfl)) d_As_workOut_142 ⟨Nat.zero_le _, Nat.zero_le _⟩) hP hD hS hA [7, 8, 9, 10, 11, 12] rfl (Eq.trans (b := [ro q, en q, ro x, en x, ro y, en y]) rfl rfl) ?_
    clear hP hD hS; intro H locs hP hD hS
    replace hP : va_P D k_cl ([(h, .inr (0, [.ref qk, .ref qf, .ref qs, .ref qn, .ref qr, .int (zI ↑n), .int (zI ↑r)])), (qk, .inl (cI, 30, .inl (kA K))), (qf, .inl (cI, 30, .inl (kA fi))), (qs, .inl (cI, 30, .inl (kA se))), (qn, .inl (cI, 30, .inl (kA nu))), (qr, .inl (cR, 30, .inr (.inr (.inr (.inr (fun i => some (ro i))))))), (tx, .inl (cI, 30, .inl (kA t))), (ro q, .inr (2, [.ref (en q)])), (en q, .inl (cI, 30, .inl (kA (rBehind a b (nu q) 30 0 e30)))), (ro x, .inr (2, [.ref (en x)])), (en x, .inl (cI, 30, .inl (kA a))), (ro y, .inr (2, [.ref (en y)])), (en y, .inl (cI, 30, .inl (kA b)))]) H := hP
    replace hD : va_D A ([(h, .inr (0, [.ref qk, .ref qf, .ref qs, .ref qn, .ref qr, .int (zI ↑n), .int (zI ↑r)])), (qk, .inl (cI, 30, .inl (kA K))), (qf, .inl (cI, 30, .inl (kA fi))), (qs, .inl (cI, 30, .inl (kA se))), (qn, .inl (cI, 30, .inl (kA nu))), (qr, .inl (cR, 30, .inr (.inr (.inr (.inr (fun i => some (ro i))))))), (tx, .inl (cI, 30, .inl (kA t))), (ro q, .inr (2, [.ref (en q)])), (en q, .inl (cI, 30, .inl (kA (rBehind a b (nu q) 30 0 e30)))), (ro x, .inr (2, [.ref (en x)])), (en x, .inl (cI, 30, .inl (kA a))), (ro y, .inr (2, [.ref (en y)])), (en y, .inl (cI, 30, .inl (kA b)))]) := hD
    refine lv_goto (tgt := 255) hx hb d_As_workOut_145 (by decide) ?_
    refine lv_aload_n hx hb d_As_workOut_255 rfl (lv_at hl 3 rfl) ?_
    refine k_beV (va_runV (As := []) (rest := []) ⟨hx, hb, hml, hown, hkw⟩ (c_Row_keepLeast l D cI cR cG (ro q) (en q) (rBehind a b (nu q) 30 0 e30) (r_bd_rBehind e30_le hb30) _) (cwV 0 hkw (k_gV kw_methodLink_As_77 kw_instanceMethod_Ro_keepLeast kw_selects_Ro_keepLeast kw_initialized_Ro kw_code_Ro_keepLeast) rfl rfl rfl (by decide +kernel) ⟨(Nat.le_of_ble_eq_true rfl), (Nat.le_of_ble_eq_true rfl)⟩) (k_preV (q0 := 0) hK hG hP hD [7, 8] rfl rfl rfl rfl) rfl rfl hl.1 rfl (lv_room (Nat.le_of_ble_eq_true rfl)) d_As_workOut_256 ⟨Nat.zero_le _, Nat.zero_le _⟩) hP hD hS hA [7, 8] rfl (Eq.trans (b := [ro q, en q]) rfl rfl) ?_
    clear hP hD hS; intro H locs hP hD hS
    replace hP : va_P D k_cl ([(h, .inr (0, [.ref qk, .ref qf, .ref qs, .ref qn, .ref qr, .int (zI ↑n), .int (zI ↑r)])), (qk, .inl (cI, 30, .inl (kA K))), (qf, .inl (cI, 30, .inl (kA fi))), (qs, .inl (cI, 30, .inl (kA se))), (qn, .inl (cI, 30, .inl (kA nu))), (qr, .inl (cR, 30, .inr (.inr (.inr (.inr (fun i => some (ro i))))))), (tx, .inl (cI, 30, .inl (kA t))), (ro q, .inr (2, [.ref (en q)])), (en q, .inl (cI, 30, .inl (kA (rKL 30 (rBehind a b (nu q) 30 0 e30) 30)))), (ro x, .inr (2, [.ref (en x)])), (en x, .inl (cI, 30, .inl (kA a))), (ro y, .inr (2, [.ref (en y)])), (en y, .inl (cI, 30, .inl (kA b)))]) H := hP
    replace hD : va_D A ([(h, .inr (0, [.ref qk, .ref qf, .ref qs, .ref qn, .ref qr, .int (zI ↑n), .int (zI ↑r)])), (qk, .inl (cI, 30, .inl (kA K))), (qf, .inl (cI, 30, .inl (kA fi))), (qs, .inl (cI, 30, .inl (kA se))), (qn, .inl (cI, 30, .inl (kA nu))), (qr, .inl (cR, 30, .inr (.inr (.inr (.inr (fun i => some (ro i))))))), (tx, .inl (cI, 30, .inl (kA t))), (ro q, .inr (2, [.ref (en q)])), (en q, .inl (cI, 30, .inl (kA (rKL 30 (rBehind a b (nu q) 30 0 e30) 30)))), (ro x, .inr (2, [.ref (en x)])), (en x, .inl (cI, 30, .inl (kA a))), (ro y, .inr (2, [.ref (en y)])), (en y, .inl (cI, 30, .inl (kA b)))]) := hD
    rw [← hQf]
    have hP : va_P D k_cl [(h, .inr (0, [.ref qk, .ref qf, .ref qs, .ref qn, .ref qr, .int (zI ↑n), .int (zI ↑r)])), (qk, .inl (cI, 30, .inl (kA K))), (qf, .inl (cI, 30, .inl (kA fi))), (qs, .inl (cI, 30, .inl (kA se))), (qn, .inl (cI, 30, .inl (kA nu))), (qr, .inl (cR, 30, .inr (.inr (.inr (.inr (fun i => some (ro i))))))), (tx, .inl (cI, 30, .inl (kA t))), (ro q, .inr (2, [.ref (en q)])), (en q, .inl (cI, 30, .inl (kA (rowVal t (K q) (nu q) a b)))), (ro x, .inr (2, [.ref (en x)])), (en x, .inl (cI, 30, .inl (kA a))), (ro y, .inr (2, [.ref (en y)])), (en y, .inl (cI, 30, .inl (kA b)))] H := by
      rw [show rowVal t (K q) (nu q) a b = rKL 30 (rBehind a b (nu q) 30 0 e30) 30 from by rw [hc]; rfl]
      exact hP
    exact k_vret hx hb hr hlocks hP hS d_As_workOut_259
  · refine k_table (v := 3) (tgt := 148) hx hb d_As_workOut_51 (by omega) (by decide) (by decide) rfl (by decide) ?_
    refine lv_aload_n hx hb d_As_workOut_148 rfl (lv_at hl 3 rfl) ?_
    refine lv_aload hx hb d_As_workOut_149 (lv_at hl 2 rfl) ?_
    refine lv_aload hx hb d_As_workOut_151 (lv_at hl 1 rfl) ?_
    refine lv_iload hx hb d_As_workOut_153 (lv_at hl 0 rfl) ?_
    refine k_beV (va_runV (As := [.ref (ro x), .ref (ro y), .int (zI (↑(nu q)))]) (rest := []) ⟨hx, hb, hml, hown, hkw⟩ (c_Row_addBehind l D cI cR cG (ro q) (en q) (ro x) (en x) (ro y) (en y) (nu q) e30 a b (by omega) e30_le ha30 hb30 _) (cwV 3 hkw (k_gV kw_methodLink_As_52 kw_instanceMethod_Ro_addBehind kw_selects_Ro_addBehind kw_initialized_Ro kw_code_Ro_addBehind) rfl rfl rfl (by decide +kernel) ⟨(Nat.le_of_ble_eq_true rfl), (Nat.le_of_ble_eq_true rfl)⟩) (k_preV (q0 := 0) hK hG hP hD [7, 8, 9, 10, 11, 12] rfl rfl rfl rfl) rfl rfl hl.1 rfl (lv_room (Nat.le_of_ble_eq_true rfl)) d_As_workOut_155 ⟨Nat.zero_le _, Nat.zero_le _⟩) hP hD hS hA [7, 8, 9, 10, 11, 12] rfl (Eq.trans (b := [ro q, en q, ro x, en x, ro y, en y]) rfl rfl) ?_
    clear hP hD hS; intro H locs hP hD hS
    replace hP : va_P D k_cl ([(h, .inr (0, [.ref qk, .ref qf, .ref qs, .ref qn, .ref qr, .int (zI ↑n), .int (zI ↑r)])), (qk, .inl (cI, 30, .inl (kA K))), (qf, .inl (cI, 30, .inl (kA fi))), (qs, .inl (cI, 30, .inl (kA se))), (qn, .inl (cI, 30, .inl (kA nu))), (qr, .inl (cR, 30, .inr (.inr (.inr (.inr (fun i => some (ro i))))))), (tx, .inl (cI, 30, .inl (kA t))), (ro q, .inr (2, [.ref (en q)])), (en q, .inl (cI, 30, .inl (kA (rBehind a b (nu q) 30 0 e30)))), (ro x, .inr (2, [.ref (en x)])), (en x, .inl (cI, 30, .inl (kA a))), (ro y, .inr (2, [.ref (en y)])), (en y, .inl (cI, 30, .inl (kA b)))]) H := hP
    replace hD : va_D A ([(h, .inr (0, [.ref qk, .ref qf, .ref qs, .ref qn, .ref qr, .int (zI ↑n), .int (zI ↑r)])), (qk, .inl (cI, 30, .inl (kA K))), (qf, .inl (cI, 30, .inl (kA fi))), (qs, .inl (cI, 30, .inl (kA se))), (qn, .inl (cI, 30, .inl (kA nu))), (qr, .inl (cR, 30, .inr (.inr (.inr (.inr (fun i => some (ro i))))))), (tx, .inl (cI, 30, .inl (kA t))), (ro q, .inr (2, [.ref (en q)])), (en q, .inl (cI, 30, .inl (kA (rBehind a b (nu q) 30 0 e30)))), (ro x, .inr (2, [.ref (en x)])), (en x, .inl (cI, 30, .inl (kA a))), (ro y, .inr (2, [.ref (en y)])), (en y, .inl (cI, 30, .inl (kA b)))]) := hD
    refine lv_aload_n hx hb d_As_workOut_158 rfl (lv_at hl 3 rfl) ?_
    refine lv_aload hx hb d_As_workOut_159 (lv_at hl 1 rfl) ?_
    refine lv_aload hx hb d_As_workOut_161 (lv_at hl 2 rfl) ?_
    refine lv_iload hx hb d_As_workOut_163 (lv_at hl 0 rfl) ?_
    refine k_beV (va_runV (As := [.ref (ro y), .ref (ro x), .int (zI (↑(nu q)))]) (rest := []) ⟨hx, hb, hml, hown, hkw⟩ (c_Row_addBehind l D cI cR cG (ro q) (en q) (ro y) (en y) (ro x) (en x) (nu q) (rBehind a b (nu q) 30 0 e30) b a (by omega) (r_bd_rBehind e30_le hb30) hb30 ha30 _) (cwV 3 hkw (k_gV kw_methodLink_As_52 kw_instanceMethod_Ro_addBehind kw_selects_Ro_addBehind kw_initialized_Ro kw_code_Ro_addBehind) rfl rfl rfl (by decide +kernel) ⟨(Nat.le_of_ble_eq_true rfl), (Nat.le_of_ble_eq_true rfl)⟩) (k_preV (q0 := 0) hK hG hP hD [7, 8, 11, 12, 9, 10] rfl rfl rfl rfl) rfl rfl hl.1 rfl (lv_room (Nat.le_of_ble_eq_true rfl)) d_As_workOut_165 ⟨Nat.zero_le _, Nat.zero_le _⟩) hP hD hS hA [7, 8, 11, 12, 9, 10] rfl (Eq.trans (b := [ro q, en q, ro y, en y, ro x, en x]) rfl rfl) ?_
    clear hP hD hS; intro H locs hP hD hS
    replace hP : va_P D k_cl ([(h, .inr (0, [.ref qk, .ref qf, .ref qs, .ref qn, .ref qr, .int (zI ↑n), .int (zI ↑r)])), (qk, .inl (cI, 30, .inl (kA K))), (qf, .inl (cI, 30, .inl (kA fi))), (qs, .inl (cI, 30, .inl (kA se))), (qn, .inl (cI, 30, .inl (kA nu))), (qr, .inl (cR, 30, .inr (.inr (.inr (.inr (fun i => some (ro i))))))), (tx, .inl (cI, 30, .inl (kA t))), (ro q, .inr (2, [.ref (en q)])), (en q, .inl (cI, 30, .inl (kA (rBehind b a (nu q) 30 0 (rBehind a b (nu q) 30 0 e30))))), (ro x, .inr (2, [.ref (en x)])), (en x, .inl (cI, 30, .inl (kA a))), (ro y, .inr (2, [.ref (en y)])), (en y, .inl (cI, 30, .inl (kA b)))]) H := hP
    replace hD : va_D A ([(h, .inr (0, [.ref qk, .ref qf, .ref qs, .ref qn, .ref qr, .int (zI ↑n), .int (zI ↑r)])), (qk, .inl (cI, 30, .inl (kA K))), (qf, .inl (cI, 30, .inl (kA fi))), (qs, .inl (cI, 30, .inl (kA se))), (qn, .inl (cI, 30, .inl (kA nu))), (qr, .inl (cR, 30, .inr (.inr (.inr (.inr (fun i => some (ro i))))))), (tx, .inl (cI, 30, .inl (kA t))), (ro q, .inr (2, [.ref (en q)])), (en q, .inl (cI, 30, .inl (kA (rBehind b a (nu q) 30 0 (rBehind a b (nu q) 30 0 e30))))), (ro x, .inr (2, [.ref (en x)])), (en x, .inl (cI, 30, .inl (kA a))), (ro y, .inr (2, [.ref (en y)])), (en y, .inl (cI, 30, .inl (kA b)))]) := hD
    refine lv_goto (tgt := 255) hx hb d_As_workOut_168 (by decide) ?_
    refine lv_aload_n hx hb d_As_workOut_255 rfl (lv_at hl 3 rfl) ?_
    refine k_beV (va_runV (As := []) (rest := []) ⟨hx, hb, hml, hown, hkw⟩ (c_Row_keepLeast l D cI cR cG (ro q) (en q) (rBehind b a (nu q) 30 0 (rBehind a b (nu q) 30 0 e30)) (r_bd_rBehind (r_bd_rBehind e30_le hb30) ha30) _) (cwV 0 hkw (k_gV kw_methodLink_As_77 kw_instanceMethod_Ro_keepLeast kw_selects_Ro_keepLeast kw_initialized_Ro kw_code_Ro_keepLeast) rfl rfl rfl (by decide +kernel) ⟨(Nat.le_of_ble_eq_true rfl), (Nat.le_of_ble_eq_true rfl)⟩) (k_preV (q0 := 0) hK hG hP hD [7, 8] rfl rfl rfl rfl) rfl rfl hl.1 rfl (lv_room (Nat.le_of_ble_eq_true rfl)) d_As_workOut_256 ⟨Nat.zero_le _, Nat.zero_le _⟩) hP hD hS hA [7, 8] rfl (Eq.trans (b := [ro q, en q]) rfl rfl) ?_
    clear hP hD hS; intro H locs hP hD hS
    replace hP : va_P D k_cl ([(h, .inr (0, [.ref qk, .ref qf, .ref qs, .ref qn, .ref qr, .int (zI ↑n), .int (zI ↑r)])), (qk, .inl (cI, 30, .inl (kA K))), (qf, .inl (cI, 30, .inl (kA fi))), (qs, .inl (cI, 30, .inl (kA se))), (qn, .inl (cI, 30, .inl (kA nu))), (qr, .inl (cR, 30, .inr (.inr (.inr (.inr (fun i => some (ro i))))))), (tx, .inl (cI, 30, .inl (kA t))), (ro q, .inr (2, [.ref (en q)])), (en q, .inl (cI, 30, .inl (kA (rKL 30 (rBehind b a (nu q) 30 0 (rBehind a b (nu q) 30 0 e30)) 30)))), (ro x, .inr (2, [.ref (en x)])), (en x, .inl (cI, 30, .inl (kA a))), (ro y, .inr (2, [.ref (en y)])), (en y, .inl (cI, 30, .inl (kA b)))]) H := hP
    replace hD : va_D A ([(h, .inr (0, [.ref qk, .ref qf, .ref qs, .ref qn, .ref qr, .int (zI ↑n), .int (zI ↑r)])), (qk, .inl (cI, 30, .inl (kA K))), (qf, .inl (cI, 30, .inl (kA fi))), (qs, .inl (cI, 30, .inl (kA se))), (qn, .inl (cI, 30, .inl (kA nu))), (qr, .inl (cR, 30, .inr (.inr (.inr (.inr (fun i => some (ro i))))))), (tx, .inl (cI, 30, .inl (kA t))), (ro q, .inr (2, [.ref (en q)])), (en q, .inl (cI, 30, .inl (kA (rKL 30 (rBehind b a (nu q) 30 0 (rBehind a b (nu q) 30 0 e30)) 30)))), (ro x, .inr (2, [.ref (en x)])), (en x, .inl (cI, 30, .inl (kA a))), (ro y, .inr (2, [.ref (en y)])), (en y, .inl (cI, 30, .inl (kA b)))]) := hD
    rw [← hQf]
    have hP : va_P D k_cl [(h, .inr (0, [.ref qk, .ref qf, .ref qs, .ref qn, .ref qr, .int (zI ↑n), .int (zI ↑r)])), (qk, .inl (cI, 30, .inl (kA K))), (qf, .inl (cI, 30, .inl (kA fi))), (qs, .inl (cI, 30, .inl (kA se))), (qn, .inl (cI, 30, .inl (kA nu))), (qr, .inl (cR, 30, .inr (.inr (.inr (.inr (fun i => some (ro i))))))), (tx, .inl (cI, 30, .inl (kA t))), (ro q, .inr (2, [.ref (en q)])), (en q, .inl (cI, 30, .inl (kA (rowVal t (K q) (nu q) a b)))), (ro x, .inr (2, [.ref (en x)])), (en x, .inl (cI, 30, .inl (kA a))), (ro y, .inr (2, [.ref (en y)])), (en y, .inl (cI, 30, .inl (kA b)))] H := by
      rw [show rowVal t (K q) (nu q) a b = rKL 30 (rBehind b a (nu q) 30 0 (rBehind a b (nu q) 30 0 e30)) 30 from by rw [hc]; rfl]
      exact hP
    exact k_vret hx hb hr hlocks hP hS d_As_workOut_259
  · refine k_table (v := 4) (tgt := 171) hx hb d_As_workOut_51 (by omega) (by decide) (by decide) rfl (by decide) ?_
    refine lv_aload_n hx hb d_As_workOut_171 rfl (lv_at hl 3 rfl) ?_
    refine lv_aload hx hb d_As_workOut_172 (lv_at hl 2 rfl) ?_
    refine lv_aload hx hb d_As_workOut_174 (lv_at hl 1 rfl) ?_
    refine lv_iload hx hb d_As_workOut_176 (lv_at hl 0 rfl) ?_
    refine k_beV (va_runV (As := [.ref (ro x), .ref (ro y), .int (zI (↑(nu q)))]) (rest := []) ⟨hx, hb, hml, hown, hkw⟩ (c_Row_addBoth l D cI cR cG (ro q) (en q) (ro x) (en x) (ro y) (en y) (nu q) e30 a b (by omega) e30_le ha30 hb30 _) (cwV 3 hkw (k_gV kw_methodLink_As_56 kw_instanceMethod_Ro_addBoth kw_selects_Ro_addBoth kw_initialized_Ro kw_code_Ro_addBoth) rfl rfl rfl (by decide +kernel) ⟨(Nat.le_of_ble_eq_true rfl), (Nat.le_of_ble_eq_true rfl)⟩) (k_preV (q0 := 0) hK hG hP hD [7, 8, 9, 10, 11, 12] rfl rfl rfl rfl) rfl rfl hl.1 rfl (lv_room (Nat.le_of_ble_eq_true rfl)) d_As_workOut_178 ⟨Nat.zero_le _, Nat.zero_le _⟩) hP hD hS hA [7, 8, 9, 10, 11, 12] rfl (Eq.trans (b := [ro q, en q, ro x, en x, ro y, en y]) rfl rfl) ?_
    clear hP hD hS; intro H locs hP hD hS
    replace hP : va_P D k_cl ([(h, .inr (0, [.ref qk, .ref qf, .ref qs, .ref qn, .ref qr, .int (zI ↑n), .int (zI ↑r)])), (qk, .inl (cI, 30, .inl (kA K))), (qf, .inl (cI, 30, .inl (kA fi))), (qs, .inl (cI, 30, .inl (kA se))), (qn, .inl (cI, 30, .inl (kA nu))), (qr, .inl (cR, 30, .inr (.inr (.inr (.inr (fun i => some (ro i))))))), (tx, .inl (cI, 30, .inl (kA t))), (ro q, .inr (2, [.ref (en q)])), (en q, .inl (cI, 30, .inl (kA (rBoth a b (nu q) 30 0 e30)))), (ro x, .inr (2, [.ref (en x)])), (en x, .inl (cI, 30, .inl (kA a))), (ro y, .inr (2, [.ref (en y)])), (en y, .inl (cI, 30, .inl (kA b)))]) H := hP
    replace hD : va_D A ([(h, .inr (0, [.ref qk, .ref qf, .ref qs, .ref qn, .ref qr, .int (zI ↑n), .int (zI ↑r)])), (qk, .inl (cI, 30, .inl (kA K))), (qf, .inl (cI, 30, .inl (kA fi))), (qs, .inl (cI, 30, .inl (kA se))), (qn, .inl (cI, 30, .inl (kA nu))), (qr, .inl (cR, 30, .inr (.inr (.inr (.inr (fun i => some (ro i))))))), (tx, .inl (cI, 30, .inl (kA t))), (ro q, .inr (2, [.ref (en q)])), (en q, .inl (cI, 30, .inl (kA (rBoth a b (nu q) 30 0 e30)))), (ro x, .inr (2, [.ref (en x)])), (en x, .inl (cI, 30, .inl (kA a))), (ro y, .inr (2, [.ref (en y)])), (en y, .inl (cI, 30, .inl (kA b)))]) := hD
    refine lv_goto (tgt := 255) hx hb d_As_workOut_181 (by decide) ?_
    refine lv_aload_n hx hb d_As_workOut_255 rfl (lv_at hl 3 rfl) ?_
    refine k_beV (va_runV (As := []) (rest := []) ⟨hx, hb, hml, hown, hkw⟩ (c_Row_keepLeast l D cI cR cG (ro q) (en q) (rBoth a b (nu q) 30 0 e30) (r_bd_rBoth e30_le ha30 hb30) _) (cwV 0 hkw (k_gV kw_methodLink_As_77 kw_instanceMethod_Ro_keepLeast kw_selects_Ro_keepLeast kw_initialized_Ro kw_code_Ro_keepLeast) rfl rfl rfl (by decide +kernel) ⟨(Nat.le_of_ble_eq_true rfl), (Nat.le_of_ble_eq_true rfl)⟩) (k_preV (q0 := 0) hK hG hP hD [7, 8] rfl rfl rfl rfl) rfl rfl hl.1 rfl (lv_room (Nat.le_of_ble_eq_true rfl)) d_As_workOut_256 ⟨Nat.zero_le _, Nat.zero_le _⟩) hP hD hS hA [7, 8] rfl (Eq.trans (b := [ro q, en q]) rfl rfl) ?_
    clear hP hD hS; intro H locs hP hD hS
    replace hP : va_P D k_cl ([(h, .inr (0, [.ref qk, .ref qf, .ref qs, .ref qn, .ref qr, .int (zI ↑n), .int (zI ↑r)])), (qk, .inl (cI, 30, .inl (kA K))), (qf, .inl (cI, 30, .inl (kA fi))), (qs, .inl (cI, 30, .inl (kA se))), (qn, .inl (cI, 30, .inl (kA nu))), (qr, .inl (cR, 30, .inr (.inr (.inr (.inr (fun i => some (ro i))))))), (tx, .inl (cI, 30, .inl (kA t))), (ro q, .inr (2, [.ref (en q)])), (en q, .inl (cI, 30, .inl (kA (rKL 30 (rBoth a b (nu q) 30 0 e30) 30)))), (ro x, .inr (2, [.ref (en x)])), (en x, .inl (cI, 30, .inl (kA a))), (ro y, .inr (2, [.ref (en y)])), (en y, .inl (cI, 30, .inl (kA b)))]) H := hP
    replace hD : va_D A ([(h, .inr (0, [.ref qk, .ref qf, .ref qs, .ref qn, .ref qr, .int (zI ↑n), .int (zI ↑r)])), (qk, .inl (cI, 30, .inl (kA K))), (qf, .inl (cI, 30, .inl (kA fi))), (qs, .inl (cI, 30, .inl (kA se))), (qn, .inl (cI, 30, .inl (kA nu))), (qr, .inl (cR, 30, .inr (.inr (.inr (.inr (fun i => some (ro i))))))), (tx, .inl (cI, 30, .inl (kA t))), (ro q, .inr (2, [.ref (en q)])), (en q, .inl (cI, 30, .inl (kA (rKL 30 (rBoth a b (nu q) 30 0 e30) 30)))), (ro x, .inr (2, [.ref (en x)])), (en x, .inl (cI, 30, .inl (kA a))), (ro y, .inr (2, [.ref (en y)])), (en y, .inl (cI, 30, .inl (kA b)))]) := hD
    rw [← hQf]
    have hP : va_P D k_cl [(h, .inr (0, [.ref qk, .ref qf, .ref qs, .ref qn, .ref qr, .int (zI ↑n), .int (zI ↑r)])), (qk, .inl (cI, 30, .inl (kA K))), (qf, .inl (cI, 30, .inl (kA fi))), (qs, .inl (cI, 30, .inl (kA se))), (qn, .inl (cI, 30, .inl (kA nu))), (qr, .inl (cR, 30, .inr (.inr (.inr (.inr (fun i => some (ro i))))))), (tx, .inl (cI, 30, .inl (kA t))), (ro q, .inr (2, [.ref (en q)])), (en q, .inl (cI, 30, .inl (kA (rowVal t (K q) (nu q) a b)))), (ro x, .inr (2, [.ref (en x)])), (en x, .inl (cI, 30, .inl (kA a))), (ro y, .inr (2, [.ref (en y)])), (en y, .inl (cI, 30, .inl (kA b)))] H := by
      rw [show rowVal t (K q) (nu q) a b = rKL 30 (rBoth a b (nu q) 30 0 e30) 30 from by rw [hc]; rfl]
      exact hP
    exact k_vret hx hb hr hlocks hP hS d_As_workOut_259
  · refine k_table (v := 5) (tgt := 184) hx hb d_As_workOut_51 (by omega) (by decide) (by decide) rfl (by decide) ?_
    refine lv_aload_n hx hb d_As_workOut_184 rfl (lv_at hl 3 rfl) ?_
    refine lv_aload hx hb d_As_workOut_185 (lv_at hl 2 rfl) ?_
    refine lv_aload hx hb d_As_workOut_187 (lv_at hl 1 rfl) ?_
    refine k_beV (va_runV (As := [.ref (ro x), .ref (ro y)]) (rest := []) ⟨hx, hb, hml, hown, hkw⟩ (c_Row_addHolding l D cI cR cG (ro q) (en q) (ro x) (en x) (ro y) (en y) e30 a b e30_le ha30 hb30 _) (cwV 2 hkw (k_gV kw_methodLink_As_59 kw_instanceMethod_Ro_addHolding kw_selects_Ro_addHolding kw_initialized_Ro kw_code_Ro_addHolding) rfl rfl rfl (by decide +kernel) ⟨(Nat.le_of_ble_eq_true rfl), (Nat.le_of_ble_eq_true rfl)⟩) (k_preV (q0 := 0) hK hG hP hD [7, 8, 9, 10, 11, 12] rfl rfl rfl rfl) rfl rfl hl.1 rfl (lv_room (Nat.le_of_ble_eq_true rfl)) d_As_workOut_189 ⟨Nat.zero_le _, Nat.zero_le _⟩) hP hD hS hA [7, 8, 9, 10, 11, 12] rfl (Eq.trans (b := [ro q, en q, ro x, en x, ro y, en y]) rfl rfl) ?_
    clear hP hD hS; intro H locs hP hD hS
    replace hP : va_P D k_cl ([(h, .inr (0, [.ref qk, .ref qf, .ref qs, .ref qn, .ref qr, .int (zI ↑n), .int (zI ↑r)])), (qk, .inl (cI, 30, .inl (kA K))), (qf, .inl (cI, 30, .inl (kA fi))), (qs, .inl (cI, 30, .inl (kA se))), (qn, .inl (cI, 30, .inl (kA nu))), (qr, .inl (cR, 30, .inr (.inr (.inr (.inr (fun i => some (ro i))))))), (tx, .inl (cI, 30, .inl (kA t))), (ro q, .inr (2, [.ref (en q)])), (en q, .inl (cI, 30, .inl (kA (rHolding a b 30 0 e30)))), (ro x, .inr (2, [.ref (en x)])), (en x, .inl (cI, 30, .inl (kA a))), (ro y, .inr (2, [.ref (en y)])), (en y, .inl (cI, 30, .inl (kA b)))]) H := hP
    replace hD : va_D A ([(h, .inr (0, [.ref qk, .ref qf, .ref qs, .ref qn, .ref qr, .int (zI ↑n), .int (zI ↑r)])), (qk, .inl (cI, 30, .inl (kA K))), (qf, .inl (cI, 30, .inl (kA fi))), (qs, .inl (cI, 30, .inl (kA se))), (qn, .inl (cI, 30, .inl (kA nu))), (qr, .inl (cR, 30, .inr (.inr (.inr (.inr (fun i => some (ro i))))))), (tx, .inl (cI, 30, .inl (kA t))), (ro q, .inr (2, [.ref (en q)])), (en q, .inl (cI, 30, .inl (kA (rHolding a b 30 0 e30)))), (ro x, .inr (2, [.ref (en x)])), (en x, .inl (cI, 30, .inl (kA a))), (ro y, .inr (2, [.ref (en y)])), (en y, .inl (cI, 30, .inl (kA b)))]) := hD
    refine lv_goto (tgt := 255) hx hb d_As_workOut_192 (by decide) ?_
    refine lv_aload_n hx hb d_As_workOut_255 rfl (lv_at hl 3 rfl) ?_
    refine k_beV (va_runV (As := []) (rest := []) ⟨hx, hb, hml, hown, hkw⟩ (c_Row_keepLeast l D cI cR cG (ro q) (en q) (rHolding a b 30 0 e30) (r_bd_rHolding e30_le ha30) _) (cwV 0 hkw (k_gV kw_methodLink_As_77 kw_instanceMethod_Ro_keepLeast kw_selects_Ro_keepLeast kw_initialized_Ro kw_code_Ro_keepLeast) rfl rfl rfl (by decide +kernel) ⟨(Nat.le_of_ble_eq_true rfl), (Nat.le_of_ble_eq_true rfl)⟩) (k_preV (q0 := 0) hK hG hP hD [7, 8] rfl rfl rfl rfl) rfl rfl hl.1 rfl (lv_room (Nat.le_of_ble_eq_true rfl)) d_As_workOut_256 ⟨Nat.zero_le _, Nat.zero_le _⟩) hP hD hS hA [7, 8] rfl (Eq.trans (b := [ro q, en q]) rfl rfl) ?_
    clear hP hD hS; intro H locs hP hD hS
    replace hP : va_P D k_cl ([(h, .inr (0, [.ref qk, .ref qf, .ref qs, .ref qn, .ref qr, .int (zI ↑n), .int (zI ↑r)])), (qk, .inl (cI, 30, .inl (kA K))), (qf, .inl (cI, 30, .inl (kA fi))), (qs, .inl (cI, 30, .inl (kA se))), (qn, .inl (cI, 30, .inl (kA nu))), (qr, .inl (cR, 30, .inr (.inr (.inr (.inr (fun i => some (ro i))))))), (tx, .inl (cI, 30, .inl (kA t))), (ro q, .inr (2, [.ref (en q)])), (en q, .inl (cI, 30, .inl (kA (rKL 30 (rHolding a b 30 0 e30) 30)))), (ro x, .inr (2, [.ref (en x)])), (en x, .inl (cI, 30, .inl (kA a))), (ro y, .inr (2, [.ref (en y)])), (en y, .inl (cI, 30, .inl (kA b)))]) H := hP
    replace hD : va_D A ([(h, .inr (0, [.ref qk, .ref qf, .ref qs, .ref qn, .ref qr, .int (zI ↑n), .int (zI ↑r)])), (qk, .inl (cI, 30, .inl (kA K))), (qf, .inl (cI, 30, .inl (kA fi))), (qs, .inl (cI, 30, .inl (kA se))), (qn, .inl (cI, 30, .inl (kA nu))), (qr, .inl (cR, 30, .inr (.inr (.inr (.inr (fun i => some (ro i))))))), (tx, .inl (cI, 30, .inl (kA t))), (ro q, .inr (2, [.ref (en q)])), (en q, .inl (cI, 30, .inl (kA (rKL 30 (rHolding a b 30 0 e30) 30)))), (ro x, .inr (2, [.ref (en x)])), (en x, .inl (cI, 30, .inl (kA a))), (ro y, .inr (2, [.ref (en y)])), (en y, .inl (cI, 30, .inl (kA b)))]) := hD
    rw [← hQf]
    have hP : va_P D k_cl [(h, .inr (0, [.ref qk, .ref qf, .ref qs, .ref qn, .ref qr, .int (zI ↑n), .int (zI ↑r)])), (qk, .inl (cI, 30, .inl (kA K))), (qf, .inl (cI, 30, .inl (kA fi))), (qs, .inl (cI, 30, .inl (kA se))), (qn, .inl (cI, 30, .inl (kA nu))), (qr, .inl (cR, 30, .inr (.inr (.inr (.inr (fun i => some (ro i))))))), (tx, .inl (cI, 30, .inl (kA t))), (ro q, .inr (2, [.ref (en q)])), (en q, .inl (cI, 30, .inl (kA (rowVal t (K q) (nu q) a b)))), (ro x, .inr (2, [.ref (en x)])), (en x, .inl (cI, 30, .inl (kA a))), (ro y, .inr (2, [.ref (en y)])), (en y, .inl (cI, 30, .inl (kA b)))] H := by
      rw [show rowVal t (K q) (nu q) a b = rKL 30 (rHolding a b 30 0 e30) 30 from by rw [hc]; rfl]
      exact hP
    exact k_vret hx hb hr hlocks hP hS d_As_workOut_259
  · refine k_table (v := 6) (tgt := 195) hx hb d_As_workOut_51 (by omega) (by decide) (by decide) rfl (by decide) ?_
    refine lv_aload_n hx hb d_As_workOut_195 rfl (lv_at hl 3 rfl) ?_
    refine lv_aload hx hb d_As_workOut_196 (lv_at hl 2 rfl) ?_
    refine lv_aload hx hb d_As_workOut_198 (lv_at hl 1 rfl) ?_
    refine k_beV (va_runV (As := [.ref (ro x), .ref (ro y)]) (rest := []) ⟨hx, hb, hml, hown, hkw⟩ (c_Row_addIn l D cI cR cG (ro q) (en q) (ro x) (en x) (ro y) (en y) e30 a b e30_le ha30 hb30 _) (cwV 2 hkw (k_gV kw_methodLink_As_63 kw_instanceMethod_Ro_addIn kw_selects_Ro_addIn kw_initialized_Ro kw_code_Ro_addIn) rfl rfl rfl (by decide +kernel) ⟨(Nat.le_of_ble_eq_true rfl), (Nat.le_of_ble_eq_true rfl)⟩) (k_preV (q0 := 0) hK hG hP hD [7, 8, 9, 10, 11, 12] rfl rfl rfl rfl) rfl rfl hl.1 rfl (lv_room (Nat.le_of_ble_eq_true rfl)) d_As_workOut_200 ⟨Nat.zero_le _, Nat.zero_le _⟩) hP hD hS hA [7, 8, 9, 10, 11, 12] rfl (Eq.trans (b := [ro q, en q, ro x, en x, ro y, en y]) rfl rfl) ?_
    clear hP hD hS; intro H locs hP hD hS
    replace hP : va_P D k_cl ([(h, .inr (0, [.ref qk, .ref qf, .ref qs, .ref qn, .ref qr, .int (zI ↑n), .int (zI ↑r)])), (qk, .inl (cI, 30, .inl (kA K))), (qf, .inl (cI, 30, .inl (kA fi))), (qs, .inl (cI, 30, .inl (kA se))), (qn, .inl (cI, 30, .inl (kA nu))), (qr, .inl (cR, 30, .inr (.inr (.inr (.inr (fun i => some (ro i))))))), (tx, .inl (cI, 30, .inl (kA t))), (ro q, .inr (2, [.ref (en q)])), (en q, .inl (cI, 30, .inl (kA (rIn a b 30 0 e30)))), (ro x, .inr (2, [.ref (en x)])), (en x, .inl (cI, 30, .inl (kA a))), (ro y, .inr (2, [.ref (en y)])), (en y, .inl (cI, 30, .inl (kA b)))]) H := hP
    replace hD : va_D A ([(h, .inr (0, [.ref qk, .ref qf, .ref qs, .ref qn, .ref qr, .int (zI ↑n), .int (zI ↑r)])), (qk, .inl (cI, 30, .inl (kA K))), (qf, .inl (cI, 30, .inl (kA fi))), (qs, .inl (cI, 30, .inl (kA se))), (qn, .inl (cI, 30, .inl (kA nu))), (qr, .inl (cR, 30, .inr (.inr (.inr (.inr (fun i => some (ro i))))))), (tx, .inl (cI, 30, .inl (kA t))), (ro q, .inr (2, [.ref (en q)])), (en q, .inl (cI, 30, .inl (kA (rIn a b 30 0 e30)))), (ro x, .inr (2, [.ref (en x)])), (en x, .inl (cI, 30, .inl (kA a))), (ro y, .inr (2, [.ref (en y)])), (en y, .inl (cI, 30, .inl (kA b)))]) := hD
    refine lv_goto (tgt := 255) hx hb d_As_workOut_203 (by decide) ?_
    refine lv_aload_n hx hb d_As_workOut_255 rfl (lv_at hl 3 rfl) ?_
    refine k_beV (va_runV (As := []) (rest := []) ⟨hx, hb, hml, hown, hkw⟩ (c_Row_keepLeast l D cI cR cG (ro q) (en q) (rIn a b 30 0 e30) (r_bd_rIn e30_le ha30) _) (cwV 0 hkw (k_gV kw_methodLink_As_77 kw_instanceMethod_Ro_keepLeast kw_selects_Ro_keepLeast kw_initialized_Ro kw_code_Ro_keepLeast) rfl rfl rfl (by decide +kernel) ⟨(Nat.le_of_ble_eq_true rfl), (Nat.le_of_ble_eq_true rfl)⟩) (k_preV (q0 := 0) hK hG hP hD [7, 8] rfl rfl rfl rfl) rfl rfl hl.1 rfl (lv_room (Nat.le_of_ble_eq_true rfl)) d_As_workOut_256 ⟨Nat.zero_le _, Nat.zero_le _⟩) hP hD hS hA [7, 8] rfl (Eq.trans (b := [ro q, en q]) rfl rfl) ?_
    clear hP hD hS; intro H locs hP hD hS
    replace hP : va_P D k_cl ([(h, .inr (0, [.ref qk, .ref qf, .ref qs, .ref qn, .ref qr, .int (zI ↑n), .int (zI ↑r)])), (qk, .inl (cI, 30, .inl (kA K))), (qf, .inl (cI, 30, .inl (kA fi))), (qs, .inl (cI, 30, .inl (kA se))), (qn, .inl (cI, 30, .inl (kA nu))), (qr, .inl (cR, 30, .inr (.inr (.inr (.inr (fun i => some (ro i))))))), (tx, .inl (cI, 30, .inl (kA t))), (ro q, .inr (2, [.ref (en q)])), (en q, .inl (cI, 30, .inl (kA (rKL 30 (rIn a b 30 0 e30) 30)))), (ro x, .inr (2, [.ref (en x)])), (en x, .inl (cI, 30, .inl (kA a))), (ro y, .inr (2, [.ref (en y)])), (en y, .inl (cI, 30, .inl (kA b)))]) H := hP
    replace hD : va_D A ([(h, .inr (0, [.ref qk, .ref qf, .ref qs, .ref qn, .ref qr, .int (zI ↑n), .int (zI ↑r)])), (qk, .inl (cI, 30, .inl (kA K))), (qf, .inl (cI, 30, .inl (kA fi))), (qs, .inl (cI, 30, .inl (kA se))), (qn, .inl (cI, 30, .inl (kA nu))), (qr, .inl (cR, 30, .inr (.inr (.inr (.inr (fun i => some (ro i))))))), (tx, .inl (cI, 30, .inl (kA t))), (ro q, .inr (2, [.ref (en q)])), (en q, .inl (cI, 30, .inl (kA (rKL 30 (rIn a b 30 0 e30) 30)))), (ro x, .inr (2, [.ref (en x)])), (en x, .inl (cI, 30, .inl (kA a))), (ro y, .inr (2, [.ref (en y)])), (en y, .inl (cI, 30, .inl (kA b)))]) := hD
    rw [← hQf]
    have hP : va_P D k_cl [(h, .inr (0, [.ref qk, .ref qf, .ref qs, .ref qn, .ref qr, .int (zI ↑n), .int (zI ↑r)])), (qk, .inl (cI, 30, .inl (kA K))), (qf, .inl (cI, 30, .inl (kA fi))), (qs, .inl (cI, 30, .inl (kA se))), (qn, .inl (cI, 30, .inl (kA nu))), (qr, .inl (cR, 30, .inr (.inr (.inr (.inr (fun i => some (ro i))))))), (tx, .inl (cI, 30, .inl (kA t))), (ro q, .inr (2, [.ref (en q)])), (en q, .inl (cI, 30, .inl (kA (rowVal t (K q) (nu q) a b)))), (ro x, .inr (2, [.ref (en x)])), (en x, .inl (cI, 30, .inl (kA a))), (ro y, .inr (2, [.ref (en y)])), (en y, .inl (cI, 30, .inl (kA b)))] H := by
      rw [show rowVal t (K q) (nu q) a b = rKL 30 (rIn a b 30 0 e30) 30 from by rw [hc]; rfl]
      exact hP
    exact k_vret hx hb hr hlocks hP hS d_As_workOut_259
  · refine k_table (v := 7) (tgt := 206) hx hb d_As_workOut_51 (by omega) (by decide) (by decide) rfl (by decide) ?_
    refine lv_aload_n hx hb d_As_workOut_206 rfl (lv_at hl 3 rfl) ?_
    refine lv_aload hx hb d_As_workOut_207 (lv_at hl 2 rfl) ?_
    refine lv_aload hx hb d_As_workOut_209 (lv_at hl 1 rfl) ?_
    refine lv_iconst (v := zI (-1)) hx hb d_As_workOut_211 (by decide) ?_
    refine lv_iconst (v := zI 1) hx hb d_As_workOut_212 (by decide) ?_
    refine k_stk (st2 := [.int (k_b (true = true)), .int (zI (-1)), .ref (ro y), .ref (ro x), .ref (ro q)]) (by rw [k_tt]) ?_
    refine k_beV (va_runV (As := [.ref (ro x), .ref (ro y), .int (zI (-1)), .int (k_b (true = true))]) (rest := []) ⟨hx, hb, hml, hown, hkw⟩ (c_Row_addByNearness l D cI cR cG (ro q) (en q) (ro x) (en x) (ro y) (en y) (-1) true e30 a b (by omega) e30_le ha30 hb30 _) (cwV 4 hkw (k_gV kw_methodLink_As_66 kw_instanceMethod_Ro_addByNearness kw_selects_Ro_addByNearness kw_initialized_Ro kw_code_Ro_addByNearness) rfl rfl rfl (by decide +kernel) ⟨(Nat.le_of_ble_eq_true rfl), (Nat.le_of_ble_eq_true rfl)⟩) (k_preV (q0 := 0) hK hG hP hD [7, 8, 9, 10, 11, 12] rfl rfl rfl rfl) rfl rfl hl.1 rfl (lv_room (Nat.le_of_ble_eq_true rfl)) d_As_workOut_213 ⟨Nat.zero_le _, Nat.zero_le _⟩) hP hD hS hA [7, 8, 9, 10, 11, 12] rfl (Eq.trans (b := [ro q, en q, ro x, en x, ro y, en y]) rfl rfl) ?_
    clear hP hD hS; intro H locs hP hD hS
    replace hP : va_P D k_cl ([(h, .inr (0, [.ref qk, .ref qf, .ref qs, .ref qn, .ref qr, .int (zI ↑n), .int (zI ↑r)])), (qk, .inl (cI, 30, .inl (kA K))), (qf, .inl (cI, 30, .inl (kA fi))), (qs, .inl (cI, 30, .inl (kA se))), (qn, .inl (cI, 30, .inl (kA nu))), (qr, .inl (cR, 30, .inr (.inr (.inr (.inr (fun i => some (ro i))))))), (tx, .inl (cI, 30, .inl (kA t))), (ro q, .inr (2, [.ref (en q)])), (en q, .inl (cI, 30, .inl (kA (rNear a b (-1) true 30 0 e30)))), (ro x, .inr (2, [.ref (en x)])), (en x, .inl (cI, 30, .inl (kA a))), (ro y, .inr (2, [.ref (en y)])), (en y, .inl (cI, 30, .inl (kA b)))]) H := hP
    replace hD : va_D A ([(h, .inr (0, [.ref qk, .ref qf, .ref qs, .ref qn, .ref qr, .int (zI ↑n), .int (zI ↑r)])), (qk, .inl (cI, 30, .inl (kA K))), (qf, .inl (cI, 30, .inl (kA fi))), (qs, .inl (cI, 30, .inl (kA se))), (qn, .inl (cI, 30, .inl (kA nu))), (qr, .inl (cR, 30, .inr (.inr (.inr (.inr (fun i => some (ro i))))))), (tx, .inl (cI, 30, .inl (kA t))), (ro q, .inr (2, [.ref (en q)])), (en q, .inl (cI, 30, .inl (kA (rNear a b (-1) true 30 0 e30)))), (ro x, .inr (2, [.ref (en x)])), (en x, .inl (cI, 30, .inl (kA a))), (ro y, .inr (2, [.ref (en y)])), (en y, .inl (cI, 30, .inl (kA b)))]) := hD
    refine lv_goto (tgt := 255) hx hb d_As_workOut_216 (by decide) ?_
    refine lv_aload_n hx hb d_As_workOut_255 rfl (lv_at hl 3 rfl) ?_
    refine k_beV (va_runV (As := []) (rest := []) ⟨hx, hb, hml, hown, hkw⟩ (c_Row_keepLeast l D cI cR cG (ro q) (en q) (rNear a b (-1) true 30 0 e30) (r_bd_rNear e30_le ha30) _) (cwV 0 hkw (k_gV kw_methodLink_As_77 kw_instanceMethod_Ro_keepLeast kw_selects_Ro_keepLeast kw_initialized_Ro kw_code_Ro_keepLeast) rfl rfl rfl (by decide +kernel) ⟨(Nat.le_of_ble_eq_true rfl), (Nat.le_of_ble_eq_true rfl)⟩) (k_preV (q0 := 0) hK hG hP hD [7, 8] rfl rfl rfl rfl) rfl rfl hl.1 rfl (lv_room (Nat.le_of_ble_eq_true rfl)) d_As_workOut_256 ⟨Nat.zero_le _, Nat.zero_le _⟩) hP hD hS hA [7, 8] rfl (Eq.trans (b := [ro q, en q]) rfl rfl) ?_
    clear hP hD hS; intro H locs hP hD hS
    replace hP : va_P D k_cl ([(h, .inr (0, [.ref qk, .ref qf, .ref qs, .ref qn, .ref qr, .int (zI ↑n), .int (zI ↑r)])), (qk, .inl (cI, 30, .inl (kA K))), (qf, .inl (cI, 30, .inl (kA fi))), (qs, .inl (cI, 30, .inl (kA se))), (qn, .inl (cI, 30, .inl (kA nu))), (qr, .inl (cR, 30, .inr (.inr (.inr (.inr (fun i => some (ro i))))))), (tx, .inl (cI, 30, .inl (kA t))), (ro q, .inr (2, [.ref (en q)])), (en q, .inl (cI, 30, .inl (kA (rKL 30 (rNear a b (-1) true 30 0 e30) 30)))), (ro x, .inr (2, [.ref (en x)])), (en x, .inl (cI, 30, .inl (kA a))), (ro y, .inr (2, [.ref (en y)])), (en y, .inl (cI, 30, .inl (kA b)))]) H := hP
    replace hD : va_D A ([(h, .inr (0, [.ref qk, .ref qf, .ref qs, .ref qn, .ref qr, .int (zI ↑n), .int (zI ↑r)])), (qk, .inl (cI, 30, .inl (kA K))), (qf, .inl (cI, 30, .inl (kA fi))), (qs, .inl (cI, 30, .inl (kA se))), (qn, .inl (cI, 30, .inl (kA nu))), (qr, .inl (cR, 30, .inr (.inr (.inr (.inr (fun i => some (ro i))))))), (tx, .inl (cI, 30, .inl (kA t))), (ro q, .inr (2, [.ref (en q)])), (en q, .inl (cI, 30, .inl (kA (rKL 30 (rNear a b (-1) true 30 0 e30) 30)))), (ro x, .inr (2, [.ref (en x)])), (en x, .inl (cI, 30, .inl (kA a))), (ro y, .inr (2, [.ref (en y)])), (en y, .inl (cI, 30, .inl (kA b)))]) := hD
    rw [← hQf]
    have hP : va_P D k_cl [(h, .inr (0, [.ref qk, .ref qf, .ref qs, .ref qn, .ref qr, .int (zI ↑n), .int (zI ↑r)])), (qk, .inl (cI, 30, .inl (kA K))), (qf, .inl (cI, 30, .inl (kA fi))), (qs, .inl (cI, 30, .inl (kA se))), (qn, .inl (cI, 30, .inl (kA nu))), (qr, .inl (cR, 30, .inr (.inr (.inr (.inr (fun i => some (ro i))))))), (tx, .inl (cI, 30, .inl (kA t))), (ro q, .inr (2, [.ref (en q)])), (en q, .inl (cI, 30, .inl (kA (rowVal t (K q) (nu q) a b)))), (ro x, .inr (2, [.ref (en x)])), (en x, .inl (cI, 30, .inl (kA a))), (ro y, .inr (2, [.ref (en y)])), (en y, .inl (cI, 30, .inl (kA b)))] H := by
      rw [show rowVal t (K q) (nu q) a b = rKL 30 (rNear a b (-1) true 30 0 e30) 30 from by rw [hc]; rfl]
      exact hP
    exact k_vret hx hb hr hlocks hP hS d_As_workOut_259
  · refine k_table (v := 8) (tgt := 219) hx hb d_As_workOut_51 (by omega) (by decide) (by decide) rfl (by decide) ?_
    refine lv_aload_n hx hb d_As_workOut_219 rfl (lv_at hl 3 rfl) ?_
    refine lv_aload hx hb d_As_workOut_220 (lv_at hl 2 rfl) ?_
    refine lv_aload hx hb d_As_workOut_222 (lv_at hl 1 rfl) ?_
    refine lv_iload hx hb d_As_workOut_224 (lv_at hl 0 rfl) ?_
    refine lv_iconst (v := zI 0) hx hb d_As_workOut_226 (by decide) ?_
    refine k_stk (st2 := [.int (k_b (false = true)), .int (zI (↑(nu q))), .ref (ro y), .ref (ro x), .ref (ro q)]) (by rw [k_ff]) ?_
    refine k_beV (va_runV (As := [.ref (ro x), .ref (ro y), .int (zI (↑(nu q))), .int (k_b (false = true))]) (rest := []) ⟨hx, hb, hml, hown, hkw⟩ (c_Row_addByNearness l D cI cR cG (ro q) (en q) (ro x) (en x) (ro y) (en y) (↑(nu q)) false e30 a b (by omega) e30_le ha30 hb30 _) (cwV 4 hkw (k_gV kw_methodLink_As_66 kw_instanceMethod_Ro_addByNearness kw_selects_Ro_addByNearness kw_initialized_Ro kw_code_Ro_addByNearness) rfl rfl rfl (by decide +kernel) ⟨(Nat.le_of_ble_eq_true rfl), (Nat.le_of_ble_eq_true rfl)⟩) (k_preV (q0 := 0) hK hG hP hD [7, 8, 9, 10, 11, 12] rfl rfl rfl rfl) rfl rfl hl.1 rfl (lv_room (Nat.le_of_ble_eq_true rfl)) d_As_workOut_227 ⟨Nat.zero_le _, Nat.zero_le _⟩) hP hD hS hA [7, 8, 9, 10, 11, 12] rfl (Eq.trans (b := [ro q, en q, ro x, en x, ro y, en y]) rfl rfl) ?_
    clear hP hD hS; intro H locs hP hD hS
    replace hP : va_P D k_cl ([(h, .inr (0, [.ref qk, .ref qf, .ref qs, .ref qn, .ref qr, .int (zI ↑n), .int (zI ↑r)])), (qk, .inl (cI, 30, .inl (kA K))), (qf, .inl (cI, 30, .inl (kA fi))), (qs, .inl (cI, 30, .inl (kA se))), (qn, .inl (cI, 30, .inl (kA nu))), (qr, .inl (cR, 30, .inr (.inr (.inr (.inr (fun i => some (ro i))))))), (tx, .inl (cI, 30, .inl (kA t))), (ro q, .inr (2, [.ref (en q)])), (en q, .inl (cI, 30, .inl (kA (rNear a b (↑(nu q)) false 30 0 e30)))), (ro x, .inr (2, [.ref (en x)])), (en x, .inl (cI, 30, .inl (kA a))), (ro y, .inr (2, [.ref (en y)])), (en y, .inl (cI, 30, .inl (kA b)))]) H := hP
    replace hD : va_D A ([(h, .inr (0, [.ref qk, .ref qf, .ref qs, .ref qn, .ref qr, .int (zI ↑n), .int (zI ↑r)])), (qk, .inl (cI, 30, .inl (kA K))), (qf, .inl (cI, 30, .inl (kA fi))), (qs, .inl (cI, 30, .inl (kA se))), (qn, .inl (cI, 30, .inl (kA nu))), (qr, .inl (cR, 30, .inr (.inr (.inr (.inr (fun i => some (ro i))))))), (tx, .inl (cI, 30, .inl (kA t))), (ro q, .inr (2, [.ref (en q)])), (en q, .inl (cI, 30, .inl (kA (rNear a b (↑(nu q)) false 30 0 e30)))), (ro x, .inr (2, [.ref (en x)])), (en x, .inl (cI, 30, .inl (kA a))), (ro y, .inr (2, [.ref (en y)])), (en y, .inl (cI, 30, .inl (kA b)))]) := hD
    refine lv_goto (tgt := 255) hx hb d_As_workOut_230 (by decide) ?_
    refine lv_aload_n hx hb d_As_workOut_255 rfl (lv_at hl 3 rfl) ?_
    refine k_beV (va_runV (As := []) (rest := []) ⟨hx, hb, hml, hown, hkw⟩ (c_Row_keepLeast l D cI cR cG (ro q) (en q) (rNear a b (↑(nu q)) false 30 0 e30) (r_bd_rNear e30_le ha30) _) (cwV 0 hkw (k_gV kw_methodLink_As_77 kw_instanceMethod_Ro_keepLeast kw_selects_Ro_keepLeast kw_initialized_Ro kw_code_Ro_keepLeast) rfl rfl rfl (by decide +kernel) ⟨(Nat.le_of_ble_eq_true rfl), (Nat.le_of_ble_eq_true rfl)⟩) (k_preV (q0 := 0) hK hG hP hD [7, 8] rfl rfl rfl rfl) rfl rfl hl.1 rfl (lv_room (Nat.le_of_ble_eq_true rfl)) d_As_workOut_256 ⟨Nat.zero_le _, Nat.zero_le _⟩) hP hD hS hA [7, 8] rfl (Eq.trans (b := [ro q, en q]) rfl rfl) ?_
    clear hP hD hS; intro H locs hP hD hS
    replace hP : va_P D k_cl ([(h, .inr (0, [.ref qk, .ref qf, .ref qs, .ref qn, .ref qr, .int (zI ↑n), .int (zI ↑r)])), (qk, .inl (cI, 30, .inl (kA K))), (qf, .inl (cI, 30, .inl (kA fi))), (qs, .inl (cI, 30, .inl (kA se))), (qn, .inl (cI, 30, .inl (kA nu))), (qr, .inl (cR, 30, .inr (.inr (.inr (.inr (fun i => some (ro i))))))), (tx, .inl (cI, 30, .inl (kA t))), (ro q, .inr (2, [.ref (en q)])), (en q, .inl (cI, 30, .inl (kA (rKL 30 (rNear a b (↑(nu q)) false 30 0 e30) 30)))), (ro x, .inr (2, [.ref (en x)])), (en x, .inl (cI, 30, .inl (kA a))), (ro y, .inr (2, [.ref (en y)])), (en y, .inl (cI, 30, .inl (kA b)))]) H := hP
    replace hD : va_D A ([(h, .inr (0, [.ref qk, .ref qf, .ref qs, .ref qn, .ref qr, .int (zI ↑n), .int (zI ↑r)])), (qk, .inl (cI, 30, .inl (kA K))), (qf, .inl (cI, 30, .inl (kA fi))), (qs, .inl (cI, 30, .inl (kA se))), (qn, .inl (cI, 30, .inl (kA nu))), (qr, .inl (cR, 30, .inr (.inr (.inr (.inr (fun i => some (ro i))))))), (tx, .inl (cI, 30, .inl (kA t))), (ro q, .inr (2, [.ref (en q)])), (en q, .inl (cI, 30, .inl (kA (rKL 30 (rNear a b (↑(nu q)) false 30 0 e30) 30)))), (ro x, .inr (2, [.ref (en x)])), (en x, .inl (cI, 30, .inl (kA a))), (ro y, .inr (2, [.ref (en y)])), (en y, .inl (cI, 30, .inl (kA b)))]) := hD
    rw [← hQf]
    have hP : va_P D k_cl [(h, .inr (0, [.ref qk, .ref qf, .ref qs, .ref qn, .ref qr, .int (zI ↑n), .int (zI ↑r)])), (qk, .inl (cI, 30, .inl (kA K))), (qf, .inl (cI, 30, .inl (kA fi))), (qs, .inl (cI, 30, .inl (kA se))), (qn, .inl (cI, 30, .inl (kA nu))), (qr, .inl (cR, 30, .inr (.inr (.inr (.inr (fun i => some (ro i))))))), (tx, .inl (cI, 30, .inl (kA t))), (ro q, .inr (2, [.ref (en q)])), (en q, .inl (cI, 30, .inl (kA (rowVal t (K q) (nu q) a b)))), (ro x, .inr (2, [.ref (en x)])), (en x, .inl (cI, 30, .inl (kA a))), (ro y, .inr (2, [.ref (en y)])), (en y, .inl (cI, 30, .inl (kA b)))] H := by
      rw [show rowVal t (K q) (nu q) a b = rKL 30 (rNear a b (↑(nu q)) false 30 0 e30) 30 from by rw [hc]; rfl]
      exact hP
    exact k_vret hx hb hr hlocks hP hS d_As_workOut_259
  · refine k_table (v := 9) (tgt := 233) hx hb d_As_workOut_51 (by omega) (by decide) (by decide) rfl (by decide) ?_
    refine lv_aload_n hx hb d_As_workOut_233 rfl (lv_at hl 3 rfl) ?_
    refine lv_aload hx hb d_As_workOut_234 (lv_at hl 2 rfl) ?_
    refine lv_iload hx hb d_As_workOut_236 (lv_at hl 0 rfl) ?_
    refine k_beV (va_runV (As := [.ref (ro x), .int (zI (↑(nu q)))]) (rest := []) ⟨hx, hb, hml, hown, hkw⟩ (c_Row_addEndingBefore l D cI cR cG (ro q) (en q) (ro x) (en x) (nu q) e30 a (by omega) e30_le ha30 _) (cwV 2 hkw (k_gV kw_methodLink_As_70 kw_instanceMethod_Ro_addEndingBefore kw_selects_Ro_addEndingBefore kw_initialized_Ro kw_code_Ro_addEndingBefore) rfl rfl rfl (by decide +kernel) ⟨(Nat.le_of_ble_eq_true rfl), (Nat.le_of_ble_eq_true rfl)⟩) (k_preV (q0 := 0) hK hG hP hD [7, 8, 9, 10] rfl rfl rfl rfl) rfl rfl hl.1 rfl (lv_room (Nat.le_of_ble_eq_true rfl)) d_As_workOut_238 ⟨Nat.zero_le _, Nat.zero_le _⟩) hP hD hS hA [7, 8, 9, 10] rfl (Eq.trans (b := [ro q, en q, ro x, en x]) rfl rfl) ?_
    clear hP hD hS; intro H locs hP hD hS
    replace hP : va_P D k_cl ([(h, .inr (0, [.ref qk, .ref qf, .ref qs, .ref qn, .ref qr, .int (zI ↑n), .int (zI ↑r)])), (qk, .inl (cI, 30, .inl (kA K))), (qf, .inl (cI, 30, .inl (kA fi))), (qs, .inl (cI, 30, .inl (kA se))), (qn, .inl (cI, 30, .inl (kA nu))), (qr, .inl (cR, 30, .inr (.inr (.inr (.inr (fun i => some (ro i))))))), (tx, .inl (cI, 30, .inl (kA t))), (ro q, .inr (2, [.ref (en q)])), (en q, .inl (cI, 30, .inl (kA (rBefore a (nu q) 30 0 e30)))), (ro x, .inr (2, [.ref (en x)])), (en x, .inl (cI, 30, .inl (kA a))), (ro y, .inr (2, [.ref (en y)])), (en y, .inl (cI, 30, .inl (kA b)))]) H := hP
    replace hD : va_D A ([(h, .inr (0, [.ref qk, .ref qf, .ref qs, .ref qn, .ref qr, .int (zI ↑n), .int (zI ↑r)])), (qk, .inl (cI, 30, .inl (kA K))), (qf, .inl (cI, 30, .inl (kA fi))), (qs, .inl (cI, 30, .inl (kA se))), (qn, .inl (cI, 30, .inl (kA nu))), (qr, .inl (cR, 30, .inr (.inr (.inr (.inr (fun i => some (ro i))))))), (tx, .inl (cI, 30, .inl (kA t))), (ro q, .inr (2, [.ref (en q)])), (en q, .inl (cI, 30, .inl (kA (rBefore a (nu q) 30 0 e30)))), (ro x, .inr (2, [.ref (en x)])), (en x, .inl (cI, 30, .inl (kA a))), (ro y, .inr (2, [.ref (en y)])), (en y, .inl (cI, 30, .inl (kA b)))]) := hD
    refine lv_goto (tgt := 255) hx hb d_As_workOut_241 (by decide) ?_
    refine lv_aload_n hx hb d_As_workOut_255 rfl (lv_at hl 3 rfl) ?_
    refine k_beV (va_runV (As := []) (rest := []) ⟨hx, hb, hml, hown, hkw⟩ (c_Row_keepLeast l D cI cR cG (ro q) (en q) (rBefore a (nu q) 30 0 e30) (r_bd_rBefore e30_le ha30) _) (cwV 0 hkw (k_gV kw_methodLink_As_77 kw_instanceMethod_Ro_keepLeast kw_selects_Ro_keepLeast kw_initialized_Ro kw_code_Ro_keepLeast) rfl rfl rfl (by decide +kernel) ⟨(Nat.le_of_ble_eq_true rfl), (Nat.le_of_ble_eq_true rfl)⟩) (k_preV (q0 := 0) hK hG hP hD [7, 8] rfl rfl rfl rfl) rfl rfl hl.1 rfl (lv_room (Nat.le_of_ble_eq_true rfl)) d_As_workOut_256 ⟨Nat.zero_le _, Nat.zero_le _⟩) hP hD hS hA [7, 8] rfl (Eq.trans (b := [ro q, en q]) rfl rfl) ?_
    clear hP hD hS; intro H locs hP hD hS
    replace hP : va_P D k_cl ([(h, .inr (0, [.ref qk, .ref qf, .ref qs, .ref qn, .ref qr, .int (zI ↑n), .int (zI ↑r)])), (qk, .inl (cI, 30, .inl (kA K))), (qf, .inl (cI, 30, .inl (kA fi))), (qs, .inl (cI, 30, .inl (kA se))), (qn, .inl (cI, 30, .inl (kA nu))), (qr, .inl (cR, 30, .inr (.inr (.inr (.inr (fun i => some (ro i))))))), (tx, .inl (cI, 30, .inl (kA t))), (ro q, .inr (2, [.ref (en q)])), (en q, .inl (cI, 30, .inl (kA (rKL 30 (rBefore a (nu q) 30 0 e30) 30)))), (ro x, .inr (2, [.ref (en x)])), (en x, .inl (cI, 30, .inl (kA a))), (ro y, .inr (2, [.ref (en y)])), (en y, .inl (cI, 30, .inl (kA b)))]) H := hP
    replace hD : va_D A ([(h, .inr (0, [.ref qk, .ref qf, .ref qs, .ref qn, .ref qr, .int (zI ↑n), .int (zI ↑r)])), (qk, .inl (cI, 30, .inl (kA K))), (qf, .inl (cI, 30, .inl (kA fi))), (qs, .inl (cI, 30, .inl (kA se))), (qn, .inl (cI, 30, .inl (kA nu))), (qr, .inl (cR, 30, .inr (.inr (.inr (.inr (fun i => some (ro i))))))), (tx, .inl (cI, 30, .inl (kA t))), (ro q, .inr (2, [.ref (en q)])), (en q, .inl (cI, 30, .inl (kA (rKL 30 (rBefore a (nu q) 30 0 e30) 30)))), (ro x, .inr (2, [.ref (en x)])), (en x, .inl (cI, 30, .inl (kA a))), (ro y, .inr (2, [.ref (en y)])), (en y, .inl (cI, 30, .inl (kA b)))]) := hD
    rw [← hQf]
    have hP : va_P D k_cl [(h, .inr (0, [.ref qk, .ref qf, .ref qs, .ref qn, .ref qr, .int (zI ↑n), .int (zI ↑r)])), (qk, .inl (cI, 30, .inl (kA K))), (qf, .inl (cI, 30, .inl (kA fi))), (qs, .inl (cI, 30, .inl (kA se))), (qn, .inl (cI, 30, .inl (kA nu))), (qr, .inl (cR, 30, .inr (.inr (.inr (.inr (fun i => some (ro i))))))), (tx, .inl (cI, 30, .inl (kA t))), (ro q, .inr (2, [.ref (en q)])), (en q, .inl (cI, 30, .inl (kA (rowVal t (K q) (nu q) a b)))), (ro x, .inr (2, [.ref (en x)])), (en x, .inl (cI, 30, .inl (kA a))), (ro y, .inr (2, [.ref (en y)])), (en y, .inl (cI, 30, .inl (kA b)))] H := by
      rw [show rowVal t (K q) (nu q) a b = rKL 30 (rBefore a (nu q) 30 0 e30) 30 from by rw [hc]; rfl]
      exact hP
    exact k_vret hx hb hr hlocks hP hS d_As_workOut_259
  · refine k_table (v := 10) (tgt := 244) hx hb d_As_workOut_51 (by omega) (by decide) (by decide) rfl (by decide) ?_
    refine lv_aload_n hx hb d_As_workOut_244 rfl (lv_at hl 3 rfl) ?_
    refine lv_aload hx hb d_As_workOut_245 (lv_at hl 2 rfl) ?_
    refine lv_iload hx hb d_As_workOut_247 (lv_at hl 0 rfl) ?_
    refine k_beV (va_runV (As := [.ref (ro x), .int (zI (↑(nu q)))]) (rest := []) ⟨hx, hb, hml, hown, hkw⟩ (c_Row_addGrown l D cI cR cG (ro q) (en q) (ro x) (en x) (nu q) e30 a (by omega) e30_le ha30 _) (cwV 2 hkw (k_gV kw_methodLink_As_74 kw_instanceMethod_Ro_addGrown kw_selects_Ro_addGrown kw_initialized_Ro kw_code_Ro_addGrown) rfl rfl rfl (by decide +kernel) ⟨(Nat.le_of_ble_eq_true rfl), (Nat.le_of_ble_eq_true rfl)⟩) (k_preV (q0 := 0) hK hG hP hD [7, 8, 9, 10] rfl rfl rfl rfl) rfl rfl hl.1 rfl (lv_room (Nat.le_of_ble_eq_true rfl)) d_As_workOut_249 ⟨Nat.zero_le _, Nat.zero_le _⟩) hP hD hS hA [7, 8, 9, 10] rfl (Eq.trans (b := [ro q, en q, ro x, en x]) rfl rfl) ?_
    clear hP hD hS; intro H locs hP hD hS
    replace hP : va_P D k_cl ([(h, .inr (0, [.ref qk, .ref qf, .ref qs, .ref qn, .ref qr, .int (zI ↑n), .int (zI ↑r)])), (qk, .inl (cI, 30, .inl (kA K))), (qf, .inl (cI, 30, .inl (kA fi))), (qs, .inl (cI, 30, .inl (kA se))), (qn, .inl (cI, 30, .inl (kA nu))), (qr, .inl (cR, 30, .inr (.inr (.inr (.inr (fun i => some (ro i))))))), (tx, .inl (cI, 30, .inl (kA t))), (ro q, .inr (2, [.ref (en q)])), (en q, .inl (cI, 30, .inl (kA (rGrown a (nu q) 30 0 e30)))), (ro x, .inr (2, [.ref (en x)])), (en x, .inl (cI, 30, .inl (kA a))), (ro y, .inr (2, [.ref (en y)])), (en y, .inl (cI, 30, .inl (kA b)))]) H := hP
    replace hD : va_D A ([(h, .inr (0, [.ref qk, .ref qf, .ref qs, .ref qn, .ref qr, .int (zI ↑n), .int (zI ↑r)])), (qk, .inl (cI, 30, .inl (kA K))), (qf, .inl (cI, 30, .inl (kA fi))), (qs, .inl (cI, 30, .inl (kA se))), (qn, .inl (cI, 30, .inl (kA nu))), (qr, .inl (cR, 30, .inr (.inr (.inr (.inr (fun i => some (ro i))))))), (tx, .inl (cI, 30, .inl (kA t))), (ro q, .inr (2, [.ref (en q)])), (en q, .inl (cI, 30, .inl (kA (rGrown a (nu q) 30 0 e30)))), (ro x, .inr (2, [.ref (en x)])), (en x, .inl (cI, 30, .inl (kA a))), (ro y, .inr (2, [.ref (en y)])), (en y, .inl (cI, 30, .inl (kA b)))]) := hD
    refine lv_goto (tgt := 255) hx hb d_As_workOut_252 (by decide) ?_
    refine lv_aload_n hx hb d_As_workOut_255 rfl (lv_at hl 3 rfl) ?_
    refine k_beV (va_runV (As := []) (rest := []) ⟨hx, hb, hml, hown, hkw⟩ (c_Row_keepLeast l D cI cR cG (ro q) (en q) (rGrown a (nu q) 30 0 e30) (r_bd_rGrown e30_le ha30) _) (cwV 0 hkw (k_gV kw_methodLink_As_77 kw_instanceMethod_Ro_keepLeast kw_selects_Ro_keepLeast kw_initialized_Ro kw_code_Ro_keepLeast) rfl rfl rfl (by decide +kernel) ⟨(Nat.le_of_ble_eq_true rfl), (Nat.le_of_ble_eq_true rfl)⟩) (k_preV (q0 := 0) hK hG hP hD [7, 8] rfl rfl rfl rfl) rfl rfl hl.1 rfl (lv_room (Nat.le_of_ble_eq_true rfl)) d_As_workOut_256 ⟨Nat.zero_le _, Nat.zero_le _⟩) hP hD hS hA [7, 8] rfl (Eq.trans (b := [ro q, en q]) rfl rfl) ?_
    clear hP hD hS; intro H locs hP hD hS
    replace hP : va_P D k_cl ([(h, .inr (0, [.ref qk, .ref qf, .ref qs, .ref qn, .ref qr, .int (zI ↑n), .int (zI ↑r)])), (qk, .inl (cI, 30, .inl (kA K))), (qf, .inl (cI, 30, .inl (kA fi))), (qs, .inl (cI, 30, .inl (kA se))), (qn, .inl (cI, 30, .inl (kA nu))), (qr, .inl (cR, 30, .inr (.inr (.inr (.inr (fun i => some (ro i))))))), (tx, .inl (cI, 30, .inl (kA t))), (ro q, .inr (2, [.ref (en q)])), (en q, .inl (cI, 30, .inl (kA (rKL 30 (rGrown a (nu q) 30 0 e30) 30)))), (ro x, .inr (2, [.ref (en x)])), (en x, .inl (cI, 30, .inl (kA a))), (ro y, .inr (2, [.ref (en y)])), (en y, .inl (cI, 30, .inl (kA b)))]) H := hP
    replace hD : va_D A ([(h, .inr (0, [.ref qk, .ref qf, .ref qs, .ref qn, .ref qr, .int (zI ↑n), .int (zI ↑r)])), (qk, .inl (cI, 30, .inl (kA K))), (qf, .inl (cI, 30, .inl (kA fi))), (qs, .inl (cI, 30, .inl (kA se))), (qn, .inl (cI, 30, .inl (kA nu))), (qr, .inl (cR, 30, .inr (.inr (.inr (.inr (fun i => some (ro i))))))), (tx, .inl (cI, 30, .inl (kA t))), (ro q, .inr (2, [.ref (en q)])), (en q, .inl (cI, 30, .inl (kA (rKL 30 (rGrown a (nu q) 30 0 e30) 30)))), (ro x, .inr (2, [.ref (en x)])), (en x, .inl (cI, 30, .inl (kA a))), (ro y, .inr (2, [.ref (en y)])), (en y, .inl (cI, 30, .inl (kA b)))]) := hD
    rw [← hQf]
    have hP : va_P D k_cl [(h, .inr (0, [.ref qk, .ref qf, .ref qs, .ref qn, .ref qr, .int (zI ↑n), .int (zI ↑r)])), (qk, .inl (cI, 30, .inl (kA K))), (qf, .inl (cI, 30, .inl (kA fi))), (qs, .inl (cI, 30, .inl (kA se))), (qn, .inl (cI, 30, .inl (kA nu))), (qr, .inl (cR, 30, .inr (.inr (.inr (.inr (fun i => some (ro i))))))), (tx, .inl (cI, 30, .inl (kA t))), (ro q, .inr (2, [.ref (en q)])), (en q, .inl (cI, 30, .inl (kA (rowVal t (K q) (nu q) a b)))), (ro x, .inr (2, [.ref (en x)])), (en x, .inl (cI, 30, .inl (kA a))), (ro y, .inr (2, [.ref (en y)])), (en y, .inl (cI, 30, .inl (kA b)))] H := by
      rw [show rowVal t (K q) (nu q) a b = rKL 30 (rGrown a (nu q) 30 0 e30) 30 from by rw [hc]; rfl]
      exact hP
    exact k_vret hx hb hr hlocks hP hS d_As_workOut_259
