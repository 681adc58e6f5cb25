theorem dX5_canal_171 : decode cX5_canal 171 = .ok (.iinc 2 1, 3) := by decide +kernel
theorem dX5_canal_174 : decode cX5_canal 174 = .ok (.goto (-15), 3) := by decide +kernel
theorem dX5_canal_177 : decode cX5_canal 177 = .ok (.aload_n 0, 1) := by decide +kernel
theorem dX5_canal_178 : decode cX5_canal 178 = .ok (.getfield 142, 3) := by decide +kernel
theorem dX5_canal_181 : decode cX5_canal 181 = .ok (.ireturn, 1) := by decide +kernel
theorem dX5_isThing_0 : decode cX5_isThing 0 = .ok (.iload_n 1, 1) := by decide +kernel
theorem dX5_isThing_1 : decode cX5_isThing 1 = .ok (.i2l, 1) := by decide +kernel
theorem dX5_isThing_2 : decode cX5_isThing 2 = .ok (.lconst 0, 1) := by decide +kernel
theorem dX5_isThing_3 : decode cX5_isThing 3 = .ok (.aload_n 0, 1) := by decide +kernel
theorem dX5_isThing_4 : decode cX5_isThing 4 = .ok (.getfield 142, 3) := by decide +kernel
theorem dX5_isThing_7 : decode cX5_isThing 7 = .ok (.iconst 1, 1) := by decide +kernel
theorem dX5_isThing_8 : decode cX5_isThing 8 = .ok (.isub, 1) := by decide +kernel
theorem dX5_isThing_9 : decode cX5_isThing 9 = .ok (.i2l, 1) := by decide +kernel
theorem dX5_isThing_10 : decode cX5_isThing 10 = .ok (.invokestatic 84, 3) := by decide +kernel
theorem dX5_isThing_13 : decode cX5_isThing 13 = .ok (.ireturn, 1) := by decide +kernel
theorem dX5_isCell_0 : decode cX5_isCell 0 = .ok (.iload_n 0, 1) := by decide +kernel
theorem dX5_isCell_1 : decode cX5_isCell 1 = .ok (.i2l, 1) := by decide +kernel
theorem dX5_isCell_2 : decode cX5_isCell 2 = .ok (.lconst 0, 1) := by decide +kernel
theorem dX5_isCell_3 : decode cX5_isCell 3 = .ok (.ldc2_w 151, 3) := by decide +kernel
theorem dX5_isCell_6 : decode cX5_isCell 6 = .ok (.invokestatic 84, 3) := by decide +kernel
theorem dX5_isCell_9 : decode cX5_isCell 9 = .ok (.ireturn, 1) := by decide +kernel
theorem dX5_isTaken_0 : decode cX5_isTaken 0 = .ok (.aload_n 0, 1) := by decide +kernel
theorem dX5_isTaken_1 : decode cX5_isTaken 1 = .ok (.getfield 31, 3) := by decide +kernel
theorem dX5_isTaken_4 : decode cX5_isTaken 4 = .ok (.iconst 0, 1) := by decide +kernel
theorem dX5_isTaken_5 : decode cX5_isTaken 5 = .ok (.iload_n 1, 1) := by decide +kernel
theorem dX5_isTaken_6 : decode cX5_isTaken 6 = .ok (.iadd, 1) := by decide +kernel
theorem dX5_isTaken_7 : decode cX5_isTaken 7 = .ok (.iaload, 1) := by decide +kernel
theorem dX5_isTaken_8 : decode cX5_isTaken 8 = .ok (.bipush (-9), 2) := by decide +kernel
theorem dX5_isTaken_10 : decode cX5_isTaken 10 = .ok (.if_icmp .ne 7, 3) := by decide +kernel
theorem dX5_isTaken_13 : decode cX5_isTaken 13 = .ok (.iconst 1, 1) := by decide +kernel
theorem dX5_isTaken_14 : decode cX5_isTaken 14 = .ok (.goto 4, 3) := by decide +kernel
theorem dX5_isTaken_17 : decode cX5_isTaken 17 = .ok (.iconst 0, 1) := by decide +kernel
theorem dX5_isTaken_18 : decode cX5_isTaken 18 = .ok (.ireturn, 1) := by decide +kernel
theorem dX5_drifts_0 : decode cX5_drifts 0 = .ok (.aload_n 0, 1) := by decide +kernel
theorem dX5_drifts_1 : decode cX5_drifts 1 = .ok (.getfield 145, 3) := by decide +kernel
theorem dX5_drifts_4 : decode cX5_drifts 4 = .ok (.iload_n 2, 1) := by decide +kernel
theorem dX5_drifts_5 : decode cX5_drifts 5 = .ok (.if_icmp .le 7, 3) := by decide +kernel
theorem dX5_drifts_8 : decode cX5_drifts 8 = .ok (.iconst 1, 1) := by decide +kernel
theorem dX5_drifts_9 : decode cX5_drifts 9 = .ok (.goto 4, 3) := by decide +kernel
theorem dX5_drifts_12 : decode cX5_drifts 12 = .ok (.iconst 0, 1) := by decide +kernel
theorem dX5_drifts_13 : decode cX5_drifts 13 = .ok (.istore 4, 2) := by decide +kernel
theorem dX5_drifts_15 : decode cX5_drifts 15 = .ok (.iload_n 1, 1) := by decide +kernel
theorem dX5_drifts_16 : decode cX5_drifts 16 = .ok (.tableswitch 66 1 5 #[36, 41, 43, 56, 62], 36) := by decide +kernel
theorem dX5_drifts_52 : decode cX5_drifts 52 = .ok (.iload 4, 2) := by decide +kernel
theorem dX5_drifts_54 : decode cX5_drifts 54 = .ok (.iconst 1, 1) := by decide +kernel
theorem dX5_drifts_55 : decode cX5_drifts 55 = .ok (.iadd, 1) := by decide +kernel
theorem dX5_drifts_56 : decode cX5_drifts 56 = .ok (.ireturn, 1) := by decide +kernel
theorem dX5_drifts_57 : decode cX5_drifts 57 = .ok (.iconst 0, 1) := by decide +kernel
theorem dX5_drifts_58 : decode cX5_drifts 58 = .ok (.ireturn, 1) := by decide +kernel
theorem dX5_drifts_59 : decode cX5_drifts 59 = .ok (.iload_n 3, 1) := by decide +kernel
theorem dX5_drifts_60 : decode cX5_drifts 60 = .ok (.iconst 2, 1) := by decide +kernel
theorem dX5_drifts_61 : decode cX5_drifts 61 = .ok (.irem, 1) := by decide +kernel
theorem dX5_drifts_62 : decode cX5_drifts 62 = .ok (.ifCond .ne 8, 3) := by decide +kernel
theorem dX5_drifts_65 : decode cX5_drifts 65 = .ok (.iload 4, 2) := by decide +kernel
theorem dX5_drifts_67 : decode cX5_drifts 67 = .ok (.goto 4, 3) := by decide +kernel
theorem dX5_drifts_70 : decode cX5_drifts 70 = .ok (.iconst 0, 1) := by decide +kernel
theorem dX5_drifts_71 : decode cX5_drifts 71 = .ok (.ireturn, 1) := by decide +kernel
theorem dX5_drifts_72 : decode cX5_drifts 72 = .ok (.iload 4, 2) := by decide +kernel
theorem dX5_drifts_74 : decode cX5_drifts 74 = .ok (.ineg, 1) := by decide +kernel
theorem dX5_drifts_75 : decode cX5_drifts 75 = .ok (.iconst 1, 1) := by decide +kernel
theorem dX5_drifts_76 : decode cX5_drifts 76 = .ok (.isub, 1) := by decide +kernel
theorem dX5_drifts_77 : decode cX5_drifts 77 = .ok (.ireturn, 1) := by decide +kernel
theorem dX5_drifts_78 : decode cX5_drifts 78 = .ok (.iload_n 3, 1) := by decide +kernel
theorem dX5_drifts_79 : decode cX5_drifts 79 = .ok (.iconst 2, 1) := by decide +kernel
theorem dX5_drifts_80 : decode cX5_drifts 80 = .ok (.irem, 1) := by decide +kernel
theorem dX5_drifts_81 : decode cX5_drifts 81 = .ok (.ireturn, 1) := by decide +kernel
theorem dX5_drifts_82 : decode cX5_drifts 82 = .ok (.iload 4, 2) := by decide +kernel
theorem dX5_drifts_84 : decode cX5_drifts 84 = .ok (.ireturn, 1) := by decide +kernel
theorem dX5_bound_0 : decode cX5_bound 0 = .ok (.iload_n 0, 1) := by decide +kernel
theorem dX5_bound_1 : decode cX5_bound 1 = .ok (.ifCond .ge 7, 3) := by decide +kernel
theorem dX5_bound_4 : decode cX5_bound 4 = .ok (.iconst 0, 1) := by decide +kernel
theorem dX5_bound_5 : decode cX5_bound 5 = .ok (.goto 15, 3) := by decide +kernel
theorem dX5_bound_8 : decode cX5_bound 8 = .ok (.iload_n 0, 1) := by decide +kernel
theorem dX5_bound_9 : decode cX5_bound 9 = .ok (.bipush 7, 2) := by decide +kernel
theorem dX5_bound_11 : decode cX5_bound 11 = .ok (.if_icmp .le 8, 3) := by decide +kernel
theorem dX5_bound_14 : decode cX5_bound 14 = .ok (.bipush 7, 2) := by decide +kernel
theorem dX5_bound_16 : decode cX5_bound 16 = .ok (.goto 4, 3) := by decide +kernel
theorem dX5_bound_19 : decode cX5_bound 19 = .ok (.iload_n 0, 1) := by decide +kernel
theorem dX5_bound_20 : decode cX5_bound 20 = .ok (.ireturn, 1) := by decide +kernel
theorem dX5_next_0 : decode cX5_next 0 = .ok (.aload_n 0, 1) := by decide +kernel
theorem dX5_next_1 : decode cX5_next 1 = .ok (.getfield 31, 3) := by decide +kernel
theorem dX5_next_4 : decode cX5_next 4 = .ok (.bipush 6, 2) := by decide +kernel
theorem dX5_next_6 : decode cX5_next 6 = .ok (.iaload, 1) := by decide +kernel
theorem dX5_next_7 : decode cX5_next 7 = .ok (.ifCond .ne 7, 3) := by decide +kernel
theorem dX5_next_10 : decode cX5_next 10 = .ok (.iload_n 3, 1) := by decide +kernel
theorem dX5_next_11 : decode cX5_next 11 = .ok (.goto 16, 3) := by decide +kernel
theorem dX5_next_14 : decode cX5_next 14 = .ok (.iload_n 3, 1) := by decide +kernel
theorem dX5_next_15 : decode cX5_next 15 = .ok (.aload_n 0, 1) := by decide +kernel
theorem dX5_next_16 : decode cX5_next 16 = .ok (.iload_n 1, 1) := by decide +kernel
theorem dX5_next_17 : decode cX5_next 17 = .ok (.iload_n 2, 1) := by decide +kernel
theorem dX5_next_18 : decode cX5_next 18 = .ok (.iload 4, 2) := by decide +kernel
theorem dX5_next_20 : decode cX5_next 20 = .ok (.invokevirtual 153, 3) := by decide +kernel
theorem dX5_next_23 : decode cX5_next 23 = .ok (.iadd, 1) := by decide +kernel
theorem dX5_next_24 : decode cX5_next 24 = .ok (.invokestatic 157, 3) := by decide +kernel
theorem dX5_next_27 : decode cX5_next 27 = .ok (.ireturn, 1) := by decide +kernel
theorem dX5_after_0 : decode cX5_after 0 = .ok (.iload_n 3, 1) := by decide +kernel
theorem dX5_after_1 : decode cX5_after 1 = .ok (.istore 5, 2) := by decide +kernel
theorem dX5_after_3 : decode cX5_after 3 = .ok (.iconst 0, 1) := by decide +kernel
theorem dX5_after_4 : decode cX5_after 4 = .ok (.istore 6, 2) := by decide +kernel
theorem dX5_after_6 : decode cX5_after 6 = .ok (.iload 6, 2) := by decide +kernel
theorem dX5_after_8 : decode cX5_after 8 = .ok (.iload 4, 2) := by decide +kernel
theorem dX5_after_10 : decode cX5_after 10 = .ok (.if_icmp .ge 29, 3) := by decide +kernel
theorem dX5_after_13 : decode cX5_after 13 = .ok (.aload_n 0, 1) := by decide +kernel
theorem dX5_after_14 : decode cX5_after 14 = .ok (.iload_n 1, 1) := by decide +kernel
theorem dX5_after_15 : decode cX5_after 15 = .ok (.iload_n 2, 1) := by decide +kernel
theorem dX5_after_16 : decode cX5_after 16 = .ok (.iload 5, 2) := by decide +kernel
theorem dX5_after_18 : decode cX5_after 18 = .ok (.aload_n 0, 1) := by decide +kernel
theorem dX5_after_19 : decode cX5_after 19 = .ok (.getfield 31, 3) := by decide +kernel
theorem dX5_after_22 : decode cX5_after 22 = .ok (.bipush 7, 2) := by decide +kernel
theorem dX5_after_24 : decode cX5_after 24 = .ok (.iaload, 1) := by decide +kernel
theorem dX5_after_25 : decode cX5_after 25 = .ok (.iload 6, 2) := by decide +kernel
theorem dX5_after_27 : decode cX5_after 27 = .ok (.iadd, 1) := by decide +kernel
theorem dX5_after_28 : decode cX5_after 28 = .ok (.invokevirtual 160, 3) := by decide +kernel
theorem dX5_after_31 : decode cX5_after 31 = .ok (.istore 5, 2) := by decide +kernel
theorem dX5_after_33 : decode cX5_after 33 = .ok (.iinc 6 1, 3) := by decide +kernel
theorem dX5_after_36 : decode cX5_after 36 = .ok (.goto (-30), 3) := by decide +kernel
theorem dX5_after_39 : decode cX5_after 39 = .ok (.iload 5, 2) := by decide +kernel
theorem dX5_after_41 : decode cX5_after 41 = .ok (.ireturn, 1) := by decide +kernel
theorem dX5_afterOf_0 : decode cX5_afterOf 0 = .ok (.aload_n 0, 1) := by decide +kernel
theorem dX5_afterOf_1 : decode cX5_afterOf 1 = .ok (.aload_n 0, 1) := by decide +kernel
theorem dX5_afterOf_2 : decode cX5_afterOf 2 = .ok (.getfield 22, 3) := by decide +kernel
theorem dX5_afterOf_5 : decode cX5_afterOf 5 = .ok (.iload_n 1, 1) := by decide +kernel
theorem dX5_afterOf_6 : decode cX5_afterOf 6 = .ok (.iaload, 1) := by decide +kernel
theorem dX5_afterOf_7 : decode cX5_afterOf 7 = .ok (.aload_n 0, 1) := by decide +kernel
theorem dX5_afterOf_8 : decode cX5_afterOf 8 = .ok (.getfield 25, 3) := by decide +kernel
theorem dX5_afterOf_11 : decode cX5_afterOf 11 = .ok (.iload_n 1, 1) := by decide +kernel
theorem dX5_afterOf_12 : decode cX5_afterOf 12 = .ok (.iaload, 1) := by decide +kernel
theorem dX5_afterOf_13 : decode cX5_afterOf 13 = .ok (.iload_n 2, 1) := by decide +kernel
theorem dX5_afterOf_14 : decode cX5_afterOf 14 = .ok (.iload_n 3, 1) := by decide +kernel
theorem dX5_afterOf_15 : decode cX5_afterOf 15 = .ok (.invokevirtual 164, 3) := by decide +kernel
theorem dX5_afterOf_18 : decode cX5_afterOf 18 = .ok (.ireturn, 1) := by decide +kernel
theorem dX5_abs_0 : decode cX5_abs 0 = .ok (.iload_n 0, 1) := by decide +kernel
theorem dX5_abs_1 : decode cX5_abs 1 = .ok (.ifCond .ge 8, 3) := by decide +kernel
theorem dX5_abs_4 : decode cX5_abs 4 = .ok (.iload_n 0, 1) := by decide +kernel
theorem dX5_abs_5 : decode cX5_abs 5 = .ok (.ineg, 1) := by decide +kernel
theorem dX5_abs_6 : decode cX5_abs 6 = .ok (.goto 4, 3) := by decide +kernel
theorem dX5_abs_9 : decode cX5_abs 9 = .ok (.iload_n 0, 1) := by decide +kernel
theorem dX5_abs_10 : decode cX5_abs 10 = .ok (.ireturn, 1) := by decide +kernel
theorem dX5_told_0 : decode cX5_told 0 = .ok (.iload_n 2, 1) := by decide +kernel
theorem dX5_told_1 : decode cX5_told 1 = .ok (.tableswitch 61 0 3 #[31, 38, 47, 54], 31) := by decide +kernel
theorem dX5_told_32 : decode cX5_told 32 = .ok (.aload_n 0, 1) := by decide +kernel
theorem dX5_told_33 : decode cX5_told 33 = .ok (.getfield 22, 3) := by decide +kernel
theorem dX5_told_36 : decode cX5_told 36 = .ok (.iload_n 1, 1) := by decide +kernel
theorem dX5_told_37 : decode cX5_told 37 = .ok (.iaload, 1) := by decide +kernel
theorem dX5_told_38 : decode cX5_told 38 = .ok (.ireturn, 1) := by decide +kernel
theorem dX5_told_39 : decode cX5_told 39 = .ok (.aload_n 0, 1) := by decide +kernel
theorem dX5_told_40 : decode cX5_told 40 = .ok (.getfield 31, 3) := by decide +kernel
theorem dX5_told_43 : decode cX5_told 43 = .ok (.iconst 0, 1) := by decide +kernel
theorem dX5_told_44 : decode cX5_told 44 = .ok (.iload_n 1, 1) := by decide +kernel
theorem dX5_told_45 : decode cX5_told 45 = .ok (.iadd, 1) := by decide +kernel
theorem dX5_told_46 : decode cX5_told 46 = .ok (.iaload, 1) := by decide +kernel
theorem dX5_told_47 : decode cX5_told 47 = .ok (.ireturn, 1) := by decide +kernel
theorem dX5_told_48 : decode cX5_told 48 = .ok (.aload_n 0, 1) := by decide +kernel
theorem dX5_told_49 : decode cX5_told 49 = .ok (.getfield 25, 3) := by decide +kernel
theorem dX5_told_52 : decode cX5_told 52 = .ok (.iload_n 1, 1) := by decide +kernel
theorem dX5_told_53 : decode cX5_told 53 = .ok (.iaload, 1) := by decide +kernel
theorem dX5_told_54 : decode cX5_told 54 = .ok (.ireturn, 1) := by decide +kernel
theorem dX5_told_55 : decode cX5_told 55 = .ok (.aload_n 0, 1) := by decide +kernel
theorem dX5_told_56 : decode cX5_told 56 = .ok (.getfield 28, 3) := by decide +kernel
theorem dX5_told_59 : decode cX5_told 59 = .ok (.iload_n 1, 1) := by decide +kernel
theorem dX5_told_60 : decode cX5_told 60 = .ok (.iaload, 1) := by decide +kernel
theorem dX5_told_61 : decode cX5_told 61 = .ok (.ireturn, 1) := by decide +kernel
theorem dX5_told_62 : decode cX5_told 62 = .ok (.aload_n 0, 1) := by decide +kernel
theorem dX5_told_63 : decode cX5_told 63 = .ok (.getfield 31, 3) := by decide +kernel
theorem dX5_told_66 : decode cX5_told 66 = .ok (.bipush 6, 2) := by decide +kernel
theorem dX5_told_68 : decode cX5_told 68 = .ok (.iaload, 1) := by decide +kernel
theorem dX5_told_69 : decode cX5_told 69 = .ok (.ifCond .ne 7, 3) := by decide +kernel
theorem dX5_told_72 : decode cX5_told 72 = .ok (.iconst 0, 1) := by decide +kernel
theorem dX5_told_73 : decode cX5_told 73 = .ok (.goto 26, 3) := by decide +kernel
theorem dX5_told_76 : decode cX5_told 76 = .ok (.aload_n 0, 1) := by decide +kernel
theorem dX5_told_77 : decode cX5_told 77 = .ok (.aload_n 0, 1) := by decide +kernel
theorem dX5_told_78 : decode cX5_told 78 = .ok (.getfield 22, 3) := by decide +kernel
theorem dX5_told_81 : decode cX5_told 81 = .ok (.iload_n 1, 1) := by decide +kernel
theorem dX5_told_82 : decode cX5_told 82 = .ok (.iaload, 1) := by decide +kernel
theorem dX5_told_83 : decode cX5_told 83 = .ok (.aload_n 0, 1) := by decide +kernel
theorem dX5_told_84 : decode cX5_told 84 = .ok (.getfield 25, 3) := by decide +kernel
theorem dX5_told_87 : decode cX5_told 87 = .ok (.iload_n 1, 1) := by decide +kernel
theorem dX5_told_88 : decode cX5_told 88 = .ok (.iaload, 1) := by decide +kernel
theorem dX5_told_89 : decode cX5_told 89 = .ok (.aload_n 0, 1) := by decide +kernel
theorem dX5_told_90 : decode cX5_told 90 = .ok (.getfield 31, 3) := by decide +kernel
theorem dX5_told_93 : decode cX5_told 93 = .ok (.bipush 7, 2) := by decide +kernel
theorem dX5_told_95 : decode cX5_told 95 = .ok (.iaload, 1) := by decide +kernel
theorem dX5_told_96 : decode cX5_told 96 = .ok (.invokevirtual 153, 3) := by decide +kernel
theorem dX5_told_99 : decode cX5_told 99 = .ok (.ireturn, 1) := by decide +kernel
theorem dX5_thing_0 : decode cX5_thing 0 = .ok (.aload_n 0, 1) := by decide +kernel
theorem dX5_thing_1 : decode cX5_thing 1 = .ok (.iload_n 1, 1) := by decide +kernel
theorem dX5_thing_2 : decode cX5_thing 2 = .ok (.invokevirtual 167, 3) := by decide +kernel
theorem dX5_thing_5 : decode cX5_thing 5 = .ok (.ifCond .eq 28, 3) := by decide +kernel
theorem dX5_thing_8 : decode cX5_thing 8 = .ok (.iload_n 2, 1) := by decide +kernel
theorem dX5_thing_9 : decode cX5_thing 9 = .ok (.i2l, 1) := by decide +kernel
theorem dX5_thing_10 : decode cX5_thing 10 = .ok (.lconst 0, 1) := by decide +kernel
theorem dX5_thing_11 : decode cX5_thing 11 = .ok (.ldc2_w 170, 3) := by decide +kernel
theorem dX5_thing_14 : decode cX5_thing 14 = .ok (.invokestatic 84, 3) := by decide +kernel
theorem dX5_thing_17 : decode cX5_thing 17 = .ok (.ifCond .eq 16, 3) := by decide +kernel
theorem dX5_thing_20 : decode cX5_thing 20 = .ok (.aload_n 0, 1) := by decide +kernel
theorem dX5_thing_21 : decode cX5_thing 21 = .ok (.aload_n 0, 1) := by decide +kernel
theorem dX5_thing_22 : decode cX5_thing 22 = .ok (.iload_n 1, 1) := by decide +kernel
theorem dX5_thing_23 : decode cX5_thing 23 = .ok (.iload_n 2, 1) := by decide +kernel
theorem dX5_thing_24 : decode cX5_thing 24 = .ok (.invokevirtual 172, 3) := by decide +kernel
theorem dX5_thing_27 : decode cX5_thing 27 = .ok (.invokevirtual 98, 3) := by decide +kernel
theorem dX5_thing_30 : decode cX5_thing 30 = .ok (.goto 4, 3) := by decide +kernel
theorem dX5_thing_33 : decode cX5_thing 33 = .ok (.iconst (-1), 1) := by decide +kernel
theorem dX5_thing_34 : decode cX5_thing 34 = .ok (.ireturn, 1) := by decide +kernel
theorem dX5_isOf_0 : decode cX5_isOf 0 = .ok (.iload_n 0, 1) := by decide +kernel
theorem dX5_isOf_1 : decode cX5_isOf 1 = .ok (.iload_n 1, 1) := by decide +kernel
theorem dX5_isOf_2 : decode cX5_isOf 2 = .ok (.if_icmp .eq 23, 3) := by decide +kernel
theorem dX5_isOf_5 : decode cX5_isOf 5 = .ok (.iload_n 1, 1) := by decide +kernel
theorem dX5_isOf_6 : decode cX5_isOf 6 = .ok (.iconst 1, 1) := by decide +kernel
theorem dX5_isOf_7 : decode cX5_isOf 7 = .ok (.if_icmp .ne 8, 3) := by decide +kernel
theorem dX5_isOf_10 : decode cX5_isOf 10 = .ok (.iload_n 0, 1) := by decide +kernel
theorem dX5_isOf_11 : decode cX5_isOf 11 = .ok (.iconst 4, 1) := by decide +kernel
theorem dX5_isOf_12 : decode cX5_isOf 12 = .ok (.if_icmp .eq 13, 3) := by decide +kernel
theorem dX5_isOf_15 : decode cX5_isOf 15 = .ok (.iload_n 1, 1) := by decide +kernel
theorem dX5_isOf_16 : decode cX5_isOf 16 = .ok (.iconst 2, 1) := by decide +kernel
theorem dX5_isOf_17 : decode cX5_isOf 17 = .ok (.if_icmp .ne 12, 3) := by decide +kernel
theorem dX5_isOf_20 : decode cX5_isOf 20 = .ok (.iload_n 0, 1) := by decide +kernel
theorem dX5_isOf_21 : decode cX5_isOf 21 = .ok (.iconst 5, 1) := by decide +kernel
theorem dX5_isOf_22 : decode cX5_isOf 22 = .ok (.if_icmp .ne 7, 3) := by decide +kernel
theorem dX5_isOf_25 : decode cX5_isOf 25 = .ok (.iconst 1, 1) := by decide +kernel
theorem dX5_isOf_26 : decode cX5_isOf 26 = .ok (.goto 4, 3) := by decide +kernel
theorem dX5_isOf_29 : decode cX5_isOf 29 = .ok (.iconst 0, 1) := by decide +kernel
theorem dX5_isOf_30 : decode cX5_isOf 30 = .ok (.ireturn, 1) := by decide +kernel
theorem dX5_kindsOf_0 : decode cX5_kindsOf 0 = .ok (.iconst 0, 1) := by decide +kernel
theorem dX5_kindsOf_1 : decode cX5_kindsOf 1 = .ok (.istore_n 2, 1) := by decide +kernel
theorem dX5_kindsOf_2 : decode cX5_kindsOf 2 = .ok (.iconst 0, 1) := by decide +kernel
theorem dX5_kindsOf_3 : decode cX5_kindsOf 3 = .ok (.istore_n 3, 1) := by decide +kernel
theorem dX5_kindsOf_4 : decode cX5_kindsOf 4 = .ok (.iload_n 3, 1) := by decide +kernel
theorem dX5_kindsOf_5 : decode cX5_kindsOf 5 = .ok (.aload_n 0, 1) := by decide +kernel
theorem dX5_kindsOf_6 : decode cX5_kindsOf 6 = .ok (.getfield 142, 3) := by decide +kernel
theorem dX5_kindsOf_9 : decode cX5_kindsOf 9 = .ok (.if_icmp .ge 30, 3) := by decide +kernel
theorem dX5_kindsOf_12 : decode cX5_kindsOf 12 = .ok (.iload_n 2, 1) := by decide +kernel
theorem dX5_kindsOf_13 : decode cX5_kindsOf 13 = .ok (.aload_n 0, 1) := by decide +kernel
theorem dX5_kindsOf_14 : decode cX5_kindsOf 14 = .ok (.getfield 22, 3) := by decide +kernel
theorem dX5_kindsOf_17 : decode cX5_kindsOf 17 = .ok (.iload_n 3, 1) := by decide +kernel
theorem dX5_kindsOf_18 : decode cX5_kindsOf 18 = .ok (.iaload, 1) := by decide +kernel
theorem dX5_kindsOf_19 : decode cX5_kindsOf 19 = .ok (.iload_n 1, 1) := by decide +kernel
theorem dX5_kindsOf_20 : decode cX5_kindsOf 20 = .ok (.invokestatic 176, 3) := by decide +kernel
theorem dX5_kindsOf_23 : decode cX5_kindsOf 23 = .ok (.ifCond .eq 7, 3) := by decide +kernel
theorem dX5_kindsOf_26 : decode cX5_kindsOf 26 = .ok (.iconst 1, 1) := by decide +kernel
theorem dX5_kindsOf_27 : decode cX5_kindsOf 27 = .ok (.goto 4, 3) := by decide +kernel
theorem dX5_kindsOf_30 : decode cX5_kindsOf 30 = .ok (.iconst 0, 1) := by decide +kernel
theorem dX5_kindsOf_31 : decode cX5_kindsOf 31 = .ok (.iadd, 1) := by decide +kernel
theorem dX5_kindsOf_32 : decode cX5_kindsOf 32 = .ok (.istore_n 2, 1) := by decide +kernel
theorem dX5_kindsOf_33 : decode cX5_kindsOf 33 = .ok (.iinc 3 1, 3) := by decide +kernel
theorem dX5_kindsOf_36 : decode cX5_kindsOf 36 = .ok (.goto (-32), 3) := by decide +kernel
theorem dX5_kindsOf_39 : decode cX5_kindsOf 39 = .ok (.iload_n 2, 1) := by decide +kernel
theorem dX5_kindsOf_40 : decode cX5_kindsOf 40 = .ok (.ireturn, 1) := by decide +kernel
theorem dX5_cellOf_0 : decode cX5_cellOf 0 = .ok (.iconst 0, 1) := by decide +kernel
theorem dX5_cellOf_1 : decode cX5_cellOf 1 = .ok (.istore_n 2, 1) := by decide +kernel
theorem dX5_cellOf_2 : decode cX5_cellOf 2 = .ok (.iconst 0, 1) := by decide +kernel
theorem dX5_cellOf_3 : decode cX5_cellOf 3 = .ok (.istore_n 3, 1) := by decide +kernel
theorem dX5_cellOf_4 : decode cX5_cellOf 4 = .ok (.iload_n 3, 1) := by decide +kernel
theorem dX5_cellOf_5 : decode cX5_cellOf 5 = .ok (.aload_n 0, 1) := by decide +kernel
theorem dX5_cellOf_6 : decode cX5_cellOf 6 = .ok (.getfield 142, 3) := by decide +kernel
theorem dX5_cellOf_9 : decode cX5_cellOf 9 = .ok (.if_icmp .ge 31, 3) := by decide +kernel
theorem dX5_cellOf_12 : decode cX5_cellOf 12 = .ok (.iload_n 2, 1) := by decide +kernel
theorem dX5_cellOf_13 : decode cX5_cellOf 13 = .ok (.aload_n 0, 1) := by decide +kernel
theorem dX5_cellOf_14 : decode cX5_cellOf 14 = .ok (.getfield 31, 3) := by decide +kernel
theorem dX5_cellOf_17 : decode cX5_cellOf 17 = .ok (.iconst 0, 1) := by decide +kernel
theorem dX5_cellOf_18 : decode cX5_cellOf 18 = .ok (.iload_n 3, 1) := by decide +kernel
theorem dX5_cellOf_19 : decode cX5_cellOf 19 = .ok (.iadd, 1) := by decide +kernel
theorem dX5_cellOf_20 : decode cX5_cellOf 20 = .ok (.iaload, 1) := by decide +kernel
theorem dX5_cellOf_21 : decode cX5_cellOf 21 = .ok (.iload_n 1, 1) := by decide +kernel
theorem dX5_cellOf_22 : decode cX5_cellOf 22 = .ok (.if_icmp .ne 9, 3) := by decide +kernel
theorem dX5_cellOf_25 : decode cX5_cellOf 25 = .ok (.iconst 1, 1) := by decide +kernel
theorem dX5_cellOf_26 : decode cX5_cellOf 26 = .ok (.iload_n 3, 1) := by decide +kernel
theorem dX5_cellOf_27 : decode cX5_cellOf 27 = .ok (.ishl, 1) := by decide +kernel
theorem dX5_cellOf_28 : decode cX5_cellOf 28 = .ok (.goto 4, 3) := by decide +kernel
theorem dX5_cellOf_31 : decode cX5_cellOf 31 = .ok (.iconst 0, 1) := by decide +kernel
theorem dX5_cellOf_32 : decode cX5_cellOf 32 = .ok (.ior, 1) := by decide +kernel
theorem dX5_cellOf_33 : decode cX5_cellOf 33 = .ok (.istore_n 2, 1) := by decide +kernel
theorem dX5_cellOf_34 : decode cX5_cellOf 34 = .ok (.iinc 3 1, 3) := by decide +kernel
theorem dX5_cellOf_37 : decode cX5_cellOf 37 = .ok (.goto (-33), 3) := by decide +kernel
theorem dX5_cellOf_40 : decode cX5_cellOf 40 = .ok (.iload_n 2, 1) := by decide +kernel
theorem dX5_cellOf_41 : decode cX5_cellOf 41 = .ok (.ireturn, 1) := by decide +kernel
theorem dX5_mark_0 : decode cX5_mark 0 = .ok (.aload_n 0, 1) := by decide +kernel
theorem dX5_mark_1 : decode cX5_mark 1 = .ok (.iload_n 1, 1) := by decide +kernel
theorem dX5_mark_2 : decode cX5_mark 2 = .ok (.invokevirtual 167, 3) := by decide +kernel
theorem dX5_mark_5 : decode cX5_mark 5 = .ok (.ifCond .eq 15, 3) := by decide +kernel
theorem dX5_mark_8 : decode cX5_mark 8 = .ok (.iload_n 2, 1) := by decide +kernel
theorem dX5_mark_9 : decode cX5_mark 9 = .ok (.i2l, 1) := by decide +kernel
theorem dX5_mark_10 : decode cX5_mark 10 = .ok (.lconst 1, 1) := by decide +kernel
theorem dX5_mark_11 : decode cX5_mark 11 = .ok (.ldc2_w 82, 3) := by decide +kernel
theorem dX5_mark_14 : decode cX5_mark 14 = .ok (.invokestatic 84, 3) := by decide +kernel
theorem dX5_mark_17 : decode cX5_mark 17 = .ok (.ifCond .ne 5, 3) := by decide +kernel
theorem dX5_mark_20 : decode cX5_mark 20 = .ok (.iconst (-1), 1) := by decide +kernel
theorem dX5_mark_21 : decode cX5_mark 21 = .ok (.ireturn, 1) := by decide +kernel
theorem dX5_mark_22 : decode cX5_mark 22 = .ok (.aload_n 0, 1) := by decide +kernel
theorem dX5_mark_23 : decode cX5_mark 23 = .ok (.getfield 22, 3) := by decide +kernel
theorem dX5_mark_26 : decode cX5_mark 26 = .ok (.iload_n 1, 1) := by decide +kernel
theorem dX5_mark_27 : decode cX5_mark 27 = .ok (.iaload, 1) := by decide +kernel
theorem dX5_mark_28 : decode cX5_mark 28 = .ok (.iload_n 2, 1) := by decide +kernel
theorem dX5_mark_29 : decode cX5_mark 29 = .ok (.invokestatic 176, 3) := by decide +kernel
theorem dX5_mark_32 : decode cX5_mark 32 = .ok (.ifCond .ne 9, 3) := by decide +kernel
theorem dX5_mark_35 : decode cX5_mark 35 = .ok (.aload_n 0, 1) := by decide +kernel
theorem dX5_mark_36 : decode cX5_mark 36 = .ok (.iconst 3, 1) := by decide +kernel
theorem dX5_mark_37 : decode cX5_mark 37 = .ok (.invokevirtual 94, 3) := by decide +kernel
theorem dX5_mark_40 : decode cX5_mark 40 = .ok (.ireturn, 1) := by decide +kernel
theorem dX5_mark_41 : decode cX5_mark 41 = .ok (.iload_n 2, 1) := by decide +kernel
theorem dX5_mark_42 : decode cX5_mark 42 = .ok (.tableswitch 107 1 4 #[30, 61, 91, 101], 30) := by decide +kernel
theorem dX5_mark_72 : decode cX5_mark 72 = .ok (.aload_n 0, 1) := by decide +kernel
theorem dX5_mark_73 : decode cX5_mark 73 = .ok (.getfield 145, 3) := by decide +kernel
theorem dX5_mark_76 : decode cX5_mark 76 = .ok (.aload_n 0, 1) := by decide +kernel
theorem dX5_mark_77 : decode cX5_mark 77 = .ok (.getfield 25, 3) := by decide +kernel
theorem dX5_mark_80 : decode cX5_mark 80 = .ok (.iload_n 1, 1) := by decide +kernel
theorem dX5_mark_81 : decode cX5_mark 81 = .ok (.iaload, 1) := by decide +kernel
theorem dX5_mark_82 : decode cX5_mark 82 = .ok (.if_icmp .le 7, 3) := by decide +kernel
theorem dX5_mark_85 : decode cX5_mark 85 = .ok (.iconst 0, 1) := by decide +kernel
theorem dX5_mark_86 : decode cX5_mark 86 = .ok (.goto 16, 3) := by decide +kernel
theorem dX5_mark_89 : decode cX5_mark 89 = .ok (.aload_n 0, 1) := by decide +kernel
theorem dX5_mark_90 : decode cX5_mark 90 = .ok (.getfield 25, 3) := by decide +kernel
theorem dX5_mark_93 : decode cX5_mark 93 = .ok (.iload_n 1, 1) := by decide +kernel
theorem dX5_mark_94 : decode cX5_mark 94 = .ok (.iaload, 1) := by decide +kernel
theorem dX5_mark_95 : decode cX5_mark 95 = .ok (.iconst 1, 1) := by decide +kernel
theorem dX5_mark_96 : decode cX5_mark 96 = .ok (.iadd, 1) := by decide +kernel
theorem dX5_mark_97 : decode cX5_mark 97 = .ok (.aload_n 0, 1) := by decide +kernel
theorem dX5_mark_98 : decode cX5_mark 98 = .ok (.getfield 145, 3) := by decide +kernel
theorem dX5_mark_101 : decode cX5_mark 101 = .ok (.isub, 1) := by decide +kernel
theorem dX5_mark_102 : decode cX5_mark 102 = .ok (.ireturn, 1) := by decide +kernel
theorem dX5_mark_103 : decode cX5_mark 103 = .ok (.aload_n 0, 1) := by decide +kernel
theorem dX5_mark_104 : decode cX5_mark 104 = .ok (.iload_n 1, 1) := by decide +kernel
theorem dX5_mark_105 : decode cX5_mark 105 = .ok (.invokevirtual 179, 3) := by decide +kernel
theorem dX5_mark_108 : decode cX5_mark 108 = .ok (.ifCond .eq 7, 3) := by decide +kernel
theorem dX5_mark_111 : decode cX5_mark 111 = .ok (.iconst 0, 1) := by decide +kernel
theorem dX5_mark_112 : decode cX5_mark 112 = .ok (.goto 20, 3) := by decide +kernel
theorem dX5_mark_115 : decode cX5_mark 115 = .ok (.aload_n 0, 1) := by decide +kernel
theorem dX5_mark_116 : decode cX5_mark 116 = .ok (.aload_n 0, 1) := by decide +kernel
theorem dX5_mark_117 : decode cX5_mark 117 = .ok (.getfield 31, 3) := by decide +kernel
theorem dX5_mark_120 : decode cX5_mark 120 = .ok (.iconst 0, 1) := by decide +kernel
theorem dX5_mark_121 : decode cX5_mark 121 = .ok (.iload_n 1, 1) := by decide +kernel
theorem dX5_mark_122 : decode cX5_mark 122 = .ok (.iadd, 1) := by decide +kernel
theorem dX5_mark_123 : decode cX5_mark 123 = .ok (.iaload, 1) := by decide +kernel
theorem dX5_mark_124 : decode cX5_mark 124 = .ok (.invokevirtual 182, 3) := by decide +kernel
theorem dX5_mark_127 : decode cX5_mark 127 = .ok (.invokestatic 185, 3) := by decide +kernel
theorem dX5_mark_130 : decode cX5_mark 130 = .ok (.iconst 1, 1) := by decide +kernel
theorem dX5_mark_131 : decode cX5_mark 131 = .ok (.isub, 1) := by decide +kernel
theorem dX5_mark_132 : decode cX5_mark 132 = .ok (.ireturn, 1) := by decide +kernel
theorem dX5_mark_133 : decode cX5_mark 133 = .ok (.aload_n 0, 1) := by decide +kernel
theorem dX5_mark_134 : decode cX5_mark 134 = .ok (.getfield 31, 3) := by decide +kernel
theorem dX5_mark_137 : decode cX5_mark 137 = .ok (.bipush 7, 2) := by decide +kernel
theorem dX5_mark_139 : decode cX5_mark 139 = .ok (.iaload, 1) := by decide +kernel
theorem dX5_mark_140 : decode cX5_mark 140 = .ok (.iconst 2, 1) := by decide +kernel
theorem dX5_mark_141 : decode cX5_mark 141 = .ok (.irem, 1) := by decide +kernel
theorem dX5_mark_142 : decode cX5_mark 142 = .ok (.ireturn, 1) := by decide +kernel
theorem dX5_mark_143 : decode cX5_mark 143 = .ok (.aload_n 0, 1) := by decide +kernel
theorem dX5_mark_144 : decode cX5_mark 144 = .ok (.iconst 1, 1) := by decide +kernel
theorem dX5_mark_145 : decode cX5_mark 145 = .ok (.invokevirtual 188, 3) := by decide +kernel
theorem dX5_mark_148 : decode cX5_mark 148 = .ok (.ireturn, 1) := by decide +kernel
theorem dX5_mark_149 : decode cX5_mark 149 = .ok (.aload_n 0, 1) := by decide +kernel
theorem dX5_mark_150 : decode cX5_mark 150 = .ok (.iload_n 1, 1) := by decide +kernel
theorem dX5_mark_151 : decode cX5_mark 151 = .ok (.invokevirtual 179, 3) := by decide +kernel
theorem dX5_mark_154 : decode cX5_mark 154 = .ok (.ifCond .eq 7, 3) := by decide +kernel
theorem dX5_mark_157 : decode cX5_mark 157 = .ok (.iconst 0, 1) := by decide +kernel
theorem dX5_mark_158 : decode cX5_mark 158 = .ok (.goto 14, 3) := by decide +kernel
theorem dX5_mark_161 : decode cX5_mark 161 = .ok (.bipush 7, 2) := by decide +kernel
theorem dX5_mark_163 : decode cX5_mark 163 = .ok (.aload_n 0, 1) := by decide +kernel
theorem dX5_mark_164 : decode cX5_mark 164 = .ok (.getfield 31, 3) := by decide +kernel
theorem dX5_mark_167 : decode cX5_mark 167 = .ok (.iconst 0, 1) := by decide +kernel
theorem dX5_mark_168 : decode cX5_mark 168 = .ok (.iload_n 1, 1) := by decide +kernel
theorem dX5_mark_169 : decode cX5_mark 169 = .ok (.iadd, 1) := by decide +kernel
theorem dX5_mark_170 : decode cX5_mark 170 = .ok (.iaload, 1) := by decide +kernel
theorem dX5_mark_171 : decode cX5_mark 171 = .ok (.isub, 1) := by decide +kernel
theorem dX5_mark_172 : decode cX5_mark 172 = .ok (.ireturn, 1) := by decide +kernel
theorem dX5_cell_0 : decode cX5_cell 0 = .ok (.iload_n 1, 1) := by decide +kernel
theorem dX5_cell_1 : decode cX5_cell 1 = .ok (.invokestatic 191, 3) := by decide +kernel
theorem dX5_cell_4 : decode cX5_cell 4 = .ok (.ifCond .eq 11, 3) := by decide +kernel
theorem dX5_cell_7 : decode cX5_cell 7 = .ok (.aload_n 0, 1) := by decide +kernel
theorem dX5_cell_8 : decode cX5_cell 8 = .ok (.iload_n 1, 1) := by decide +kernel
theorem dX5_cell_9 : decode cX5_cell 9 = .ok (.invokevirtual 182, 3) := by decide +kernel
theorem dX5_cell_12 : decode cX5_cell 12 = .ok (.goto 4, 3) := by decide +kernel
theorem dX5_cell_15 : decode cX5_cell 15 = .ok (.iconst (-1), 1) := by decide +kernel
theorem dX5_cell_16 : decode cX5_cell 16 = .ok (.ireturn, 1) := by decide +kernel
theorem dX5_copies_0 : decode cX5_copies 0 = .ok (.iconst 0, 1) := by decide +kernel
theorem dX5_copies_1 : decode cX5_copies 1 = .ok (.istore 5, 2) := by decide +kernel
theorem dX5_copies_3 : decode cX5_copies 3 = .ok (.iload 5, 2) := by decide +kernel
theorem dX5_copies_5 : decode cX5_copies 5 = .ok (.iload 4, 2) := by decide +kernel
theorem dX5_copies_7 : decode cX5_copies 7 = .ok (.if_icmp .ge 21, 3) := by decide +kernel
theorem dX5_copies_10 : decode cX5_copies 10 = .ok (.aload_n 2, 1) := by decide +kernel
theorem dX5_copies_11 : decode cX5_copies 11 = .ok (.iload_n 3, 1) := by decide +kernel
theorem dX5_copies_12 : decode cX5_copies 12 = .ok (.iload 5, 2) := by decide +kernel
theorem dX5_copies_14 : decode cX5_copies 14 = .ok (.iadd, 1) := by decide +kernel
theorem dX5_copies_15 : decode cX5_copies 15 = .ok (.aload_n 0, 1) := by decide +kernel
theorem dX5_copies_16 : decode cX5_copies 16 = .ok (.iload_n 1, 1) := by decide +kernel
theorem dX5_copies_17 : decode cX5_copies 17 = .ok (.iload 5, 2) := by decide +kernel
theorem dX5_copies_19 : decode cX5_copies 19 = .ok (.iadd, 1) := by decide +kernel
theorem dX5_copies_20 : decode cX5_copies 20 = .ok (.iaload, 1) := by decide +kernel
theorem dX5_copies_21 : decode cX5_copies 21 = .ok (.iastore, 1) := by decide +kernel
theorem dX5_copies_22 : decode cX5_copies 22 = .ok (.iinc 5 1, 3) := by decide +kernel
theorem dX5_copies_25 : decode cX5_copies 25 = .ok (.goto (-22), 3) := by decide +kernel
theorem dX5_copies_28 : decode cX5_copies 28 = .ok (.return_, 1) := by decide +kernel
theorem dX5_remember_0 : decode cX5_remember 0 = .ok (.aload_n 0, 1) := by decide +kernel
theorem dX5_remember_1 : decode cX5_remember 1 = .ok (.getfield 31, 3) := by decide +kernel
theorem dX5_remember_4 : decode cX5_remember 4 = .ok (.iconst 0, 1) := by decide +kernel
theorem dX5_remember_5 : decode cX5_remember 5 = .ok (.aload_n 0, 1) := by decide +kernel
theorem dX5_remember_6 : decode cX5_remember 6 = .ok (.getfield 34, 3) := by decide +kernel
theorem dX5_remember_9 : decode cX5_remember 9 = .ok (.bipush 8, 2) := by decide +kernel
theorem dX5_remember_11 : decode cX5_remember 11 = .ok (.aload_n 0, 1) := by decide +kernel
theorem dX5_remember_12 : decode cX5_remember 12 = .ok (.getfield 148, 3) := by decide +kernel
theorem dX5_remember_15 : decode cX5_remember 15 = .ok (.imul, 1) := by decide +kernel
theorem dX5_remember_16 : decode cX5_remember 16 = .ok (.bipush 8, 2) := by decide +kernel
theorem dX5_remember_18 : decode cX5_remember 18 = .ok (.invokestatic 194, 3) := by decide +kernel
theorem dX5_remember_21 : decode cX5_remember 21 = .ok (.aload_n 0, 1) := by decide +kernel
theorem dX5_remember_22 : decode cX5_remember 22 = .ok (.dup, 1) := by decide +kernel
theorem dX5_remember_23 : decode cX5_remember 23 = .ok (.getfield 148, 3) := by decide +kernel
theorem dX5_remember_26 : decode cX5_remember 26 = .ok (.iconst 1, 1) := by decide +kernel
theorem dX5_remember_27 : decode cX5_remember 27 = .ok (.iadd, 1) := by decide +kernel
theorem dX5_remember_28 : decode cX5_remember 28 = .ok (.putfield 148, 3) := by decide +kernel
theorem dX5_remember_31 : decode cX5_remember 31 = .ok (.return_, 1) := by decide +kernel
theorem dX5_yearGoes_0 : decode cX5_yearGoes 0 = .ok (.aload_n 0, 1) := by decide +kernel
theorem dX5_yearGoes_1 : decode cX5_yearGoes 1 = .ok (.invokevirtual 198, 3) := by decide +kernel
theorem dX5_yearGoes_4 : decode cX5_yearGoes 4 = .ok (.iconst 0, 1) := by decide +kernel
theorem dX5_yearGoes_5 : decode cX5_yearGoes 5 = .ok (.istore_n 1, 1) := by decide +kernel
theorem dX5_yearGoes_6 : decode cX5_yearGoes 6 = .ok (.iload_n 1, 1) := by decide +kernel
theorem dX5_yearGoes_7 : decode cX5_yearGoes 7 = .ok (.aload_n 0, 1) := by decide +kernel
theorem dX5_yearGoes_8 : decode cX5_yearGoes 8 = .ok (.getfield 142, 3) := by decide +kernel
theorem dX5_yearGoes_11 : decode cX5_yearGoes 11 = .ok (.if_icmp .ge 39, 3) := by decide +kernel
theorem dX5_yearGoes_14 : decode cX5_yearGoes 14 = .ok (.aload_n 0, 1) := by decide +kernel
theorem dX5_yearGoes_15 : decode cX5_yearGoes 15 = .ok (.iload_n 1, 1) := by decide +kernel
theorem dX5_yearGoes_16 : decode cX5_yearGoes 16 = .ok (.invokevirtual 179, 3) := by decide +kernel
theorem dX5_yearGoes_19 : decode cX5_yearGoes 19 = .ok (.ifCond .ne 25, 3) := by decide +kernel
theorem dX5_yearGoes_22 : decode cX5_yearGoes 22 = .ok (.aload_n 0, 1) := by decide +kernel
theorem dX5_yearGoes_23 : decode cX5_yearGoes 23 = .ok (.getfield 31, 3) := by decide +kernel
theorem dX5_yearGoes_26 : decode cX5_yearGoes 26 = .ok (.iconst 0, 1) := by decide +kernel
theorem dX5_yearGoes_27 : decode cX5_yearGoes 27 = .ok (.iload_n 1, 1) := by decide +kernel
theorem dX5_yearGoes_28 : decode cX5_yearGoes 28 = .ok (.iadd, 1) := by decide +kernel
theorem dX5_yearGoes_29 : decode cX5_yearGoes 29 = .ok (.aload_n 0, 1) := by decide +kernel
theorem dX5_yearGoes_30 : decode cX5_yearGoes 30 = .ok (.iload_n 1, 1) := by decide +kernel
theorem dX5_yearGoes_31 : decode cX5_yearGoes 31 = .ok (.aload_n 0, 1) := by decide +kernel
theorem dX5_yearGoes_32 : decode cX5_yearGoes 32 = .ok (.getfield 31, 3) := by decide +kernel
theorem dX5_yearGoes_35 : decode cX5_yearGoes 35 = .ok (.iconst 0, 1) := by decide +kernel
theorem dX5_yearGoes_36 : decode cX5_yearGoes 36 = .ok (.iload_n 1, 1) := by decide +kernel
theorem dX5_yearGoes_37 : decode cX5_yearGoes 37 = .ok (.iadd, 1) := by decide +kernel
theorem dX5_yearGoes_38 : decode cX5_yearGoes 38 = .ok (.iaload, 1) := by decide +kernel
theorem dX5_yearGoes_39 : decode cX5_yearGoes 39 = .ok (.iconst 1, 1) := by decide +kernel
theorem dX5_yearGoes_40 : decode cX5_yearGoes 40 = .ok (.invokevirtual 201, 3) := by decide +kernel
theorem dX5_yearGoes_43 : decode cX5_yearGoes 43 = .ok (.iastore, 1) := by decide +kernel
theorem dX5_yearGoes_44 : decode cX5_yearGoes 44 = .ok (.iinc 1 1, 3) := by decide +kernel
theorem dX5_yearGoes_47 : decode cX5_yearGoes 47 = .ok (.goto (-41), 3) := by decide +kernel
theorem dX5_yearGoes_50 : decode cX5_yearGoes 50 = .ok (.aload_n 0, 1) := by decide +kernel
theorem dX5_yearGoes_51 : decode cX5_yearGoes 51 = .ok (.getfield 31, 3) := by decide +kernel
theorem dX5_yearGoes_54 : decode cX5_yearGoes 54 = .ok (.bipush 7, 2) := by decide +kernel
theorem dX5_yearGoes_56 : decode cX5_yearGoes 56 = .ok (.dup2, 1) := by decide +kernel
theorem dX5_yearGoes_57 : decode cX5_yearGoes 57 = .ok (.iaload, 1) := by decide +kernel
theorem dX5_yearGoes_58 : decode cX5_yearGoes 58 = .ok (.iconst 1, 1) := by decide +kernel
theorem dX5_yearGoes_59 : decode cX5_yearGoes 59 = .ok (.iadd, 1) := by decide +kernel
theorem dX5_yearGoes_60 : decode cX5_yearGoes 60 = .ok (.iastore, 1) := by decide +kernel
theorem dX5_yearGoes_61 : decode cX5_yearGoes 61 = .ok (.return_, 1) := by decide +kernel
theorem dX5_turned_0 : decode cX5_turned 0 = .ok (.iload_n 1, 1) := by decide +kernel
theorem dX5_turned_1 : decode cX5_turned 1 = .ok (.ifCond .eq 9, 3) := by decide +kernel
theorem dX5_turned_4 : decode cX5_turned 4 = .ok (.iload_n 0, 1) := by decide +kernel
theorem dX5_turned_5 : decode cX5_turned 5 = .ok (.iconst 3, 1) := by decide +kernel
theorem dX5_turned_6 : decode cX5_turned 6 = .ok (.iadd, 1) := by decide +kernel
theorem dX5_turned_7 : decode cX5_turned 7 = .ok (.goto 6, 3) := by decide +kernel
theorem dX5_turned_10 : decode cX5_turned 10 = .ok (.iload_n 0, 1) := by decide +kernel
theorem dX5_turned_11 : decode cX5_turned 11 = .ok (.iconst 2, 1) := by decide +kernel
theorem dX5_turned_12 : decode cX5_turned 12 = .ok (.isub, 1) := by decide +kernel
theorem dX5_turned_13 : decode cX5_turned 13 = .ok (.istore_n 2, 1) := by decide +kernel
theorem dX5_turned_14 : decode cX5_turned 14 = .ok (.iload_n 2, 1) := by decide +kernel
theorem dX5_turned_15 : decode cX5_turned 15 = .ok (.bipush 9, 2) := by decide +kernel
theorem dX5_turned_17 : decode cX5_turned 17 = .ok (.if_icmp .le 8, 3) := by decide +kernel
theorem dX5_turned_20 : decode cX5_turned 20 = .ok (.bipush 9, 2) := by decide +kernel
theorem dX5_turned_22 : decode cX5_turned 22 = .ok (.goto 12, 3) := by decide +kernel
theorem dX5_turned_25 : decode cX5_turned 25 = .ok (.iload_n 2, 1) := by decide +kernel
theorem dX5_turned_26 : decode cX5_turned 26 = .ok (.ifCond .ge 7, 3) := by decide +kernel
theorem dX5_turned_29 : decode cX5_turned 29 = .ok (.iconst 0, 1) := by decide +kernel
theorem dX5_turned_30 : decode cX5_turned 30 = .ok (.goto 4, 3) := by decide +kernel
theorem dX5_turned_33 : decode cX5_turned 33 = .ok (.iload_n 2, 1) := by decide +kernel
theorem dX5_turned_34 : decode cX5_turned 34 = .ok (.ireturn, 1) := by decide +kernel
theorem dX5_turns_0 : decode cX5_turns 0 = .ok (.aload_n 0, 1) := by decide +kernel
theorem dX5_turns_1 : decode cX5_turns 1 = .ok (.invokevirtual 198, 3) := by decide +kernel
theorem dX5_turns_4 : decode cX5_turns 4 = .ok (.aload_n 0, 1) := by decide +kernel
theorem dX5_turns_5 : decode cX5_turns 5 = .ok (.getfield 31, 3) := by decide +kernel
theorem dX5_turns_8 : decode cX5_turns 8 = .ok (.bipush 6, 2) := by decide +kernel
theorem dX5_turns_10 : decode cX5_turns 10 = .ok (.aload_n 0, 1) := by decide +kernel
theorem dX5_turns_11 : decode cX5_turns 11 = .ok (.getfield 31, 3) := by decide +kernel
theorem dX5_turns_14 : decode cX5_turns 14 = .ok (.bipush 6, 2) := by decide +kernel
theorem dX5_turns_16 : decode cX5_turns 16 = .ok (.iaload, 1) := by decide +kernel
theorem dX5_turns_17 : decode cX5_turns 17 = .ok (.iload_n 1, 1) := by decide +kernel
theorem dX5_turns_18 : decode cX5_turns 18 = .ok (.invokestatic 204, 3) := by decide +kernel
theorem dX5_turns_21 : decode cX5_turns 21 = .ok (.iastore, 1) := by decide +kernel
theorem dX5_turns_22 : decode cX5_turns 22 = .ok (.return_, 1) := by decide +kernel
theorem dX5_refuses_0 : decode cX5_refuses 0 = .ok (.aload_n 0, 1) := by decide +kernel
theorem dX5_refuses_1 : decode cX5_refuses 1 = .ok (.getfield 142, 3) := by decide +kernel
theorem dX5_refuses_4 : decode cX5_refuses 4 = .ok (.ifCond .ne 8, 3) := by decide +kernel
theorem dX5_refuses_7 : decode cX5_refuses 7 = .ok (.bipush (-4), 2) := by decide +kernel
theorem dX5_refuses_9 : decode cX5_refuses 9 = .ok (.goto 18, 3) := by decide +kernel
theorem dX5_refuses_12 : decode cX5_refuses 12 = .ok (.aload_n 0, 1) := by decide +kernel
theorem dX5_refuses_13 : decode cX5_refuses 13 = .ok (.getfield 148, 3) := by decide +kernel
theorem dX5_refuses_16 : decode cX5_refuses 16 = .ok (.bipush 40, 2) := by decide +kernel
theorem dX5_refuses_18 : decode cX5_refuses 18 = .ok (.if_icmp .ne 8, 3) := by decide +kernel
theorem dX5_refuses_21 : decode cX5_refuses 21 = .ok (.bipush (-2), 2) := by decide +kernel
theorem dX5_refuses_23 : decode cX5_refuses 23 = .ok (.goto 4, 3) := by decide +kernel
theorem dX5_refuses_26 : decode cX5_refuses 26 = .ok (.iconst 0, 1) := by decide +kernel
theorem dX5_refuses_27 : decode cX5_refuses 27 = .ok (.ireturn, 1) := by decide +kernel
theorem dX5_year_0 : decode cX5_year 0 = .ok (.aload_n 0, 1) := by decide +kernel
theorem dX5_year_1 : decode cX5_year 1 = .ok (.invokevirtual 208, 3) := by decide +kernel
theorem dX5_year_4 : decode cX5_year 4 = .ok (.istore_n 1, 1) := by decide +kernel
theorem dX5_year_5 : decode cX5_year 5 = .ok (.iload_n 1, 1) := by decide +kernel
theorem dX5_year_6 : decode cX5_year 6 = .ok (.ifCond .eq 5, 3) := by decide +kernel
theorem dX5_year_9 : decode cX5_year 9 = .ok (.iload_n 1, 1) := by decide +kernel
theorem dX5_year_10 : decode cX5_year 10 = .ok (.ireturn, 1) := by decide +kernel
theorem dX5_year_11 : decode cX5_year 11 = .ok (.aload_n 0, 1) := by decide +kernel
theorem dX5_year_12 : decode cX5_year 12 = .ok (.invokevirtual 212, 3) := by decide +kernel
theorem dX5_year_15 : decode cX5_year 15 = .ok (.aload_n 0, 1) := by decide +kernel
theorem dX5_year_16 : decode cX5_year 16 = .ok (.getfield 31, 3) := by decide +kernel
theorem dX5_year_19 : decode cX5_year 19 = .ok (.bipush 7, 2) := by decide +kernel
theorem dX5_year_21 : decode cX5_year 21 = .ok (.iaload, 1) := by decide +kernel
theorem dX5_year_22 : decode cX5_year 22 = .ok (.ireturn, 1) := by decide +kernel
theorem dX5_paddle_0 : decode cX5_paddle 0 = .ok (.iload_n 1, 1) := by decide +kernel
theorem dX5_paddle_1 : decode cX5_paddle 1 = .ok (.i2l, 1) := by decide +kernel
theorem dX5_paddle_2 : decode cX5_paddle 2 = .ok (.lconst 0, 1) := by decide +kernel
theorem dX5_paddle_3 : decode cX5_paddle 3 = .ok (.lconst 1, 1) := by decide +kernel
theorem dX5_paddle_4 : decode cX5_paddle 4 = .ok (.invokestatic 84, 3) := by decide +kernel
theorem dX5_paddle_7 : decode cX5_paddle 7 = .ok (.ifCond .ne 5, 3) := by decide +kernel
theorem dX5_paddle_10 : decode cX5_paddle 10 = .ok (.iconst (-1), 1) := by decide +kernel
theorem dX5_paddle_11 : decode cX5_paddle 11 = .ok (.ireturn, 1) := by decide +kernel
theorem dX5_paddle_12 : decode cX5_paddle 12 = .ok (.aload_n 0, 1) := by decide +kernel
theorem dX5_paddle_13 : decode cX5_paddle 13 = .ok (.invokevirtual 208, 3) := by decide +kernel
theorem dX5_paddle_16 : decode cX5_paddle 16 = .ok (.istore_n 2, 1) := by decide +kernel
theorem dX5_paddle_17 : decode cX5_paddle 17 = .ok (.iload_n 2, 1) := by decide +kernel
theorem dX5_paddle_18 : decode cX5_paddle 18 = .ok (.ifCond .eq 5, 3) := by decide +kernel
theorem dX5_paddle_21 : decode cX5_paddle 21 = .ok (.iload_n 2, 1) := by decide +kernel
theorem dX5_paddle_22 : decode cX5_paddle 22 = .ok (.ireturn, 1) := by decide +kernel
theorem dX5_paddle_23 : decode cX5_paddle 23 = .ok (.aload_n 0, 1) := by decide +kernel
theorem dX5_paddle_24 : decode cX5_paddle 24 = .ok (.iload_n 1, 1) := by decide +kernel
theorem dX5_paddle_25 : decode cX5_paddle 25 = .ok (.iconst 1, 1) := by decide +kernel
theorem dX5_paddle_26 : decode cX5_paddle 26 = .ok (.if_icmp .ne 7, 3) := by decide +kernel
theorem dX5_paddle_29 : decode cX5_paddle 29 = .ok (.iconst 1, 1) := by decide +kernel
theorem dX5_paddle_30 : decode cX5_paddle 30 = .ok (.goto 4, 3) := by decide +kernel
theorem dX5_paddle_33 : decode cX5_paddle 33 = .ok (.iconst 0, 1) := by decide +kernel
theorem dX5_paddle_34 : decode cX5_paddle 34 = .ok (.invokevirtual 215, 3) := by decide +kernel
theorem dX5_paddle_37 : decode cX5_paddle 37 = .ok (.aload_n 0, 1) := by decide +kernel
theorem dX5_paddle_38 : decode cX5_paddle 38 = .ok (.getfield 31, 3) := by decide +kernel
theorem dX5_paddle_41 : decode cX5_paddle 41 = .ok (.bipush 6, 2) := by decide +kernel
theorem dX5_paddle_43 : decode cX5_paddle 43 = .ok (.iaload, 1) := by decide +kernel
theorem dX5_paddle_44 : decode cX5_paddle 44 = .ok (.ireturn, 1) := by decide +kernel
theorem dX5_mayMove_0 : decode cX5_mayMove 0 = .ok (.aload_n 0, 1) := by decide +kernel
theorem dX5_mayMove_1 : decode cX5_mayMove 1 = .ok (.iload_n 1, 1) := by decide +kernel
theorem dX5_mayMove_2 : decode cX5_mayMove 2 = .ok (.invokevirtual 179, 3) := by decide +kernel
theorem dX5_mayMove_5 : decode cX5_mayMove 5 = .ok (.ifCond .ne 23, 3) := by decide +kernel
theorem dX5_mayMove_8 : decode cX5_mayMove 8 = .ok (.aload_n 0, 1) := by decide +kernel
theorem dX5_mayMove_9 : decode cX5_mayMove 9 = .ok (.getfield 31, 3) := by decide +kernel
theorem dX5_mayMove_12 : decode cX5_mayMove 12 = .ok (.iconst 0, 1) := by decide +kernel
theorem dX5_mayMove_13 : decode cX5_mayMove 13 = .ok (.iload_n 1, 1) := by decide +kernel
theorem dX5_mayMove_14 : decode cX5_mayMove 14 = .ok (.iadd, 1) := by decide +kernel
theorem dX5_mayMove_15 : decode cX5_mayMove 15 = .ok (.iaload, 1) := by decide +kernel
theorem dX5_mayMove_16 : decode cX5_mayMove 16 = .ok (.iload_n 2, 1) := by decide +kernel
theorem dX5_mayMove_17 : decode cX5_mayMove 17 = .ok (.iadd, 1) := by decide +kernel
theorem dX5_mayMove_18 : decode cX5_mayMove 18 = .ok (.invokestatic 191, 3) := by decide +kernel
theorem dX5_mayMove_21 : decode cX5_mayMove 21 = .ok (.ifCond .eq 7, 3) := by decide +kernel
theorem dX5_mayMove_24 : decode cX5_mayMove 24 = .ok (.iconst 1, 1) := by decide +kernel
theorem dX5_mayMove_25 : decode cX5_mayMove 25 = .ok (.goto 4, 3) := by decide +kernel
theorem dX5_mayMove_28 : decode cX5_mayMove 28 = .ok (.iconst 0, 1) := by decide +kernel
theorem dX5_mayMove_29 : decode cX5_mayMove 29 = .ok (.ireturn, 1) := by decide +kernel
theorem dX5_goes_0 : decode cX5_goes 0 = .ok (.aload_n 0, 1) := by decide +kernel
theorem dX5_goes_1 : decode cX5_goes 1 = .ok (.invokevirtual 198, 3) := by decide +kernel
theorem dX5_goes_4 : decode cX5_goes 4 = .ok (.aload_n 0, 1) := by decide +kernel
theorem dX5_goes_5 : decode cX5_goes 5 = .ok (.getfield 31, 3) := by decide +kernel
theorem dX5_goes_8 : decode cX5_goes 8 = .ok (.iconst 0, 1) := by decide +kernel
theorem dX5_goes_9 : decode cX5_goes 9 = .ok (.iload_n 1, 1) := by decide +kernel
theorem dX5_goes_10 : decode cX5_goes 10 = .ok (.iadd, 1) := by decide +kernel
theorem dX5_goes_11 : decode cX5_goes 11 = .ok (.dup2, 1) := by decide +kernel
theorem dX5_goes_12 : decode cX5_goes 12 = .ok (.iaload, 1) := by decide +kernel
theorem dX5_goes_13 : decode cX5_goes 13 = .ok (.iload_n 2, 1) := by decide +kernel
theorem dX5_goes_14 : decode cX5_goes 14 = .ok (.iadd, 1) := by decide +kernel
theorem dX5_goes_15 : decode cX5_goes 15 = .ok (.iastore, 1) := by decide +kernel
theorem dX5_goes_16 : decode cX5_goes 16 = .ok (.return_, 1) := by decide +kernel
theorem dX5_move_0 : decode cX5_move 0 = .ok (.aload_n 0, 1) := by decide +kernel
theorem dX5_move_1 : decode cX5_move 1 = .ok (.iload_n 1, 1) := by decide +kernel
theorem dX5_move_2 : decode cX5_move 2 = .ok (.invokevirtual 167, 3) := by decide +kernel
theorem dX5_move_5 : decode cX5_move 5 = .ok (.ifCond .eq 13, 3) := by decide +kernel
theorem dX5_move_8 : decode cX5_move 8 = .ok (.iload_n 2, 1) := by decide +kernel
theorem dX5_move_9 : decode cX5_move 9 = .ok (.iconst 1, 1) := by decide +kernel
theorem dX5_move_10 : decode cX5_move 10 = .ok (.if_icmp .eq 10, 3) := by decide +kernel
theorem dX5_move_13 : decode cX5_move 13 = .ok (.iload_n 2, 1) := by decide +kernel
theorem dX5_move_14 : decode cX5_move 14 = .ok (.iconst (-1), 1) := by decide +kernel
theorem dX5_move_15 : decode cX5_move 15 = .ok (.if_icmp .eq 5, 3) := by decide +kernel
theorem dX5_move_18 : decode cX5_move 18 = .ok (.iconst (-1), 1) := by decide +kernel
theorem dX5_move_19 : decode cX5_move 19 = .ok (.ireturn, 1) := by decide +kernel
theorem dX5_move_20 : decode cX5_move 20 = .ok (.aload_n 0, 1) := by decide +kernel
theorem dX5_move_21 : decode cX5_move 21 = .ok (.iload_n 1, 1) := by decide +kernel
theorem dX5_move_22 : decode cX5_move 22 = .ok (.iload_n 2, 1) := by decide +kernel
theorem dX5_move_23 : decode cX5_move 23 = .ok (.invokevirtual 219, 3) := by decide +kernel
theorem dX5_move_26 : decode cX5_move 26 = .ok (.ifCond .ne 6, 3) := by decide +kernel
theorem dX5_move_29 : decode cX5_move 29 = .ok (.bipush (-4), 2) := by decide +kernel
theorem dX5_move_31 : decode cX5_move 31 = .ok (.ireturn, 1) := by decide +kernel
theorem dX5_move_32 : decode cX5_move 32 = .ok (.aload_n 0, 1) := by decide +kernel
theorem dX5_move_33 : decode cX5_move 33 = .ok (.getfield 148, 3) := by decide +kernel
theorem dX5_move_36 : decode cX5_move 36 = .ok (.bipush 40, 2) := by decide +kernel
theorem dX5_move_38 : decode cX5_move 38 = .ok (.if_icmp .ne 6, 3) := by decide +kernel
theorem dX5_move_41 : decode cX5_move 41 = .ok (.bipush (-2), 2) := by decide +kernel
theorem dX5_move_43 : decode cX5_move 43 = .ok (.ireturn, 1) := by decide +kernel
theorem dX5_move_44 : decode cX5_move 44 = .ok (.aload_n 0, 1) := by decide +kernel
theorem dX5_move_45 : decode cX5_move 45 = .ok (.iload_n 1, 1) := by decide +kernel
theorem dX5_move_46 : decode cX5_move 46 = .ok (.iload_n 2, 1) := by decide +kernel
theorem dX5_move_47 : decode cX5_move 47 = .ok (.invokevirtual 222, 3) := by decide +kernel
theorem dX5_move_50 : decode cX5_move 50 = .ok (.aload_n 0, 1) := by decide +kernel
theorem dX5_move_51 : decode cX5_move 51 = .ok (.getfield 31, 3) := by decide +kernel
theorem dX5_move_54 : decode cX5_move 54 = .ok (.iconst 0, 1) := by decide +kernel
theorem dX5_move_55 : decode cX5_move 55 = .ok (.iload_n 1, 1) := by decide +kernel
theorem dX5_move_56 : decode cX5_move 56 = .ok (.iadd, 1) := by decide +kernel
theorem dX5_move_57 : decode cX5_move 57 = .ok (.iaload, 1) := by decide +kernel
theorem dX5_move_58 : decode cX5_move 58 = .ok (.ireturn, 1) := by decide +kernel
theorem dX5_mayTake_0 : decode cX5_mayTake 0 = .ok (.aload_n 0, 1) := by decide +kernel
theorem dX5_mayTake_1 : decode cX5_mayTake 1 = .ok (.iload_n 1, 1) := by decide +kernel
theorem dX5_mayTake_2 : decode cX5_mayTake 2 = .ok (.invokevirtual 179, 3) := by decide +kernel
theorem dX5_mayTake_5 : decode cX5_mayTake 5 = .ok (.ifCond .ne 17, 3) := by decide +kernel
theorem dX5_mayTake_8 : decode cX5_mayTake 8 = .ok (.aload_n 0, 1) := by decide +kernel
theorem dX5_mayTake_9 : decode cX5_mayTake 9 = .ok (.getfield 31, 3) := by decide +kernel
theorem dX5_mayTake_12 : decode cX5_mayTake 12 = .ok (.bipush 6, 2) := by decide +kernel
theorem dX5_mayTake_14 : decode cX5_mayTake 14 = .ok (.iaload, 1) := by decide +kernel
theorem dX5_mayTake_15 : decode cX5_mayTake 15 = .ok (.ifCond .ne 7, 3) := by decide +kernel
theorem dX5_mayTake_18 : decode cX5_mayTake 18 = .ok (.iconst 1, 1) := by decide +kernel
theorem dX5_mayTake_19 : decode cX5_mayTake 19 = .ok (.goto 4, 3) := by decide +kernel
theorem dX5_mayTake_22 : decode cX5_mayTake 22 = .ok (.iconst 0, 1) := by decide +kernel
theorem dX5_mayTake_23 : decode cX5_mayTake 23 = .ok (.ireturn, 1) := by decide +kernel
theorem dX5_takesHome_0 : decode cX5_takesHome 0 = .ok (.aload_n 0, 1) := by decide +kernel
theorem dX5_takesHome_1 : decode cX5_takesHome 1 = .ok (.invokevirtual 198, 3) := by decide +kernel
theorem dX5_takesHome_4 : decode cX5_takesHome 4 = .ok (.aload_n 0, 1) := by decide +kernel
theorem dX5_takesHome_5 : decode cX5_takesHome 5 = .ok (.getfield 31, 3) := by decide +kernel
theorem dX5_takesHome_8 : decode cX5_takesHome 8 = .ok (.iconst 0, 1) := by decide +kernel
theorem dX5_takesHome_9 : decode cX5_takesHome 9 = .ok (.iload_n 1, 1) := by decide +kernel
theorem dX5_takesHome_10 : decode cX5_takesHome 10 = .ok (.iadd, 1) := by decide +kernel
theorem dX5_takesHome_11 : decode cX5_takesHome 11 = .ok (.bipush (-9), 2) := by decide +kernel
theorem dX5_takesHome_13 : decode cX5_takesHome 13 = .ok (.iastore, 1) := by decide +kernel
theorem dX5_takesHome_14 : decode cX5_takesHome 14 = .ok (.return_, 1) := by decide +kernel
theorem dX5_take_0 : decode cX5_take 0 = .ok (.aload_n 0, 1) := by decide +kernel
theorem dX5_take_1 : decode cX5_take 1 = .ok (.iload_n 1, 1) := by decide +kernel
theorem dX5_take_2 : decode cX5_take 2 = .ok (.invokevirtual 167, 3) := by decide +kernel
theorem dX5_take_5 : decode cX5_take 5 = .ok (.ifCond .ne 5, 3) := by decide +kernel
theorem dX5_take_8 : decode cX5_take 8 = .ok (.iconst (-1), 1) := by decide +kernel
theorem dX5_take_9 : decode cX5_take 9 = .ok (.ireturn, 1) := by decide +kernel
theorem dX5_take_10 : decode cX5_take 10 = .ok (.aload_n 0, 1) := by decide +kernel
theorem dX5_take_11 : decode cX5_take 11 = .ok (.iload_n 1, 1) := by decide +kernel
theorem dX5_take_12 : decode cX5_take 12 = .ok (.invokevirtual 226, 3) := by decide +kernel
theorem dX5_take_15 : decode cX5_take 15 = .ok (.ifCond .ne 6, 3) := by decide +kernel
theorem dX5_take_18 : decode cX5_take 18 = .ok (.bipush (-4), 2) := by decide +kernel
theorem dX5_take_20 : decode cX5_take 20 = .ok (.ireturn, 1) := by decide +kernel
theorem dX5_take_21 : decode cX5_take 21 = .ok (.aload_n 0, 1) := by decide +kernel
theorem dX5_take_22 : decode cX5_take 22 = .ok (.getfield 148, 3) := by decide +kernel
theorem dX5_take_25 : decode cX5_take 25 = .ok (.bipush 40, 2) := by decide +kernel
theorem dX5_take_27 : decode cX5_take 27 = .ok (.if_icmp .ne 6, 3) := by decide +kernel
theorem dX5_take_30 : decode cX5_take 30 = .ok (.bipush (-2), 2) := by decide +kernel
theorem dX5_take_32 : decode cX5_take 32 = .ok (.ireturn, 1) := by decide +kernel
theorem dX5_take_33 : decode cX5_take 33 = .ok (.aload_n 0, 1) := by decide +kernel
theorem dX5_take_34 : decode cX5_take 34 = .ok (.getfield 31, 3) := by decide +kernel
theorem dX5_take_37 : decode cX5_take 37 = .ok (.iconst 0, 1) := by decide +kernel
theorem dX5_take_38 : decode cX5_take 38 = .ok (.iload_n 1, 1) := by decide +kernel
theorem dX5_take_39 : decode cX5_take 39 = .ok (.iadd, 1) := by decide +kernel
theorem dX5_take_40 : decode cX5_take 40 = .ok (.iaload, 1) := by decide +kernel
theorem dX5_take_41 : decode cX5_take 41 = .ok (.aload_n 0, 1) := by decide +kernel
theorem dX5_take_42 : decode cX5_take 42 = .ok (.getfield 28, 3) := by decide +kernel
theorem dX5_take_45 : decode cX5_take 45 = .ok (.iload_n 1, 1) := by decide +kernel
theorem dX5_take_46 : decode cX5_take 46 = .ok (.iaload, 1) := by decide +kernel
theorem dX5_take_47 : decode cX5_take 47 = .ok (.isub, 1) := by decide +kernel
theorem dX5_take_48 : decode cX5_take 48 = .ok (.invokestatic 229, 3) := by decide +kernel
theorem dX5_take_51 : decode cX5_take 51 = .ok (.istore_n 2, 1) := by decide +kernel
theorem dX5_take_52 : decode cX5_take 52 = .ok (.aload_n 0, 1) := by decide +kernel
theorem dX5_take_53 : decode cX5_take 53 = .ok (.iload_n 1, 1) := by decide +kernel
theorem dX5_take_54 : decode cX5_take 54 = .ok (.invokevirtual 232, 3) := by decide +kernel
theorem dX5_take_57 : decode cX5_take 57 = .ok (.iload_n 2, 1) := by decide +kernel
theorem dX5_take_58 : decode cX5_take 58 = .ok (.ireturn, 1) := by decide +kernel
theorem dX5_undo_0 : decode cX5_undo 0 = .ok (.iload_n 1, 1) := by decide +kernel
theorem dX5_undo_1 : decode cX5_undo 1 = .ok (.i2l, 1) := by decide +kernel
theorem dX5_undo_2 : decode cX5_undo 2 = .ok (.lconst 0, 1) := by decide +kernel
theorem dX5_undo_3 : decode cX5_undo 3 = .ok (.aload_n 0, 1) := by decide +kernel
theorem dX5_undo_4 : decode cX5_undo 4 = .ok (.getfield 148, 3) := by decide +kernel
theorem dX5_undo_7 : decode cX5_undo 7 = .ok (.i2l, 1) := by decide +kernel
theorem dX5_undo_8 : decode cX5_undo 8 = .ok (.invokestatic 84, 3) := by decide +kernel
theorem dX5_undo_11 : decode cX5_undo 11 = .ok (.ifCond .ne 5, 3) := by decide +kernel
theorem dX5_undo_14 : decode cX5_undo 14 = .ok (.iconst (-1), 1) := by decide +kernel
theorem dX5_undo_15 : decode cX5_undo 15 = .ok (.ireturn, 1) := by decide +kernel
theorem dX5_undo_16 : decode cX5_undo 16 = .ok (.aload_n 0, 1) := by decide +kernel
theorem dX5_undo_17 : decode cX5_undo 17 = .ok (.getfield 148, 3) := by decide +kernel
theorem dX5_undo_20 : decode cX5_undo 20 = .ok (.iload_n 1, 1) := by decide +kernel
theorem dX5_undo_21 : decode cX5_undo 21 = .ok (.isub, 1) := by decide +kernel
theorem dX5_undo_22 : decode cX5_undo 22 = .ok (.istore_n 2, 1) := by decide +kernel
theorem dX5_undo_23 : decode cX5_undo 23 = .ok (.iload_n 2, 1) := by decide +kernel
theorem dX5_undo_24 : decode cX5_undo 24 = .ok (.ifCond .le 21, 3) := by decide +kernel
theorem dX5_undo_27 : decode cX5_undo 27 = .ok (.aload_n 0, 1) := by decide +kernel
theorem dX5_undo_28 : decode cX5_undo 28 = .ok (.getfield 34, 3) := by decide +kernel
theorem dX5_undo_31 : decode cX5_undo 31 = .ok (.bipush 8, 2) := by decide +kernel
theorem dX5_undo_33 : decode cX5_undo 33 = .ok (.iload_n 1, 1) := by decide +kernel
theorem dX5_undo_34 : decode cX5_undo 34 = .ok (.imul, 1) := by decide +kernel
theorem dX5_undo_35 : decode cX5_undo 35 = .ok (.aload_n 0, 1) := by decide +kernel
theorem dX5_undo_36 : decode cX5_undo 36 = .ok (.getfield 31, 3) := by decide +kernel
theorem dX5_undo_39 : decode cX5_undo 39 = .ok (.iconst 0, 1) := by decide +kernel
theorem dX5_undo_40 : decode cX5_undo 40 = .ok (.bipush 8, 2) := by decide +kernel
theorem dX5_undo_42 : decode cX5_undo 42 = .ok (.invokestatic 194, 3) := by decide +kernel
theorem dX5_undo_45 : decode cX5_undo 45 = .ok (.aload_n 0, 1) := by decide +kernel
theorem dX5_undo_46 : decode cX5_undo 46 = .ok (.iload_n 1, 1) := by decide +kernel
theorem dX5_undo_47 : decode cX5_undo 47 = .ok (.putfield 148, 3) := by decide +kernel
theorem dX5_undo_50 : decode cX5_undo 50 = .ok (.iload_n 2, 1) := by decide +kernel
theorem dX5_undo_51 : decode cX5_undo 51 = .ok (.ireturn, 1) := by decide +kernel
theorem dX5_keep_0 : decode cX5_keep 0 = .ok (.iload_n 1, 1) := by decide +kernel
theorem dX5_keep_1 : decode cX5_keep 1 = .ok (.i2l, 1) := by decide +kernel
theorem dX5_keep_2 : decode cX5_keep 2 = .ok (.lconst 0, 1) := by decide +kernel
theorem dX5_keep_3 : decode cX5_keep 3 = .ok (.ldc2_w 235, 3) := by decide +kernel
theorem dX5_keep_6 : decode cX5_keep 6 = .ok (.invokestatic 84, 3) := by decide +kernel
theorem dX5_keep_9 : decode cX5_keep 9 = .ok (.ifCond .ne 5, 3) := by decide +kernel
theorem dX5_keep_12 : decode cX5_keep 12 = .ok (.iconst (-1), 1) := by decide +kernel
theorem dX5_keep_13 : decode cX5_keep 13 = .ok (.ireturn, 1) := by decide +kernel
theorem dX5_keep_14 : decode cX5_keep 14 = .ok (.aload_n 0, 1) := by decide +kernel
theorem dX5_keep_15 : decode cX5_keep 15 = .ok (.getfield 142, 3) := by decide +kernel
theorem dX5_keep_18 : decode cX5_keep 18 = .ok (.ifCond .ne 6, 3) := by decide +kernel
theorem dX5_keep_21 : decode cX5_keep 21 = .ok (.bipush (-4), 2) := by decide +kernel
theorem dX5_keep_23 : decode cX5_keep 23 = .ok (.ireturn, 1) := by decide +kernel
theorem dX5_keep_24 : decode cX5_keep 24 = .ok (.aload_n 0, 1) := by decide +kernel
theorem dX5_keep_25 : decode cX5_keep 25 = .ok (.getfield 31, 3) := by decide +kernel
theorem dX5_keep_28 : decode cX5_keep 28 = .ok (.iconst 0, 1) := by decide +kernel
theorem dX5_keep_29 : decode cX5_keep 29 = .ok (.aload_n 0, 1) := by decide +kernel
theorem dX5_keep_30 : decode cX5_keep 30 = .ok (.getfield 37, 3) := by decide +kernel
theorem dX5_keep_33 : decode cX5_keep 33 = .ok (.sipush 329, 3) := by decide +kernel
theorem dX5_keep_36 : decode cX5_keep 36 = .ok (.iload_n 1, 1) := by decide +kernel
theorem dX5_keep_37 : decode cX5_keep 37 = .ok (.imul, 1) := by decide +kernel
theorem dX5_keep_38 : decode cX5_keep 38 = .ok (.bipush 8, 2) := by decide +kernel
theorem dX5_keep_40 : decode cX5_keep 40 = .ok (.invokestatic 194, 3) := by decide +kernel
theorem dX5_keep_43 : decode cX5_keep 43 = .ok (.aload_n 0, 1) := by decide +kernel
theorem dX5_keep_44 : decode cX5_keep 44 = .ok (.getfield 34, 3) := by decide +kernel
theorem dX5_keep_47 : decode cX5_keep 47 = .ok (.iconst 0, 1) := by decide +kernel
theorem dX5_keep_48 : decode cX5_keep 48 = .ok (.aload_n 0, 1) := by decide +kernel
theorem dX5_keep_49 : decode cX5_keep 49 = .ok (.getfield 37, 3) := by decide +kernel
theorem dX5_keep_52 : decode cX5_keep 52 = .ok (.sipush 329, 3) := by decide +kernel
theorem dX5_keep_55 : decode cX5_keep 55 = .ok (.iload_n 1, 1) := by decide +kernel
theorem dX5_keep_56 : decode cX5_keep 56 = .ok (.imul, 1) := by decide +kernel
theorem dX5_keep_57 : decode cX5_keep 57 = .ok (.bipush 8, 2) := by decide +kernel
theorem dX5_keep_59 : decode cX5_keep 59 = .ok (.iadd, 1) := by decide +kernel
theorem dX5_keep_60 : decode cX5_keep 60 = .ok (.sipush 320, 3) := by decide +kernel
theorem dX5_keep_63 : decode cX5_keep 63 = .ok (.invokestatic 194, 3) := by decide +kernel
theorem dX5_keep_66 : decode cX5_keep 66 = .ok (.aload_n 0, 1) := by decide +kernel
theorem dX5_keep_67 : decode cX5_keep 67 = .ok (.getfield 37, 3) := by decide +kernel
theorem dX5_keep_70 : decode cX5_keep 70 = .ok (.sipush 329, 3) := by decide +kernel
theorem dX5_keep_73 : decode cX5_keep 73 = .ok (.iload_n 1, 1) := by decide +kernel
theorem dX5_keep_74 : decode cX5_keep 74 = .ok (.imul, 1) := by decide +kernel
theorem dX5_keep_75 : decode cX5_keep 75 = .ok (.sipush 328, 3) := by decide +kernel
theorem dX5_keep_78 : decode cX5_keep 78 = .ok (.iadd, 1) := by decide +kernel
theorem dX5_keep_79 : decode cX5_keep 79 = .ok (.aload_n 0, 1) := by decide +kernel
theorem dX5_keep_80 : decode cX5_keep 80 = .ok (.getfield 148, 3) := by decide +kernel
theorem dX5_keep_83 : decode cX5_keep 83 = .ok (.iastore, 1) := by decide +kernel
theorem dX5_keep_84 : decode cX5_keep 84 = .ok (.aload_n 0, 1) := by decide +kernel
theorem dX5_keep_85 : decode cX5_keep 85 = .ok (.getfield 40, 3) := by decide +kernel
theorem dX5_keep_88 : decode cX5_keep 88 = .ok (.iload_n 1, 1) := by decide +kernel
theorem dX5_keep_89 : decode cX5_keep 89 = .ok (.iconst 1, 1) := by decide +kernel
theorem dX5_keep_90 : decode cX5_keep 90 = .ok (.bastore, 1) := by decide +kernel
theorem dX5_keep_91 : decode cX5_keep 91 = .ok (.aload_n 0, 1) := by decide +kernel
theorem dX5_keep_92 : decode cX5_keep 92 = .ok (.getfield 148, 3) := by decide +kernel
theorem dX5_keep_95 : decode cX5_keep 95 = .ok (.ireturn, 1) := by decide +kernel
theorem dX5_on_0 : decode cX5_on 0 = .ok (.iload_n 1, 1) := by decide +kernel
theorem dX5_on_1 : decode cX5_on 1 = .ok (.i2l, 1) := by decide +kernel
theorem dX5_on_2 : decode cX5_on 2 = .ok (.lconst 0, 1) := by decide +kernel
theorem dX5_on_3 : decode cX5_on 3 = .ok (.ldc2_w 235, 3) := by decide +kernel
theorem dX5_on_6 : decode cX5_on 6 = .ok (.invokestatic 84, 3) := by decide +kernel
theorem dX5_on_9 : decode cX5_on 9 = .ok (.ifCond .ne 5, 3) := by decide +kernel
theorem dX5_on_12 : decode cX5_on 12 = .ok (.iconst (-1), 1) := by decide +kernel
theorem dX5_on_13 : decode cX5_on 13 = .ok (.ireturn, 1) := by decide +kernel
theorem dX5_on_14 : decode cX5_on 14 = .ok (.aload_n 0, 1) := by decide +kernel
theorem dX5_on_15 : decode cX5_on 15 = .ok (.getfield 40, 3) := by decide +kernel
theorem dX5_on_18 : decode cX5_on 18 = .ok (.iload_n 1, 1) := by decide +kernel
theorem dX5_on_19 : decode cX5_on 19 = .ok (.baload, 1) := by decide +kernel
theorem dX5_on_20 : decode cX5_on 20 = .ok (.ifCond .ne 9, 3) := by decide +kernel
theorem dX5_on_23 : decode cX5_on 23 = .ok (.aload_n 0, 1) := by decide +kernel
theorem dX5_on_24 : decode cX5_on 24 = .ok (.iconst 1, 1) := by decide +kernel
theorem dX5_on_25 : decode cX5_on 25 = .ok (.invokevirtual 94, 3) := by decide +kernel
theorem dX5_on_28 : decode cX5_on 28 = .ok (.ireturn, 1) := by decide +kernel
theorem dX5_on_29 : decode cX5_on 29 = .ok (.aload_n 0, 1) := by decide +kernel
theorem dX5_on_30 : decode cX5_on 30 = .ok (.getfield 37, 3) := by decide +kernel
theorem dX5_on_33 : decode cX5_on 33 = .ok (.sipush 329, 3) := by decide +kernel
theorem dX5_on_36 : decode cX5_on 36 = .ok (.iload_n 1, 1) := by decide +kernel
theorem dX5_on_37 : decode cX5_on 37 = .ok (.imul, 1) := by decide +kernel
theorem dX5_on_38 : decode cX5_on 38 = .ok (.aload_n 0, 1) := by decide +kernel
theorem dX5_on_39 : decode cX5_on 39 = .ok (.getfield 31, 3) := by decide +kernel
theorem dX5_on_42 : decode cX5_on 42 = .ok (.iconst 0, 1) := by decide +kernel
theorem dX5_on_43 : decode cX5_on 43 = .ok (.bipush 8, 2) := by decide +kernel
theorem dX5_on_45 : decode cX5_on 45 = .ok (.invokestatic 194, 3) := by decide +kernel
theorem dX5_on_48 : decode cX5_on 48 = .ok (.aload_n 0, 1) := by decide +kernel
theorem dX5_on_49 : decode cX5_on 49 = .ok (.getfield 37, 3) := by decide +kernel
theorem dX5_on_52 : decode cX5_on 52 = .ok (.sipush 329, 3) := by decide +kernel
theorem dX5_on_55 : decode cX5_on 55 = .ok (.iload_n 1, 1) := by decide +kernel
theorem dX5_on_56 : decode cX5_on 56 = .ok (.imul, 1) := by decide +kernel
theorem dX5_on_57 : decode cX5_on 57 = .ok (.bipush 8, 2) := by decide +kernel
theorem dX5_on_59 : decode cX5_on 59 = .ok (.iadd, 1) := by decide +kernel
theorem dX5_on_60 : decode cX5_on 60 = .ok (.aload_n 0, 1) := by decide +kernel
theorem dX5_on_61 : decode cX5_on 61 = .ok (.getfield 34, 3) := by decide +kernel
theorem dX5_on_64 : decode cX5_on 64 = .ok (.iconst 0, 1) := by decide +kernel
theorem dX5_on_65 : decode cX5_on 65 = .ok (.sipush 320, 3) := by decide +kernel
theorem dX5_on_68 : decode cX5_on 68 = .ok (.invokestatic 194, 3) := by decide +kernel
theorem dX5_on_71 : decode cX5_on 71 = .ok (.aload_n 0, 1) := by decide +kernel
theorem dX5_on_72 : decode cX5_on 72 = .ok (.aload_n 0, 1) := by decide +kernel
theorem dX5_on_73 : decode cX5_on 73 = .ok (.getfield 37, 3) := by decide +kernel
theorem dX5_on_76 : decode cX5_on 76 = .ok (.sipush 329, 3) := by decide +kernel
theorem dX5_on_79 : decode cX5_on 79 = .ok (.iload_n 1, 1) := by decide +kernel
theorem dX5_on_80 : decode cX5_on 80 = .ok (.imul, 1) := by decide +kernel
theorem dX5_on_81 : decode cX5_on 81 = .ok (.sipush 328, 3) := by decide +kernel
theorem dX5_on_84 : decode cX5_on 84 = .ok (.iadd, 1) := by decide +kernel
theorem dX5_on_85 : decode cX5_on 85 = .ok (.iaload, 1) := by decide +kernel
theorem dX5_on_86 : decode cX5_on 86 = .ok (.putfield 148, 3) := by decide +kernel
theorem dX5_on_89 : decode cX5_on 89 = .ok (.aload_n 0, 1) := by decide +kernel
theorem dX5_on_90 : decode cX5_on 90 = .ok (.getfield 148, 3) := by decide +kernel
theorem dX5_on_93 : decode cX5_on 93 = .ok (.ireturn, 1) := by decide +kernel
theorem dX5_lies_0 : decode cX5_lies 0 = .ok (.aload_n 0, 1) := by decide +kernel
theorem dX5_lies_1 : decode cX5_lies 1 = .ok (.iload_n 1, 1) := by decide +kernel
theorem dX5_lies_2 : decode cX5_lies 2 = .ok (.invokevirtual 167, 3) := by decide +kernel
theorem dX5_lies_5 : decode cX5_lies 5 = .ok (.ifCond .eq 15, 3) := by decide +kernel
theorem dX5_lies_8 : decode cX5_lies 8 = .ok (.iload_n 2, 1) := by decide +kernel
theorem dX5_lies_9 : decode cX5_lies 9 = .ok (.i2l, 1) := by decide +kernel
theorem dX5_lies_10 : decode cX5_lies 10 = .ok (.lconst 0, 1) := by decide +kernel
theorem dX5_lies_11 : decode cX5_lies 11 = .ok (.ldc2_w 237, 3) := by decide +kernel
theorem dX5_lies_14 : decode cX5_lies 14 = .ok (.invokestatic 84, 3) := by decide +kernel
theorem dX5_lies_17 : decode cX5_lies 17 = .ok (.ifCond .ne 5, 3) := by decide +kernel
theorem dX5_lies_20 : decode cX5_lies 20 = .ok (.iconst (-1), 1) := by decide +kernel
theorem dX5_lies_21 : decode cX5_lies 21 = .ok (.ireturn, 1) := by decide +kernel
theorem dX5_lies_22 : decode cX5_lies 22 = .ok (.aload_n 0, 1) := by decide +kernel
theorem dX5_lies_23 : decode cX5_lies 23 = .ok (.iload_n 1, 1) := by decide +kernel
theorem dX5_lies_24 : decode cX5_lies 24 = .ok (.invokevirtual 179, 3) := by decide +kernel
theorem dX5_lies_27 : decode cX5_lies 27 = .ok (.ifCond .eq 8, 3) := by decide +kernel
theorem dX5_lies_30 : decode cX5_lies 30 = .ok (.bipush (-4), 2) := by decide +kernel
theorem dX5_lies_32 : decode cX5_lies 32 = .ok (.goto 17, 3) := by decide +kernel
theorem dX5_lies_35 : decode cX5_lies 35 = .ok (.aload_n 0, 1) := by decide +kernel
theorem dX5_lies_36 : decode cX5_lies 36 = .ok (.iload_n 1, 1) := by decide +kernel
theorem dX5_lies_37 : decode cX5_lies 37 = .ok (.aload_n 0, 1) := by decide +kernel
theorem dX5_lies_38 : decode cX5_lies 38 = .ok (.getfield 31, 3) := by decide +kernel
theorem dX5_lies_41 : decode cX5_lies 41 = .ok (.iconst 0, 1) := by decide +kernel
theorem dX5_lies_42 : decode cX5_lies 42 = .ok (.iload_n 1, 1) := by decide +kernel
theorem dX5_lies_43 : decode cX5_lies 43 = .ok (.iadd, 1) := by decide +kernel
theorem dX5_lies_44 : decode cX5_lies 44 = .ok (.iaload, 1) := by decide +kernel
theorem dX5_lies_45 : decode cX5_lies 45 = .ok (.iload_n 2, 1) := by decide +kernel
theorem dX5_lies_46 : decode cX5_lies 46 = .ok (.invokevirtual 201, 3) := by decide +kernel
theorem dX5_lies_49 : decode cX5_lies 49 = .ok (.ireturn, 1) := by decide +kernel
theorem dX5_three_0 : decode cX5_three 0 = .ok (.aload_n 0, 1) := by decide +kernel
theorem dX5_three_1 : decode cX5_three 1 = .ok (.getfield 142, 3) := by decide +kernel
theorem dX5_three_4 : decode cX5_three 4 = .ok (.ifCond .ne 6, 3) := by decide +kernel
theorem dX5_three_7 : decode cX5_three 7 = .ok (.bipush (-4), 2) := by decide +kernel
theorem dX5_three_9 : decode cX5_three 9 = .ok (.ireturn, 1) := by decide +kernel
theorem dX5_three_10 : decode cX5_three 10 = .ok (.iconst 0, 1) := by decide +kernel
theorem dX5_three_11 : decode cX5_three 11 = .ok (.istore_n 1, 1) := by decide +kernel
theorem dX5_three_12 : decode cX5_three 12 = .ok (.iload_n 1, 1) := by decide +kernel
theorem dX5_three_13 : decode cX5_three 13 = .ok (.bipush 61, 2) := by decide +kernel
theorem dX5_three_15 : decode cX5_three 15 = .ok (.if_icmp .ge 92, 3) := by decide +kernel
theorem dX5_three_18 : decode cX5_three 18 = .ok (.iconst 0, 1) := by decide +kernel
theorem dX5_three_19 : decode cX5_three 19 = .ok (.istore_n 2, 1) := by decide +kernel
theorem dX5_three_20 : decode cX5_three 20 = .ok (.iload_n 2, 1) := by decide +kernel
theorem dX5_three_21 : decode cX5_three 21 = .ok (.bipush 8, 2) := by decide +kernel
theorem dX5_three_23 : decode cX5_three 23 = .ok (.if_icmp .ge 78, 3) := by decide +kernel
theorem dX5_three_26 : decode cX5_three 26 = .ok (.iconst 0, 1) := by decide +kernel
theorem dX5_three_27 : decode cX5_three 27 = .ok (.istore_n 3, 1) := by decide +kernel
theorem dX5_three_28 : decode cX5_three 28 = .ok (.iconst 0, 1) := by decide +kernel
theorem dX5_three_29 : decode cX5_three 29 = .ok (.istore 4, 2) := by decide +kernel
theorem dX5_three_31 : decode cX5_three 31 = .ok (.iload 4, 2) := by decide +kernel
theorem dX5_three_33 : decode cX5_three 33 = .ok (.aload_n 0, 1) := by decide +kernel
theorem dX5_three_34 : decode cX5_three 34 = .ok (.getfield 142, 3) := by decide +kernel
theorem dX5_three_37 : decode cX5_three 37 = .ok (.if_icmp .ge 46, 3) := by decide +kernel
theorem dX5_three_40 : decode cX5_three 40 = .ok (.iload_n 3, 1) := by decide +kernel
theorem dX5_three_41 : decode cX5_three 41 = .ok (.aload_n 0, 1) := by decide +kernel
theorem dX5_three_42 : decode cX5_three 42 = .ok (.iload 4, 2) := by decide +kernel
theorem dX5_three_44 : decode cX5_three 44 = .ok (.invokevirtual 179, 3) := by decide +kernel
theorem dX5_three_47 : decode cX5_three 47 = .ok (.ifCond .ne 27, 3) := by decide +kernel
theorem dX5_three_50 : decode cX5_three 50 = .ok (.aload_n 0, 1) := by decide +kernel
theorem dX5_three_51 : decode cX5_three 51 = .ok (.iload 4, 2) := by decide +kernel
theorem dX5_three_53 : decode cX5_three 53 = .ok (.aload_n 0, 1) := by decide +kernel
theorem dX5_three_54 : decode cX5_three 54 = .ok (.getfield 31, 3) := by decide +kernel
theorem dX5_three_57 : decode cX5_three 57 = .ok (.iconst 0, 1) := by decide +kernel
theorem dX5_three_58 : decode cX5_three 58 = .ok (.iload 4, 2) := by decide +kernel
theorem dX5_three_60 : decode cX5_three 60 = .ok (.iadd, 1) := by decide +kernel
theorem dX5_three_61 : decode cX5_three 61 = .ok (.iaload, 1) := by decide +kernel
theorem dX5_three_62 : decode cX5_three 62 = .ok (.iload_n 1, 1) := by decide +kernel
theorem dX5_three_63 : decode cX5_three 63 = .ok (.invokevirtual 201, 3) := by decide +kernel
theorem dX5_three_66 : decode cX5_three 66 = .ok (.iload_n 2, 1) := by decide +kernel
theorem dX5_three_67 : decode cX5_three 67 = .ok (.if_icmp .ne 7, 3) := by decide +kernel
theorem dX5_three_70 : decode cX5_three 70 = .ok (.iconst 1, 1) := by decide +kernel
theorem dX5_three_71 : decode cX5_three 71 = .ok (.goto 4, 3) := by decide +kernel
theorem dX5_three_74 : decode cX5_three 74 = .ok (.iconst 0, 1) := by decide +kernel
theorem dX5_three_75 : decode cX5_three 75 = .ok (.iadd, 1) := by decide +kernel
theorem dX5_three_76 : decode cX5_three 76 = .ok (.istore_n 3, 1) := by decide +kernel
theorem dX5_three_77 : decode cX5_three 77 = .ok (.iinc 4 1, 3) := by decide +kernel
theorem dX5_three_80 : decode cX5_three 80 = .ok (.goto (-49), 3) := by decide +kernel
theorem dX5_three_83 : decode cX5_three 83 = .ok (.iload_n 3, 1) := by decide +kernel
theorem dX5_three_84 : decode cX5_three 84 = .ok (.iconst 2, 1) := by decide +kernel
theorem dX5_three_85 : decode cX5_three 85 = .ok (.if_icmp .le 10, 3) := by decide +kernel
theorem dX5_three_88 : decode cX5_three 88 = .ok (.aload_n 0, 1) := by decide +kernel
theorem dX5_three_89 : decode cX5_three 89 = .ok (.iload_n 1, 1) := by decide +kernel
theorem dX5_three_90 : decode cX5_three 90 = .ok (.iload_n 2, 1) := by decide +kernel
theorem dX5_three_91 : decode cX5_three 91 = .ok (.invokevirtual 239, 3) := by decide +kernel
theorem dX5_three_94 : decode cX5_three 94 = .ok (.ireturn, 1) := by decide +kernel
theorem dX5_three_95 : decode cX5_three 95 = .ok (.iinc 2 1, 3) := by decide +kernel
theorem dX5_three_98 : decode cX5_three 98 = .ok (.goto (-78), 3) := by decide +kernel
theorem dX5_three_101 : decode cX5_three 101 = .ok (.iinc 1 1, 3) := by decide +kernel
theorem dX5_three_104 : decode cX5_three 104 = .ok (.goto (-92), 3) := by decide +kernel
theorem dX5_three_107 : decode cX5_three 107 = .ok (.bipush (-9), 2) := by decide +kernel
theorem dX5_three_109 : decode cX5_three 109 = .ok (.ireturn, 1) := by decide +kernel
theorem dX5_movesOf_0 : decode cX5_movesOf 0 = .ok (.ldc 242, 2) := by decide +kernel
theorem dX5_movesOf_2 : decode cX5_movesOf 2 = .ok (.istore 4, 2) := by decide +kernel
theorem dX5_movesOf_4 : decode cX5_movesOf 4 = .ok (.iconst 0, 1) := by decide +kernel
theorem dX5_movesOf_5 : decode cX5_movesOf 5 = .ok (.istore 5, 2) := by decide +kernel
theorem dX5_movesOf_7 : decode cX5_movesOf 7 = .ok (.iload 5, 2) := by decide +kernel
theorem dX5_movesOf_9 : decode cX5_movesOf 9 = .ok (.bipush 8, 2) := by decide +kernel
theorem dX5_movesOf_11 : decode cX5_movesOf 11 = .ok (.if_icmp .ge 53, 3) := by decide +kernel
theorem dX5_movesOf_14 : decode cX5_movesOf 14 = .ok (.iload 5, 2) := by decide +kernel
theorem dX5_movesOf_16 : decode cX5_movesOf 16 = .ok (.aload_n 0, 1) := by decide +kernel
theorem dX5_movesOf_17 : decode cX5_movesOf 17 = .ok (.getfield 31, 3) := by decide +kernel
theorem dX5_movesOf_20 : decode cX5_movesOf 20 = .ok (.iconst 0, 1) := by decide +kernel
theorem dX5_movesOf_21 : decode cX5_movesOf 21 = .ok (.iload_n 1, 1) := by decide +kernel
theorem dX5_movesOf_22 : decode cX5_movesOf 22 = .ok (.iadd, 1) := by decide +kernel
theorem dX5_movesOf_23 : decode cX5_movesOf 23 = .ok (.iaload, 1) := by decide +kernel
theorem dX5_movesOf_24 : decode cX5_movesOf 24 = .ok (.isub, 1) := by decide +kernel
theorem dX5_movesOf_25 : decode cX5_movesOf 25 = .ok (.invokestatic 229, 3) := by decide +kernel
theorem dX5_movesOf_28 : decode cX5_movesOf 28 = .ok (.istore 6, 2) := by decide +kernel
theorem dX5_movesOf_30 : decode cX5_movesOf 30 = .ok (.iload 6, 2) := by decide +kernel
theorem dX5_movesOf_32 : decode cX5_movesOf 32 = .ok (.iload 4, 2) := by decide +kernel
theorem dX5_movesOf_34 : decode cX5_movesOf 34 = .ok (.if_icmp .ge 20, 3) := by decide +kernel
theorem dX5_movesOf_37 : decode cX5_movesOf 37 = .ok (.aload_n 0, 1) := by decide +kernel
theorem dX5_movesOf_38 : decode cX5_movesOf 38 = .ok (.iload_n 1, 1) := by decide +kernel
theorem dX5_movesOf_39 : decode cX5_movesOf 39 = .ok (.iload 5, 2) := by decide +kernel
theorem dX5_movesOf_41 : decode cX5_movesOf 41 = .ok (.iload_n 3, 1) := by decide +kernel
theorem dX5_movesOf_42 : decode cX5_movesOf 42 = .ok (.invokevirtual 201, 3) := by decide +kernel
theorem dX5_movesOf_45 : decode cX5_movesOf 45 = .ok (.iload_n 2, 1) := by decide +kernel
theorem dX5_movesOf_46 : decode cX5_movesOf 46 = .ok (.if_icmp .ne 8, 3) := by decide +kernel
theorem dX5_movesOf_49 : decode cX5_movesOf 49 = .ok (.iload 6, 2) := by decide +kernel
theorem dX5_movesOf_51 : decode cX5_movesOf 51 = .ok (.goto 5, 3) := by decide +kernel
theorem dX5_movesOf_54 : decode cX5_movesOf 54 = .ok (.iload 4, 2) := by decide +kernel
theorem dX5_movesOf_56 : decode cX5_movesOf 56 = .ok (.istore 4, 2) := by decide +kernel
theorem dX5_movesOf_58 : decode cX5_movesOf 58 = .ok (.iinc 5 1, 3) := by decide +kernel
theorem dX5_movesOf_61 : decode cX5_movesOf 61 = .ok (.goto (-54), 3) := by decide +kernel
theorem dX5_movesOf_64 : decode cX5_movesOf 64 = .ok (.iload 4, 2) := by decide +kernel
theorem dX5_movesOf_66 : decode cX5_movesOf 66 = .ok (.ireturn, 1) := by decide +kernel
theorem dX5_moves_0 : decode cX5_moves 0 = .ok (.aload_n 0, 1) := by decide +kernel
theorem dX5_moves_1 : decode cX5_moves 1 = .ok (.iload_n 1, 1) := by decide +kernel
theorem dX5_moves_2 : decode cX5_moves 2 = .ok (.invokevirtual 167, 3) := by decide +kernel
theorem dX5_moves_5 : decode cX5_moves 5 = .ok (.ifCond .eq 22, 3) := by decide +kernel
theorem dX5_moves_8 : decode cX5_moves 8 = .ok (.iload_n 2, 1) := by decide +kernel
theorem dX5_moves_9 : decode cX5_moves 9 = .ok (.invokestatic 191, 3) := by decide +kernel
theorem dX5_moves_12 : decode cX5_moves 12 = .ok (.ifCond .eq 15, 3) := by decide +kernel
theorem dX5_moves_15 : decode cX5_moves 15 = .ok (.iload_n 3, 1) := by decide +kernel
theorem dX5_moves_16 : decode cX5_moves 16 = .ok (.i2l, 1) := by decide +kernel
theorem dX5_moves_17 : decode cX5_moves 17 = .ok (.lconst 0, 1) := by decide +kernel
theorem dX5_moves_18 : decode cX5_moves 18 = .ok (.ldc2_w 243, 3) := by decide +kernel
theorem dX5_moves_21 : decode cX5_moves 21 = .ok (.invokestatic 84, 3) := by decide +kernel
theorem dX5_moves_24 : decode cX5_moves 24 = .ok (.ifCond .ne 5, 3) := by decide +kernel
theorem dX5_moves_27 : decode cX5_moves 27 = .ok (.iconst (-1), 1) := by decide +kernel
theorem dX5_moves_28 : decode cX5_moves 28 = .ok (.ireturn, 1) := by decide +kernel
theorem dX5_moves_29 : decode cX5_moves 29 = .ok (.aload_n 0, 1) := by decide +kernel
theorem dX5_moves_30 : decode cX5_moves 30 = .ok (.iload_n 1, 1) := by decide +kernel
theorem dX5_moves_31 : decode cX5_moves 31 = .ok (.invokevirtual 179, 3) := by decide +kernel
theorem dX5_moves_34 : decode cX5_moves 34 = .ok (.ifCond .eq 6, 3) := by decide +kernel
theorem dX5_moves_37 : decode cX5_moves 37 = .ok (.bipush (-4), 2) := by decide +kernel
theorem dX5_moves_39 : decode cX5_moves 39 = .ok (.ireturn, 1) := by decide +kernel
theorem dX5_moves_40 : decode cX5_moves 40 = .ok (.aload_n 0, 1) := by decide +kernel
theorem dX5_moves_41 : decode cX5_moves 41 = .ok (.iload_n 1, 1) := by decide +kernel
theorem dX5_moves_42 : decode cX5_moves 42 = .ok (.iload_n 2, 1) := by decide +kernel
theorem dX5_moves_43 : decode cX5_moves 43 = .ok (.iload_n 3, 1) := by decide +kernel
theorem dX5_moves_44 : decode cX5_moves 44 = .ok (.invokevirtual 245, 3) := by decide +kernel
theorem dX5_moves_47 : decode cX5_moves 47 = .ok (.istore 4, 2) := by decide +kernel
theorem dX5_moves_49 : decode cX5_moves 49 = .ok (.iload 4, 2) := by decide +kernel
theorem dX5_moves_51 : decode cX5_moves 51 = .ok (.ldc 242, 2) := by decide +kernel
theorem dX5_moves_53 : decode cX5_moves 53 = .ok (.if_icmp .ne 8, 3) := by decide +kernel
theorem dX5_moves_56 : decode cX5_moves 56 = .ok (.bipush (-9), 2) := by decide +kernel
theorem dX5_moves_58 : decode cX5_moves 58 = .ok (.goto 5, 3) := by decide +kernel
theorem dX5_moves_61 : decode cX5_moves 61 = .ok (.iload 4, 2) := by decide +kernel
theorem dX5_moves_63 : decode cX5_moves 63 = .ok (.ireturn, 1) := by decide +kernel
theorem dX5_owned_0 : decode cX5_owned 0 = .ok (.iload_n 1, 1) := by decide +kernel
theorem dX5_owned_1 : decode cX5_owned 1 = .ok (.i2l, 1) := by decide +kernel
theorem dX5_owned_2 : decode cX5_owned 2 = .ok (.lconst 0, 1) := by decide +kernel
theorem dX5_owned_3 : decode cX5_owned 3 = .ok (.ldc2_w 243, 3) := by decide +kernel
theorem dX5_owned_6 : decode cX5_owned 6 = .ok (.invokestatic 84, 3) := by decide +kernel
theorem dX5_owned_9 : decode cX5_owned 9 = .ok (.ifCond .ne 5, 3) := by decide +kernel
theorem dX5_owned_12 : decode cX5_owned 12 = .ok (.iconst (-1), 1) := by decide +kernel
theorem dX5_owned_13 : decode cX5_owned 13 = .ok (.ireturn, 1) := by decide +kernel
theorem dX5_owned_14 : decode cX5_owned 14 = .ok (.aload_n 0, 1) := by decide +kernel
theorem dX5_owned_15 : decode cX5_owned 15 = .ok (.getfield 142, 3) := by decide +kernel
theorem dX5_owned_18 : decode cX5_owned 18 = .ok (.ifCond .ne 6, 3) := by decide +kernel
theorem dX5_owned_21 : decode cX5_owned 21 = .ok (.bipush (-4), 2) := by decide +kernel
theorem dX5_owned_23 : decode cX5_owned 23 = .ok (.ireturn, 1) := by decide +kernel
theorem dX5_owned_24 : decode cX5_owned 24 = .ok (.iconst 0, 1) := by decide +kernel
theorem dX5_owned_25 : decode cX5_owned 25 = .ok (.istore_n 2, 1) := by decide +kernel
theorem dX5_owned_26 : decode cX5_owned 26 = .ok (.iconst 0, 1) := by decide +kernel
theorem dX5_owned_27 : decode cX5_owned 27 = .ok (.istore_n 3, 1) := by decide +kernel
theorem dX5_owned_28 : decode cX5_owned 28 = .ok (.iload_n 3, 1) := by decide +kernel
theorem dX5_owned_29 : decode cX5_owned 29 = .ok (.aload_n 0, 1) := by decide +kernel
theorem dX5_owned_30 : decode cX5_owned 30 = .ok (.getfield 142, 3) := by decide +kernel
theorem dX5_owned_33 : decode cX5_owned 33 = .ok (.if_icmp .ge 36, 3) := by decide +kernel
theorem dX5_owned_36 : decode cX5_owned 36 = .ok (.iload_n 2, 1) := by decide +kernel
theorem dX5_owned_37 : decode cX5_owned 37 = .ok (.aload_n 0, 1) := by decide +kernel
theorem dX5_owned_38 : decode cX5_owned 38 = .ok (.iload_n 3, 1) := by decide +kernel
theorem dX5_owned_39 : decode cX5_owned 39 = .ok (.invokevirtual 179, 3) := by decide +kernel
theorem dX5_owned_42 : decode cX5_owned 42 = .ok (.ifCond .eq 7, 3) := by decide +kernel
theorem dX5_owned_45 : decode cX5_owned 45 = .ok (.iconst 0, 1) := by decide +kernel
theorem dX5_owned_46 : decode cX5_owned 46 = .ok (.goto 15, 3) := by decide +kernel
theorem dX5_owned_49 : decode cX5_owned 49 = .ok (.aload_n 0, 1) := by decide +kernel
theorem dX5_owned_50 : decode cX5_owned 50 = .ok (.iload_n 3, 1) := by decide +kernel
theorem dX5_owned_51 : decode cX5_owned 51 = .ok (.aload_n 0, 1) := by decide +kernel
theorem dX5_owned_52 : decode cX5_owned 52 = .ok (.getfield 28, 3) := by decide +kernel
theorem dX5_owned_55 : decode cX5_owned 55 = .ok (.iload_n 3, 1) := by decide +kernel
theorem dX5_owned_56 : decode cX5_owned 56 = .ok (.iaload, 1) := by decide +kernel
theorem dX5_owned_57 : decode cX5_owned 57 = .ok (.iload_n 1, 1) := by decide +kernel
theorem dX5_owned_58 : decode cX5_owned 58 = .ok (.invokevirtual 245, 3) := by decide +kernel
theorem dX5_owned_61 : decode cX5_owned 61 = .ok (.iadd, 1) := by decide +kernel
theorem dX5_owned_62 : decode cX5_owned 62 = .ok (.istore_n 2, 1) := by decide +kernel
theorem dX5_owned_63 : decode cX5_owned 63 = .ok (.iinc 3 1, 3) := by decide +kernel
theorem dX5_owned_66 : decode cX5_owned 66 = .ok (.goto (-38), 3) := by decide +kernel
theorem dX5_owned_69 : decode cX5_owned 69 = .ok (.iload_n 2, 1) := by decide +kernel
theorem dX5_owned_70 : decode cX5_owned 70 = .ok (.ldc 242, 2) := by decide +kernel
theorem dX5_owned_72 : decode cX5_owned 72 = .ok (.if_icmp .lt 8, 3) := by decide +kernel
theorem dX5_owned_75 : decode cX5_owned 75 = .ok (.bipush (-9), 2) := by decide +kernel
theorem dX5_owned_77 : decode cX5_owned 77 = .ok (.goto 4, 3) := by decide +kernel
theorem dX5_owned_80 : decode cX5_owned 80 = .ok (.iload_n 2, 1) := by decide +kernel
theorem dX5_owned_81 : decode cX5_owned 81 = .ok (.ireturn, 1) := by decide +kernel
theorem dX5_thrown_0 : decode cX5_thrown 0 = .ok (.aload_n 0, 1) := by decide +kernel
theorem dX5_thrown_1 : decode cX5_thrown 1 = .ok (.iload_n 1, 1) := by decide +kernel
theorem dX5_thrown_2 : decode cX5_thrown 2 = .ok (.invokevirtual 167, 3) := by decide +kernel
theorem dX5_thrown_5 : decode cX5_thrown 5 = .ok (.ifCond .eq 22, 3) := by decide +kernel
theorem dX5_thrown_8 : decode cX5_thrown 8 = .ok (.iload_n 2, 1) := by decide +kernel
theorem dX5_thrown_9 : decode cX5_thrown 9 = .ok (.invokestatic 191, 3) := by decide +kernel
theorem dX5_thrown_12 : decode cX5_thrown 12 = .ok (.ifCond .eq 15, 3) := by decide +kernel
theorem dX5_thrown_15 : decode cX5_thrown 15 = .ok (.iload_n 3, 1) := by decide +kernel
theorem dX5_thrown_16 : decode cX5_thrown 16 = .ok (.i2l, 1) := by decide +kernel
theorem dX5_thrown_17 : decode cX5_thrown 17 = .ok (.lconst 0, 1) := by decide +kernel
theorem dX5_thrown_18 : decode cX5_thrown 18 = .ok (.ldc2_w 243, 3) := by decide +kernel
theorem dX5_thrown_21 : decode cX5_thrown 21 = .ok (.invokestatic 84, 3) := by decide +kernel
theorem dX5_thrown_24 : decode cX5_thrown 24 = .ok (.ifCond .ne 5, 3) := by decide +kernel
theorem dX5_thrown_27 : decode cX5_thrown 27 = .ok (.iconst (-1), 1) := by decide +kernel
theorem dX5_thrown_28 : decode cX5_thrown 28 = .ok (.ireturn, 1) := by decide +kernel
theorem dX5_thrown_29 : decode cX5_thrown 29 = .ok (.iconst 0, 1) := by decide +kernel
theorem dX5_thrown_30 : decode cX5_thrown 30 = .ok (.istore 4, 2) := by decide +kernel
theorem dX5_thrown_32 : decode cX5_thrown 32 = .ok (.iconst 0, 1) := by decide +kernel
theorem dX5_thrown_33 : decode cX5_thrown 33 = .ok (.istore 5, 2) := by decide +kernel
theorem dX5_thrown_35 : decode cX5_thrown 35 = .ok (.iload 5, 2) := by decide +kernel
theorem dX5_thrown_37 : decode cX5_thrown 37 = .ok (.bipush 8, 2) := by decide +kernel
theorem dX5_thrown_39 : decode cX5_thrown 39 = .ok (.if_icmp .ge 34, 3) := by decide +kernel
theorem dX5_thrown_42 : decode cX5_thrown 42 = .ok (.iload 4, 2) := by decide +kernel
theorem dX5_thrown_44 : decode cX5_thrown 44 = .ok (.aload_n 0, 1) := by decide +kernel
theorem dX5_thrown_45 : decode cX5_thrown 45 = .ok (.iload_n 1, 1) := by decide +kernel
theorem dX5_thrown_46 : decode cX5_thrown 46 = .ok (.iload 5, 2) := by decide +kernel
theorem dX5_thrown_48 : decode cX5_thrown 48 = .ok (.iload_n 3, 1) := by decide +kernel
theorem dX5_thrown_49 : decode cX5_thrown 49 = .ok (.invokevirtual 201, 3) := by decide +kernel
theorem dX5_thrown_52 : decode cX5_thrown 52 = .ok (.iload_n 2, 1) := by decide +kernel
theorem dX5_thrown_53 : decode cX5_thrown 53 = .ok (.if_icmp .ne 10, 3) := by decide +kernel
theorem dX5_thrown_56 : decode cX5_thrown 56 = .ok (.iconst 1, 1) := by decide +kernel
theorem dX5_thrown_57 : decode cX5_thrown 57 = .ok (.iload 5, 2) := by decide +kernel
theorem dX5_thrown_59 : decode cX5_thrown 59 = .ok (.ishl, 1) := by decide +kernel
theorem dX5_thrown_60 : decode cX5_thrown 60 = .ok (.goto 4, 3) := by decide +kernel
theorem dX5_thrown_63 : decode cX5_thrown 63 = .ok (.iconst 0, 1) := by decide +kernel
theorem dX5_thrown_64 : decode cX5_thrown 64 = .ok (.ior, 1) := by decide +kernel
theorem dX5_thrown_65 : decode cX5_thrown 65 = .ok (.istore 4, 2) := by decide +kernel
theorem dX5_thrown_67 : decode cX5_thrown 67 = .ok (.iinc 5 1, 3) := by decide +kernel
theorem dX5_thrown_70 : decode cX5_thrown 70 = .ok (.goto (-35), 3) := by decide +kernel
theorem dX5_thrown_73 : decode cX5_thrown 73 = .ok (.iload 4, 2) := by decide +kernel
theorem dX5_thrown_75 : decode cX5_thrown 75 = .ok (.ireturn, 1) := by decide +kernel
theorem dX5_firstOrder_0 : decode cX5_firstOrder 0 = .ok (.aload_n 0, 1) := by decide +kernel
theorem dX5_firstOrder_1 : decode cX5_firstOrder 1 = .ok (.iconst 0, 1) := by decide +kernel
theorem dX5_firstOrder_2 : decode cX5_firstOrder 2 = .ok (.putfield 248, 3) := by decide +kernel
theorem dX5_firstOrder_5 : decode cX5_firstOrder 5 = .ok (.iconst 0, 1) := by decide +kernel
theorem dX5_firstOrder_6 : decode cX5_firstOrder 6 = .ok (.istore_n 1, 1) := by decide +kernel
theorem dX5_firstOrder_7 : decode cX5_firstOrder 7 = .ok (.iload_n 1, 1) := by decide +kernel
theorem dX5_firstOrder_8 : decode cX5_firstOrder 8 = .ok (.aload_n 0, 1) := by decide +kernel
theorem dX5_firstOrder_9 : decode cX5_firstOrder 9 = .ok (.getfield 142, 3) := by decide +kernel
theorem dX5_firstOrder_12 : decode cX5_firstOrder 12 = .ok (.if_icmp .ge 47, 3) := by decide +kernel
theorem dX5_firstOrder_15 : decode cX5_firstOrder 15 = .ok (.aload_n 0, 1) := by decide +kernel
theorem dX5_firstOrder_16 : decode cX5_firstOrder 16 = .ok (.iload_n 1, 1) := by decide +kernel
theorem dX5_firstOrder_17 : decode cX5_firstOrder 17 = .ok (.invokevirtual 179, 3) := by decide +kernel
theorem dX5_firstOrder_20 : decode cX5_firstOrder 20 = .ok (.ifCond .ne 33, 3) := by decide +kernel
theorem dX5_firstOrder_23 : decode cX5_firstOrder 23 = .ok (.aload_n 0, 1) := by decide +kernel
theorem dX5_firstOrder_24 : decode cX5_firstOrder 24 = .ok (.getfield 54, 3) := by decide +kernel
theorem dX5_firstOrder_27 : decode cX5_firstOrder 27 = .ok (.aload_n 0, 1) := by decide +kernel
theorem dX5_firstOrder_28 : decode cX5_firstOrder 28 = .ok (.getfield 248, 3) := by decide +kernel
theorem dX5_firstOrder_31 : decode cX5_firstOrder 31 = .ok (.iload_n 1, 1) := by decide +kernel
theorem dX5_firstOrder_32 : decode cX5_firstOrder 32 = .ok (.iastore, 1) := by decide +kernel
theorem dX5_firstOrder_33 : decode cX5_firstOrder 33 = .ok (.aload_n 0, 1) := by decide +kernel
theorem dX5_firstOrder_34 : decode cX5_firstOrder 34 = .ok (.getfield 57, 3) := by decide +kernel
theorem dX5_firstOrder_37 : decode cX5_firstOrder 37 = .ok (.aload_n 0, 1) := by decide +kernel
theorem dX5_firstOrder_38 : decode cX5_firstOrder 38 = .ok (.getfield 248, 3) := by decide +kernel
theorem dX5_firstOrder_41 : decode cX5_firstOrder 41 = .ok (.iload_n 1, 1) := by decide +kernel
theorem dX5_firstOrder_42 : decode cX5_firstOrder 42 = .ok (.iastore, 1) := by decide +kernel
theorem dX5_firstOrder_43 : decode cX5_firstOrder 43 = .ok (.aload_n 0, 1) := by decide +kernel
theorem dX5_firstOrder_44 : decode cX5_firstOrder 44 = .ok (.dup, 1) := by decide +kernel
theorem dX5_firstOrder_45 : decode cX5_firstOrder 45 = .ok (.getfield 248, 3) := by decide +kernel
theorem dX5_firstOrder_48 : decode cX5_firstOrder 48 = .ok (.iconst 1, 1) := by decide +kernel
theorem dX5_firstOrder_49 : decode cX5_firstOrder 49 = .ok (.iadd, 1) := by decide +kernel
theorem dX5_firstOrder_50 : decode cX5_firstOrder 50 = .ok (.putfield 248, 3) := by decide +kernel
theorem dX5_firstOrder_53 : decode cX5_firstOrder 53 = .ok (.iinc 1 1, 3) := by decide +kernel
theorem dX5_firstOrder_56 : decode cX5_firstOrder 56 = .ok (.goto (-49), 3) := by decide +kernel
theorem dX5_firstOrder_59 : decode cX5_firstOrder 59 = .ok (.return_, 1) := by decide +kernel
theorem dX5_exchanges_0 : decode cX5_exchanges 0 = .ok (.aload_n 0, 1) := by decide +kernel
theorem dX5_exchanges_1 : decode cX5_exchanges 1 = .ok (.getfield 57, 3) := by decide +kernel
theorem dX5_exchanges_4 : decode cX5_exchanges 4 = .ok (.iload_n 1, 1) := by decide +kernel
theorem dX5_exchanges_5 : decode cX5_exchanges 5 = .ok (.iaload, 1) := by decide +kernel
theorem dX5_exchanges_6 : decode cX5_exchanges 6 = .ok (.istore_n 3, 1) := by decide +kernel
theorem dX5_exchanges_7 : decode cX5_exchanges 7 = .ok (.aload_n 0, 1) := by decide +kernel
theorem dX5_exchanges_8 : decode cX5_exchanges 8 = .ok (.getfield 57, 3) := by decide +kernel
theorem dX5_exchanges_11 : decode cX5_exchanges 11 = .ok (.iload_n 1, 1) := by decide +kernel
theorem dX5_exchanges_12 : decode cX5_exchanges 12 = .ok (.aload_n 0, 1) := by decide +kernel
theorem dX5_exchanges_13 : decode cX5_exchanges 13 = .ok (.getfield 57, 3) := by decide +kernel
theorem dX5_exchanges_16 : decode cX5_exchanges 16 = .ok (.iload_n 2, 1) := by decide +kernel
theorem dX5_exchanges_17 : decode cX5_exchanges 17 = .ok (.iaload, 1) := by decide +kernel
theorem dX5_exchanges_18 : decode cX5_exchanges 18 = .ok (.iastore, 1) := by decide +kernel
theorem dX5_exchanges_19 : decode cX5_exchanges 19 = .ok (.aload_n 0, 1) := by decide +kernel
theorem dX5_exchanges_20 : decode cX5_exchanges 20 = .ok (.getfield 57, 3) := by decide +kernel
theorem dX5_exchanges_23 : decode cX5_exchanges 23 = .ok (.iload_n 2, 1) := by decide +kernel
theorem dX5_exchanges_24 : decode cX5_exchanges 24 = .ok (.iload_n 3, 1) := by decide +kernel
theorem dX5_exchanges_25 : decode cX5_exchanges 25 = .ok (.iastore, 1) := by decide +kernel
theorem dX5_exchanges_26 : decode cX5_exchanges 26 = .ok (.return_, 1) := by decide +kernel
theorem dX5_nextOrder_0 : decode cX5_nextOrder 0 = .ok (.aload_n 0, 1) := by decide +kernel
theorem dX5_nextOrder_1 : decode cX5_nextOrder 1 = .ok (.getfield 248, 3) := by decide +kernel
theorem dX5_nextOrder_4 : decode cX5_nextOrder 4 = .ok (.iconst 2, 1) := by decide +kernel
theorem dX5_nextOrder_5 : decode cX5_nextOrder 5 = .ok (.isub, 1) := by decide +kernel
theorem dX5_nextOrder_6 : decode cX5_nextOrder 6 = .ok (.istore_n 1, 1) := by decide +kernel
theorem dX5_nextOrder_7 : decode cX5_nextOrder 7 = .ok (.iload_n 1, 1) := by decide +kernel
theorem dX5_nextOrder_8 : decode cX5_nextOrder 8 = .ok (.ifCond .lt 26, 3) := by decide +kernel
theorem dX5_nextOrder_11 : decode cX5_nextOrder 11 = .ok (.aload_n 0, 1) := by decide +kernel
theorem dX5_nextOrder_12 : decode cX5_nextOrder 12 = .ok (.getfield 57, 3) := by decide +kernel
theorem dX5_nextOrder_15 : decode cX5_nextOrder 15 = .ok (.iload_n 1, 1) := by decide +kernel
theorem dX5_nextOrder_16 : decode cX5_nextOrder 16 = .ok (.iaload, 1) := by decide +kernel
theorem dX5_nextOrder_17 : decode cX5_nextOrder 17 = .ok (.aload_n 0, 1) := by decide +kernel
theorem dX5_nextOrder_18 : decode cX5_nextOrder 18 = .ok (.getfield 57, 3) := by decide +kernel
theorem dX5_nextOrder_21 : decode cX5_nextOrder 21 = .ok (.iload_n 1, 1) := by decide +kernel
theorem dX5_nextOrder_22 : decode cX5_nextOrder 22 = .ok (.iconst 1, 1) := by decide +kernel
theorem dX5_nextOrder_23 : decode cX5_nextOrder 23 = .ok (.iadd, 1) := by decide +kernel
theorem dX5_nextOrder_24 : decode cX5_nextOrder 24 = .ok (.iaload, 1) := by decide +kernel
theorem dX5_nextOrder_25 : decode cX5_nextOrder 25 = .ok (.if_icmp .le 9, 3) := by decide +kernel
theorem dX5_nextOrder_28 : decode cX5_nextOrder 28 = .ok (.iinc 1 (-1), 3) := by decide +kernel
theorem dX5_nextOrder_31 : decode cX5_nextOrder 31 = .ok (.goto (-24), 3) := by decide +kernel
theorem dX5_nextOrder_34 : decode cX5_nextOrder 34 = .ok (.iload_n 1, 1) := by decide +kernel
theorem dX5_nextOrder_35 : decode cX5_nextOrder 35 = .ok (.ifCond .ge 5, 3) := by decide +kernel
theorem dX5_nextOrder_38 : decode cX5_nextOrder 38 = .ok (.iconst 0, 1) := by decide +kernel
theorem dX5_nextOrder_39 : decode cX5_nextOrder 39 = .ok (.ireturn, 1) := by decide +kernel
theorem dX5_nextOrder_40 : decode cX5_nextOrder 40 = .ok (.aload_n 0, 1) := by decide +kernel
theorem dX5_nextOrder_41 : decode cX5_nextOrder 41 = .ok (.getfield 248, 3) := by decide +kernel
theorem dX5_nextOrder_44 : decode cX5_nextOrder 44 = .ok (.iconst 1, 1) := by decide +kernel
theorem dX5_nextOrder_45 : decode cX5_nextOrder 45 = .ok (.isub, 1) := by decide +kernel
theorem dX5_nextOrder_46 : decode cX5_nextOrder 46 = .ok (.istore_n 2, 1) := by decide +kernel
theorem dX5_nextOrder_47 : decode cX5_nextOrder 47 = .ok (.aload_n 0, 1) := by decide +kernel
theorem dX5_nextOrder_48 : decode cX5_nextOrder 48 = .ok (.getfield 57, 3) := by decide +kernel
theorem dX5_nextOrder_51 : decode cX5_nextOrder 51 = .ok (.iload_n 2, 1) := by decide +kernel
theorem dX5_nextOrder_52 : decode cX5_nextOrder 52 = .ok (.iaload, 1) := by decide +kernel
theorem dX5_nextOrder_53 : decode cX5_nextOrder 53 = .ok (.aload_n 0, 1) := by decide +kernel
theorem dX5_nextOrder_54 : decode cX5_nextOrder 54 = .ok (.getfield 57, 3) := by decide +kernel
theorem dX5_nextOrder_57 : decode cX5_nextOrder 57 = .ok (.iload_n 1, 1) := by decide +kernel
theorem dX5_nextOrder_58 : decode cX5_nextOrder 58 = .ok (.iaload, 1) := by decide +kernel
theorem dX5_nextOrder_59 : decode cX5_nextOrder 59 = .ok (.if_icmp .ge 9, 3) := by decide +kernel
theorem dX5_nextOrder_62 : decode cX5_nextOrder 62 = .ok (.iinc 2 (-1), 3) := by decide +kernel
theorem dX5_nextOrder_65 : decode cX5_nextOrder 65 = .ok (.goto (-18), 3) := by decide +kernel
theorem dX5_nextOrder_68 : decode cX5_nextOrder 68 = .ok (.aload_n 0, 1) := by decide +kernel
theorem dX5_nextOrder_69 : decode cX5_nextOrder 69 = .ok (.iload_n 1, 1) := by decide +kernel
theorem dX5_nextOrder_70 : decode cX5_nextOrder 70 = .ok (.iload_n 2, 1) := by decide +kernel
theorem dX5_nextOrder_71 : decode cX5_nextOrder 71 = .ok (.invokevirtual 251, 3) := by decide +kernel
theorem dX5_nextOrder_74 : decode cX5_nextOrder 74 = .ok (.iload_n 1, 1) := by decide +kernel
theorem dX5_nextOrder_75 : decode cX5_nextOrder 75 = .ok (.iconst 1, 1) := by decide +kernel
theorem dX5_nextOrder_76 : decode cX5_nextOrder 76 = .ok (.iadd, 1) := by decide +kernel
theorem dX5_nextOrder_77 : decode cX5_nextOrder 77 = .ok (.istore_n 3, 1) := by decide +kernel
theorem dX5_nextOrder_78 : decode cX5_nextOrder 78 = .ok (.aload_n 0, 1) := by decide +kernel
theorem dX5_nextOrder_79 : decode cX5_nextOrder 79 = .ok (.getfield 248, 3) := by decide +kernel
theorem dX5_nextOrder_82 : decode cX5_nextOrder 82 = .ok (.iconst 1, 1) := by decide +kernel
theorem dX5_nextOrder_83 : decode cX5_nextOrder 83 = .ok (.isub, 1) := by decide +kernel
theorem dX5_nextOrder_84 : decode cX5_nextOrder 84 = .ok (.istore 4, 2) := by decide +kernel
theorem dX5_nextOrder_86 : decode cX5_nextOrder 86 = .ok (.iload_n 3, 1) := by decide +kernel
theorem dX5_nextOrder_87 : decode cX5_nextOrder 87 = .ok (.iload 4, 2) := by decide +kernel
theorem dX5_nextOrder_89 : decode cX5_nextOrder 89 = .ok (.if_icmp .ge 19, 3) := by decide +kernel
theorem dX5_nextOrder_92 : decode cX5_nextOrder 92 = .ok (.aload_n 0, 1) := by decide +kernel
theorem dX5_nextOrder_93 : decode cX5_nextOrder 93 = .ok (.iload_n 3, 1) := by decide +kernel
theorem dX5_nextOrder_94 : decode cX5_nextOrder 94 = .ok (.iload 4, 2) := by decide +kernel
theorem dX5_nextOrder_96 : decode cX5_nextOrder 96 = .ok (.invokevirtual 251, 3) := by decide +kernel
theorem dX5_nextOrder_99 : decode cX5_nextOrder 99 = .ok (.iinc 3 1, 3) := by decide +kernel
theorem dX5_nextOrder_102 : decode cX5_nextOrder 102 = .ok (.iinc 4 (-1), 3) := by decide +kernel
theorem dX5_nextOrder_105 : decode cX5_nextOrder 105 = .ok (.goto (-19), 3) := by decide +kernel
theorem dX5_nextOrder_108 : decode cX5_nextOrder 108 = .ok (.iconst 1, 1) := by decide +kernel
theorem dX5_nextOrder_109 : decode cX5_nextOrder 109 = .ok (.ireturn, 1) := by decide +kernel
theorem dX5_stand_0 : decode cX5_stand 0 = .ok (.iload_n 1, 1) := by decide +kernel
theorem dX5_stand_1 : decode cX5_stand 1 = .ok (.invokestatic 90, 3) := by decide +kernel
theorem dX5_stand_4 : decode cX5_stand 4 = .ok (.ifCond .ne 5, 3) := by decide +kernel
theorem dX5_stand_7 : decode cX5_stand 7 = .ok (.iconst (-1), 1) := by decide +kernel
theorem dX5_stand_8 : decode cX5_stand 8 = .ok (.ireturn, 1) := by decide +kernel
theorem dX5_stand_9 : decode cX5_stand 9 = .ok (.aload_n 0, 1) := by decide +kernel
theorem dX5_stand_10 : decode cX5_stand 10 = .ok (.getfield 142, 3) := by decide +kernel
theorem dX5_stand_13 : decode cX5_stand 13 = .ok (.ifCond .ne 6, 3) := by decide +kernel
theorem dX5_stand_16 : decode cX5_stand 16 = .ok (.bipush (-4), 2) := by decide +kernel
theorem dX5_stand_18 : decode cX5_stand 18 = .ok (.ireturn, 1) := by decide +kernel
theorem dX5_stand_19 : decode cX5_stand 19 = .ok (.ldc 242, 2) := by decide +kernel
theorem dX5_stand_21 : decode cX5_stand 21 = .ok (.istore_n 2, 1) := by decide +kernel
theorem dX5_stand_22 : decode cX5_stand 22 = .ok (.aload_n 0, 1) := by decide +kernel
theorem dX5_stand_23 : decode cX5_stand 23 = .ok (.invokevirtual 254, 3) := by decide +kernel
theorem dX5_stand_26 : decode cX5_stand 26 = .ok (.iconst 1, 1) := by decide +kernel
theorem dX5_stand_27 : decode cX5_stand 27 = .ok (.istore_n 3, 1) := by decide +kernel
theorem dX5_stand_28 : decode cX5_stand 28 = .ok (.iload_n 3, 1) := by decide +kernel
theorem dX5_stand_29 : decode cX5_stand 29 = .ok (.ifCond .eq 91, 3) := by decide +kernel
theorem dX5_stand_32 : decode cX5_stand 32 = .ok (.iconst 0, 1) := by decide +kernel
theorem dX5_stand_33 : decode cX5_stand 33 = .ok (.istore 4, 2) := by decide +kernel
theorem dX5_stand_35 : decode cX5_stand 35 = .ok (.iconst 0, 1) := by decide +kernel
theorem dX5_stand_36 : decode cX5_stand 36 = .ok (.istore 5, 2) := by decide +kernel
theorem dX5_stand_38 : decode cX5_stand 38 = .ok (.iload 5, 2) := by decide +kernel
theorem dX5_stand_40 : decode cX5_stand 40 = .ok (.aload_n 0, 1) := by decide +kernel
theorem dX5_stand_41 : decode cX5_stand 41 = .ok (.getfield 248, 3) := by decide +kernel
theorem dX5_stand_44 : decode cX5_stand 44 = .ok (.if_icmp .ge 44, 3) := by decide +kernel
theorem dX5_stand_47 : decode cX5_stand 47 = .ok (.iload 4, 2) := by decide +kernel
theorem dX5_stand_49 : decode cX5_stand 49 = .ok (.aload_n 0, 1) := by decide +kernel
theorem dX5_stand_50 : decode cX5_stand 50 = .ok (.getfield 28, 3) := by decide +kernel
theorem dX5_stand_53 : decode cX5_stand 53 = .ok (.aload_n 0, 1) := by decide +kernel
theorem dX5_stand_54 : decode cX5_stand 54 = .ok (.getfield 57, 3) := by decide +kernel
theorem dX5_stand_57 : decode cX5_stand 57 = .ok (.iload 5, 2) := by decide +kernel
theorem dX5_stand_59 : decode cX5_stand 59 = .ok (.iaload, 1) := by decide +kernel
theorem dX5_stand_60 : decode cX5_stand 60 = .ok (.iaload, 1) := by decide +kernel
theorem dX5_stand_61 : decode cX5_stand 61 = .ok (.aload_n 0, 1) := by decide +kernel
theorem dX5_stand_62 : decode cX5_stand 62 = .ok (.getfield 31, 3) := by decide +kernel
theorem dX5_stand_65 : decode cX5_stand 65 = .ok (.iconst 0, 1) := by decide +kernel
theorem dX5_stand_66 : decode cX5_stand 66 = .ok (.aload_n 0, 1) := by decide +kernel
theorem dX5_stand_67 : decode cX5_stand 67 = .ok (.getfield 54, 3) := by decide +kernel
theorem dX5_stand_70 : decode cX5_stand 70 = .ok (.iload 5, 2) := by decide +kernel
theorem dX5_stand_72 : decode cX5_stand 72 = .ok (.iaload, 1) := by decide +kernel
theorem dX5_stand_73 : decode cX5_stand 73 = .ok (.iadd, 1) := by decide +kernel
theorem dX5_stand_74 : decode cX5_stand 74 = .ok (.iaload, 1) := by decide +kernel
theorem dX5_stand_75 : decode cX5_stand 75 = .ok (.isub, 1) := by decide +kernel
theorem dX5_stand_76 : decode cX5_stand 76 = .ok (.invokestatic 229, 3) := by decide +kernel
theorem dX5_stand_79 : decode cX5_stand 79 = .ok (.iadd, 1) := by decide +kernel
theorem dX5_stand_80 : decode cX5_stand 80 = .ok (.istore 4, 2) := by decide +kernel
theorem dX5_stand_82 : decode cX5_stand 82 = .ok (.iinc 5 1, 3) := by decide +kernel
theorem dX5_stand_85 : decode cX5_stand 85 = .ok (.goto (-47), 3) := by decide +kernel
theorem dX5_stand_88 : decode cX5_stand 88 = .ok (.iload 4, 2) := by decide +kernel
theorem dX5_stand_90 : decode cX5_stand 90 = .ok (.iload_n 2, 1) := by decide +kernel
theorem dX5_stand_91 : decode cX5_stand 91 = .ok (.if_icmp .ge 21, 3) := by decide +kernel
theorem dX5_stand_94 : decode cX5_stand 94 = .ok (.iload 4, 2) := by decide +kernel
theorem dX5_stand_96 : decode cX5_stand 96 = .ok (.istore_n 2, 1) := by decide +kernel
theorem dX5_stand_97 : decode cX5_stand 97 = .ok (.aload_n 0, 1) := by decide +kernel
theorem dX5_stand_98 : decode cX5_stand 98 = .ok (.getfield 57, 3) := by decide +kernel
theorem dX5_stand_101 : decode cX5_stand 101 = .ok (.iconst 0, 1) := by decide +kernel
theorem dX5_stand_102 : decode cX5_stand 102 = .ok (.aload_n 0, 1) := by decide +kernel
theorem dX5_stand_103 : decode cX5_stand 103 = .ok (.getfield 60, 3) := by decide +kernel
theorem dX5_stand_106 : decode cX5_stand 106 = .ok (.iconst 0, 1) := by decide +kernel
theorem dX5_stand_107 : decode cX5_stand 107 = .ok (.bipush 6, 2) := by decide +kernel
theorem dX5_stand_109 : decode cX5_stand 109 = .ok (.invokestatic 194, 3) := by decide +kernel
theorem dX5_stand_112 : decode cX5_stand 112 = .ok (.aload_n 0, 1) := by decide +kernel
theorem dX5_stand_113 : decode cX5_stand 113 = .ok (.invokevirtual 257, 3) := by decide +kernel
theorem dX5_stand_116 : decode cX5_stand 116 = .ok (.istore_n 3, 1) := by decide +kernel
theorem dX5_stand_117 : decode cX5_stand 117 = .ok (.goto (-89), 3) := by decide +kernel
theorem dX5_stand_120 : decode cX5_stand 120 = .ok (.aload_n 0, 1) := by decide +kernel
theorem dX5_stand_121 : decode cX5_stand 121 = .ok (.getfield 60, 3) := by decide +kernel
theorem dX5_stand_124 : decode cX5_stand 124 = .ok (.iconst 0, 1) := by decide +kernel
theorem dX5_stand_125 : decode cX5_stand 125 = .ok (.aload_n 0, 1) := by decide +kernel
theorem dX5_stand_126 : decode cX5_stand 126 = .ok (.getfield 13, 3) := by decide +kernel
theorem dX5_stand_129 : decode cX5_stand 129 = .ok (.bipush 40, 2) := by decide +kernel
theorem dX5_stand_131 : decode cX5_stand 131 = .ok (.iload_n 1, 1) := by decide +kernel
theorem dX5_stand_132 : decode cX5_stand 132 = .ok (.imul, 1) := by decide +kernel
theorem dX5_stand_133 : decode cX5_stand 133 = .ok (.aload_n 0, 1) := by decide +kernel
theorem dX5_stand_134 : decode cX5_stand 134 = .ok (.getfield 248, 3) := by decide +kernel
theorem dX5_stand_137 : decode cX5_stand 137 = .ok (.invokestatic 194, 3) := by decide +kernel
theorem dX5_stand_140 : decode cX5_stand 140 = .ok (.aload_n 0, 1) := by decide +kernel
theorem dX5_stand_141 : decode cX5_stand 141 = .ok (.getfield 7, 3) := by decide +kernel
theorem dX5_stand_144 : decode cX5_stand 144 = .ok (.iload_n 1, 1) := by decide +kernel
theorem dX5_stand_145 : decode cX5_stand 145 = .ok (.aload_n 0, 1) := by decide +kernel
theorem dX5_stand_146 : decode cX5_stand 146 = .ok (.getfield 248, 3) := by decide +kernel
theorem dX5_stand_149 : decode cX5_stand 149 = .ok (.iastore, 1) := by decide +kernel
theorem dX5_stand_150 : decode cX5_stand 150 = .ok (.iload_n 2, 1) := by decide +kernel
theorem dX5_stand_151 : decode cX5_stand 151 = .ok (.ireturn, 1) := by decide +kernel
theorem dX5_layFar_0 : decode cX5_layFar 0 = .ok (.iconst 0, 1) := by decide +kernel
theorem dX5_layFar_1 : decode cX5_layFar 1 = .ok (.istore_n 2, 1) := by decide +kernel
theorem dX5_layFar_2 : decode cX5_layFar 2 = .ok (.iload_n 2, 1) := by decide +kernel
theorem dX5_layFar_3 : decode cX5_layFar 3 = .ok (.bipush 10, 2) := by decide +kernel
theorem dX5_layFar_5 : decode cX5_layFar 5 = .ok (.if_icmp .ge 26, 3) := by decide +kernel
theorem dX5_layFar_8 : decode cX5_layFar 8 = .ok (.aload_n 0, 1) := by decide +kernel
theorem dX5_layFar_9 : decode cX5_layFar 9 = .ok (.getfield 63, 3) := by decide +kernel
theorem dX5_layFar_12 : decode cX5_layFar 12 = .ok (.iload_n 2, 1) := by decide +kernel
theorem dX5_layFar_13 : decode cX5_layFar 13 = .ok (.iload_n 2, 1) := by decide +kernel
theorem dX5_layFar_14 : decode cX5_layFar 14 = .ok (.iload_n 1, 1) := by decide +kernel
theorem dX5_layFar_15 : decode cX5_layFar 15 = .ok (.if_icmp .ne 7, 3) := by decide +kernel
theorem dX5_layFar_18 : decode cX5_layFar 18 = .ok (.iconst 0, 1) := by decide +kernel
theorem dX5_layFar_19 : decode cX5_layFar 19 = .ok (.goto 5, 3) := by decide +kernel
theorem dX5_layFar_22 : decode cX5_layFar 22 = .ok (.ldc 242, 2) := by decide +kernel
theorem dX5_layFar_24 : decode cX5_layFar 24 = .ok (.iastore, 1) := by decide +kernel
theorem dX5_layFar_25 : decode cX5_layFar 25 = .ok (.iinc 2 1, 3) := by decide +kernel
theorem dX5_layFar_28 : decode cX5_layFar 28 = .ok (.goto (-26), 3) := by decide +kernel
theorem dX5_layFar_31 : decode cX5_layFar 31 = .ok (.iconst 0, 1) := by decide +kernel
theorem dX5_layFar_32 : decode cX5_layFar 32 = .ok (.istore_n 2, 1) := by decide +kernel
theorem dX5_layFar_33 : decode cX5_layFar 33 = .ok (.iload_n 2, 1) := by decide +kernel
theorem dX5_layFar_34 : decode cX5_layFar 34 = .ok (.bipush 10, 2) := by decide +kernel
theorem dX5_layFar_36 : decode cX5_layFar 36 = .ok (.if_icmp .ge 107, 3) := by decide +kernel
theorem dX5_layFar_39 : decode cX5_layFar 39 = .ok (.iconst 0, 1) := by decide +kernel
theorem dX5_layFar_40 : decode cX5_layFar 40 = .ok (.istore_n 3, 1) := by decide +kernel
theorem dX5_layFar_41 : decode cX5_layFar 41 = .ok (.iload_n 3, 1) := by decide +kernel
theorem dX5_layFar_42 : decode cX5_layFar 42 = .ok (.bipush 10, 2) := by decide +kernel
theorem dX5_layFar_44 : decode cX5_layFar 44 = .ok (.if_icmp .ge 93, 3) := by decide +kernel
theorem dX5_layFar_47 : decode cX5_layFar 47 = .ok (.aload_n 0, 1) := by decide +kernel
theorem dX5_layFar_48 : decode cX5_layFar 48 = .ok (.getfield 63, 3) := by decide +kernel
theorem dX5_layFar_51 : decode cX5_layFar 51 = .ok (.iload_n 3, 1) := by decide +kernel
theorem dX5_layFar_52 : decode cX5_layFar 52 = .ok (.iconst 0, 1) := by decide +kernel
theorem dX5_layFar_53 : decode cX5_layFar 53 = .ok (.invokestatic 204, 3) := by decide +kernel
theorem dX5_layFar_56 : decode cX5_layFar 56 = .ok (.iaload, 1) := by decide +kernel
theorem dX5_layFar_57 : decode cX5_layFar 57 = .ok (.iconst 1, 1) := by decide +kernel
theorem dX5_layFar_58 : decode cX5_layFar 58 = .ok (.iadd, 1) := by decide +kernel
theorem dX5_layFar_59 : decode cX5_layFar 59 = .ok (.istore 4, 2) := by decide +kernel
theorem dX5_layFar_61 : decode cX5_layFar 61 = .ok (.aload_n 0, 1) := by decide +kernel
theorem dX5_layFar_62 : decode cX5_layFar 62 = .ok (.getfield 63, 3) := by decide +kernel
theorem dX5_layFar_65 : decode cX5_layFar 65 = .ok (.iload_n 3, 1) := by decide +kernel
theorem dX5_layFar_66 : decode cX5_layFar 66 = .ok (.iconst 1, 1) := by decide +kernel
theorem dX5_layFar_67 : decode cX5_layFar 67 = .ok (.invokestatic 204, 3) := by decide +kernel
theorem dX5_layFar_70 : decode cX5_layFar 70 = .ok (.iaload, 1) := by decide +kernel
theorem dX5_layFar_71 : decode cX5_layFar 71 = .ok (.iconst 1, 1) := by decide +kernel
theorem dX5_layFar_72 : decode cX5_layFar 72 = .ok (.iadd, 1) := by decide +kernel
theorem dX5_layFar_73 : decode cX5_layFar 73 = .ok (.istore 5, 2) := by decide +kernel
theorem dX5_layFar_75 : decode cX5_layFar 75 = .ok (.aload_n 0, 1) := by decide +kernel
theorem dX5_layFar_76 : decode cX5_layFar 76 = .ok (.getfield 63, 3) := by decide +kernel
theorem dX5_layFar_79 : decode cX5_layFar 79 = .ok (.iload_n 3, 1) := by decide +kernel
theorem dX5_layFar_80 : decode cX5_layFar 80 = .ok (.iload 4, 2) := by decide +kernel
theorem dX5_layFar_82 : decode cX5_layFar 82 = .ok (.aload_n 0, 1) := by decide +kernel
theorem dX5_layFar_83 : decode cX5_layFar 83 = .ok (.getfield 63, 3) := by decide +kernel
theorem dX5_layFar_86 : decode cX5_layFar 86 = .ok (.iload_n 3, 1) := by decide +kernel
theorem dX5_layFar_87 : decode cX5_layFar 87 = .ok (.iaload, 1) := by decide +kernel
theorem dX5_layFar_88 : decode cX5_layFar 88 = .ok (.if_icmp .ge 8, 3) := by decide +kernel
theorem dX5_layFar_91 : decode cX5_layFar 91 = .ok (.iload 4, 2) := by decide +kernel
theorem dX5_layFar_93 : decode cX5_layFar 93 = .ok (.goto 9, 3) := by decide +kernel
theorem dX5_layFar_96 : decode cX5_layFar 96 = .ok (.aload_n 0, 1) := by decide +kernel
theorem dX5_layFar_97 : decode cX5_layFar 97 = .ok (.getfield 63, 3) := by decide +kernel
theorem dX5_layFar_100 : decode cX5_layFar 100 = .ok (.iload_n 3, 1) := by decide +kernel
theorem dX5_layFar_101 : decode cX5_layFar 101 = .ok (.iaload, 1) := by decide +kernel
theorem dX5_layFar_102 : decode cX5_layFar 102 = .ok (.iastore, 1) := by decide +kernel
theorem dX5_layFar_103 : decode cX5_layFar 103 = .ok (.aload_n 0, 1) := by decide +kernel
theorem dX5_layFar_104 : decode cX5_layFar 104 = .ok (.getfield 63, 3) := by decide +kernel
theorem dX5_layFar_107 : decode cX5_layFar 107 = .ok (.iload_n 3, 1) := by decide +kernel
theorem dX5_layFar_108 : decode cX5_layFar 108 = .ok (.iload 5, 2) := by decide +kernel
theorem dX5_layFar_110 : decode cX5_layFar 110 = .ok (.aload_n 0, 1) := by decide +kernel
theorem dX5_layFar_111 : decode cX5_layFar 111 = .ok (.getfield 63, 3) := by decide +kernel
theorem dX5_layFar_114 : decode cX5_layFar 114 = .ok (.iload_n 3, 1) := by decide +kernel
theorem dX5_layFar_115 : decode cX5_layFar 115 = .ok (.iaload, 1) := by decide +kernel
theorem dX5_layFar_116 : decode cX5_layFar 116 = .ok (.if_icmp .ge 8, 3) := by decide +kernel
theorem dX5_layFar_119 : decode cX5_layFar 119 = .ok (.iload 5, 2) := by decide +kernel
theorem dX5_layFar_121 : decode cX5_layFar 121 = .ok (.goto 9, 3) := by decide +kernel
theorem dX5_layFar_124 : decode cX5_layFar 124 = .ok (.aload_n 0, 1) := by decide +kernel
theorem dX5_layFar_125 : decode cX5_layFar 125 = .ok (.getfield 63, 3) := by decide +kernel
theorem dX5_layFar_128 : decode cX5_layFar 128 = .ok (.iload_n 3, 1) := by decide +kernel
theorem dX5_layFar_129 : decode cX5_layFar 129 = .ok (.iaload, 1) := by decide +kernel
theorem dX5_layFar_130 : decode cX5_layFar 130 = .ok (.iastore, 1) := by decide +kernel
theorem dX5_layFar_131 : decode cX5_layFar 131 = .ok (.iinc 3 1, 3) := by decide +kernel
theorem dX5_layFar_134 : decode cX5_layFar 134 = .ok (.goto (-93), 3) := by decide +kernel
theorem dX5_layFar_137 : decode cX5_layFar 137 = .ok (.iinc 2 1, 3) := by decide +kernel
theorem dX5_layFar_140 : decode cX5_layFar 140 = .ok (.goto (-107), 3) := by decide +kernel
theorem dX5_layFar_143 : decode cX5_layFar 143 = .ok (.return_, 1) := by decide +kernel
theorem dX5_level_0 : decode cX5_level 0 = .ok (.iload_n 1, 1) := by decide +kernel
theorem dX5_level_1 : decode cX5_level 1 = .ok (.i2l, 1) := by decide +kernel
theorem dX5_level_2 : decode cX5_level 2 = .ok (.lconst 0, 1) := by decide +kernel
theorem dX5_level_3 : decode cX5_level 3 = .ok (.ldc2_w 261, 3) := by decide +kernel
theorem dX5_level_6 : decode cX5_level 6 = .ok (.invokestatic 84, 3) := by decide +kernel
theorem dX5_level_9 : decode cX5_level 9 = .ok (.ifCond .ne 5, 3) := by decide +kernel
theorem dX5_level_12 : decode cX5_level 12 = .ok (.iconst (-1), 1) := by decide +kernel
theorem dX5_level_13 : decode cX5_level 13 = .ok (.ireturn, 1) := by decide +kernel
theorem dX5_level_14 : decode cX5_level 14 = .ok (.aload_n 0, 1) := by decide +kernel
theorem dX5_level_15 : decode cX5_level 15 = .ok (.getfield 142, 3) := by decide +kernel
theorem dX5_level_18 : decode cX5_level 18 = .ok (.ifCond .ne 6, 3) := by decide +kernel
theorem dX5_level_21 : decode cX5_level 21 = .ok (.bipush (-4), 2) := by decide +kernel
theorem dX5_level_23 : decode cX5_level 23 = .ok (.ireturn, 1) := by decide +kernel
theorem dX5_level_24 : decode cX5_level 24 = .ok (.aload_n 0, 1) := by decide +kernel
theorem dX5_level_25 : decode cX5_level 25 = .ok (.iload_n 1, 1) := by decide +kernel
theorem dX5_level_26 : decode cX5_level 26 = .ok (.invokevirtual 263, 3) := by decide +kernel
theorem dX5_level_29 : decode cX5_level 29 = .ok (.aload_n 0, 1) := by decide +kernel
theorem dX5_level_30 : decode cX5_level 30 = .ok (.getfield 31, 3) := by decide +kernel
theorem dX5_level_33 : decode cX5_level 33 = .ok (.bipush 6, 2) := by decide +kernel
theorem dX5_level_35 : decode cX5_level 35 = .ok (.iaload, 1) := by decide +kernel
theorem dX5_level_36 : decode cX5_level 36 = .ok (.istore_n 2, 1) := by decide +kernel
theorem dX5_level_37 : decode cX5_level 37 = .ok (.aload_n 0, 1) := by decide +kernel
theorem dX5_level_38 : decode cX5_level 38 = .ok (.getfield 63, 3) := by decide +kernel
theorem dX5_level_41 : decode cX5_level 41 = .ok (.iload_n 2, 1) := by decide +kernel
theorem dX5_level_42 : decode cX5_level 42 = .ok (.iaload, 1) := by decide +kernel
theorem dX5_level_43 : decode cX5_level 43 = .ok (.istore_n 3, 1) := by decide +kernel
theorem dX5_level_44 : decode cX5_level 44 = .ok (.iload_n 3, 1) := by decide +kernel
theorem dX5_level_45 : decode cX5_level 45 = .ok (.ldc 242, 2) := by decide +kernel
theorem dX5_level_47 : decode cX5_level 47 = .ok (.if_icmp .lt 6, 3) := by decide +kernel
theorem dX5_level_50 : decode cX5_level 50 = .ok (.bipush (-9), 2) := by decide +kernel
theorem dX5_level_52 : decode cX5_level 52 = .ok (.ireturn, 1) := by decide +kernel
theorem dX5_level_53 : decode cX5_level 53 = .ok (.iconst 0, 1) := by decide +kernel
theorem dX5_level_54 : decode cX5_level 54 = .ok (.istore 4, 2) := by decide +kernel
theorem dX5_level_56 : decode cX5_level 56 = .ok (.iconst 0, 1) := by decide +kernel
theorem dX5_level_57 : decode cX5_level 57 = .ok (.istore 5, 2) := by decide +kernel
theorem dX5_level_59 : decode cX5_level 59 = .ok (.iload 5, 2) := by decide +kernel
theorem dX5_level_61 : decode cX5_level 61 = .ok (.iload_n 3, 1) := by decide +kernel
theorem dX5_level_62 : decode cX5_level 62 = .ok (.if_icmp .ge 60, 3) := by decide +kernel
theorem dX5_level_65 : decode cX5_level 65 = .ok (.aload_n 0, 1) := by decide +kernel
theorem dX5_level_66 : decode cX5_level 66 = .ok (.getfield 63, 3) := by decide +kernel
theorem dX5_level_69 : decode cX5_level 69 = .ok (.iload_n 2, 1) := by decide +kernel
theorem dX5_level_70 : decode cX5_level 70 = .ok (.iconst 0, 1) := by decide +kernel
theorem dX5_level_71 : decode cX5_level 71 = .ok (.invokestatic 204, 3) := by decide +kernel
theorem dX5_level_74 : decode cX5_level 74 = .ok (.iaload, 1) := by decide +kernel
theorem dX5_level_75 : decode cX5_level 75 = .ok (.iload_n 3, 1) := by decide +kernel
theorem dX5_level_76 : decode cX5_level 76 = .ok (.iload 5, 2) := by decide +kernel
theorem dX5_level_78 : decode cX5_level 78 = .ok (.isub, 1) := by decide +kernel
theorem dX5_level_79 : decode cX5_level 79 = .ok (.iconst 1, 1) := by decide +kernel
theorem dX5_level_80 : decode cX5_level 80 = .ok (.isub, 1) := by decide +kernel
theorem dX5_level_81 : decode cX5_level 81 = .ok (.if_icmp .eq 7, 3) := by decide +kernel
theorem dX5_level_84 : decode cX5_level 84 = .ok (.iconst 1, 1) := by decide +kernel
theorem dX5_level_85 : decode cX5_level 85 = .ok (.goto 4, 3) := by decide +kernel
theorem dX5_level_88 : decode cX5_level 88 = .ok (.iconst 0, 1) := by decide +kernel
theorem dX5_level_89 : decode cX5_level 89 = .ok (.istore 6, 2) := by decide +kernel
theorem dX5_level_91 : decode cX5_level 91 = .ok (.iload 4, 2) := by decide +kernel
theorem dX5_level_93 : decode cX5_level 93 = .ok (.iload 6, 2) := by decide +kernel
theorem dX5_level_95 : decode cX5_level 95 = .ok (.ifCond .eq 10, 3) := by decide +kernel
theorem dX5_level_98 : decode cX5_level 98 = .ok (.iconst 1, 1) := by decide +kernel
theorem dX5_level_99 : decode cX5_level 99 = .ok (.iload 5, 2) := by decide +kernel
theorem dX5_level_101 : decode cX5_level 101 = .ok (.ishl, 1) := by decide +kernel
theorem dX5_level_102 : decode cX5_level 102 = .ok (.goto 4, 3) := by decide +kernel
theorem dX5_level_105 : decode cX5_level 105 = .ok (.iconst 0, 1) := by decide +kernel
theorem dX5_level_106 : decode cX5_level 106 = .ok (.ior, 1) := by decide +kernel
theorem dX5_level_107 : decode cX5_level 107 = .ok (.istore 4, 2) := by decide +kernel
theorem dX5_level_109 : decode cX5_level 109 = .ok (.iload_n 2, 1) := by decide +kernel
theorem dX5_level_110 : decode cX5_level 110 = .ok (.iload 6, 2) := by decide +kernel
theorem dX5_level_112 : decode cX5_level 112 = .ok (.invokestatic 204, 3) := by decide +kernel
theorem dX5_level_115 : decode cX5_level 115 = .ok (.istore_n 2, 1) := by decide +kernel
theorem dX5_level_116 : decode cX5_level 116 = .ok (.iinc 5 1, 3) := by decide +kernel
theorem dX5_level_119 : decode cX5_level 119 = .ok (.goto (-60), 3) := by decide +kernel
theorem dX5_level_122 : decode cX5_level 122 = .ok (.aload_n 0, 1) := by decide +kernel
theorem dX5_level_123 : decode cX5_level 123 = .ok (.iload_n 3, 1) := by decide +kernel
theorem dX5_level_124 : decode cX5_level 124 = .ok (.iload 4, 2) := by decide +kernel
theorem dX5_level_126 : decode cX5_level 126 = .ok (.invokevirtual 239, 3) := by decide +kernel
theorem dX5_level_129 : decode cX5_level 129 = .ok (.ireturn, 1) := by decide +kernel
theorem dX5_placeOf_0 : decode cX5_placeOf 0 = .ok (.bipush 8, 2) := by decide +kernel
theorem dX5_placeOf_2 : decode cX5_placeOf 2 = .ok (.iload_n 1, 1) := by decide +kernel
theorem dX5_placeOf_3 : decode cX5_placeOf 3 = .ok (.iconst 2, 1) := by decide +kernel
theorem dX5_placeOf_4 : decode cX5_placeOf 4 = .ok (.irem, 1) := by decide +kernel
theorem dX5_placeOf_5 : decode cX5_placeOf 5 = .ok (.imul, 1) := by decide +kernel
theorem dX5_placeOf_6 : decode cX5_placeOf 6 = .ok (.aload_n 0, 1) := by decide +kernel
theorem dX5_placeOf_7 : decode cX5_placeOf 7 = .ok (.getfield 31, 3) := by decide +kernel
theorem dX5_placeOf_10 : decode cX5_placeOf 10 = .ok (.iconst 0, 1) := by decide +kernel
theorem dX5_placeOf_11 : decode cX5_placeOf 11 = .ok (.iload_n 1, 1) := by decide +kernel
theorem dX5_placeOf_12 : decode cX5_placeOf 12 = .ok (.iadd, 1) := by decide +kernel
theorem dX5_placeOf_13 : decode cX5_placeOf 13 = .ok (.iaload, 1) := by decide +kernel
theorem dX5_placeOf_14 : decode cX5_placeOf 14 = .ok (.iadd, 1) := by decide +kernel
theorem dX5_placeOf_15 : decode cX5_placeOf 15 = .ok (.ireturn, 1) := by decide +kernel
theorem dX5_homeBut_0 : decode cX5_homeBut 0 = .ok (.iconst 0, 1) := by decide +kernel
theorem dX5_homeBut_1 : decode cX5_homeBut 1 = .ok (.istore_n 3, 1) := by decide +kernel
theorem dX5_homeBut_2 : decode cX5_homeBut 2 = .ok (.iconst 0, 1) := by decide +kernel
theorem dX5_homeBut_3 : decode cX5_homeBut 3 = .ok (.istore 4, 2) := by decide +kernel
theorem dX5_homeBut_5 : decode cX5_homeBut 5 = .ok (.iload 4, 2) := by decide +kernel
theorem dX5_homeBut_7 : decode cX5_homeBut 7 = .ok (.aload_n 0, 1) := by decide +kernel
theorem dX5_homeBut_8 : decode cX5_homeBut 8 = .ok (.getfield 142, 3) := by decide +kernel
theorem dX5_homeBut_11 : decode cX5_homeBut 11 = .ok (.if_icmp .ge 48, 3) := by decide +kernel
theorem dX5_homeBut_14 : decode cX5_homeBut 14 = .ok (.iload_n 3, 1) := by decide +kernel
theorem dX5_homeBut_15 : decode cX5_homeBut 15 = .ok (.iload 4, 2) := by decide +kernel
theorem dX5_homeBut_17 : decode cX5_homeBut 17 = .ok (.iload_n 1, 1) := by decide +kernel
theorem dX5_homeBut_18 : decode cX5_homeBut 18 = .ok (.if_icmp .eq 21, 3) := by decide +kernel
theorem dX5_homeBut_21 : decode cX5_homeBut 21 = .ok (.aload_n 0, 1) := by decide +kernel
theorem dX5_homeBut_22 : decode cX5_homeBut 22 = .ok (.iload 4, 2) := by decide +kernel
theorem dX5_homeBut_24 : decode cX5_homeBut 24 = .ok (.invokevirtual 179, 3) := by decide +kernel
theorem dX5_homeBut_27 : decode cX5_homeBut 27 = .ok (.ifCond .ne 12, 3) := by decide +kernel
theorem dX5_homeBut_30 : decode cX5_homeBut 30 = .ok (.iload_n 2, 1) := by decide +kernel
theorem dX5_homeBut_31 : decode cX5_homeBut 31 = .ok (.iload 4, 2) := by decide +kernel
theorem dX5_homeBut_33 : decode cX5_homeBut 33 = .ok (.invokestatic 266, 3) := by decide +kernel
theorem dX5_homeBut_36 : decode cX5_homeBut 36 = .ok (.ifCond .eq 7, 3) := by decide +kernel
theorem dX5_homeBut_39 : decode cX5_homeBut 39 = .ok (.iconst 0, 1) := by decide +kernel
theorem dX5_homeBut_40 : decode cX5_homeBut 40 = .ok (.goto 11, 3) := by decide +kernel
theorem dX5_homeBut_43 : decode cX5_homeBut 43 = .ok (.iconst 1, 1) := by decide +kernel
theorem dX5_homeBut_44 : decode cX5_homeBut 44 = .ok (.aload_n 0, 1) := by decide +kernel
theorem dX5_homeBut_45 : decode cX5_homeBut 45 = .ok (.iload 4, 2) := by decide +kernel
theorem dX5_homeBut_47 : decode cX5_homeBut 47 = .ok (.invokevirtual 269, 3) := by decide +kernel
theorem dX5_homeBut_50 : decode cX5_homeBut 50 = .ok (.ishl, 1) := by decide +kernel
theorem dX5_homeBut_51 : decode cX5_homeBut 51 = .ok (.ior, 1) := by decide +kernel
theorem dX5_homeBut_52 : decode cX5_homeBut 52 = .ok (.istore_n 3, 1) := by decide +kernel
theorem dX5_homeBut_53 : decode cX5_homeBut 53 = .ok (.iinc 4 1, 3) := by decide +kernel
theorem dX5_homeBut_56 : decode cX5_homeBut 56 = .ok (.goto (-51), 3) := by decide +kernel
theorem dX5_homeBut_59 : decode cX5_homeBut 59 = .ok (.iconst 0, 1) := by decide +kernel
theorem dX5_homeBut_60 : decode cX5_homeBut 60 = .ok (.istore 4, 2) := by decide +kernel
theorem dX5_homeBut_62 : decode cX5_homeBut 62 = .ok (.iload 4, 2) := by decide +kernel
theorem dX5_homeBut_64 : decode cX5_homeBut 64 = .ok (.bipush 16, 2) := by decide +kernel
theorem dX5_homeBut_66 : decode cX5_homeBut 66 = .ok (.if_icmp .ge 32, 3) := by decide +kernel
theorem dX5_homeBut_69 : decode cX5_homeBut 69 = .ok (.aload_n 0, 1) := by decide +kernel
theorem dX5_homeBut_70 : decode cX5_homeBut 70 = .ok (.getfield 66, 3) := by decide +kernel
theorem dX5_homeBut_73 : decode cX5_homeBut 73 = .ok (.iload 4, 2) := by decide +kernel
theorem dX5_homeBut_75 : decode cX5_homeBut 75 = .ok (.iload 4, 2) := by decide +kernel
theorem dX5_homeBut_77 : decode cX5_homeBut 77 = .ok (.aload_n 0, 1) := by decide +kernel
theorem dX5_homeBut_78 : decode cX5_homeBut 78 = .ok (.iload_n 1, 1) := by decide +kernel
theorem dX5_homeBut_79 : decode cX5_homeBut 79 = .ok (.invokevirtual 269, 3) := by decide +kernel
theorem dX5_homeBut_82 : decode cX5_homeBut 82 = .ok (.if_icmp .ne 7, 3) := by decide +kernel
theorem dX5_homeBut_85 : decode cX5_homeBut 85 = .ok (.iconst 0, 1) := by decide +kernel
theorem dX5_homeBut_86 : decode cX5_homeBut 86 = .ok (.goto 5, 3) := by decide +kernel
theorem dX5_homeBut_89 : decode cX5_homeBut 89 = .ok (.ldc 242, 2) := by decide +kernel
theorem dX5_homeBut_91 : decode cX5_homeBut 91 = .ok (.iastore, 1) := by decide +kernel
theorem dX5_homeBut_92 : decode cX5_homeBut 92 = .ok (.iinc 4 1, 3) := by decide +kernel
theorem dX5_homeBut_95 : decode cX5_homeBut 95 = .ok (.goto (-33), 3) := by decide +kernel
theorem dX5_homeBut_98 : decode cX5_homeBut 98 = .ok (.iconst 0, 1) := by decide +kernel
theorem dX5_homeBut_99 : decode cX5_homeBut 99 = .ok (.istore 4, 2) := by decide +kernel
theorem dX5_homeBut_101 : decode cX5_homeBut 101 = .ok (.iload 4, 2) := by decide +kernel
theorem dX5_homeBut_103 : decode cX5_homeBut 103 = .ok (.bipush 16, 2) := by decide +kernel
theorem dX5_homeBut_105 : decode cX5_homeBut 105 = .ok (.if_icmp .ge 164, 3) := by decide +kernel
theorem dX5_homeBut_108 : decode cX5_homeBut 108 = .ok (.iconst 0, 1) := by decide +kernel
theorem dX5_homeBut_109 : decode cX5_homeBut 109 = .ok (.istore 5, 2) := by decide +kernel
theorem dX5_homeBut_111 : decode cX5_homeBut 111 = .ok (.iload 5, 2) := by decide +kernel
theorem dX5_homeBut_113 : decode cX5_homeBut 113 = .ok (.bipush 16, 2) := by decide +kernel
theorem dX5_homeBut_115 : decode cX5_homeBut 115 = .ok (.if_icmp .ge 148, 3) := by decide +kernel
theorem dX5_homeBut_118 : decode cX5_homeBut 118 = .ok (.iconst 0, 1) := by decide +kernel
theorem dX5_homeBut_119 : decode cX5_homeBut 119 = .ok (.istore 6, 2) := by decide +kernel
theorem dX5_homeBut_121 : decode cX5_homeBut 121 = .ok (.iload 6, 2) := by decide +kernel
theorem dX5_homeBut_123 : decode cX5_homeBut 123 = .ok (.bipush 16, 2) := by decide +kernel
theorem dX5_homeBut_125 : decode cX5_homeBut 125 = .ok (.if_icmp .ge 132, 3) := by decide +kernel
theorem dX5_homeBut_128 : decode cX5_homeBut 128 = .ok (.iload 5, 2) := by decide +kernel
theorem dX5_homeBut_130 : decode cX5_homeBut 130 = .ok (.bipush 8, 2) := by decide +kernel
theorem dX5_homeBut_132 : decode cX5_homeBut 132 = .ok (.idiv, 1) := by decide +kernel
theorem dX5_homeBut_133 : decode cX5_homeBut 133 = .ok (.iload 6, 2) := by decide +kernel
theorem dX5_homeBut_135 : decode cX5_homeBut 135 = .ok (.bipush 8, 2) := by decide +kernel
theorem dX5_homeBut_137 : decode cX5_homeBut 137 = .ok (.idiv, 1) := by decide +kernel
theorem dX5_homeBut_138 : decode cX5_homeBut 138 = .ok (.if_icmp .ne 23, 3) := by decide +kernel
theorem dX5_homeBut_141 : decode cX5_homeBut 141 = .ok (.iload 5, 2) := by decide +kernel
theorem dX5_homeBut_143 : decode cX5_homeBut 143 = .ok (.iload 6, 2) := by decide +kernel
theorem dX5_homeBut_145 : decode cX5_homeBut 145 = .ok (.isub, 1) := by decide +kernel
theorem dX5_homeBut_146 : decode cX5_homeBut 146 = .ok (.invokestatic 229, 3) := by decide +kernel
theorem dX5_homeBut_149 : decode cX5_homeBut 149 = .ok (.iconst 1, 1) := by decide +kernel
theorem dX5_homeBut_150 : decode cX5_homeBut 150 = .ok (.if_icmp .ne 7, 3) := by decide +kernel
theorem dX5_homeBut_153 : decode cX5_homeBut 153 = .ok (.iconst 1, 1) := by decide +kernel
theorem dX5_homeBut_154 : decode cX5_homeBut 154 = .ok (.goto 36, 3) := by decide +kernel
theorem dX5_homeBut_157 : decode cX5_homeBut 157 = .ok (.iconst 0, 1) := by decide +kernel
theorem dX5_homeBut_158 : decode cX5_homeBut 158 = .ok (.goto 32, 3) := by decide +kernel
theorem dX5_homeBut_161 : decode cX5_homeBut 161 = .ok (.iload 5, 2) := by decide +kernel
theorem dX5_homeBut_163 : decode cX5_homeBut 163 = .ok (.bipush 8, 2) := by decide +kernel
theorem dX5_homeBut_165 : decode cX5_homeBut 165 = .ok (.irem, 1) := by decide +kernel
theorem dX5_homeBut_166 : decode cX5_homeBut 166 = .ok (.iload 6, 2) := by decide +kernel
theorem dX5_homeBut_168 : decode cX5_homeBut 168 = .ok (.bipush 8, 2) := by decide +kernel
theorem dX5_homeBut_170 : decode cX5_homeBut 170 = .ok (.irem, 1) := by decide +kernel
theorem dX5_homeBut_171 : decode cX5_homeBut 171 = .ok (.if_icmp .ne 18, 3) := by decide +kernel
theorem dX5_homeBut_174 : decode cX5_homeBut 174 = .ok (.iload 5, 2) := by decide +kernel
theorem dX5_homeBut_176 : decode cX5_homeBut 176 = .ok (.bipush 8, 2) := by decide +kernel
theorem dX5_homeBut_178 : decode cX5_homeBut 178 = .ok (.irem, 1) := by decide +kernel
theorem dX5_homeBut_179 : decode cX5_homeBut 179 = .ok (.bipush 7, 2) := by decide +kernel
theorem dX5_homeBut_181 : decode cX5_homeBut 181 = .ok (.irem, 1) := by decide +kernel
theorem dX5_homeBut_182 : decode cX5_homeBut 182 = .ok (.ifCond .ne 7, 3) := by decide +kernel
theorem dX5_homeBut_185 : decode cX5_homeBut 185 = .ok (.iconst 1, 1) := by decide +kernel
theorem dX5_homeBut_186 : decode cX5_homeBut 186 = .ok (.goto 4, 3) := by decide +kernel
theorem dX5_homeBut_189 : decode cX5_homeBut 189 = .ok (.iconst 0, 1) := by decide +kernel
theorem dX5_homeBut_190 : decode cX5_homeBut 190 = .ok (.istore 7, 2) := by decide +kernel
theorem dX5_homeBut_192 : decode cX5_homeBut 192 = .ok (.aload_n 0, 1) := by decide +kernel
theorem dX5_homeBut_193 : decode cX5_homeBut 193 = .ok (.getfield 66, 3) := by decide +kernel
theorem dX5_homeBut_196 : decode cX5_homeBut 196 = .ok (.iload 6, 2) := by decide +kernel
theorem dX5_homeBut_198 : decode cX5_homeBut 198 = .ok (.iload 7, 2) := by decide +kernel
theorem dX5_homeBut_200 : decode cX5_homeBut 200 = .ok (.ifCond .eq 43, 3) := by decide +kernel
theorem dX5_homeBut_203 : decode cX5_homeBut 203 = .ok (.iload_n 3, 1) := by decide +kernel
theorem dX5_homeBut_204 : decode cX5_homeBut 204 = .ok (.iload 6, 2) := by decide +kernel
theorem dX5_homeBut_206 : decode cX5_homeBut 206 = .ok (.invokestatic 266, 3) := by decide +kernel
theorem dX5_homeBut_209 : decode cX5_homeBut 209 = .ok (.ifCond .ne 34, 3) := by decide +kernel
theorem dX5_homeBut_212 : decode cX5_homeBut 212 = .ok (.aload_n 0, 1) := by decide +kernel
theorem dX5_homeBut_213 : decode cX5_homeBut 213 = .ok (.getfield 66, 3) := by decide +kernel
theorem dX5_homeBut_216 : decode cX5_homeBut 216 = .ok (.iload 5, 2) := by decide +kernel
theorem dX5_homeBut_218 : decode cX5_homeBut 218 = .ok (.iaload, 1) := by decide +kernel
theorem dX5_homeBut_219 : decode cX5_homeBut 219 = .ok (.iconst 1, 1) := by decide +kernel
theorem dX5_homeBut_220 : decode cX5_homeBut 220 = .ok (.iadd, 1) := by decide +kernel
theorem dX5_homeBut_221 : decode cX5_homeBut 221 = .ok (.aload_n 0, 1) := by decide +kernel
theorem dX5_homeBut_222 : decode cX5_homeBut 222 = .ok (.getfield 66, 3) := by decide +kernel
theorem dX5_homeBut_225 : decode cX5_homeBut 225 = .ok (.iload 6, 2) := by decide +kernel
theorem dX5_homeBut_227 : decode cX5_homeBut 227 = .ok (.iaload, 1) := by decide +kernel
theorem dX5_homeBut_228 : decode cX5_homeBut 228 = .ok (.if_icmp .ge 15, 3) := by decide +kernel
theorem dX5_homeBut_231 : decode cX5_homeBut 231 = .ok (.aload_n 0, 1) := by decide +kernel
theorem dX5_homeBut_232 : decode cX5_homeBut 232 = .ok (.getfield 66, 3) := by decide +kernel
theorem dX5_homeBut_235 : decode cX5_homeBut 235 = .ok (.iload 5, 2) := by decide +kernel
theorem dX5_homeBut_237 : decode cX5_homeBut 237 = .ok (.iaload, 1) := by decide +kernel
theorem dX5_homeBut_238 : decode cX5_homeBut 238 = .ok (.iconst 1, 1) := by decide +kernel
theorem dX5_homeBut_239 : decode cX5_homeBut 239 = .ok (.iadd, 1) := by decide +kernel
theorem dX5_homeBut_240 : decode cX5_homeBut 240 = .ok (.goto 10, 3) := by decide +kernel
theorem dX5_homeBut_243 : decode cX5_homeBut 243 = .ok (.aload_n 0, 1) := by decide +kernel
theorem dX5_homeBut_244 : decode cX5_homeBut 244 = .ok (.getfield 66, 3) := by decide +kernel
theorem dX5_homeBut_247 : decode cX5_homeBut 247 = .ok (.iload 6, 2) := by decide +kernel
theorem dX5_homeBut_249 : decode cX5_homeBut 249 = .ok (.iaload, 1) := by decide +kernel
theorem dX5_homeBut_250 : decode cX5_homeBut 250 = .ok (.iastore, 1) := by decide +kernel
theorem dX5_homeBut_251 : decode cX5_homeBut 251 = .ok (.iinc 6 1, 3) := by decide +kernel
theorem dX5_homeBut_254 : decode cX5_homeBut 254 = .ok (.goto (-133), 3) := by decide +kernel
theorem dX5_homeBut_257 : decode cX5_homeBut 257 = .ok (.iinc 5 1, 3) := by decide +kernel
theorem dX5_homeBut_260 : decode cX5_homeBut 260 = .ok (.goto (-149), 3) := by decide +kernel
theorem dX5_homeBut_263 : decode cX5_homeBut 263 = .ok (.iinc 4 1, 3) := by decide +kernel
theorem dX5_homeBut_266 : decode cX5_homeBut 266 = .ok (.goto (-165), 3) := by decide +kernel
theorem dX5_homeBut_269 : decode cX5_homeBut 269 = .ok (.aload_n 0, 1) := by decide +kernel
theorem dX5_homeBut_270 : decode cX5_homeBut 270 = .ok (.getfield 66, 3) := by decide +kernel
theorem dX5_homeBut_273 : decode cX5_homeBut 273 = .ok (.aload_n 0, 1) := by decide +kernel
theorem dX5_homeBut_274 : decode cX5_homeBut 274 = .ok (.getfield 28, 3) := by decide +kernel
theorem dX5_homeBut_277 : decode cX5_homeBut 277 = .ok (.iload_n 1, 1) := by decide +kernel
theorem dX5_homeBut_278 : decode cX5_homeBut 278 = .ok (.iaload, 1) := by decide +kernel
theorem dX5_homeBut_279 : decode cX5_homeBut 279 = .ok (.iaload, 1) := by decide +kernel
theorem dX5_homeBut_280 : decode cX5_homeBut 280 = .ok (.ldc 242, 2) := by decide +kernel
theorem dX5_homeBut_282 : decode cX5_homeBut 282 = .ok (.if_icmp .lt 8, 3) := by decide +kernel
theorem dX5_homeBut_285 : decode cX5_homeBut 285 = .ok (.bipush (-9), 2) := by decide +kernel
theorem dX5_homeBut_287 : decode cX5_homeBut 287 = .ok (.goto 14, 3) := by decide +kernel
theorem dX5_homeBut_290 : decode cX5_homeBut 290 = .ok (.aload_n 0, 1) := by decide +kernel
theorem dX5_homeBut_291 : decode cX5_homeBut 291 = .ok (.getfield 66, 3) := by decide +kernel
theorem dX5_homeBut_294 : decode cX5_homeBut 294 = .ok (.aload_n 0, 1) := by decide +kernel
theorem dX5_homeBut_295 : decode cX5_homeBut 295 = .ok (.getfield 28, 3) := by decide +kernel
theorem dX5_homeBut_298 : decode cX5_homeBut 298 = .ok (.iload_n 1, 1) := by decide +kernel
theorem dX5_homeBut_299 : decode cX5_homeBut 299 = .ok (.iaload, 1) := by decide +kernel
theorem dX5_homeBut_300 : decode cX5_homeBut 300 = .ok (.iaload, 1) := by decide +kernel
theorem dX5_homeBut_301 : decode cX5_homeBut 301 = .ok (.ireturn, 1) := by decide +kernel
theorem dX5_home_0 : decode cX5_home 0 = .ok (.aload_n 0, 1) := by decide +kernel
theorem dX5_home_1 : decode cX5_home 1 = .ok (.iload_n 1, 1) := by decide +kernel
theorem dX5_home_2 : decode cX5_home 2 = .ok (.invokevirtual 167, 3) := by decide +kernel
theorem dX5_home_5 : decode cX5_home 5 = .ok (.ifCond .ne 5, 3) := by decide +kernel
theorem dX5_home_8 : decode cX5_home 8 = .ok (.iconst (-1), 1) := by decide +kernel
theorem dX5_home_9 : decode cX5_home 9 = .ok (.ireturn, 1) := by decide +kernel
theorem dX5_home_10 : decode cX5_home 10 = .ok (.aload_n 0, 1) := by decide +kernel
theorem dX5_home_11 : decode cX5_home 11 = .ok (.iload_n 1, 1) := by decide +kernel
theorem dX5_home_12 : decode cX5_home 12 = .ok (.invokevirtual 179, 3) := by decide +kernel
theorem dX5_home_15 : decode cX5_home 15 = .ok (.ifCond .eq 8, 3) := by decide +kernel
theorem dX5_home_18 : decode cX5_home 18 = .ok (.bipush (-4), 2) := by decide +kernel
theorem dX5_home_20 : decode cX5_home 20 = .ok (.goto 9, 3) := by decide +kernel
theorem dX5_home_23 : decode cX5_home 23 = .ok (.aload_n 0, 1) := by decide +kernel
theorem dX5_home_24 : decode cX5_home 24 = .ok (.iload_n 1, 1) := by decide +kernel
theorem dX5_home_25 : decode cX5_home 25 = .ok (.iconst 0, 1) := by decide +kernel
theorem dX5_home_26 : decode cX5_home 26 = .ok (.invokevirtual 272, 3) := by decide +kernel
theorem dX5_home_29 : decode cX5_home 29 = .ok (.ireturn, 1) := by decide +kernel
theorem dX5_stops_0 : decode cX5_stops 0 = .ok (.aload_n 0, 1) := by decide +kernel
theorem dX5_stops_1 : decode cX5_stops 1 = .ok (.iload_n 1, 1) := by decide +kernel
theorem dX5_stops_2 : decode cX5_stops 2 = .ok (.invokevirtual 167, 3) := by decide +kernel
theorem dX5_stops_5 : decode cX5_stops 5 = .ok (.ifCond .ne 5, 3) := by decide +kernel
theorem dX5_stops_8 : decode cX5_stops 8 = .ok (.iconst (-1), 1) := by decide +kernel
theorem dX5_stops_9 : decode cX5_stops 9 = .ok (.ireturn, 1) := by decide +kernel
theorem dX5_stops_10 : decode cX5_stops 10 = .ok (.aload_n 0, 1) := by decide +kernel
theorem dX5_stops_11 : decode cX5_stops 11 = .ok (.iload_n 1, 1) := by decide +kernel
theorem dX5_stops_12 : decode cX5_stops 12 = .ok (.invokevirtual 179, 3) := by decide +kernel
theorem dX5_stops_15 : decode cX5_stops 15 = .ok (.ifCond .eq 6, 3) := by decide +kernel
theorem dX5_stops_18 : decode cX5_stops 18 = .ok (.bipush (-4), 2) := by decide +kernel
theorem dX5_stops_20 : decode cX5_stops 20 = .ok (.ireturn, 1) := by decide +kernel
theorem dX5_stops_21 : decode cX5_stops 21 = .ok (.aload_n 0, 1) := by decide +kernel
theorem dX5_stops_22 : decode cX5_stops 22 = .ok (.iload_n 1, 1) := by decide +kernel
theorem dX5_stops_23 : decode cX5_stops 23 = .ok (.iconst 0, 1) := by decide +kernel
theorem dX5_stops_24 : decode cX5_stops 24 = .ok (.invokevirtual 272, 3) := by decide +kernel
theorem dX5_stops_27 : decode cX5_stops 27 = .ok (.bipush (-9), 2) := by decide +kernel
theorem dX5_stops_29 : decode cX5_stops 29 = .ok (.if_icmp .eq 5, 3) := by decide +kernel
theorem dX5_stops_32 : decode cX5_stops 32 = .ok (.iconst 0, 1) := by decide +kernel
theorem dX5_stops_33 : decode cX5_stops 33 = .ok (.ireturn, 1) := by decide +kernel
theorem dX5_stops_34 : decode cX5_stops 34 = .ok (.iconst 0, 1) := by decide +kernel
theorem dX5_stops_35 : decode cX5_stops 35 = .ok (.istore_n 2, 1) := by decide +kernel
theorem dX5_stops_36 : decode cX5_stops 36 = .ok (.iconst 0, 1) := by decide +kernel
theorem dX5_stops_37 : decode cX5_stops 37 = .ok (.istore_n 3, 1) := by decide +kernel
theorem dX5_stops_38 : decode cX5_stops 38 = .ok (.iload_n 3, 1) := by decide +kernel
theorem dX5_stops_39 : decode cX5_stops 39 = .ok (.aload_n 0, 1) := by decide +kernel
theorem dX5_stops_40 : decode cX5_stops 40 = .ok (.getfield 142, 3) := by decide +kernel
theorem dX5_stops_43 : decode cX5_stops 43 = .ok (.if_icmp .ge 45, 3) := by decide +kernel
theorem dX5_stops_46 : decode cX5_stops 46 = .ok (.iload_n 2, 1) := by decide +kernel
theorem dX5_stops_47 : decode cX5_stops 47 = .ok (.iload_n 3, 1) := by decide +kernel
theorem dX5_stops_48 : decode cX5_stops 48 = .ok (.iload_n 1, 1) := by decide +kernel
theorem dX5_stops_49 : decode cX5_stops 49 = .ok (.if_icmp .eq 30, 3) := by decide +kernel
theorem dX5_stops_52 : decode cX5_stops 52 = .ok (.aload_n 0, 1) := by decide +kernel
theorem dX5_stops_53 : decode cX5_stops 53 = .ok (.iload_n 3, 1) := by decide +kernel
theorem dX5_stops_54 : decode cX5_stops 54 = .ok (.invokevirtual 179, 3) := by decide +kernel
theorem dX5_stops_57 : decode cX5_stops 57 = .ok (.ifCond .ne 22, 3) := by decide +kernel
theorem dX5_stops_60 : decode cX5_stops 60 = .ok (.aload_n 0, 1) := by decide +kernel
theorem dX5_stops_61 : decode cX5_stops 61 = .ok (.iload_n 1, 1) := by decide +kernel
theorem dX5_stops_62 : decode cX5_stops 62 = .ok (.iconst 1, 1) := by decide +kernel
theorem dX5_stops_63 : decode cX5_stops 63 = .ok (.iload_n 3, 1) := by decide +kernel
theorem dX5_stops_64 : decode cX5_stops 64 = .ok (.ishl, 1) := by decide +kernel
theorem dX5_stops_65 : decode cX5_stops 65 = .ok (.invokevirtual 272, 3) := by decide +kernel
theorem dX5_stops_68 : decode cX5_stops 68 = .ok (.bipush (-9), 2) := by decide +kernel
theorem dX5_stops_70 : decode cX5_stops 70 = .ok (.if_icmp .eq 9, 3) := by decide +kernel
theorem dX5_stops_73 : decode cX5_stops 73 = .ok (.iconst 1, 1) := by decide +kernel
theorem dX5_stops_74 : decode cX5_stops 74 = .ok (.iload_n 3, 1) := by decide +kernel
theorem dX5_stops_75 : decode cX5_stops 75 = .ok (.ishl, 1) := by decide +kernel
theorem dX5_stops_76 : decode cX5_stops 76 = .ok (.goto 4, 3) := by decide +kernel
theorem dX5_stops_79 : decode cX5_stops 79 = .ok (.iconst 0, 1) := by decide +kernel
theorem dX5_stops_80 : decode cX5_stops 80 = .ok (.ior, 1) := by decide +kernel
theorem dX5_stops_81 : decode cX5_stops 81 = .ok (.istore_n 2, 1) := by decide +kernel
theorem dX5_stops_82 : decode cX5_stops 82 = .ok (.iinc 3 1, 3) := by decide +kernel
theorem dX5_stops_85 : decode cX5_stops 85 = .ok (.goto (-47), 3) := by decide +kernel
theorem dX5_stops_88 : decode cX5_stops 88 = .ok (.iload_n 2, 1) := by decide +kernel
theorem dX5_stops_89 : decode cX5_stops 89 = .ok (.ireturn, 1) := by decide +kernel
theorem dX5_wrongPairs_0 : decode cX5_wrongPairs 0 = .ok (.aload_n 0, 1) := by decide +kernel
theorem dX5_wrongPairs_1 : decode cX5_wrongPairs 1 = .ok (.getfield 7, 3) := by decide +kernel
theorem dX5_wrongPairs_4 : decode cX5_wrongPairs 4 = .ok (.iload_n 1, 1) := by decide +kernel
theorem dX5_wrongPairs_5 : decode cX5_wrongPairs 5 = .ok (.iaload, 1) := by decide +kernel
theorem dX5_wrongPairs_6 : decode cX5_wrongPairs 6 = .ok (.ifCond .ge 5, 3) := by decide +kernel
theorem dX5_wrongPairs_9 : decode cX5_wrongPairs 9 = .ok (.iconst 1, 1) := by decide +kernel
theorem dX5_wrongPairs_10 : decode cX5_wrongPairs 10 = .ok (.ireturn, 1) := by decide +kernel
theorem dX5_wrongPairs_11 : decode cX5_wrongPairs 11 = .ok (.aload_n 0, 1) := by decide +kernel
theorem dX5_wrongPairs_12 : decode cX5_wrongPairs 12 = .ok (.getfield 7, 3) := by decide +kernel
theorem dX5_wrongPairs_15 : decode cX5_wrongPairs 15 = .ok (.iload_n 1, 1) := by decide +kernel
theorem dX5_wrongPairs_16 : decode cX5_wrongPairs 16 = .ok (.iaload, 1) := by decide +kernel
theorem dX5_wrongPairs_17 : decode cX5_wrongPairs 17 = .ok (.iconst 2, 1) := by decide +kernel
theorem dX5_wrongPairs_18 : decode cX5_wrongPairs 18 = .ok (.irem, 1) := by decide +kernel
theorem dX5_wrongPairs_19 : decode cX5_wrongPairs 19 = .ok (.iconst 1, 1) := by decide +kernel
theorem dX5_wrongPairs_20 : decode cX5_wrongPairs 20 = .ok (.if_icmp .eq 14, 3) := by decide +kernel
theorem dX5_wrongPairs_23 : decode cX5_wrongPairs 23 = .ok (.aload_n 0, 1) := by decide +kernel
theorem dX5_wrongPairs_24 : decode cX5_wrongPairs 24 = .ok (.getfield 7, 3) := by decide +kernel
theorem dX5_wrongPairs_27 : decode cX5_wrongPairs 27 = .ok (.iload_n 1, 1) := by decide +kernel
theorem dX5_wrongPairs_28 : decode cX5_wrongPairs 28 = .ok (.iaload, 1) := by decide +kernel
theorem dX5_wrongPairs_29 : decode cX5_wrongPairs 29 = .ok (.bipush 12, 2) := by decide +kernel
theorem dX5_wrongPairs_31 : decode cX5_wrongPairs 31 = .ok (.if_icmp .le 5, 3) := by decide +kernel
theorem dX5_wrongPairs_34 : decode cX5_wrongPairs 34 = .ok (.iconst 5, 1) := by decide +kernel
theorem dX5_wrongPairs_35 : decode cX5_wrongPairs 35 = .ok (.ireturn, 1) := by decide +kernel
theorem dX5_wrongPairs_36 : decode cX5_wrongPairs 36 = .ok (.iconst 1, 1) := by decide +kernel
theorem dX5_wrongPairs_37 : decode cX5_wrongPairs 37 = .ok (.istore_n 2, 1) := by decide +kernel
theorem dX5_wrongPairs_38 : decode cX5_wrongPairs 38 = .ok (.iconst 0, 1) := by decide +kernel
theorem dX5_wrongPairs_39 : decode cX5_wrongPairs 39 = .ok (.istore_n 3, 1) := by decide +kernel
theorem dX5_wrongPairs_40 : decode cX5_wrongPairs 40 = .ok (.iload_n 3, 1) := by decide +kernel
theorem dX5_wrongPairs_41 : decode cX5_wrongPairs 41 = .ok (.aload_n 0, 1) := by decide +kernel
theorem dX5_wrongPairs_42 : decode cX5_wrongPairs 42 = .ok (.getfield 7, 3) := by decide +kernel
theorem dX5_wrongPairs_45 : decode cX5_wrongPairs 45 = .ok (.iload_n 1, 1) := by decide +kernel
theorem dX5_wrongPairs_46 : decode cX5_wrongPairs 46 = .ok (.iaload, 1) := by decide +kernel
theorem dX5_wrongPairs_47 : decode cX5_wrongPairs 47 = .ok (.if_icmp .ge 60, 3) := by decide +kernel
theorem dX5_wrongPairs_50 : decode cX5_wrongPairs 50 = .ok (.iload_n 2, 1) := by decide +kernel
theorem dX5_wrongPairs_51 : decode cX5_wrongPairs 51 = .ok (.ifCond .eq 48, 3) := by decide +kernel
theorem dX5_wrongPairs_54 : decode cX5_wrongPairs 54 = .ok (.aload_n 0, 1) := by decide +kernel
theorem dX5_wrongPairs_55 : decode cX5_wrongPairs 55 = .ok (.getfield 13, 3) := by decide +kernel
theorem dX5_wrongPairs_58 : decode cX5_wrongPairs 58 = .ok (.bipush 40, 2) := by decide +kernel
theorem dX5_wrongPairs_60 : decode cX5_wrongPairs 60 = .ok (.iload_n 1, 1) := by decide +kernel
theorem dX5_wrongPairs_61 : decode cX5_wrongPairs 61 = .ok (.imul, 1) := by decide +kernel
theorem dX5_wrongPairs_62 : decode cX5_wrongPairs 62 = .ok (.iload_n 3, 1) := by decide +kernel
theorem dX5_wrongPairs_63 : decode cX5_wrongPairs 63 = .ok (.iadd, 1) := by decide +kernel
theorem dX5_wrongPairs_64 : decode cX5_wrongPairs 64 = .ok (.iaload, 1) := by decide +kernel
theorem dX5_wrongPairs_65 : decode cX5_wrongPairs 65 = .ok (.i2l, 1) := by decide +kernel
theorem dX5_wrongPairs_66 : decode cX5_wrongPairs 66 = .ok (.lconst 0, 1) := by decide +kernel
theorem dX5_wrongPairs_67 : decode cX5_wrongPairs 67 = .ok (.ldc2_w 243, 3) := by decide +kernel
theorem dX5_wrongPairs_70 : decode cX5_wrongPairs 70 = .ok (.invokestatic 84, 3) := by decide +kernel
theorem dX5_wrongPairs_73 : decode cX5_wrongPairs 73 = .ok (.ifCond .eq 26, 3) := by decide +kernel
theorem dX5_wrongPairs_76 : decode cX5_wrongPairs 76 = .ok (.aload_n 0, 1) := by decide +kernel
theorem dX5_wrongPairs_77 : decode cX5_wrongPairs 77 = .ok (.getfield 13, 3) := by decide +kernel
theorem dX5_wrongPairs_80 : decode cX5_wrongPairs 80 = .ok (.bipush 40, 2) := by decide +kernel
theorem dX5_wrongPairs_82 : decode cX5_wrongPairs 82 = .ok (.iload_n 1, 1) := by decide +kernel
theorem dX5_wrongPairs_83 : decode cX5_wrongPairs 83 = .ok (.imul, 1) := by decide +kernel
theorem dX5_wrongPairs_84 : decode cX5_wrongPairs 84 = .ok (.iload_n 3, 1) := by decide +kernel
theorem dX5_wrongPairs_85 : decode cX5_wrongPairs 85 = .ok (.iadd, 1) := by decide +kernel
theorem dX5_wrongPairs_86 : decode cX5_wrongPairs 86 = .ok (.iconst 1, 1) := by decide +kernel
theorem dX5_wrongPairs_87 : decode cX5_wrongPairs 87 = .ok (.iadd, 1) := by decide +kernel
theorem dX5_wrongPairs_88 : decode cX5_wrongPairs 88 = .ok (.iaload, 1) := by decide +kernel
theorem dX5_wrongPairs_89 : decode cX5_wrongPairs 89 = .ok (.invokestatic 191, 3) := by decide +kernel
theorem dX5_wrongPairs_92 : decode cX5_wrongPairs 92 = .ok (.ifCond .eq 7, 3) := by decide +kernel
theorem dX5_wrongPairs_95 : decode cX5_wrongPairs 95 = .ok (.iconst 1, 1) := by decide +kernel
theorem dX5_wrongPairs_96 : decode cX5_wrongPairs 96 = .ok (.goto 4, 3) := by decide +kernel
theorem dX5_wrongPairs_99 : decode cX5_wrongPairs 99 = .ok (.iconst 0, 1) := by decide +kernel
theorem dX5_wrongPairs_100 : decode cX5_wrongPairs 100 = .ok (.istore_n 2, 1) := by decide +kernel
theorem dX5_wrongPairs_101 : decode cX5_wrongPairs 101 = .ok (.iinc 3 2, 3) := by decide +kernel
theorem dX5_wrongPairs_104 : decode cX5_wrongPairs 104 = .ok (.goto (-64), 3) := by decide +kernel
theorem dX5_wrongPairs_107 : decode cX5_wrongPairs 107 = .ok (.iload_n 2, 1) := by decide +kernel
theorem dX5_wrongPairs_108 : decode cX5_wrongPairs 108 = .ok (.ifCond .eq 7, 3) := by decide +kernel
theorem dX5_wrongPairs_111 : decode cX5_wrongPairs 111 = .ok (.iconst 0, 1) := by decide +kernel
theorem dX5_wrongPairs_112 : decode cX5_wrongPairs 112 = .ok (.goto 4, 3) := by decide +kernel
theorem dX5_wrongPairs_115 : decode cX5_wrongPairs 115 = .ok (.iconst 3, 1) := by decide +kernel
theorem dX5_wrongPairs_116 : decode cX5_wrongPairs 116 = .ok (.ireturn, 1) := by decide +kernel
theorem dX5_isSo_0 : decode cX5_isSo 0 = .ok (.iconst 1, 1) := by decide +kernel
theorem dX5_isSo_1 : decode cX5_isSo 1 = .ok (.istore 5, 2) := by decide +kernel
theorem dX5_isSo_3 : decode cX5_isSo 3 = .ok (.iconst 0, 1) := by decide +kernel
theorem dX5_isSo_4 : decode cX5_isSo 4 = .ok (.istore 6, 2) := by decide +kernel
theorem dX5_isSo_6 : decode cX5_isSo 6 = .ok (.iload 6, 2) := by decide +kernel
theorem dX5_isSo_8 : decode cX5_isSo 8 = .ok (.aload_n 0, 1) := by decide +kernel
theorem dX5_isSo_9 : decode cX5_isSo 9 = .ok (.getfield 7, 3) := by decide +kernel
theorem dX5_isSo_12 : decode cX5_isSo 12 = .ok (.iload_n 1, 1) := by decide +kernel
theorem dX5_isSo_13 : decode cX5_isSo 13 = .ok (.iaload, 1) := by decide +kernel
theorem dX5_isSo_14 : decode cX5_isSo 14 = .ok (.if_icmp .ge 58, 3) := by decide +kernel
theorem dX5_isSo_17 : decode cX5_isSo 17 = .ok (.iload 5, 2) := by decide +kernel
theorem dX5_isSo_19 : decode cX5_isSo 19 = .ok (.ifCond .eq 44, 3) := by decide +kernel
theorem dX5_isSo_22 : decode cX5_isSo 22 = .ok (.aload_n 0, 1) := by decide +kernel
theorem dX5_isSo_23 : decode cX5_isSo 23 = .ok (.iload_n 2, 1) := by decide +kernel
theorem dX5_isSo_24 : decode cX5_isSo 24 = .ok (.iload_n 3, 1) := by decide +kernel
theorem dX5_isSo_25 : decode cX5_isSo 25 = .ok (.iload 4, 2) := by decide +kernel
theorem dX5_isSo_27 : decode cX5_isSo 27 = .ok (.aload_n 0, 1) := by decide +kernel
theorem dX5_isSo_28 : decode cX5_isSo 28 = .ok (.getfield 13, 3) := by decide +kernel
theorem dX5_isSo_31 : decode cX5_isSo 31 = .ok (.bipush 40, 2) := by decide +kernel
theorem dX5_isSo_33 : decode cX5_isSo 33 = .ok (.iload_n 1, 1) := by decide +kernel
theorem dX5_isSo_34 : decode cX5_isSo 34 = .ok (.imul, 1) := by decide +kernel
theorem dX5_isSo_35 : decode cX5_isSo 35 = .ok (.iload 6, 2) := by decide +kernel
theorem dX5_isSo_37 : decode cX5_isSo 37 = .ok (.iadd, 1) := by decide +kernel
theorem dX5_isSo_38 : decode cX5_isSo 38 = .ok (.iaload, 1) := by decide +kernel
theorem dX5_isSo_39 : decode cX5_isSo 39 = .ok (.invokevirtual 164, 3) := by decide +kernel
theorem dX5_isSo_42 : decode cX5_isSo 42 = .ok (.aload_n 0, 1) := by decide +kernel
theorem dX5_isSo_43 : decode cX5_isSo 43 = .ok (.getfield 13, 3) := by decide +kernel
theorem dX5_isSo_46 : decode cX5_isSo 46 = .ok (.bipush 40, 2) := by decide +kernel
theorem dX5_isSo_48 : decode cX5_isSo 48 = .ok (.iload_n 1, 1) := by decide +kernel
theorem dX5_isSo_49 : decode cX5_isSo 49 = .ok (.imul, 1) := by decide +kernel
theorem dX5_isSo_50 : decode cX5_isSo 50 = .ok (.iload 6, 2) := by decide +kernel
theorem dX5_isSo_52 : decode cX5_isSo 52 = .ok (.iadd, 1) := by decide +kernel
theorem dX5_isSo_53 : decode cX5_isSo 53 = .ok (.iconst 1, 1) := by decide +kernel
theorem dX5_isSo_54 : decode cX5_isSo 54 = .ok (.iadd, 1) := by decide +kernel
theorem dX5_isSo_55 : decode cX5_isSo 55 = .ok (.iaload, 1) := by decide +kernel
theorem dX5_isSo_56 : decode cX5_isSo 56 = .ok (.if_icmp .ne 7, 3) := by decide +kernel
theorem dX5_isSo_59 : decode cX5_isSo 59 = .ok (.iconst 1, 1) := by decide +kernel
theorem dX5_isSo_60 : decode cX5_isSo 60 = .ok (.goto 4, 3) := by decide +kernel
theorem dX5_isSo_63 : decode cX5_isSo 63 = .ok (.iconst 0, 1) := by decide +kernel
theorem dX5_isSo_64 : decode cX5_isSo 64 = .ok (.istore 5, 2) := by decide +kernel
theorem dX5_isSo_66 : decode cX5_isSo 66 = .ok (.iinc 6 2, 3) := by decide +kernel
theorem dX5_isSo_69 : decode cX5_isSo 69 = .ok (.goto (-63), 3) := by decide +kernel
theorem dX5_isSo_72 : decode cX5_isSo 72 = .ok (.iload 5, 2) := by decide +kernel
theorem dX5_isSo_74 : decode cX5_isSo 74 = .ok (.ireturn, 1) := by decide +kernel
theorem dX5_starts_0 : decode cX5_starts 0 = .ok (.aload_n 0, 1) := by decide +kernel
theorem dX5_starts_1 : decode cX5_starts 1 = .ok (.iload_n 1, 1) := by decide +kernel
theorem dX5_starts_2 : decode cX5_starts 2 = .ok (.invokevirtual 167, 3) := by decide +kernel
theorem dX5_starts_5 : decode cX5_starts 5 = .ok (.ifCond .eq 10, 3) := by decide +kernel
theorem dX5_starts_8 : decode cX5_starts 8 = .ok (.iload_n 2, 1) := by decide +kernel
theorem dX5_starts_9 : decode cX5_starts 9 = .ok (.invokestatic 90, 3) := by decide +kernel
theorem dX5_starts_12 : decode cX5_starts 12 = .ok (.ifCond .ne 5, 3) := by decide +kernel
theorem dX5_starts_15 : decode cX5_starts 15 = .ok (.iconst (-1), 1) := by decide +kernel
theorem dX5_starts_16 : decode cX5_starts 16 = .ok (.ireturn, 1) := by decide +kernel
theorem dX5_starts_17 : decode cX5_starts 17 = .ok (.aload_n 0, 1) := by decide +kernel
theorem dX5_starts_18 : decode cX5_starts 18 = .ok (.iload_n 2, 1) := by decide +kernel
theorem dX5_starts_19 : decode cX5_starts 19 = .ok (.invokevirtual 275, 3) := by decide +kernel
theorem dX5_starts_22 : decode cX5_starts 22 = .ok (.istore_n 3, 1) := by decide +kernel
theorem dX5_starts_23 : decode cX5_starts 23 = .ok (.iload_n 3, 1) := by decide +kernel
theorem dX5_starts_24 : decode cX5_starts 24 = .ok (.ifCond .eq 9, 3) := by decide +kernel
theorem dX5_starts_27 : decode cX5_starts 27 = .ok (.aload_n 0, 1) := by decide +kernel
theorem dX5_starts_28 : decode cX5_starts 28 = .ok (.iload_n 3, 1) := by decide +kernel
theorem dX5_starts_29 : decode cX5_starts 29 = .ok (.invokevirtual 94, 3) := by decide +kernel
theorem dX5_starts_32 : decode cX5_starts 32 = .ok (.ireturn, 1) := by decide +kernel
theorem dX5_starts_33 : decode cX5_starts 33 = .ok (.iconst 0, 1) := by decide +kernel
theorem dX5_starts_34 : decode cX5_starts 34 = .ok (.istore 4, 2) := by decide +kernel
theorem dX5_starts_36 : decode cX5_starts 36 = .ok (.iconst 0, 1) := by decide +kernel
theorem dX5_starts_37 : decode cX5_starts 37 = .ok (.istore 5, 2) := by decide +kernel
theorem dX5_starts_39 : decode cX5_starts 39 = .ok (.iload 5, 2) := by decide +kernel
theorem dX5_starts_41 : decode cX5_starts 41 = .ok (.bipush 8, 2) := by decide +kernel
theorem dX5_starts_43 : decode cX5_starts 43 = .ok (.if_icmp .ge 44, 3) := by decide +kernel
theorem dX5_starts_46 : decode cX5_starts 46 = .ok (.iload 4, 2) := by decide +kernel
theorem dX5_starts_48 : decode cX5_starts 48 = .ok (.aload_n 0, 1) := by decide +kernel
theorem dX5_starts_49 : decode cX5_starts 49 = .ok (.iload_n 2, 1) := by decide +kernel
theorem dX5_starts_50 : decode cX5_starts 50 = .ok (.aload_n 0, 1) := by decide +kernel
theorem dX5_starts_51 : decode cX5_starts 51 = .ok (.getfield 22, 3) := by decide +kernel
theorem dX5_starts_54 : decode cX5_starts 54 = .ok (.iload_n 1, 1) := by decide +kernel
theorem dX5_starts_55 : decode cX5_starts 55 = .ok (.iaload, 1) := by decide +kernel
theorem dX5_starts_56 : decode cX5_starts 56 = .ok (.aload_n 0, 1) := by decide +kernel
theorem dX5_starts_57 : decode cX5_starts 57 = .ok (.getfield 25, 3) := by decide +kernel
theorem dX5_starts_60 : decode cX5_starts 60 = .ok (.iload_n 1, 1) := by decide +kernel
theorem dX5_starts_61 : decode cX5_starts 61 = .ok (.iaload, 1) := by decide +kernel
theorem dX5_starts_62 : decode cX5_starts 62 = .ok (.iload 5, 2) := by decide +kernel
theorem dX5_starts_64 : decode cX5_starts 64 = .ok (.invokevirtual 278, 3) := by decide +kernel
theorem dX5_starts_67 : decode cX5_starts 67 = .ok (.ifCond .eq 10, 3) := by decide +kernel
theorem dX5_starts_70 : decode cX5_starts 70 = .ok (.iconst 1, 1) := by decide +kernel
theorem dX5_starts_71 : decode cX5_starts 71 = .ok (.iload 5, 2) := by decide +kernel
theorem dX5_starts_73 : decode cX5_starts 73 = .ok (.ishl, 1) := by decide +kernel
theorem dX5_starts_74 : decode cX5_starts 74 = .ok (.goto 4, 3) := by decide +kernel
theorem dX5_starts_77 : decode cX5_starts 77 = .ok (.iconst 0, 1) := by decide +kernel
theorem dX5_starts_78 : decode cX5_starts 78 = .ok (.ior, 1) := by decide +kernel
theorem dX5_starts_79 : decode cX5_starts 79 = .ok (.istore 4, 2) := by decide +kernel
theorem dX5_starts_81 : decode cX5_starts 81 = .ok (.iinc 5 1, 3) := by decide +kernel
theorem dX5_starts_84 : decode cX5_starts 84 = .ok (.goto (-45), 3) := by decide +kernel
theorem dX5_starts_87 : decode cX5_starts 87 = .ok (.iload 4, 2) := by decide +kernel
theorem dX5_starts_89 : decode cX5_starts 89 = .ok (.ireturn, 1) := by decide +kernel
theorem dX5_weights_0 : decode cX5_weights 0 = .ok (.aload_n 0, 1) := by decide +kernel
theorem dX5_weights_1 : decode cX5_weights 1 = .ok (.iload_n 1, 1) := by decide +kernel
theorem dX5_weights_2 : decode cX5_weights 2 = .ok (.invokevirtual 167, 3) := by decide +kernel
theorem dX5_weights_5 : decode cX5_weights 5 = .ok (.ifCond .eq 10, 3) := by decide +kernel
theorem dX5_weights_8 : decode cX5_weights 8 = .ok (.iload_n 2, 1) := by decide +kernel
theorem dX5_weights_9 : decode cX5_weights 9 = .ok (.invokestatic 90, 3) := by decide +kernel
theorem dX5_weights_12 : decode cX5_weights 12 = .ok (.ifCond .ne 5, 3) := by decide +kernel
theorem dX5_weights_15 : decode cX5_weights 15 = .ok (.iconst (-1), 1) := by decide +kernel
theorem dX5_weights_16 : decode cX5_weights 16 = .ok (.ireturn, 1) := by decide +kernel
theorem dX5_weights_17 : decode cX5_weights 17 = .ok (.aload_n 0, 1) := by decide +kernel
theorem dX5_weights_18 : decode cX5_weights 18 = .ok (.iload_n 2, 1) := by decide +kernel
theorem dX5_weights_19 : decode cX5_weights 19 = .ok (.invokevirtual 275, 3) := by decide +kernel
theorem dX5_weights_22 : decode cX5_weights 22 = .ok (.istore_n 3, 1) := by decide +kernel
theorem dX5_weights_23 : decode cX5_weights 23 = .ok (.iload_n 3, 1) := by decide +kernel
theorem dX5_weights_24 : decode cX5_weights 24 = .ok (.ifCond .eq 9, 3) := by decide +kernel
theorem dX5_weights_27 : decode cX5_weights 27 = .ok (.aload_n 0, 1) := by decide +kernel
theorem dX5_weights_28 : decode cX5_weights 28 = .ok (.iload_n 3, 1) := by decide +kernel
theorem dX5_weights_29 : decode cX5_weights 29 = .ok (.invokevirtual 94, 3) := by decide +kernel
theorem dX5_weights_32 : decode cX5_weights 32 = .ok (.ireturn, 1) := by decide +kernel
theorem dX5_weights_33 : decode cX5_weights 33 = .ok (.aload_n 0, 1) := by decide +kernel
theorem dX5_weights_34 : decode cX5_weights 34 = .ok (.iload_n 1, 1) := by decide +kernel
theorem dX5_weights_35 : decode cX5_weights 35 = .ok (.invokevirtual 179, 3) := by decide +kernel
theorem dX5_weights_38 : decode cX5_weights 38 = .ok (.ifCond .eq 6, 3) := by decide +kernel
theorem dX5_weights_41 : decode cX5_weights 41 = .ok (.bipush (-4), 2) := by decide +kernel
theorem dX5_weights_43 : decode cX5_weights 43 = .ok (.ireturn, 1) := by decide +kernel
theorem dX5_weights_44 : decode cX5_weights 44 = .ok (.iconst 0, 1) := by decide +kernel
theorem dX5_weights_45 : decode cX5_weights 45 = .ok (.istore 4, 2) := by decide +kernel
theorem dX5_weights_47 : decode cX5_weights 47 = .ok (.iconst 0, 1) := by decide +kernel
theorem dX5_weights_48 : decode cX5_weights 48 = .ok (.istore 5, 2) := by decide +kernel
theorem dX5_weights_50 : decode cX5_weights 50 = .ok (.iload 5, 2) := by decide +kernel
theorem dX5_weights_52 : decode cX5_weights 52 = .ok (.bipush 10, 2) := by decide +kernel
theorem dX5_weights_54 : decode cX5_weights 54 = .ok (.if_icmp .ge 46, 3) := by decide +kernel
theorem dX5_weights_57 : decode cX5_weights 57 = .ok (.iload 4, 2) := by decide +kernel
theorem dX5_weights_59 : decode cX5_weights 59 = .ok (.aload_n 0, 1) := by decide +kernel
theorem dX5_weights_60 : decode cX5_weights 60 = .ok (.iload_n 2, 1) := by decide +kernel
theorem dX5_weights_61 : decode cX5_weights 61 = .ok (.aload_n 0, 1) := by decide +kernel
theorem dX5_weights_62 : decode cX5_weights 62 = .ok (.getfield 22, 3) := by decide +kernel
theorem dX5_weights_65 : decode cX5_weights 65 = .ok (.iload_n 1, 1) := by decide +kernel
theorem dX5_weights_66 : decode cX5_weights 66 = .ok (.iaload, 1) := by decide +kernel
theorem dX5_weights_67 : decode cX5_weights 67 = .ok (.iload 5, 2) := by decide +kernel
theorem dX5_weights_69 : decode cX5_weights 69 = .ok (.aload_n 0, 1) := by decide +kernel
theorem dX5_weights_70 : decode cX5_weights 70 = .ok (.getfield 31, 3) := by decide +kernel
theorem dX5_weights_73 : decode cX5_weights 73 = .ok (.iconst 0, 1) := by decide +kernel
theorem dX5_weights_74 : decode cX5_weights 74 = .ok (.iload_n 1, 1) := by decide +kernel
theorem dX5_weights_75 : decode cX5_weights 75 = .ok (.iadd, 1) := by decide +kernel
theorem dX5_weights_76 : decode cX5_weights 76 = .ok (.iaload, 1) := by decide +kernel
theorem dX5_weights_77 : decode cX5_weights 77 = .ok (.invokevirtual 278, 3) := by decide +kernel
theorem dX5_weights_80 : decode cX5_weights 80 = .ok (.ifCond .eq 10, 3) := by decide +kernel
theorem dX5_weights_83 : decode cX5_weights 83 = .ok (.iconst 1, 1) := by decide +kernel
theorem dX5_weights_84 : decode cX5_weights 84 = .ok (.iload 5, 2) := by decide +kernel
theorem dX5_weights_86 : decode cX5_weights 86 = .ok (.ishl, 1) := by decide +kernel
theorem dX5_weights_87 : decode cX5_weights 87 = .ok (.goto 4, 3) := by decide +kernel
theorem dX5_weights_90 : decode cX5_weights 90 = .ok (.iconst 0, 1) := by decide +kernel
theorem dX5_weights_91 : decode cX5_weights 91 = .ok (.ior, 1) := by decide +kernel
theorem dX5_weights_92 : decode cX5_weights 92 = .ok (.istore 4, 2) := by decide +kernel
theorem dX5_weights_94 : decode cX5_weights 94 = .ok (.iinc 5 1, 3) := by decide +kernel
theorem dX5_weights_97 : decode cX5_weights 97 = .ok (.goto (-47), 3) := by decide +kernel
theorem dX5_weights_100 : decode cX5_weights 100 = .ok (.iload 4, 2) := by decide +kernel
theorem dX5_weights_102 : decode cX5_weights 102 = .ok (.ireturn, 1) := by decide +kernel
theorem dX5_kinds_0 : decode cX5_kinds 0 = .ok (.aload_n 0, 1) := by decide +kernel
theorem dX5_kinds_1 : decode cX5_kinds 1 = .ok (.iload_n 1, 1) := by decide +kernel
theorem dX5_kinds_2 : decode cX5_kinds 2 = .ok (.invokevirtual 167, 3) := by decide +kernel
theorem dX5_kinds_5 : decode cX5_kinds 5 = .ok (.ifCond .eq 10, 3) := by decide +kernel
theorem dX5_kinds_8 : decode cX5_kinds 8 = .ok (.iload_n 2, 1) := by decide +kernel
theorem dX5_kinds_9 : decode cX5_kinds 9 = .ok (.invokestatic 90, 3) := by decide +kernel
theorem dX5_kinds_12 : decode cX5_kinds 12 = .ok (.ifCond .ne 5, 3) := by decide +kernel
theorem dX5_kinds_15 : decode cX5_kinds 15 = .ok (.iconst (-1), 1) := by decide +kernel
theorem dX5_kinds_16 : decode cX5_kinds 16 = .ok (.ireturn, 1) := by decide +kernel
theorem dX5_kinds_17 : decode cX5_kinds 17 = .ok (.aload_n 0, 1) := by decide +kernel
theorem dX5_kinds_18 : decode cX5_kinds 18 = .ok (.iload_n 2, 1) := by decide +kernel
theorem dX5_kinds_19 : decode cX5_kinds 19 = .ok (.invokevirtual 275, 3) := by decide +kernel
theorem dX5_kinds_22 : decode cX5_kinds 22 = .ok (.istore_n 3, 1) := by decide +kernel
theorem dX5_kinds_23 : decode cX5_kinds 23 = .ok (.iload_n 3, 1) := by decide +kernel
theorem dX5_kinds_24 : decode cX5_kinds 24 = .ok (.ifCond .eq 9, 3) := by decide +kernel
theorem dX5_kinds_27 : decode cX5_kinds 27 = .ok (.aload_n 0, 1) := by decide +kernel
theorem dX5_kinds_28 : decode cX5_kinds 28 = .ok (.iload_n 3, 1) := by decide +kernel
theorem dX5_kinds_29 : decode cX5_kinds 29 = .ok (.invokevirtual 94, 3) := by decide +kernel
theorem dX5_kinds_32 : decode cX5_kinds 32 = .ok (.ireturn, 1) := by decide +kernel
theorem dX5_kinds_33 : decode cX5_kinds 33 = .ok (.aload_n 0, 1) := by decide +kernel
theorem dX5_kinds_34 : decode cX5_kinds 34 = .ok (.iload_n 1, 1) := by decide +kernel
theorem dX5_kinds_35 : decode cX5_kinds 35 = .ok (.invokevirtual 179, 3) := by decide +kernel
theorem dX5_kinds_38 : decode cX5_kinds 38 = .ok (.ifCond .eq 6, 3) := by decide +kernel
theorem dX5_kinds_41 : decode cX5_kinds 41 = .ok (.bipush (-4), 2) := by decide +kernel
theorem dX5_kinds_43 : decode cX5_kinds 43 = .ok (.ireturn, 1) := by decide +kernel
theorem dX5_kinds_44 : decode cX5_kinds 44 = .ok (.iconst 0, 1) := by decide +kernel
theorem dX5_kinds_45 : decode cX5_kinds 45 = .ok (.istore 4, 2) := by decide +kernel
theorem dX5_kinds_47 : decode cX5_kinds 47 = .ok (.iconst 0, 1) := by decide +kernel
theorem dX5_kinds_48 : decode cX5_kinds 48 = .ok (.istore 5, 2) := by decide +kernel
theorem dX5_kinds_50 : decode cX5_kinds 50 = .ok (.iload 5, 2) := by decide +kernel
theorem dX5_kinds_52 : decode cX5_kinds 52 = .ok (.bipush 6, 2) := by decide +kernel
theorem dX5_kinds_54 : decode cX5_kinds 54 = .ok (.if_icmp .ge 46, 3) := by decide +kernel
theorem dX5_kinds_57 : decode cX5_kinds 57 = .ok (.iload 4, 2) := by decide +kernel
theorem dX5_kinds_59 : decode cX5_kinds 59 = .ok (.aload_n 0, 1) := by decide +kernel
theorem dX5_kinds_60 : decode cX5_kinds 60 = .ok (.iload_n 2, 1) := by decide +kernel
theorem dX5_kinds_61 : decode cX5_kinds 61 = .ok (.iload 5, 2) := by decide +kernel
theorem dX5_kinds_63 : decode cX5_kinds 63 = .ok (.aload_n 0, 1) := by decide +kernel
theorem dX5_kinds_64 : decode cX5_kinds 64 = .ok (.getfield 25, 3) := by decide +kernel
theorem dX5_kinds_67 : decode cX5_kinds 67 = .ok (.iload_n 1, 1) := by decide +kernel
theorem dX5_kinds_68 : decode cX5_kinds 68 = .ok (.iaload, 1) := by decide +kernel
theorem dX5_kinds_69 : decode cX5_kinds 69 = .ok (.aload_n 0, 1) := by decide +kernel
theorem dX5_kinds_70 : decode cX5_kinds 70 = .ok (.getfield 31, 3) := by decide +kernel
theorem dX5_kinds_73 : decode cX5_kinds 73 = .ok (.iconst 0, 1) := by decide +kernel
theorem dX5_kinds_74 : decode cX5_kinds 74 = .ok (.iload_n 1, 1) := by decide +kernel
theorem dX5_kinds_75 : decode cX5_kinds 75 = .ok (.iadd, 1) := by decide +kernel
theorem dX5_kinds_76 : decode cX5_kinds 76 = .ok (.iaload, 1) := by decide +kernel
theorem dX5_kinds_77 : decode cX5_kinds 77 = .ok (.invokevirtual 278, 3) := by decide +kernel
theorem dX5_kinds_80 : decode cX5_kinds 80 = .ok (.ifCond .eq 10, 3) := by decide +kernel
theorem dX5_kinds_83 : decode cX5_kinds 83 = .ok (.iconst 1, 1) := by decide +kernel
theorem dX5_kinds_84 : decode cX5_kinds 84 = .ok (.iload 5, 2) := by decide +kernel
theorem dX5_kinds_86 : decode cX5_kinds 86 = .ok (.ishl, 1) := by decide +kernel
theorem dX5_kinds_87 : decode cX5_kinds 87 = .ok (.goto 4, 3) := by decide +kernel
theorem dX5_kinds_90 : decode cX5_kinds 90 = .ok (.iconst 0, 1) := by decide +kernel
theorem dX5_kinds_91 : decode cX5_kinds 91 = .ok (.ior, 1) := by decide +kernel
theorem dX5_kinds_92 : decode cX5_kinds 92 = .ok (.istore 4, 2) := by decide +kernel
theorem dX5_kinds_94 : decode cX5_kinds 94 = .ok (.iinc 5 1, 3) := by decide +kernel
theorem dX5_kinds_97 : decode cX5_kinds 97 = .ok (.goto (-47), 3) := by decide +kernel
theorem dX5_kinds_100 : decode cX5_kinds 100 = .ok (.iload 4, 2) := by decide +kernel
theorem dX5_kinds_102 : decode cX5_kinds 102 = .ok (.ireturn, 1) := by decide +kernel
theorem dX5_night_0 : decode cX5_night 0 = .ok (.aload_n 0, 1) := by decide +kernel
theorem dX5_night_1 : decode cX5_night 1 = .ok (.iload_n 1, 1) := by decide +kernel
theorem dX5_night_2 : decode cX5_night 2 = .ok (.invokevirtual 167, 3) := by decide +kernel
theorem dX5_night_5 : decode cX5_night 5 = .ok (.ifCond .eq 35, 3) := by decide +kernel
theorem dX5_night_8 : decode cX5_night 8 = .ok (.iload_n 2, 1) := by decide +kernel
theorem dX5_night_9 : decode cX5_night 9 = .ok (.invokestatic 191, 3) := by decide +kernel
theorem dX5_night_12 : decode cX5_night 12 = .ok (.ifCond .eq 28, 3) := by decide +kernel
theorem dX5_night_15 : decode cX5_night 15 = .ok (.iload_n 3, 1) := by decide +kernel
theorem dX5_night_16 : decode cX5_night 16 = .ok (.invokestatic 191, 3) := by decide +kernel
theorem dX5_night_19 : decode cX5_night 19 = .ok (.ifCond .eq 21, 3) := by decide +kernel
theorem dX5_night_22 : decode cX5_night 22 = .ok (.iload_n 2, 1) := by decide +kernel
theorem dX5_night_23 : decode cX5_night 23 = .ok (.iload_n 3, 1) := by decide +kernel
theorem dX5_night_24 : decode cX5_night 24 = .ok (.if_icmp .eq 16, 3) := by decide +kernel
theorem dX5_night_27 : decode cX5_night 27 = .ok (.iload 4, 2) := by decide +kernel
theorem dX5_night_29 : decode cX5_night 29 = .ok (.i2l, 1) := by decide +kernel
theorem dX5_night_30 : decode cX5_night 30 = .ok (.lconst 0, 1) := by decide +kernel
theorem dX5_night_31 : decode cX5_night 31 = .ok (.ldc2_w 88, 3) := by decide +kernel
theorem dX5_night_34 : decode cX5_night 34 = .ok (.invokestatic 84, 3) := by decide +kernel
theorem dX5_night_37 : decode cX5_night 37 = .ok (.ifCond .ne 5, 3) := by decide +kernel
theorem dX5_night_40 : decode cX5_night 40 = .ok (.iconst (-1), 1) := by decide +kernel
theorem dX5_night_41 : decode cX5_night 41 = .ok (.ireturn, 1) := by decide +kernel
theorem dX5_night_42 : decode cX5_night 42 = .ok (.aload_n 0, 1) := by decide +kernel
theorem dX5_night_43 : decode cX5_night 43 = .ok (.iload_n 1, 1) := by decide +kernel
theorem dX5_night_44 : decode cX5_night 44 = .ok (.invokevirtual 179, 3) := by decide +kernel
theorem dX5_night_47 : decode cX5_night 47 = .ok (.ifCond .eq 6, 3) := by decide +kernel
theorem dX5_night_50 : decode cX5_night 50 = .ok (.bipush (-4), 2) := by decide +kernel
theorem dX5_night_52 : decode cX5_night 52 = .ok (.ireturn, 1) := by decide +kernel
theorem dX5_night_53 : decode cX5_night 53 = .ok (.iconst 0, 1) := by decide +kernel
theorem dX5_night_54 : decode cX5_night 54 = .ok (.istore 5, 2) := by decide +kernel
theorem dX5_night_56 : decode cX5_night 56 = .ok (.iload 5, 2) := by decide +kernel
theorem dX5_night_58 : decode cX5_night 58 = .ok (.bipush 8, 2) := by decide +kernel
theorem dX5_night_60 : decode cX5_night 60 = .ok (.if_icmp .ge 31, 3) := by decide +kernel
theorem dX5_night_63 : decode cX5_night 63 = .ok (.aload_n 0, 1) := by decide +kernel
theorem dX5_night_64 : decode cX5_night 64 = .ok (.getfield 69, 3) := by decide +kernel
theorem dX5_night_67 : decode cX5_night 67 = .ok (.iload 5, 2) := by decide +kernel
theorem dX5_night_69 : decode cX5_night 69 = .ok (.iload 5, 2) := by decide +kernel
theorem dX5_night_71 : decode cX5_night 71 = .ok (.iload_n 2, 1) := by decide +kernel
theorem dX5_night_72 : decode cX5_night 72 = .ok (.isub, 1) := by decide +kernel
theorem dX5_night_73 : decode cX5_night 73 = .ok (.invokestatic 229, 3) := by decide +kernel
theorem dX5_night_76 : decode cX5_night 76 = .ok (.iload 5, 2) := by decide +kernel
theorem dX5_night_78 : decode cX5_night 78 = .ok (.iload_n 3, 1) := by decide +kernel
theorem dX5_night_79 : decode cX5_night 79 = .ok (.isub, 1) := by decide +kernel
theorem dX5_night_80 : decode cX5_night 80 = .ok (.invokestatic 229, 3) := by decide +kernel
theorem dX5_night_83 : decode cX5_night 83 = .ok (.isub, 1) := by decide +kernel
theorem dX5_night_84 : decode cX5_night 84 = .ok (.iastore, 1) := by decide +kernel
theorem dX5_night_85 : decode cX5_night 85 = .ok (.iinc 5 1, 3) := by decide +kernel
theorem dX5_night_88 : decode cX5_night 88 = .ok (.goto (-32), 3) := by decide +kernel
theorem dX5_night_91 : decode cX5_night 91 = .ok (.iconst 2, 1) := by decide +kernel
theorem dX5_night_92 : decode cX5_night 92 = .ok (.iload 4, 2) := by decide +kernel
theorem dX5_night_94 : decode cX5_night 94 = .ok (.imul, 1) := by decide +kernel
theorem dX5_night_95 : decode cX5_night 95 = .ok (.iconst 1, 1) := by decide +kernel
theorem dX5_night_96 : decode cX5_night 96 = .ok (.isub, 1) := by decide +kernel
theorem dX5_night_97 : decode cX5_night 97 = .ok (.istore 5, 2) := by decide +kernel
theorem dX5_night_99 : decode cX5_night 99 = .ok (.iload 5, 2) := by decide +kernel
theorem dX5_night_101 : decode cX5_night 101 = .ok (.ifCond .lt 160, 3) := by decide +kernel
theorem dX5_night_104 : decode cX5_night 104 = .ok (.iconst 0, 1) := by decide +kernel
theorem dX5_night_105 : decode cX5_night 105 = .ok (.istore 6, 2) := by decide +kernel
theorem dX5_night_107 : decode cX5_night 107 = .ok (.iload 6, 2) := by decide +kernel
theorem dX5_night_109 : decode cX5_night 109 = .ok (.bipush 8, 2) := by decide +kernel
theorem dX5_night_111 : decode cX5_night 111 = .ok (.if_icmp .ge 129, 3) := by decide +kernel
theorem dX5_night_114 : decode cX5_night 114 = .ok (.aload_n 0, 1) := by decide +kernel
theorem dX5_night_115 : decode cX5_night 115 = .ok (.getfield 69, 3) := by decide +kernel
theorem dX5_night_118 : decode cX5_night 118 = .ok (.iload 6, 2) := by decide +kernel
theorem dX5_night_120 : decode cX5_night 120 = .ok (.iconst 1, 1) := by decide +kernel
theorem dX5_night_121 : decode cX5_night 121 = .ok (.iadd, 1) := by decide +kernel
theorem dX5_night_122 : decode cX5_night 122 = .ok (.invokestatic 157, 3) := by decide +kernel
theorem dX5_night_125 : decode cX5_night 125 = .ok (.iaload, 1) := by decide +kernel
theorem dX5_night_126 : decode cX5_night 126 = .ok (.istore 7, 2) := by decide +kernel
theorem dX5_night_128 : decode cX5_night 128 = .ok (.aload_n 0, 1) := by decide +kernel
theorem dX5_night_129 : decode cX5_night 129 = .ok (.getfield 69, 3) := by decide +kernel
theorem dX5_night_132 : decode cX5_night 132 = .ok (.iload 6, 2) := by decide +kernel
theorem dX5_night_134 : decode cX5_night 134 = .ok (.iconst 1, 1) := by decide +kernel
theorem dX5_night_135 : decode cX5_night 135 = .ok (.isub, 1) := by decide +kernel
theorem dX5_night_136 : decode cX5_night 136 = .ok (.invokestatic 157, 3) := by decide +kernel
theorem dX5_night_139 : decode cX5_night 139 = .ok (.iaload, 1) := by decide +kernel
theorem dX5_night_140 : decode cX5_night 140 = .ok (.istore 8, 2) := by decide +kernel
theorem dX5_night_142 : decode cX5_night 142 = .ok (.aload_n 0, 1) := by decide +kernel
theorem dX5_night_143 : decode cX5_night 143 = .ok (.getfield 69, 3) := by decide +kernel
theorem dX5_night_146 : decode cX5_night 146 = .ok (.iload 6, 2) := by decide +kernel
theorem dX5_night_148 : decode cX5_night 148 = .ok (.iaload, 1) := by decide +kernel
theorem dX5_night_149 : decode cX5_night 149 = .ok (.istore 9, 2) := by decide +kernel
theorem dX5_night_151 : decode cX5_night 151 = .ok (.iload 5, 2) := by decide +kernel
theorem dX5_night_153 : decode cX5_night 153 = .ok (.iconst 2, 1) := by decide +kernel
theorem dX5_night_154 : decode cX5_night 154 = .ok (.irem, 1) := by decide +kernel
theorem dX5_night_155 : decode cX5_night 155 = .ok (.ifCond .ne 38, 3) := by decide +kernel
theorem dX5_night_158 : decode cX5_night 158 = .ok (.iload 7, 2) := by decide +kernel
theorem dX5_night_160 : decode cX5_night 160 = .ok (.iload 9, 2) := by decide +kernel
theorem dX5_night_162 : decode cX5_night 162 = .ok (.if_icmp .le 8, 3) := by decide +kernel
theorem dX5_night_165 : decode cX5_night 165 = .ok (.iload 7, 2) := by decide +kernel
theorem dX5_night_167 : decode cX5_night 167 = .ok (.goto 5, 3) := by decide +kernel
theorem dX5_night_170 : decode cX5_night 170 = .ok (.iload 9, 2) := by decide +kernel
theorem dX5_night_172 : decode cX5_night 172 = .ok (.istore 9, 2) := by decide +kernel
theorem dX5_night_174 : decode cX5_night 174 = .ok (.iload 8, 2) := by decide +kernel
theorem dX5_night_176 : decode cX5_night 176 = .ok (.iload 9, 2) := by decide +kernel
theorem dX5_night_178 : decode cX5_night 178 = .ok (.if_icmp .le 8, 3) := by decide +kernel
theorem dX5_night_181 : decode cX5_night 181 = .ok (.iload 8, 2) := by decide +kernel
theorem dX5_night_183 : decode cX5_night 183 = .ok (.goto 5, 3) := by decide +kernel
theorem dX5_night_186 : decode cX5_night 186 = .ok (.iload 9, 2) := by decide +kernel
theorem dX5_night_188 : decode cX5_night 188 = .ok (.istore 9, 2) := by decide +kernel
theorem dX5_night_190 : decode cX5_night 190 = .ok (.goto 35, 3) := by decide +kernel
theorem dX5_night_193 : decode cX5_night 193 = .ok (.iload 7, 2) := by decide +kernel
theorem dX5_night_195 : decode cX5_night 195 = .ok (.iload 9, 2) := by decide +kernel
theorem dX5_night_197 : decode cX5_night 197 = .ok (.if_icmp .ge 8, 3) := by decide +kernel
theorem dX5_night_200 : decode cX5_night 200 = .ok (.iload 7, 2) := by decide +kernel
theorem dX5_night_202 : decode cX5_night 202 = .ok (.goto 5, 3) := by decide +kernel
theorem dX5_night_205 : decode cX5_night 205 = .ok (.iload 9, 2) := by decide +kernel
theorem dX5_night_207 : decode cX5_night 207 = .ok (.istore 9, 2) := by decide +kernel
theorem dX5_night_209 : decode cX5_night 209 = .ok (.iload 8, 2) := by decide +kernel
theorem dX5_night_211 : decode cX5_night 211 = .ok (.iload 9, 2) := by decide +kernel
theorem dX5_night_213 : decode cX5_night 213 = .ok (.if_icmp .ge 8, 3) := by decide +kernel
theorem dX5_night_216 : decode cX5_night 216 = .ok (.iload 8, 2) := by decide +kernel
theorem dX5_night_218 : decode cX5_night 218 = .ok (.goto 5, 3) := by decide +kernel
theorem dX5_night_221 : decode cX5_night 221 = .ok (.iload 9, 2) := by decide +kernel
theorem dX5_night_223 : decode cX5_night 223 = .ok (.istore 9, 2) := by decide +kernel
theorem dX5_night_225 : decode cX5_night 225 = .ok (.aload_n 0, 1) := by decide +kernel
theorem dX5_night_226 : decode cX5_night 226 = .ok (.getfield 72, 3) := by decide +kernel
theorem dX5_night_229 : decode cX5_night 229 = .ok (.iload 6, 2) := by decide +kernel
theorem dX5_night_231 : decode cX5_night 231 = .ok (.iload 9, 2) := by decide +kernel
theorem dX5_night_233 : decode cX5_night 233 = .ok (.iastore, 1) := by decide +kernel
theorem dX5_night_234 : decode cX5_night 234 = .ok (.iinc 6 1, 3) := by decide +kernel
theorem dX5_night_237 : decode cX5_night 237 = .ok (.goto (-130), 3) := by decide +kernel
theorem dX5_night_240 : decode cX5_night 240 = .ok (.aload_n 0, 1) := by decide +kernel
theorem dX5_night_241 : decode cX5_night 241 = .ok (.getfield 72, 3) := by decide +kernel
theorem dX5_night_244 : decode cX5_night 244 = .ok (.iconst 0, 1) := by decide +kernel
theorem dX5_night_245 : decode cX5_night 245 = .ok (.aload_n 0, 1) := by decide +kernel
theorem dX5_night_246 : decode cX5_night 246 = .ok (.getfield 69, 3) := by decide +kernel
theorem dX5_night_249 : decode cX5_night 249 = .ok (.iconst 0, 1) := by decide +kernel
theorem dX5_night_250 : decode cX5_night 250 = .ok (.bipush 8, 2) := by decide +kernel
theorem dX5_night_252 : decode cX5_night 252 = .ok (.invokestatic 194, 3) := by decide +kernel
theorem dX5_night_255 : decode cX5_night 255 = .ok (.iinc 5 (-1), 3) := by decide +kernel
theorem dX5_night_258 : decode cX5_night 258 = .ok (.goto (-159), 3) := by decide +kernel
theorem dX5_night_261 : decode cX5_night 261 = .ok (.aload_n 0, 1) := by decide +kernel
theorem dX5_night_262 : decode cX5_night 262 = .ok (.aload_n 0, 1) := by decide +kernel
theorem dX5_night_263 : decode cX5_night 263 = .ok (.getfield 69, 3) := by decide +kernel
theorem dX5_night_266 : decode cX5_night 266 = .ok (.aload_n 0, 1) := by decide +kernel
theorem dX5_night_267 : decode cX5_night 267 = .ok (.getfield 31, 3) := by decide +kernel
theorem dX5_night_270 : decode cX5_night 270 = .ok (.iconst 0, 1) := by decide +kernel
theorem dX5_night_271 : decode cX5_night 271 = .ok (.iload_n 1, 1) := by decide +kernel
theorem dX5_night_272 : decode cX5_night 272 = .ok (.iadd, 1) := by decide +kernel
theorem dX5_night_273 : decode cX5_night 273 = .ok (.iaload, 1) := by decide +kernel
theorem dX5_night_274 : decode cX5_night 274 = .ok (.iaload, 1) := by decide +kernel
theorem dX5_night_275 : decode cX5_night 275 = .ok (.invokevirtual 98, 3) := by decide +kernel
theorem dX5_night_278 : decode cX5_night 278 = .ok (.ireturn, 1) := by decide +kernel
theorem dX5_fraction_0 : decode cX5_fraction 0 = .ok (.lload_n 1, 1) := by decide +kernel
theorem dX5_fraction_1 : decode cX5_fraction 1 = .ok (.lstore 5, 2) := by decide +kernel
theorem dX5_fraction_3 : decode cX5_fraction 3 = .ok (.lload_n 3, 1) := by decide +kernel
theorem dX5_fraction_4 : decode cX5_fraction 4 = .ok (.lstore 7, 2) := by decide +kernel
theorem dX5_fraction_6 : decode cX5_fraction 6 = .ok (.lload 7, 2) := by decide +kernel
theorem dX5_fraction_8 : decode cX5_fraction 8 = .ok (.lconst 0, 1) := by decide +kernel
theorem dX5_fraction_9 : decode cX5_fraction 9 = .ok (.lcmp, 1) := by decide +kernel
theorem dX5_fraction_10 : decode cX5_fraction 10 = .ok (.ifCond .eq 21, 3) := by decide +kernel
theorem dX5_fraction_13 : decode cX5_fraction 13 = .ok (.lload 5, 2) := by decide +kernel
theorem dX5_fraction_15 : decode cX5_fraction 15 = .ok (.lload 7, 2) := by decide +kernel
theorem dX5_fraction_17 : decode cX5_fraction 17 = .ok (.lrem, 1) := by decide +kernel
theorem dX5_fraction_18 : decode cX5_fraction 18 = .ok (.lstore 9, 2) := by decide +kernel
theorem dX5_fraction_20 : decode cX5_fraction 20 = .ok (.lload 7, 2) := by decide +kernel
theorem dX5_fraction_22 : decode cX5_fraction 22 = .ok (.lstore 5, 2) := by decide +kernel
theorem dX5_fraction_24 : decode cX5_fraction 24 = .ok (.lload 9, 2) := by decide +kernel
theorem dX5_fraction_26 : decode cX5_fraction 26 = .ok (.lstore 7, 2) := by decide +kernel
theorem dX5_fraction_28 : decode cX5_fraction 28 = .ok (.goto (-22), 3) := by decide +kernel
theorem dX5_fraction_31 : decode cX5_fraction 31 = .ok (.aload_n 0, 1) := by decide +kernel
theorem dX5_fraction_32 : decode cX5_fraction 32 = .ok (.lload_n 1, 1) := by decide +kernel
theorem dX5_fraction_33 : decode cX5_fraction 33 = .ok (.lload 5, 2) := by decide +kernel
theorem dX5_fraction_35 : decode cX5_fraction 35 = .ok (.ldiv, 1) := by decide +kernel
theorem dX5_fraction_36 : decode cX5_fraction 36 = .ok (.putfield 282, 3) := by decide +kernel
theorem dX5_fraction_39 : decode cX5_fraction 39 = .ok (.aload_n 0, 1) := by decide +kernel
theorem dX5_fraction_40 : decode cX5_fraction 40 = .ok (.lload_n 3, 1) := by decide +kernel
theorem dX5_fraction_41 : decode cX5_fraction 41 = .ok (.lload 5, 2) := by decide +kernel
