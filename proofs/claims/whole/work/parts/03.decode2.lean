theorem dX4_stand_88 : decode cX4_stand 88 = .ok (.iload_n 1, 1) := by decide +kernel
theorem dX4_stand_89 : decode cX4_stand 89 = .ok (.iaload, 1) := by decide +kernel
theorem dX4_stand_90 : decode cX4_stand 90 = .ok (.aload_n 0, 1) := by decide +kernel
theorem dX4_stand_91 : decode cX4_stand 91 = .ok (.getfield 49, 3) := by decide +kernel
theorem dX4_stand_94 : decode cX4_stand 94 = .ok (.getfield 201, 3) := by decide +kernel
theorem dX4_stand_97 : decode cX4_stand 97 = .ok (.iload_n 3, 1) := by decide +kernel
theorem dX4_stand_98 : decode cX4_stand 98 = .ok (.iaload, 1) := by decide +kernel
theorem dX4_stand_99 : decode cX4_stand 99 = .ok (.iastore, 1) := by decide +kernel
theorem dX4_stand_100 : decode cX4_stand 100 = .ok (.aload_n 0, 1) := by decide +kernel
theorem dX4_stand_101 : decode cX4_stand 101 = .ok (.getfield 14, 3) := by decide +kernel
theorem dX4_stand_104 : decode cX4_stand 104 = .ok (.iload_n 1, 1) := by decide +kernel
theorem dX4_stand_105 : decode cX4_stand 105 = .ok (.dup2, 1) := by decide +kernel
theorem dX4_stand_106 : decode cX4_stand 106 = .ok (.iaload, 1) := by decide +kernel
theorem dX4_stand_107 : decode cX4_stand 107 = .ok (.iconst 1, 1) := by decide +kernel
theorem dX4_stand_108 : decode cX4_stand 108 = .ok (.iadd, 1) := by decide +kernel
theorem dX4_stand_109 : decode cX4_stand 109 = .ok (.iastore, 1) := by decide +kernel
theorem dX4_stand_110 : decode cX4_stand 110 = .ok (.iinc 3 1, 3) := by decide +kernel
theorem dX4_stand_113 : decode cX4_stand 113 = .ok (.goto (-60), 3) := by decide +kernel
theorem dX4_stand_116 : decode cX4_stand 116 = .ok (.iload_n 2, 1) := by decide +kernel
theorem dX4_stand_117 : decode cX4_stand 117 = .ok (.ireturn, 1) := by decide +kernel
theorem dX4_level_0 : decode cX4_level 0 = .ok (.iload_n 1, 1) := by decide +kernel
theorem dX4_level_1 : decode cX4_level 1 = .ok (.ifCond .lt 9, 3) := by decide +kernel
theorem dX4_level_4 : decode cX4_level 4 = .ok (.iload_n 1, 1) := by decide +kernel
theorem dX4_level_5 : decode cX4_level 5 = .ok (.bipush 9, 2) := by decide +kernel
theorem dX4_level_7 : decode cX4_level 7 = .ok (.if_icmp .le 5, 3) := by decide +kernel
theorem dX4_level_10 : decode cX4_level 10 = .ok (.iconst (-1), 1) := by decide +kernel
theorem dX4_level_11 : decode cX4_level 11 = .ok (.ireturn, 1) := by decide +kernel
theorem dX4_level_12 : decode cX4_level 12 = .ok (.aload_n 0, 1) := by decide +kernel
theorem dX4_level_13 : decode cX4_level 13 = .ok (.getfield 42, 3) := by decide +kernel
theorem dX4_level_16 : decode cX4_level 16 = .ok (.getfield 118, 3) := by decide +kernel
theorem dX4_level_19 : decode cX4_level 19 = .ok (.ifCond .ne 6, 3) := by decide +kernel
theorem dX4_level_22 : decode cX4_level 22 = .ok (.bipush (-4), 2) := by decide +kernel
theorem dX4_level_24 : decode cX4_level 24 = .ok (.ireturn, 1) := by decide +kernel
theorem dX4_level_25 : decode cX4_level 25 = .ok (.aload_n 0, 1) := by decide +kernel
theorem dX4_level_26 : decode cX4_level 26 = .ok (.getfield 56, 3) := by decide +kernel
theorem dX4_level_29 : decode cX4_level 29 = .ok (.iload_n 1, 1) := by decide +kernel
theorem dX4_level_30 : decode cX4_level 30 = .ok (.invokevirtual 204, 3) := by decide +kernel
theorem dX4_level_33 : decode cX4_level 33 = .ok (.aload_n 0, 1) := by decide +kernel
theorem dX4_level_34 : decode cX4_level 34 = .ok (.getfield 56, 3) := by decide +kernel
theorem dX4_level_37 : decode cX4_level 37 = .ok (.getfield 207, 3) := by decide +kernel
theorem dX4_level_40 : decode cX4_level 40 = .ok (.aload_n 0, 1) := by decide +kernel
theorem dX4_level_41 : decode cX4_level 41 = .ok (.getfield 42, 3) := by decide +kernel
theorem dX4_level_44 : decode cX4_level 44 = .ok (.getfield 154, 3) := by decide +kernel
theorem dX4_level_47 : decode cX4_level 47 = .ok (.iaload, 1) := by decide +kernel
theorem dX4_level_48 : decode cX4_level 48 = .ok (.istore_n 2, 1) := by decide +kernel
theorem dX4_level_49 : decode cX4_level 49 = .ok (.iload_n 2, 1) := by decide +kernel
theorem dX4_level_50 : decode cX4_level 50 = .ok (.bipush 9, 2) := by decide +kernel
theorem dX4_level_52 : decode cX4_level 52 = .ok (.if_icmp .le 6, 3) := by decide +kernel
theorem dX4_level_55 : decode cX4_level 55 = .ok (.bipush (-9), 2) := by decide +kernel
theorem dX4_level_57 : decode cX4_level 57 = .ok (.ireturn, 1) := by decide +kernel
theorem dX4_level_58 : decode cX4_level 58 = .ok (.aload_n 0, 1) := by decide +kernel
theorem dX4_level_59 : decode cX4_level 59 = .ok (.aload_n 0, 1) := by decide +kernel
theorem dX4_level_60 : decode cX4_level 60 = .ok (.getfield 56, 3) := by decide +kernel
theorem dX4_level_63 : decode cX4_level 63 = .ok (.aload_n 0, 1) := by decide +kernel
theorem dX4_level_64 : decode cX4_level 64 = .ok (.getfield 42, 3) := by decide +kernel
theorem dX4_level_67 : decode cX4_level 67 = .ok (.getfield 154, 3) := by decide +kernel
theorem dX4_level_70 : decode cX4_level 70 = .ok (.invokevirtual 210, 3) := by decide +kernel
theorem dX4_level_73 : decode cX4_level 73 = .ok (.invokevirtual 91, 3) := by decide +kernel
theorem dX4_level_76 : decode cX4_level 76 = .ok (.pop, 1) := by decide +kernel
theorem dX4_level_77 : decode cX4_level 77 = .ok (.iload_n 2, 1) := by decide +kernel
theorem dX4_level_78 : decode cX4_level 78 = .ok (.ireturn, 1) := by decide +kernel
theorem dX4_home_0 : decode cX4_home 0 = .ok (.aload_n 0, 1) := by decide +kernel
theorem dX4_home_1 : decode cX4_home 1 = .ok (.getfield 42, 3) := by decide +kernel
theorem dX4_home_4 : decode cX4_home 4 = .ok (.iload_n 1, 1) := by decide +kernel
theorem dX4_home_5 : decode cX4_home 5 = .ok (.invokevirtual 121, 3) := by decide +kernel
theorem dX4_home_8 : decode cX4_home 8 = .ok (.ifCond .ne 5, 3) := by decide +kernel
theorem dX4_home_11 : decode cX4_home 11 = .ok (.iconst (-1), 1) := by decide +kernel
theorem dX4_home_12 : decode cX4_home 12 = .ok (.ireturn, 1) := by decide +kernel
theorem dX4_home_13 : decode cX4_home 13 = .ok (.aload_n 0, 1) := by decide +kernel
theorem dX4_home_14 : decode cX4_home 14 = .ok (.getfield 42, 3) := by decide +kernel
theorem dX4_home_17 : decode cX4_home 17 = .ok (.iload_n 1, 1) := by decide +kernel
theorem dX4_home_18 : decode cX4_home 18 = .ok (.invokevirtual 184, 3) := by decide +kernel
theorem dX4_home_21 : decode cX4_home 21 = .ok (.ifCond .eq 6, 3) := by decide +kernel
theorem dX4_home_24 : decode cX4_home 24 = .ok (.bipush (-4), 2) := by decide +kernel
theorem dX4_home_26 : decode cX4_home 26 = .ok (.ireturn, 1) := by decide +kernel
theorem dX4_home_27 : decode cX4_home 27 = .ok (.aload_n 0, 1) := by decide +kernel
theorem dX4_home_28 : decode cX4_home 28 = .ok (.iload_n 1, 1) := by decide +kernel
theorem dX4_home_29 : decode cX4_home 29 = .ok (.bipush (-9), 2) := by decide +kernel
theorem dX4_home_31 : decode cX4_home 31 = .ok (.invokevirtual 213, 3) := by decide +kernel
theorem dX4_home_34 : decode cX4_home 34 = .ok (.ireturn, 1) := by decide +kernel
theorem dX4_stops_0 : decode cX4_stops 0 = .ok (.aload_n 0, 1) := by decide +kernel
theorem dX4_stops_1 : decode cX4_stops 1 = .ok (.getfield 42, 3) := by decide +kernel
theorem dX4_stops_4 : decode cX4_stops 4 = .ok (.iload_n 1, 1) := by decide +kernel
theorem dX4_stops_5 : decode cX4_stops 5 = .ok (.invokevirtual 121, 3) := by decide +kernel
theorem dX4_stops_8 : decode cX4_stops 8 = .ok (.ifCond .ne 5, 3) := by decide +kernel
theorem dX4_stops_11 : decode cX4_stops 11 = .ok (.iconst (-1), 1) := by decide +kernel
theorem dX4_stops_12 : decode cX4_stops 12 = .ok (.ireturn, 1) := by decide +kernel
theorem dX4_stops_13 : decode cX4_stops 13 = .ok (.aload_n 0, 1) := by decide +kernel
theorem dX4_stops_14 : decode cX4_stops 14 = .ok (.getfield 42, 3) := by decide +kernel
theorem dX4_stops_17 : decode cX4_stops 17 = .ok (.iload_n 1, 1) := by decide +kernel
theorem dX4_stops_18 : decode cX4_stops 18 = .ok (.invokevirtual 184, 3) := by decide +kernel
theorem dX4_stops_21 : decode cX4_stops 21 = .ok (.ifCond .eq 6, 3) := by decide +kernel
theorem dX4_stops_24 : decode cX4_stops 24 = .ok (.bipush (-4), 2) := by decide +kernel
theorem dX4_stops_26 : decode cX4_stops 26 = .ok (.ireturn, 1) := by decide +kernel
theorem dX4_stops_27 : decode cX4_stops 27 = .ok (.aload_n 0, 1) := by decide +kernel
theorem dX4_stops_28 : decode cX4_stops 28 = .ok (.iload_n 1, 1) := by decide +kernel
theorem dX4_stops_29 : decode cX4_stops 29 = .ok (.bipush (-9), 2) := by decide +kernel
theorem dX4_stops_31 : decode cX4_stops 31 = .ok (.invokevirtual 213, 3) := by decide +kernel
theorem dX4_stops_34 : decode cX4_stops 34 = .ok (.bipush (-9), 2) := by decide +kernel
theorem dX4_stops_36 : decode cX4_stops 36 = .ok (.if_icmp .eq 5, 3) := by decide +kernel
theorem dX4_stops_39 : decode cX4_stops 39 = .ok (.iconst 0, 1) := by decide +kernel
theorem dX4_stops_40 : decode cX4_stops 40 = .ok (.ireturn, 1) := by decide +kernel
theorem dX4_stops_41 : decode cX4_stops 41 = .ok (.iconst 0, 1) := by decide +kernel
theorem dX4_stops_42 : decode cX4_stops 42 = .ok (.istore_n 2, 1) := by decide +kernel
theorem dX4_stops_43 : decode cX4_stops 43 = .ok (.iconst 0, 1) := by decide +kernel
theorem dX4_stops_44 : decode cX4_stops 44 = .ok (.istore_n 3, 1) := by decide +kernel
theorem dX4_stops_45 : decode cX4_stops 45 = .ok (.iload_n 3, 1) := by decide +kernel
theorem dX4_stops_46 : decode cX4_stops 46 = .ok (.aload_n 0, 1) := by decide +kernel
theorem dX4_stops_47 : decode cX4_stops 47 = .ok (.getfield 42, 3) := by decide +kernel
theorem dX4_stops_50 : decode cX4_stops 50 = .ok (.getfield 118, 3) := by decide +kernel
theorem dX4_stops_53 : decode cX4_stops 53 = .ok (.if_icmp .ge 42, 3) := by decide +kernel
theorem dX4_stops_56 : decode cX4_stops 56 = .ok (.iload_n 3, 1) := by decide +kernel
theorem dX4_stops_57 : decode cX4_stops 57 = .ok (.iload_n 1, 1) := by decide +kernel
theorem dX4_stops_58 : decode cX4_stops 58 = .ok (.if_icmp .eq 31, 3) := by decide +kernel
theorem dX4_stops_61 : decode cX4_stops 61 = .ok (.aload_n 0, 1) := by decide +kernel
theorem dX4_stops_62 : decode cX4_stops 62 = .ok (.getfield 42, 3) := by decide +kernel
theorem dX4_stops_65 : decode cX4_stops 65 = .ok (.iload_n 3, 1) := by decide +kernel
theorem dX4_stops_66 : decode cX4_stops 66 = .ok (.invokevirtual 184, 3) := by decide +kernel
theorem dX4_stops_69 : decode cX4_stops 69 = .ok (.ifCond .ne 20, 3) := by decide +kernel
theorem dX4_stops_72 : decode cX4_stops 72 = .ok (.aload_n 0, 1) := by decide +kernel
theorem dX4_stops_73 : decode cX4_stops 73 = .ok (.iload_n 1, 1) := by decide +kernel
theorem dX4_stops_74 : decode cX4_stops 74 = .ok (.iload_n 3, 1) := by decide +kernel
theorem dX4_stops_75 : decode cX4_stops 75 = .ok (.invokevirtual 213, 3) := by decide +kernel
theorem dX4_stops_78 : decode cX4_stops 78 = .ok (.bipush (-9), 2) := by decide +kernel
theorem dX4_stops_80 : decode cX4_stops 80 = .ok (.if_icmp .eq 9, 3) := by decide +kernel
theorem dX4_stops_83 : decode cX4_stops 83 = .ok (.iload_n 2, 1) := by decide +kernel
theorem dX4_stops_84 : decode cX4_stops 84 = .ok (.iconst 1, 1) := by decide +kernel
theorem dX4_stops_85 : decode cX4_stops 85 = .ok (.iload_n 3, 1) := by decide +kernel
theorem dX4_stops_86 : decode cX4_stops 86 = .ok (.ishl, 1) := by decide +kernel
theorem dX4_stops_87 : decode cX4_stops 87 = .ok (.ior, 1) := by decide +kernel
theorem dX4_stops_88 : decode cX4_stops 88 = .ok (.istore_n 2, 1) := by decide +kernel
theorem dX4_stops_89 : decode cX4_stops 89 = .ok (.iinc 3 1, 3) := by decide +kernel
theorem dX4_stops_92 : decode cX4_stops 92 = .ok (.goto (-47), 3) := by decide +kernel
theorem dX4_stops_95 : decode cX4_stops 95 = .ok (.iload_n 2, 1) := by decide +kernel
theorem dX4_stops_96 : decode cX4_stops 96 = .ok (.ireturn, 1) := by decide +kernel
theorem dX4_starts_0 : decode cX4_starts 0 = .ok (.aload_n 0, 1) := by decide +kernel
theorem dX4_starts_1 : decode cX4_starts 1 = .ok (.getfield 42, 3) := by decide +kernel
theorem dX4_starts_4 : decode cX4_starts 4 = .ok (.iload_n 1, 1) := by decide +kernel
theorem dX4_starts_5 : decode cX4_starts 5 = .ok (.invokevirtual 121, 3) := by decide +kernel
theorem dX4_starts_8 : decode cX4_starts 8 = .ok (.ifCond .eq 10, 3) := by decide +kernel
theorem dX4_starts_11 : decode cX4_starts 11 = .ok (.iload_n 2, 1) := by decide +kernel
theorem dX4_starts_12 : decode cX4_starts 12 = .ok (.invokestatic 83, 3) := by decide +kernel
theorem dX4_starts_15 : decode cX4_starts 15 = .ok (.ifCond .ne 5, 3) := by decide +kernel
theorem dX4_starts_18 : decode cX4_starts 18 = .ok (.iconst (-1), 1) := by decide +kernel
theorem dX4_starts_19 : decode cX4_starts 19 = .ok (.ireturn, 1) := by decide +kernel
theorem dX4_starts_20 : decode cX4_starts 20 = .ok (.aload_n 0, 1) := by decide +kernel
theorem dX4_starts_21 : decode cX4_starts 21 = .ok (.iload_n 2, 1) := by decide +kernel
theorem dX4_starts_22 : decode cX4_starts 22 = .ok (.invokevirtual 216, 3) := by decide +kernel
theorem dX4_starts_25 : decode cX4_starts 25 = .ok (.istore_n 3, 1) := by decide +kernel
theorem dX4_starts_26 : decode cX4_starts 26 = .ok (.iload_n 3, 1) := by decide +kernel
theorem dX4_starts_27 : decode cX4_starts 27 = .ok (.ifCond .eq 9, 3) := by decide +kernel
theorem dX4_starts_30 : decode cX4_starts 30 = .ok (.aload_n 0, 1) := by decide +kernel
theorem dX4_starts_31 : decode cX4_starts 31 = .ok (.iload_n 3, 1) := by decide +kernel
theorem dX4_starts_32 : decode cX4_starts 32 = .ok (.invokevirtual 87, 3) := by decide +kernel
theorem dX4_starts_35 : decode cX4_starts 35 = .ok (.ireturn, 1) := by decide +kernel
theorem dX4_starts_36 : decode cX4_starts 36 = .ok (.iconst 0, 1) := by decide +kernel
theorem dX4_starts_37 : decode cX4_starts 37 = .ok (.istore 4, 2) := by decide +kernel
theorem dX4_starts_39 : decode cX4_starts 39 = .ok (.iconst 0, 1) := by decide +kernel
theorem dX4_starts_40 : decode cX4_starts 40 = .ok (.istore 5, 2) := by decide +kernel
theorem dX4_starts_42 : decode cX4_starts 42 = .ok (.iload 5, 2) := by decide +kernel
theorem dX4_starts_44 : decode cX4_starts 44 = .ok (.bipush 8, 2) := by decide +kernel
theorem dX4_starts_46 : decode cX4_starts 46 = .ok (.if_icmp .ge 46, 3) := by decide +kernel
theorem dX4_starts_49 : decode cX4_starts 49 = .ok (.aload_n 0, 1) := by decide +kernel
theorem dX4_starts_50 : decode cX4_starts 50 = .ok (.aload_n 0, 1) := by decide +kernel
theorem dX4_starts_51 : decode cX4_starts 51 = .ok (.getfield 42, 3) := by decide +kernel
theorem dX4_starts_54 : decode cX4_starts 54 = .ok (.getfield 128, 3) := by decide +kernel
theorem dX4_starts_57 : decode cX4_starts 57 = .ok (.iload_n 1, 1) := by decide +kernel
theorem dX4_starts_58 : decode cX4_starts 58 = .ok (.iaload, 1) := by decide +kernel
theorem dX4_starts_59 : decode cX4_starts 59 = .ok (.aload_n 0, 1) := by decide +kernel
theorem dX4_starts_60 : decode cX4_starts 60 = .ok (.getfield 42, 3) := by decide +kernel
theorem dX4_starts_63 : decode cX4_starts 63 = .ok (.getfield 219, 3) := by decide +kernel
theorem dX4_starts_66 : decode cX4_starts 66 = .ok (.iload_n 1, 1) := by decide +kernel
theorem dX4_starts_67 : decode cX4_starts 67 = .ok (.iaload, 1) := by decide +kernel
theorem dX4_starts_68 : decode cX4_starts 68 = .ok (.iload 5, 2) := by decide +kernel
theorem dX4_starts_70 : decode cX4_starts 70 = .ok (.iload_n 2, 1) := by decide +kernel
theorem dX4_starts_71 : decode cX4_starts 71 = .ok (.invokevirtual 222, 3) := by decide +kernel
theorem dX4_starts_74 : decode cX4_starts 74 = .ok (.ifCond .eq 12, 3) := by decide +kernel
theorem dX4_starts_77 : decode cX4_starts 77 = .ok (.iload 4, 2) := by decide +kernel
theorem dX4_starts_79 : decode cX4_starts 79 = .ok (.iconst 1, 1) := by decide +kernel
theorem dX4_starts_80 : decode cX4_starts 80 = .ok (.iload 5, 2) := by decide +kernel
theorem dX4_starts_82 : decode cX4_starts 82 = .ok (.ishl, 1) := by decide +kernel
theorem dX4_starts_83 : decode cX4_starts 83 = .ok (.ior, 1) := by decide +kernel
theorem dX4_starts_84 : decode cX4_starts 84 = .ok (.istore 4, 2) := by decide +kernel
theorem dX4_starts_86 : decode cX4_starts 86 = .ok (.iinc 5 1, 3) := by decide +kernel
theorem dX4_starts_89 : decode cX4_starts 89 = .ok (.goto (-47), 3) := by decide +kernel
theorem dX4_starts_92 : decode cX4_starts 92 = .ok (.iload 4, 2) := by decide +kernel
theorem dX4_starts_94 : decode cX4_starts 94 = .ok (.ireturn, 1) := by decide +kernel
theorem dX4_weights_0 : decode cX4_weights 0 = .ok (.aload_n 0, 1) := by decide +kernel
theorem dX4_weights_1 : decode cX4_weights 1 = .ok (.getfield 42, 3) := by decide +kernel
theorem dX4_weights_4 : decode cX4_weights 4 = .ok (.iload_n 1, 1) := by decide +kernel
theorem dX4_weights_5 : decode cX4_weights 5 = .ok (.invokevirtual 121, 3) := by decide +kernel
theorem dX4_weights_8 : decode cX4_weights 8 = .ok (.ifCond .eq 10, 3) := by decide +kernel
theorem dX4_weights_11 : decode cX4_weights 11 = .ok (.iload_n 2, 1) := by decide +kernel
theorem dX4_weights_12 : decode cX4_weights 12 = .ok (.invokestatic 83, 3) := by decide +kernel
theorem dX4_weights_15 : decode cX4_weights 15 = .ok (.ifCond .ne 5, 3) := by decide +kernel
theorem dX4_weights_18 : decode cX4_weights 18 = .ok (.iconst (-1), 1) := by decide +kernel
theorem dX4_weights_19 : decode cX4_weights 19 = .ok (.ireturn, 1) := by decide +kernel
theorem dX4_weights_20 : decode cX4_weights 20 = .ok (.aload_n 0, 1) := by decide +kernel
theorem dX4_weights_21 : decode cX4_weights 21 = .ok (.iload_n 2, 1) := by decide +kernel
theorem dX4_weights_22 : decode cX4_weights 22 = .ok (.invokevirtual 216, 3) := by decide +kernel
theorem dX4_weights_25 : decode cX4_weights 25 = .ok (.istore_n 3, 1) := by decide +kernel
theorem dX4_weights_26 : decode cX4_weights 26 = .ok (.iload_n 3, 1) := by decide +kernel
theorem dX4_weights_27 : decode cX4_weights 27 = .ok (.ifCond .eq 9, 3) := by decide +kernel
theorem dX4_weights_30 : decode cX4_weights 30 = .ok (.aload_n 0, 1) := by decide +kernel
theorem dX4_weights_31 : decode cX4_weights 31 = .ok (.iload_n 3, 1) := by decide +kernel
theorem dX4_weights_32 : decode cX4_weights 32 = .ok (.invokevirtual 87, 3) := by decide +kernel
theorem dX4_weights_35 : decode cX4_weights 35 = .ok (.ireturn, 1) := by decide +kernel
theorem dX4_weights_36 : decode cX4_weights 36 = .ok (.aload_n 0, 1) := by decide +kernel
theorem dX4_weights_37 : decode cX4_weights 37 = .ok (.getfield 42, 3) := by decide +kernel
theorem dX4_weights_40 : decode cX4_weights 40 = .ok (.iload_n 1, 1) := by decide +kernel
theorem dX4_weights_41 : decode cX4_weights 41 = .ok (.invokevirtual 184, 3) := by decide +kernel
theorem dX4_weights_44 : decode cX4_weights 44 = .ok (.ifCond .eq 6, 3) := by decide +kernel
theorem dX4_weights_47 : decode cX4_weights 47 = .ok (.bipush (-4), 2) := by decide +kernel
theorem dX4_weights_49 : decode cX4_weights 49 = .ok (.ireturn, 1) := by decide +kernel
theorem dX4_weights_50 : decode cX4_weights 50 = .ok (.iconst 0, 1) := by decide +kernel
theorem dX4_weights_51 : decode cX4_weights 51 = .ok (.istore 4, 2) := by decide +kernel
theorem dX4_weights_53 : decode cX4_weights 53 = .ok (.iconst 0, 1) := by decide +kernel
theorem dX4_weights_54 : decode cX4_weights 54 = .ok (.istore 5, 2) := by decide +kernel
theorem dX4_weights_56 : decode cX4_weights 56 = .ok (.iload 5, 2) := by decide +kernel
theorem dX4_weights_58 : decode cX4_weights 58 = .ok (.bipush 10, 2) := by decide +kernel
theorem dX4_weights_60 : decode cX4_weights 60 = .ok (.if_icmp .ge 46, 3) := by decide +kernel
theorem dX4_weights_63 : decode cX4_weights 63 = .ok (.aload_n 0, 1) := by decide +kernel
theorem dX4_weights_64 : decode cX4_weights 64 = .ok (.aload_n 0, 1) := by decide +kernel
theorem dX4_weights_65 : decode cX4_weights 65 = .ok (.getfield 42, 3) := by decide +kernel
theorem dX4_weights_68 : decode cX4_weights 68 = .ok (.getfield 128, 3) := by decide +kernel
theorem dX4_weights_71 : decode cX4_weights 71 = .ok (.iload_n 1, 1) := by decide +kernel
theorem dX4_weights_72 : decode cX4_weights 72 = .ok (.iaload, 1) := by decide +kernel
theorem dX4_weights_73 : decode cX4_weights 73 = .ok (.iload 5, 2) := by decide +kernel
theorem dX4_weights_75 : decode cX4_weights 75 = .ok (.aload_n 0, 1) := by decide +kernel
theorem dX4_weights_76 : decode cX4_weights 76 = .ok (.getfield 42, 3) := by decide +kernel
theorem dX4_weights_79 : decode cX4_weights 79 = .ok (.getfield 160, 3) := by decide +kernel
theorem dX4_weights_82 : decode cX4_weights 82 = .ok (.iload_n 1, 1) := by decide +kernel
theorem dX4_weights_83 : decode cX4_weights 83 = .ok (.iaload, 1) := by decide +kernel
theorem dX4_weights_84 : decode cX4_weights 84 = .ok (.iload_n 2, 1) := by decide +kernel
theorem dX4_weights_85 : decode cX4_weights 85 = .ok (.invokevirtual 222, 3) := by decide +kernel
theorem dX4_weights_88 : decode cX4_weights 88 = .ok (.ifCond .eq 12, 3) := by decide +kernel
theorem dX4_weights_91 : decode cX4_weights 91 = .ok (.iload 4, 2) := by decide +kernel
theorem dX4_weights_93 : decode cX4_weights 93 = .ok (.iconst 1, 1) := by decide +kernel
theorem dX4_weights_94 : decode cX4_weights 94 = .ok (.iload 5, 2) := by decide +kernel
theorem dX4_weights_96 : decode cX4_weights 96 = .ok (.ishl, 1) := by decide +kernel
theorem dX4_weights_97 : decode cX4_weights 97 = .ok (.ior, 1) := by decide +kernel
theorem dX4_weights_98 : decode cX4_weights 98 = .ok (.istore 4, 2) := by decide +kernel
theorem dX4_weights_100 : decode cX4_weights 100 = .ok (.iinc 5 1, 3) := by decide +kernel
theorem dX4_weights_103 : decode cX4_weights 103 = .ok (.goto (-47), 3) := by decide +kernel
theorem dX4_weights_106 : decode cX4_weights 106 = .ok (.iload 4, 2) := by decide +kernel
theorem dX4_weights_108 : decode cX4_weights 108 = .ok (.ireturn, 1) := by decide +kernel
theorem dX4_kinds_0 : decode cX4_kinds 0 = .ok (.aload_n 0, 1) := by decide +kernel
theorem dX4_kinds_1 : decode cX4_kinds 1 = .ok (.getfield 42, 3) := by decide +kernel
theorem dX4_kinds_4 : decode cX4_kinds 4 = .ok (.iload_n 1, 1) := by decide +kernel
theorem dX4_kinds_5 : decode cX4_kinds 5 = .ok (.invokevirtual 121, 3) := by decide +kernel
theorem dX4_kinds_8 : decode cX4_kinds 8 = .ok (.ifCond .eq 10, 3) := by decide +kernel
theorem dX4_kinds_11 : decode cX4_kinds 11 = .ok (.iload_n 2, 1) := by decide +kernel
theorem dX4_kinds_12 : decode cX4_kinds 12 = .ok (.invokestatic 83, 3) := by decide +kernel
theorem dX4_kinds_15 : decode cX4_kinds 15 = .ok (.ifCond .ne 5, 3) := by decide +kernel
theorem dX4_kinds_18 : decode cX4_kinds 18 = .ok (.iconst (-1), 1) := by decide +kernel
theorem dX4_kinds_19 : decode cX4_kinds 19 = .ok (.ireturn, 1) := by decide +kernel
theorem dX4_kinds_20 : decode cX4_kinds 20 = .ok (.aload_n 0, 1) := by decide +kernel
theorem dX4_kinds_21 : decode cX4_kinds 21 = .ok (.iload_n 2, 1) := by decide +kernel
theorem dX4_kinds_22 : decode cX4_kinds 22 = .ok (.invokevirtual 216, 3) := by decide +kernel
theorem dX4_kinds_25 : decode cX4_kinds 25 = .ok (.istore_n 3, 1) := by decide +kernel
theorem dX4_kinds_26 : decode cX4_kinds 26 = .ok (.iload_n 3, 1) := by decide +kernel
theorem dX4_kinds_27 : decode cX4_kinds 27 = .ok (.ifCond .eq 9, 3) := by decide +kernel
theorem dX4_kinds_30 : decode cX4_kinds 30 = .ok (.aload_n 0, 1) := by decide +kernel
theorem dX4_kinds_31 : decode cX4_kinds 31 = .ok (.iload_n 3, 1) := by decide +kernel
theorem dX4_kinds_32 : decode cX4_kinds 32 = .ok (.invokevirtual 87, 3) := by decide +kernel
theorem dX4_kinds_35 : decode cX4_kinds 35 = .ok (.ireturn, 1) := by decide +kernel
theorem dX4_kinds_36 : decode cX4_kinds 36 = .ok (.aload_n 0, 1) := by decide +kernel
theorem dX4_kinds_37 : decode cX4_kinds 37 = .ok (.getfield 42, 3) := by decide +kernel
theorem dX4_kinds_40 : decode cX4_kinds 40 = .ok (.iload_n 1, 1) := by decide +kernel
theorem dX4_kinds_41 : decode cX4_kinds 41 = .ok (.invokevirtual 184, 3) := by decide +kernel
theorem dX4_kinds_44 : decode cX4_kinds 44 = .ok (.ifCond .eq 6, 3) := by decide +kernel
theorem dX4_kinds_47 : decode cX4_kinds 47 = .ok (.bipush (-4), 2) := by decide +kernel
theorem dX4_kinds_49 : decode cX4_kinds 49 = .ok (.ireturn, 1) := by decide +kernel
theorem dX4_kinds_50 : decode cX4_kinds 50 = .ok (.iconst 0, 1) := by decide +kernel
theorem dX4_kinds_51 : decode cX4_kinds 51 = .ok (.istore 4, 2) := by decide +kernel
theorem dX4_kinds_53 : decode cX4_kinds 53 = .ok (.iconst 0, 1) := by decide +kernel
theorem dX4_kinds_54 : decode cX4_kinds 54 = .ok (.istore 5, 2) := by decide +kernel
theorem dX4_kinds_56 : decode cX4_kinds 56 = .ok (.iload 5, 2) := by decide +kernel
theorem dX4_kinds_58 : decode cX4_kinds 58 = .ok (.bipush 6, 2) := by decide +kernel
theorem dX4_kinds_60 : decode cX4_kinds 60 = .ok (.if_icmp .ge 46, 3) := by decide +kernel
theorem dX4_kinds_63 : decode cX4_kinds 63 = .ok (.aload_n 0, 1) := by decide +kernel
theorem dX4_kinds_64 : decode cX4_kinds 64 = .ok (.iload 5, 2) := by decide +kernel
theorem dX4_kinds_66 : decode cX4_kinds 66 = .ok (.aload_n 0, 1) := by decide +kernel
theorem dX4_kinds_67 : decode cX4_kinds 67 = .ok (.getfield 42, 3) := by decide +kernel
theorem dX4_kinds_70 : decode cX4_kinds 70 = .ok (.getfield 219, 3) := by decide +kernel
theorem dX4_kinds_73 : decode cX4_kinds 73 = .ok (.iload_n 1, 1) := by decide +kernel
theorem dX4_kinds_74 : decode cX4_kinds 74 = .ok (.iaload, 1) := by decide +kernel
theorem dX4_kinds_75 : decode cX4_kinds 75 = .ok (.aload_n 0, 1) := by decide +kernel
theorem dX4_kinds_76 : decode cX4_kinds 76 = .ok (.getfield 42, 3) := by decide +kernel
theorem dX4_kinds_79 : decode cX4_kinds 79 = .ok (.getfield 160, 3) := by decide +kernel
theorem dX4_kinds_82 : decode cX4_kinds 82 = .ok (.iload_n 1, 1) := by decide +kernel
theorem dX4_kinds_83 : decode cX4_kinds 83 = .ok (.iaload, 1) := by decide +kernel
theorem dX4_kinds_84 : decode cX4_kinds 84 = .ok (.iload_n 2, 1) := by decide +kernel
theorem dX4_kinds_85 : decode cX4_kinds 85 = .ok (.invokevirtual 222, 3) := by decide +kernel
theorem dX4_kinds_88 : decode cX4_kinds 88 = .ok (.ifCond .eq 12, 3) := by decide +kernel
theorem dX4_kinds_91 : decode cX4_kinds 91 = .ok (.iload 4, 2) := by decide +kernel
theorem dX4_kinds_93 : decode cX4_kinds 93 = .ok (.iconst 1, 1) := by decide +kernel
theorem dX4_kinds_94 : decode cX4_kinds 94 = .ok (.iload 5, 2) := by decide +kernel
theorem dX4_kinds_96 : decode cX4_kinds 96 = .ok (.ishl, 1) := by decide +kernel
theorem dX4_kinds_97 : decode cX4_kinds 97 = .ok (.ior, 1) := by decide +kernel
theorem dX4_kinds_98 : decode cX4_kinds 98 = .ok (.istore 4, 2) := by decide +kernel
theorem dX4_kinds_100 : decode cX4_kinds 100 = .ok (.iinc 5 1, 3) := by decide +kernel
theorem dX4_kinds_103 : decode cX4_kinds 103 = .ok (.goto (-47), 3) := by decide +kernel
theorem dX4_kinds_106 : decode cX4_kinds 106 = .ok (.iload 4, 2) := by decide +kernel
theorem dX4_kinds_108 : decode cX4_kinds 108 = .ok (.ireturn, 1) := by decide +kernel
theorem dX4_night_0 : decode cX4_night 0 = .ok (.aload_n 0, 1) := by decide +kernel
theorem dX4_night_1 : decode cX4_night 1 = .ok (.getfield 42, 3) := by decide +kernel
theorem dX4_night_4 : decode cX4_night 4 = .ok (.iload_n 1, 1) := by decide +kernel
theorem dX4_night_5 : decode cX4_night 5 = .ok (.invokevirtual 121, 3) := by decide +kernel
theorem dX4_night_8 : decode cX4_night 8 = .ok (.ifCond .eq 33, 3) := by decide +kernel
theorem dX4_night_11 : decode cX4_night 11 = .ok (.iload_n 2, 1) := by decide +kernel
theorem dX4_night_12 : decode cX4_night 12 = .ok (.invokestatic 138, 3) := by decide +kernel
theorem dX4_night_15 : decode cX4_night 15 = .ok (.ifCond .eq 26, 3) := by decide +kernel
theorem dX4_night_18 : decode cX4_night 18 = .ok (.iload_n 3, 1) := by decide +kernel
theorem dX4_night_19 : decode cX4_night 19 = .ok (.invokestatic 138, 3) := by decide +kernel
theorem dX4_night_22 : decode cX4_night 22 = .ok (.ifCond .eq 19, 3) := by decide +kernel
theorem dX4_night_25 : decode cX4_night 25 = .ok (.iload_n 2, 1) := by decide +kernel
theorem dX4_night_26 : decode cX4_night 26 = .ok (.iload_n 3, 1) := by decide +kernel
theorem dX4_night_27 : decode cX4_night 27 = .ok (.if_icmp .eq 14, 3) := by decide +kernel
theorem dX4_night_30 : decode cX4_night 30 = .ok (.iload 4, 2) := by decide +kernel
theorem dX4_night_32 : decode cX4_night 32 = .ok (.ifCond .lt 9, 3) := by decide +kernel
theorem dX4_night_35 : decode cX4_night 35 = .ok (.iload 4, 2) := by decide +kernel
theorem dX4_night_37 : decode cX4_night 37 = .ok (.iconst 3, 1) := by decide +kernel
theorem dX4_night_38 : decode cX4_night 38 = .ok (.if_icmp .le 5, 3) := by decide +kernel
theorem dX4_night_41 : decode cX4_night 41 = .ok (.iconst (-1), 1) := by decide +kernel
theorem dX4_night_42 : decode cX4_night 42 = .ok (.ireturn, 1) := by decide +kernel
theorem dX4_night_43 : decode cX4_night 43 = .ok (.aload_n 0, 1) := by decide +kernel
theorem dX4_night_44 : decode cX4_night 44 = .ok (.getfield 42, 3) := by decide +kernel
theorem dX4_night_47 : decode cX4_night 47 = .ok (.iload_n 1, 1) := by decide +kernel
theorem dX4_night_48 : decode cX4_night 48 = .ok (.invokevirtual 184, 3) := by decide +kernel
theorem dX4_night_51 : decode cX4_night 51 = .ok (.ifCond .eq 6, 3) := by decide +kernel
theorem dX4_night_54 : decode cX4_night 54 = .ok (.bipush (-4), 2) := by decide +kernel
theorem dX4_night_56 : decode cX4_night 56 = .ok (.ireturn, 1) := by decide +kernel
theorem dX4_night_57 : decode cX4_night 57 = .ok (.aload_n 0, 1) := by decide +kernel
theorem dX4_night_58 : decode cX4_night 58 = .ok (.aload_n 0, 1) := by decide +kernel
theorem dX4_night_59 : decode cX4_night 59 = .ok (.getfield 42, 3) := by decide +kernel
theorem dX4_night_62 : decode cX4_night 62 = .ok (.getfield 160, 3) := by decide +kernel
theorem dX4_night_65 : decode cX4_night 65 = .ok (.iload_n 1, 1) := by decide +kernel
theorem dX4_night_66 : decode cX4_night 66 = .ok (.iaload, 1) := by decide +kernel
theorem dX4_night_67 : decode cX4_night 67 = .ok (.iload_n 2, 1) := by decide +kernel
theorem dX4_night_68 : decode cX4_night 68 = .ok (.iload_n 3, 1) := by decide +kernel
theorem dX4_night_69 : decode cX4_night 69 = .ok (.iconst 2, 1) := by decide +kernel
theorem dX4_night_70 : decode cX4_night 70 = .ok (.iload 4, 2) := by decide +kernel
theorem dX4_night_72 : decode cX4_night 72 = .ok (.imul, 1) := by decide +kernel
theorem dX4_night_73 : decode cX4_night 73 = .ok (.invokestatic 226, 3) := by decide +kernel
theorem dX4_night_76 : decode cX4_night 76 = .ok (.invokevirtual 91, 3) := by decide +kernel
theorem dX4_night_79 : decode cX4_night 79 = .ok (.ireturn, 1) := by decide +kernel
theorem dX4_odds_0 : decode cX4_odds 0 = .ok (.iload_n 2, 1) := by decide +kernel
theorem dX4_odds_1 : decode cX4_odds 1 = .ok (.invokestatic 138, 3) := by decide +kernel
theorem dX4_odds_4 : decode cX4_odds 4 = .ok (.ifCond .eq 14, 3) := by decide +kernel
theorem dX4_odds_7 : decode cX4_odds 7 = .ok (.aload_n 0, 1) := by decide +kernel
theorem dX4_odds_8 : decode cX4_odds 8 = .ok (.iload_n 1, 1) := by decide +kernel
theorem dX4_odds_9 : decode cX4_odds 9 = .ok (.iload_n 3, 1) := by decide +kernel
theorem dX4_odds_10 : decode cX4_odds 10 = .ok (.iload 4, 2) := by decide +kernel
theorem dX4_odds_12 : decode cX4_odds 12 = .ok (.invokevirtual 230, 3) := by decide +kernel
theorem dX4_odds_15 : decode cX4_odds 15 = .ok (.ifCond .ne 5, 3) := by decide +kernel
theorem dX4_odds_18 : decode cX4_odds 18 = .ok (.iconst (-1), 1) := by decide +kernel
theorem dX4_odds_19 : decode cX4_odds 19 = .ok (.ireturn, 1) := by decide +kernel
theorem dX4_odds_20 : decode cX4_odds 20 = .ok (.aload_n 0, 1) := by decide +kernel
theorem dX4_odds_21 : decode cX4_odds 21 = .ok (.getfield 42, 3) := by decide +kernel
theorem dX4_odds_24 : decode cX4_odds 24 = .ok (.iload_n 1, 1) := by decide +kernel
theorem dX4_odds_25 : decode cX4_odds 25 = .ok (.invokevirtual 184, 3) := by decide +kernel
theorem dX4_odds_28 : decode cX4_odds 28 = .ok (.ifCond .eq 6, 3) := by decide +kernel
theorem dX4_odds_31 : decode cX4_odds 31 = .ok (.bipush (-4), 2) := by decide +kernel
theorem dX4_odds_33 : decode cX4_odds 33 = .ok (.ireturn, 1) := by decide +kernel
theorem dX4_odds_34 : decode cX4_odds 34 = .ok (.aload_n 0, 1) := by decide +kernel
theorem dX4_odds_35 : decode cX4_odds 35 = .ok (.aload_n 0, 1) := by decide +kernel
theorem dX4_odds_36 : decode cX4_odds 36 = .ok (.getfield 42, 3) := by decide +kernel
theorem dX4_odds_39 : decode cX4_odds 39 = .ok (.iload_n 1, 1) := by decide +kernel
theorem dX4_odds_40 : decode cX4_odds 40 = .ok (.aload_n 0, 1) := by decide +kernel
theorem dX4_odds_41 : decode cX4_odds 41 = .ok (.getfield 42, 3) := by decide +kernel
theorem dX4_odds_44 : decode cX4_odds 44 = .ok (.getfield 160, 3) := by decide +kernel
theorem dX4_odds_47 : decode cX4_odds 47 = .ok (.iload_n 1, 1) := by decide +kernel
theorem dX4_odds_48 : decode cX4_odds 48 = .ok (.iaload, 1) := by decide +kernel
theorem dX4_odds_49 : decode cX4_odds 49 = .ok (.iload_n 3, 1) := by decide +kernel
theorem dX4_odds_50 : decode cX4_odds 50 = .ok (.iload 4, 2) := by decide +kernel
theorem dX4_odds_52 : decode cX4_odds 52 = .ok (.iload_n 2, 1) := by decide +kernel
theorem dX4_odds_53 : decode cX4_odds 53 = .ok (.aload_n 0, 1) := by decide +kernel
theorem dX4_odds_54 : decode cX4_odds 54 = .ok (.getfield 42, 3) := by decide +kernel
theorem dX4_odds_57 : decode cX4_odds 57 = .ok (.getfield 151, 3) := by decide +kernel
theorem dX4_odds_60 : decode cX4_odds 60 = .ok (.invokevirtual 233, 3) := by decide +kernel
theorem dX4_odds_63 : decode cX4_odds 63 = .ok (.iload_n 3, 1) := by decide +kernel
theorem dX4_odds_64 : decode cX4_odds 64 = .ok (.invokestatic 237, 3) := by decide +kernel
theorem dX4_odds_67 : decode cX4_odds 67 = .ok (.invokevirtual 241, 3) := by decide +kernel
theorem dX4_odds_70 : decode cX4_odds 70 = .ok (.ireturn, 1) := by decide +kernel
theorem dX4_mid_0 : decode cX4_mid 0 = .ok (.aload_n 0, 1) := by decide +kernel
theorem dX4_mid_1 : decode cX4_mid 1 = .ok (.iload_n 1, 1) := by decide +kernel
theorem dX4_mid_2 : decode cX4_mid 2 = .ok (.iload_n 2, 1) := by decide +kernel
theorem dX4_mid_3 : decode cX4_mid 3 = .ok (.iload_n 3, 1) := by decide +kernel
theorem dX4_mid_4 : decode cX4_mid 4 = .ok (.invokevirtual 230, 3) := by decide +kernel
theorem dX4_mid_7 : decode cX4_mid 7 = .ok (.ifCond .ne 5, 3) := by decide +kernel
theorem dX4_mid_10 : decode cX4_mid 10 = .ok (.iconst (-1), 1) := by decide +kernel
theorem dX4_mid_11 : decode cX4_mid 11 = .ok (.ireturn, 1) := by decide +kernel
theorem dX4_mid_12 : decode cX4_mid 12 = .ok (.aload_n 0, 1) := by decide +kernel
theorem dX4_mid_13 : decode cX4_mid 13 = .ok (.getfield 42, 3) := by decide +kernel
theorem dX4_mid_16 : decode cX4_mid 16 = .ok (.iload_n 1, 1) := by decide +kernel
theorem dX4_mid_17 : decode cX4_mid 17 = .ok (.invokevirtual 184, 3) := by decide +kernel
theorem dX4_mid_20 : decode cX4_mid 20 = .ok (.ifCond .eq 6, 3) := by decide +kernel
theorem dX4_mid_23 : decode cX4_mid 23 = .ok (.bipush (-4), 2) := by decide +kernel
theorem dX4_mid_25 : decode cX4_mid 25 = .ok (.ireturn, 1) := by decide +kernel
theorem dX4_mid_26 : decode cX4_mid 26 = .ok (.aload_n 0, 1) := by decide +kernel
theorem dX4_mid_27 : decode cX4_mid 27 = .ok (.aload_n 0, 1) := by decide +kernel
theorem dX4_mid_28 : decode cX4_mid 28 = .ok (.getfield 42, 3) := by decide +kernel
theorem dX4_mid_31 : decode cX4_mid 31 = .ok (.iload_n 1, 1) := by decide +kernel
theorem dX4_mid_32 : decode cX4_mid 32 = .ok (.aload_n 0, 1) := by decide +kernel
theorem dX4_mid_33 : decode cX4_mid 33 = .ok (.getfield 42, 3) := by decide +kernel
theorem dX4_mid_36 : decode cX4_mid 36 = .ok (.getfield 160, 3) := by decide +kernel
theorem dX4_mid_39 : decode cX4_mid 39 = .ok (.iload_n 1, 1) := by decide +kernel
theorem dX4_mid_40 : decode cX4_mid 40 = .ok (.iaload, 1) := by decide +kernel
theorem dX4_mid_41 : decode cX4_mid 41 = .ok (.iload_n 2, 1) := by decide +kernel
theorem dX4_mid_42 : decode cX4_mid 42 = .ok (.iload_n 3, 1) := by decide +kernel
theorem dX4_mid_43 : decode cX4_mid 43 = .ok (.bipush (-9), 2) := by decide +kernel
theorem dX4_mid_45 : decode cX4_mid 45 = .ok (.aload_n 0, 1) := by decide +kernel
theorem dX4_mid_46 : decode cX4_mid 46 = .ok (.getfield 42, 3) := by decide +kernel
theorem dX4_mid_49 : decode cX4_mid 49 = .ok (.getfield 151, 3) := by decide +kernel
theorem dX4_mid_52 : decode cX4_mid 52 = .ok (.invokevirtual 233, 3) := by decide +kernel
theorem dX4_mid_55 : decode cX4_mid 55 = .ok (.iload_n 2, 1) := by decide +kernel
theorem dX4_mid_56 : decode cX4_mid 56 = .ok (.invokestatic 237, 3) := by decide +kernel
theorem dX4_mid_59 : decode cX4_mid 59 = .ok (.invokevirtual 241, 3) := by decide +kernel
theorem dX4_mid_62 : decode cX4_mid 62 = .ok (.ireturn, 1) := by decide +kernel
theorem dX4_lots_0 : decode cX4_lots 0 = .ok (.iload_n 1, 1) := by decide +kernel
theorem dX4_lots_1 : decode cX4_lots 1 = .ok (.iconst 1, 1) := by decide +kernel
theorem dX4_lots_2 : decode cX4_lots 2 = .ok (.if_icmp .lt 23, 3) := by decide +kernel
theorem dX4_lots_5 : decode cX4_lots 5 = .ok (.iload_n 1, 1) := by decide +kernel
theorem dX4_lots_6 : decode cX4_lots 6 = .ok (.bipush 20, 2) := by decide +kernel
theorem dX4_lots_8 : decode cX4_lots 8 = .ok (.if_icmp .gt 17, 3) := by decide +kernel
theorem dX4_lots_11 : decode cX4_lots 11 = .ok (.iload_n 2, 1) := by decide +kernel
theorem dX4_lots_12 : decode cX4_lots 12 = .ok (.iconst 1, 1) := by decide +kernel
theorem dX4_lots_13 : decode cX4_lots 13 = .ok (.if_icmp .lt 12, 3) := by decide +kernel
theorem dX4_lots_16 : decode cX4_lots 16 = .ok (.iload_n 2, 1) := by decide +kernel
theorem dX4_lots_17 : decode cX4_lots 17 = .ok (.i2l, 1) := by decide +kernel
theorem dX4_lots_18 : decode cX4_lots 18 = .ok (.ldc2_w 245, 3) := by decide +kernel
theorem dX4_lots_21 : decode cX4_lots 21 = .ok (.lcmp, 1) := by decide +kernel
theorem dX4_lots_22 : decode cX4_lots 22 = .ok (.ifCond .lt 5, 3) := by decide +kernel
theorem dX4_lots_25 : decode cX4_lots 25 = .ok (.iconst (-1), 1) := by decide +kernel
theorem dX4_lots_26 : decode cX4_lots 26 = .ok (.ireturn, 1) := by decide +kernel
theorem dX4_lots_27 : decode cX4_lots 27 = .ok (.aload_n 0, 1) := by decide +kernel
theorem dX4_lots_28 : decode cX4_lots 28 = .ok (.getfield 42, 3) := by decide +kernel
theorem dX4_lots_31 : decode cX4_lots 31 = .ok (.getfield 118, 3) := by decide +kernel
theorem dX4_lots_34 : decode cX4_lots 34 = .ok (.ifCond .ne 6, 3) := by decide +kernel
theorem dX4_lots_37 : decode cX4_lots 37 = .ok (.bipush (-4), 2) := by decide +kernel
theorem dX4_lots_39 : decode cX4_lots 39 = .ok (.ireturn, 1) := by decide +kernel
theorem dX4_lots_40 : decode cX4_lots 40 = .ok (.aload_n 0, 1) := by decide +kernel
theorem dX4_lots_41 : decode cX4_lots 41 = .ok (.getfield 42, 3) := by decide +kernel
theorem dX4_lots_44 : decode cX4_lots 44 = .ok (.getfield 144, 3) := by decide +kernel
theorem dX4_lots_47 : decode cX4_lots 47 = .ok (.iload_n 1, 1) := by decide +kernel
theorem dX4_lots_48 : decode cX4_lots 48 = .ok (.iadd, 1) := by decide +kernel
theorem dX4_lots_49 : decode cX4_lots 49 = .ok (.bipush 40, 2) := by decide +kernel
theorem dX4_lots_51 : decode cX4_lots 51 = .ok (.if_icmp .le 6, 3) := by decide +kernel
theorem dX4_lots_54 : decode cX4_lots 54 = .ok (.bipush (-2), 2) := by decide +kernel
theorem dX4_lots_56 : decode cX4_lots 56 = .ok (.ireturn, 1) := by decide +kernel
theorem dX4_lots_57 : decode cX4_lots 57 = .ok (.iload_n 2, 1) := by decide +kernel
theorem dX4_lots_58 : decode cX4_lots 58 = .ok (.i2l, 1) := by decide +kernel
theorem dX4_lots_59 : decode cX4_lots 59 = .ok (.lstore_n 3, 1) := by decide +kernel
theorem dX4_lots_60 : decode cX4_lots 60 = .ok (.iconst 0, 1) := by decide +kernel
theorem dX4_lots_61 : decode cX4_lots 61 = .ok (.istore 5, 2) := by decide +kernel
theorem dX4_lots_63 : decode cX4_lots 63 = .ok (.iload 5, 2) := by decide +kernel
theorem dX4_lots_65 : decode cX4_lots 65 = .ok (.iload_n 1, 1) := by decide +kernel
theorem dX4_lots_66 : decode cX4_lots 66 = .ok (.if_icmp .ge 27, 3) := by decide +kernel
theorem dX4_lots_69 : decode cX4_lots 69 = .ok (.lload_n 3, 1) := by decide +kernel
theorem dX4_lots_70 : decode cX4_lots 70 = .ok (.ldc2_w 247, 3) := by decide +kernel
theorem dX4_lots_73 : decode cX4_lots 73 = .ok (.lmul, 1) := by decide +kernel
theorem dX4_lots_74 : decode cX4_lots 74 = .ok (.ldc2_w 245, 3) := by decide +kernel
theorem dX4_lots_77 : decode cX4_lots 77 = .ok (.lrem, 1) := by decide +kernel
theorem dX4_lots_78 : decode cX4_lots 78 = .ok (.lstore_n 3, 1) := by decide +kernel
theorem dX4_lots_79 : decode cX4_lots 79 = .ok (.aload_n 0, 1) := by decide +kernel
theorem dX4_lots_80 : decode cX4_lots 80 = .ok (.getfield 42, 3) := by decide +kernel
theorem dX4_lots_83 : decode cX4_lots 83 = .ok (.lload_n 3, 1) := by decide +kernel
theorem dX4_lots_84 : decode cX4_lots 84 = .ok (.invokevirtual 249, 3) := by decide +kernel
theorem dX4_lots_87 : decode cX4_lots 87 = .ok (.iinc 5 1, 3) := by decide +kernel
theorem dX4_lots_90 : decode cX4_lots 90 = .ok (.goto (-27), 3) := by decide +kernel
theorem dX4_lots_93 : decode cX4_lots 93 = .ok (.aload_n 0, 1) := by decide +kernel
theorem dX4_lots_94 : decode cX4_lots 94 = .ok (.getfield 42, 3) := by decide +kernel
theorem dX4_lots_97 : decode cX4_lots 97 = .ok (.getfield 154, 3) := by decide +kernel
theorem dX4_lots_100 : decode cX4_lots 100 = .ok (.ireturn, 1) := by decide +kernel
theorem dX4_asked_0 : decode cX4_asked 0 = .ok (.aload_n 0, 1) := by decide +kernel
theorem dX4_asked_1 : decode cX4_asked 1 = .ok (.getfield 67, 3) := by decide +kernel
theorem dX4_asked_4 : decode cX4_asked 4 = .ok (.ireturn, 1) := by decide +kernel
theorem dX4_upper_0 : decode cX4_upper 0 = .ok (.aload_n 0, 1) := by decide +kernel
theorem dX4_upper_1 : decode cX4_upper 1 = .ok (.getfield 70, 3) := by decide +kernel
theorem dX4_upper_4 : decode cX4_upper 4 = .ok (.lreturn, 1) := by decide +kernel
theorem dX4_lower_0 : decode cX4_lower 0 = .ok (.aload_n 0, 1) := by decide +kernel
theorem dX4_lower_1 : decode cX4_lower 1 = .ok (.getfield 74, 3) := by decide +kernel
theorem dX4_lower_4 : decode cX4_lower 4 = .ok (.lreturn, 1) := by decide +kernel
theorem dX4_count_0 : decode cX4_count 0 = .ok (.iload_n 1, 1) := by decide +kernel
theorem dX4_count_1 : decode cX4_count 1 = .ok (.tableswitch 149 0 10 #[59, 67, 75, 83, 91, 99, 107, 116, 125, 133, 141], 59) := by decide +kernel
theorem dX4_count_60 : decode cX4_count 60 = .ok (.aload_n 0, 1) := by decide +kernel
theorem dX4_count_61 : decode cX4_count 61 = .ok (.getfield 42, 3) := by decide +kernel
theorem dX4_count_64 : decode cX4_count 64 = .ok (.getfield 118, 3) := by decide +kernel
theorem dX4_count_67 : decode cX4_count 67 = .ok (.ireturn, 1) := by decide +kernel
theorem dX4_count_68 : decode cX4_count 68 = .ok (.aload_n 0, 1) := by decide +kernel
theorem dX4_count_69 : decode cX4_count 69 = .ok (.getfield 42, 3) := by decide +kernel
theorem dX4_count_72 : decode cX4_count 72 = .ok (.getfield 151, 3) := by decide +kernel
theorem dX4_count_75 : decode cX4_count 75 = .ok (.ireturn, 1) := by decide +kernel
theorem dX4_count_76 : decode cX4_count 76 = .ok (.aload_n 0, 1) := by decide +kernel
theorem dX4_count_77 : decode cX4_count 77 = .ok (.getfield 42, 3) := by decide +kernel
theorem dX4_count_80 : decode cX4_count 80 = .ok (.getfield 144, 3) := by decide +kernel
theorem dX4_count_83 : decode cX4_count 83 = .ok (.ireturn, 1) := by decide +kernel
theorem dX4_count_84 : decode cX4_count 84 = .ok (.aload_n 0, 1) := by decide +kernel
theorem dX4_count_85 : decode cX4_count 85 = .ok (.getfield 42, 3) := by decide +kernel
theorem dX4_count_88 : decode cX4_count 88 = .ok (.getfield 154, 3) := by decide +kernel
theorem dX4_count_91 : decode cX4_count 91 = .ok (.ireturn, 1) := by decide +kernel
theorem dX4_count_92 : decode cX4_count 92 = .ok (.aload_n 0, 1) := by decide +kernel
theorem dX4_count_93 : decode cX4_count 93 = .ok (.getfield 42, 3) := by decide +kernel
theorem dX4_count_96 : decode cX4_count 96 = .ok (.getfield 253, 3) := by decide +kernel
theorem dX4_count_99 : decode cX4_count 99 = .ok (.ireturn, 1) := by decide +kernel
theorem dX4_count_100 : decode cX4_count 100 = .ok (.aload_n 0, 1) := by decide +kernel
theorem dX4_count_101 : decode cX4_count 101 = .ok (.getfield 42, 3) := by decide +kernel
theorem dX4_count_104 : decode cX4_count 104 = .ok (.invokevirtual 256, 3) := by decide +kernel
theorem dX4_count_107 : decode cX4_count 107 = .ok (.ireturn, 1) := by decide +kernel
theorem dX4_count_108 : decode cX4_count 108 = .ok (.aload_n 0, 1) := by decide +kernel
theorem dX4_count_109 : decode cX4_count 109 = .ok (.getfield 42, 3) := by decide +kernel
theorem dX4_count_112 : decode cX4_count 112 = .ok (.iconst 1, 1) := by decide +kernel
theorem dX4_count_113 : decode cX4_count 113 = .ok (.invokevirtual 260, 3) := by decide +kernel
theorem dX4_count_116 : decode cX4_count 116 = .ok (.ireturn, 1) := by decide +kernel
theorem dX4_count_117 : decode cX4_count 117 = .ok (.aload_n 0, 1) := by decide +kernel
theorem dX4_count_118 : decode cX4_count 118 = .ok (.getfield 42, 3) := by decide +kernel
theorem dX4_count_121 : decode cX4_count 121 = .ok (.iconst 2, 1) := by decide +kernel
theorem dX4_count_122 : decode cX4_count 122 = .ok (.invokevirtual 260, 3) := by decide +kernel
theorem dX4_count_125 : decode cX4_count 125 = .ok (.ireturn, 1) := by decide +kernel
theorem dX4_count_126 : decode cX4_count 126 = .ok (.aload_n 0, 1) := by decide +kernel
theorem dX4_count_127 : decode cX4_count 127 = .ok (.getfield 14, 3) := by decide +kernel
theorem dX4_count_130 : decode cX4_count 130 = .ok (.invokestatic 263, 3) := by decide +kernel
theorem dX4_count_133 : decode cX4_count 133 = .ok (.ireturn, 1) := by decide +kernel
theorem dX4_count_134 : decode cX4_count 134 = .ok (.aload_n 0, 1) := by decide +kernel
theorem dX4_count_135 : decode cX4_count 135 = .ok (.getfield 23, 3) := by decide +kernel
theorem dX4_count_138 : decode cX4_count 138 = .ok (.invokestatic 263, 3) := by decide +kernel
theorem dX4_count_141 : decode cX4_count 141 = .ok (.ireturn, 1) := by decide +kernel
theorem dX4_count_142 : decode cX4_count 142 = .ok (.aload_n 0, 1) := by decide +kernel
theorem dX4_count_143 : decode cX4_count 143 = .ok (.getfield 29, 3) := by decide +kernel
theorem dX4_count_146 : decode cX4_count 146 = .ok (.invokestatic 263, 3) := by decide +kernel
theorem dX4_count_149 : decode cX4_count 149 = .ok (.ireturn, 1) := by decide +kernel
theorem dX4_count_150 : decode cX4_count 150 = .ok (.iconst (-1), 1) := by decide +kernel
theorem dX4_count_151 : decode cX4_count 151 = .ok (.ireturn, 1) := by decide +kernel
theorem dX4_finding_0 : decode cX4_finding 0 = .ok (.aload_n 0, 1) := by decide +kernel
theorem dX4_finding_1 : decode cX4_finding 1 = .ok (.getfield 63, 3) := by decide +kernel
theorem dX4_finding_4 : decode cX4_finding 4 = .ok (.ireturn, 1) := by decide +kernel
theorem dX4_findings_0 : decode cX4_findings 0 = .ok (.iload_n 1, 1) := by decide +kernel
theorem dX4_findings_1 : decode cX4_findings 1 = .ok (.iconst 1, 1) := by decide +kernel
theorem dX4_findings_2 : decode cX4_findings 2 = .ok (.if_icmp .lt 8, 3) := by decide +kernel
theorem dX4_findings_5 : decode cX4_findings 5 = .ok (.iload_n 1, 1) := by decide +kernel
theorem dX4_findings_6 : decode cX4_findings 6 = .ok (.iconst 5, 1) := by decide +kernel
theorem dX4_findings_7 : decode cX4_findings 7 = .ok (.if_icmp .le 5, 3) := by decide +kernel
theorem dX4_findings_10 : decode cX4_findings 10 = .ok (.iconst (-1), 1) := by decide +kernel
theorem dX4_findings_11 : decode cX4_findings 11 = .ok (.ireturn, 1) := by decide +kernel
theorem dX4_findings_12 : decode cX4_findings 12 = .ok (.aload_n 0, 1) := by decide +kernel
theorem dX4_findings_13 : decode cX4_findings 13 = .ok (.getfield 60, 3) := by decide +kernel
theorem dX4_findings_16 : decode cX4_findings 16 = .ok (.iload_n 1, 1) := by decide +kernel
theorem dX4_findings_17 : decode cX4_findings 17 = .ok (.iaload, 1) := by decide +kernel
theorem dX4_findings_18 : decode cX4_findings 18 = .ok (.ireturn, 1) := by decide +kernel
theorem dX4_digest_0 : decode cX4_digest 0 = .ok (.ldc2_w 267, 3) := by decide +kernel
theorem dX4_digest_3 : decode cX4_digest 3 = .ok (.lstore_n 1, 1) := by decide +kernel
theorem dX4_digest_4 : decode cX4_digest 4 = .ok (.iconst 0, 1) := by decide +kernel
theorem dX4_digest_5 : decode cX4_digest 5 = .ok (.istore_n 3, 1) := by decide +kernel
theorem dX4_digest_6 : decode cX4_digest 6 = .ok (.iload_n 3, 1) := by decide +kernel
theorem dX4_digest_7 : decode cX4_digest 7 = .ok (.bipush 11, 2) := by decide +kernel
theorem dX4_digest_9 : decode cX4_digest 9 = .ok (.if_icmp .ge 22, 3) := by decide +kernel
theorem dX4_digest_12 : decode cX4_digest 12 = .ok (.ldc2_w 269, 3) := by decide +kernel
theorem dX4_digest_15 : decode cX4_digest 15 = .ok (.lload_n 1, 1) := by decide +kernel
theorem dX4_digest_16 : decode cX4_digest 16 = .ok (.lmul, 1) := by decide +kernel
theorem dX4_digest_17 : decode cX4_digest 17 = .ok (.aload_n 0, 1) := by decide +kernel
theorem dX4_digest_18 : decode cX4_digest 18 = .ok (.iload_n 3, 1) := by decide +kernel
theorem dX4_digest_19 : decode cX4_digest 19 = .ok (.invokevirtual 271, 3) := by decide +kernel
theorem dX4_digest_22 : decode cX4_digest 22 = .ok (.i2l, 1) := by decide +kernel
theorem dX4_digest_23 : decode cX4_digest 23 = .ok (.ladd, 1) := by decide +kernel
theorem dX4_digest_24 : decode cX4_digest 24 = .ok (.lstore_n 1, 1) := by decide +kernel
theorem dX4_digest_25 : decode cX4_digest 25 = .ok (.iinc 3 1, 3) := by decide +kernel
theorem dX4_digest_28 : decode cX4_digest 28 = .ok (.goto (-22), 3) := by decide +kernel
theorem dX4_digest_31 : decode cX4_digest 31 = .ok (.iconst 0, 1) := by decide +kernel
theorem dX4_digest_32 : decode cX4_digest 32 = .ok (.istore_n 3, 1) := by decide +kernel
theorem dX4_digest_33 : decode cX4_digest 33 = .ok (.iload_n 3, 1) := by decide +kernel
theorem dX4_digest_34 : decode cX4_digest 34 = .ok (.aload_n 0, 1) := by decide +kernel
theorem dX4_digest_35 : decode cX4_digest 35 = .ok (.getfield 42, 3) := by decide +kernel
theorem dX4_digest_38 : decode cX4_digest 38 = .ok (.getfield 118, 3) := by decide +kernel
theorem dX4_digest_41 : decode cX4_digest 41 = .ok (.if_icmp .ge 42, 3) := by decide +kernel
theorem dX4_digest_44 : decode cX4_digest 44 = .ok (.iconst 0, 1) := by decide +kernel
theorem dX4_digest_45 : decode cX4_digest 45 = .ok (.istore 4, 2) := by decide +kernel
theorem dX4_digest_47 : decode cX4_digest 47 = .ok (.iload 4, 2) := by decide +kernel
theorem dX4_digest_49 : decode cX4_digest 49 = .ok (.iconst 5, 1) := by decide +kernel
theorem dX4_digest_50 : decode cX4_digest 50 = .ok (.if_icmp .ge 27, 3) := by decide +kernel
theorem dX4_digest_53 : decode cX4_digest 53 = .ok (.ldc2_w 269, 3) := by decide +kernel
theorem dX4_digest_56 : decode cX4_digest 56 = .ok (.lload_n 1, 1) := by decide +kernel
theorem dX4_digest_57 : decode cX4_digest 57 = .ok (.lmul, 1) := by decide +kernel
theorem dX4_digest_58 : decode cX4_digest 58 = .ok (.aload_n 0, 1) := by decide +kernel
theorem dX4_digest_59 : decode cX4_digest 59 = .ok (.getfield 42, 3) := by decide +kernel
theorem dX4_digest_62 : decode cX4_digest 62 = .ok (.iload_n 3, 1) := by decide +kernel
theorem dX4_digest_63 : decode cX4_digest 63 = .ok (.iload 4, 2) := by decide +kernel
theorem dX4_digest_65 : decode cX4_digest 65 = .ok (.invokevirtual 124, 3) := by decide +kernel
theorem dX4_digest_68 : decode cX4_digest 68 = .ok (.i2l, 1) := by decide +kernel
theorem dX4_digest_69 : decode cX4_digest 69 = .ok (.ladd, 1) := by decide +kernel
theorem dX4_digest_70 : decode cX4_digest 70 = .ok (.lstore_n 1, 1) := by decide +kernel
theorem dX4_digest_71 : decode cX4_digest 71 = .ok (.iinc 4 1, 3) := by decide +kernel
theorem dX4_digest_74 : decode cX4_digest 74 = .ok (.goto (-27), 3) := by decide +kernel
theorem dX4_digest_77 : decode cX4_digest 77 = .ok (.iinc 3 1, 3) := by decide +kernel
theorem dX4_digest_80 : decode cX4_digest 80 = .ok (.goto (-47), 3) := by decide +kernel
theorem dX4_digest_83 : decode cX4_digest 83 = .ok (.iconst 0, 1) := by decide +kernel
theorem dX4_digest_84 : decode cX4_digest 84 = .ok (.istore_n 3, 1) := by decide +kernel
theorem dX4_digest_85 : decode cX4_digest 85 = .ok (.iload_n 3, 1) := by decide +kernel
theorem dX4_digest_86 : decode cX4_digest 86 = .ok (.iconst 3, 1) := by decide +kernel
theorem dX4_digest_87 : decode cX4_digest 87 = .ok (.if_icmp .ge 23, 3) := by decide +kernel
theorem dX4_digest_90 : decode cX4_digest 90 = .ok (.ldc2_w 269, 3) := by decide +kernel
theorem dX4_digest_93 : decode cX4_digest 93 = .ok (.lload_n 1, 1) := by decide +kernel
theorem dX4_digest_94 : decode cX4_digest 94 = .ok (.lmul, 1) := by decide +kernel
theorem dX4_digest_95 : decode cX4_digest 95 = .ok (.aload_n 0, 1) := by decide +kernel
theorem dX4_digest_96 : decode cX4_digest 96 = .ok (.getfield 29, 3) := by decide +kernel
theorem dX4_digest_99 : decode cX4_digest 99 = .ok (.iload_n 3, 1) := by decide +kernel
theorem dX4_digest_100 : decode cX4_digest 100 = .ok (.iaload, 1) := by decide +kernel
theorem dX4_digest_101 : decode cX4_digest 101 = .ok (.i2l, 1) := by decide +kernel
theorem dX4_digest_102 : decode cX4_digest 102 = .ok (.ladd, 1) := by decide +kernel
theorem dX4_digest_103 : decode cX4_digest 103 = .ok (.lstore_n 1, 1) := by decide +kernel
theorem dX4_digest_104 : decode cX4_digest 104 = .ok (.iinc 3 1, 3) := by decide +kernel
theorem dX4_digest_107 : decode cX4_digest 107 = .ok (.goto (-22), 3) := by decide +kernel
theorem dX4_digest_110 : decode cX4_digest 110 = .ok (.iconst 0, 1) := by decide +kernel
theorem dX4_digest_111 : decode cX4_digest 111 = .ok (.istore_n 3, 1) := by decide +kernel
theorem dX4_digest_112 : decode cX4_digest 112 = .ok (.iload_n 3, 1) := by decide +kernel
theorem dX4_digest_113 : decode cX4_digest 113 = .ok (.bipush 6, 2) := by decide +kernel
theorem dX4_digest_115 : decode cX4_digest 115 = .ok (.if_icmp .ge 60, 3) := by decide +kernel
theorem dX4_digest_118 : decode cX4_digest 118 = .ok (.ldc2_w 269, 3) := by decide +kernel
theorem dX4_digest_121 : decode cX4_digest 121 = .ok (.lload_n 1, 1) := by decide +kernel
theorem dX4_digest_122 : decode cX4_digest 122 = .ok (.lmul, 1) := by decide +kernel
theorem dX4_digest_123 : decode cX4_digest 123 = .ok (.aload_n 0, 1) := by decide +kernel
theorem dX4_digest_124 : decode cX4_digest 124 = .ok (.getfield 14, 3) := by decide +kernel
theorem dX4_digest_127 : decode cX4_digest 127 = .ok (.iload_n 3, 1) := by decide +kernel
theorem dX4_digest_128 : decode cX4_digest 128 = .ok (.iaload, 1) := by decide +kernel
theorem dX4_digest_129 : decode cX4_digest 129 = .ok (.i2l, 1) := by decide +kernel
theorem dX4_digest_130 : decode cX4_digest 130 = .ok (.ladd, 1) := by decide +kernel
theorem dX4_digest_131 : decode cX4_digest 131 = .ok (.lstore_n 1, 1) := by decide +kernel
theorem dX4_digest_132 : decode cX4_digest 132 = .ok (.iconst 0, 1) := by decide +kernel
theorem dX4_digest_133 : decode cX4_digest 133 = .ok (.istore 4, 2) := by decide +kernel
theorem dX4_digest_135 : decode cX4_digest 135 = .ok (.iload 4, 2) := by decide +kernel
theorem dX4_digest_137 : decode cX4_digest 137 = .ok (.aload_n 0, 1) := by decide +kernel
theorem dX4_digest_138 : decode cX4_digest 138 = .ok (.getfield 14, 3) := by decide +kernel
theorem dX4_digest_141 : decode cX4_digest 141 = .ok (.iload_n 3, 1) := by decide +kernel
theorem dX4_digest_142 : decode cX4_digest 142 = .ok (.iaload, 1) := by decide +kernel
theorem dX4_digest_143 : decode cX4_digest 143 = .ok (.if_icmp .ge 26, 3) := by decide +kernel
theorem dX4_digest_146 : decode cX4_digest 146 = .ok (.ldc2_w 269, 3) := by decide +kernel
theorem dX4_digest_149 : decode cX4_digest 149 = .ok (.lload_n 1, 1) := by decide +kernel
theorem dX4_digest_150 : decode cX4_digest 150 = .ok (.lmul, 1) := by decide +kernel
theorem dX4_digest_151 : decode cX4_digest 151 = .ok (.aload_n 0, 1) := by decide +kernel
theorem dX4_digest_152 : decode cX4_digest 152 = .ok (.getfield 11, 3) := by decide +kernel
theorem dX4_digest_155 : decode cX4_digest 155 = .ok (.iload_n 3, 1) := by decide +kernel
theorem dX4_digest_156 : decode cX4_digest 156 = .ok (.aaload, 1) := by decide +kernel
theorem dX4_digest_157 : decode cX4_digest 157 = .ok (.iload 4, 2) := by decide +kernel
theorem dX4_digest_159 : decode cX4_digest 159 = .ok (.iaload, 1) := by decide +kernel
theorem dX4_digest_160 : decode cX4_digest 160 = .ok (.i2l, 1) := by decide +kernel
theorem dX4_digest_161 : decode cX4_digest 161 = .ok (.ladd, 1) := by decide +kernel
theorem dX4_digest_162 : decode cX4_digest 162 = .ok (.lstore_n 1, 1) := by decide +kernel
theorem dX4_digest_163 : decode cX4_digest 163 = .ok (.iinc 4 1, 3) := by decide +kernel
theorem dX4_digest_166 : decode cX4_digest 166 = .ok (.goto (-31), 3) := by decide +kernel
theorem dX4_digest_169 : decode cX4_digest 169 = .ok (.iinc 3 1, 3) := by decide +kernel
theorem dX4_digest_172 : decode cX4_digest 172 = .ok (.goto (-60), 3) := by decide +kernel
theorem dX4_digest_175 : decode cX4_digest 175 = .ok (.iconst 0, 1) := by decide +kernel
theorem dX4_digest_176 : decode cX4_digest 176 = .ok (.istore_n 3, 1) := by decide +kernel
theorem dX4_digest_177 : decode cX4_digest 177 = .ok (.iload_n 3, 1) := by decide +kernel
theorem dX4_digest_178 : decode cX4_digest 178 = .ok (.iconst 4, 1) := by decide +kernel
theorem dX4_digest_179 : decode cX4_digest 179 = .ok (.if_icmp .ge 60, 3) := by decide +kernel
theorem dX4_digest_182 : decode cX4_digest 182 = .ok (.ldc2_w 269, 3) := by decide +kernel
theorem dX4_digest_185 : decode cX4_digest 185 = .ok (.lload_n 1, 1) := by decide +kernel
theorem dX4_digest_186 : decode cX4_digest 186 = .ok (.lmul, 1) := by decide +kernel
theorem dX4_digest_187 : decode cX4_digest 187 = .ok (.aload_n 0, 1) := by decide +kernel
theorem dX4_digest_188 : decode cX4_digest 188 = .ok (.getfield 23, 3) := by decide +kernel
theorem dX4_digest_191 : decode cX4_digest 191 = .ok (.iload_n 3, 1) := by decide +kernel
theorem dX4_digest_192 : decode cX4_digest 192 = .ok (.iaload, 1) := by decide +kernel
theorem dX4_digest_193 : decode cX4_digest 193 = .ok (.i2l, 1) := by decide +kernel
theorem dX4_digest_194 : decode cX4_digest 194 = .ok (.ladd, 1) := by decide +kernel
theorem dX4_digest_195 : decode cX4_digest 195 = .ok (.lstore_n 1, 1) := by decide +kernel
theorem dX4_digest_196 : decode cX4_digest 196 = .ok (.iconst 0, 1) := by decide +kernel
theorem dX4_digest_197 : decode cX4_digest 197 = .ok (.istore 4, 2) := by decide +kernel
theorem dX4_digest_199 : decode cX4_digest 199 = .ok (.iload 4, 2) := by decide +kernel
theorem dX4_digest_201 : decode cX4_digest 201 = .ok (.aload_n 0, 1) := by decide +kernel
theorem dX4_digest_202 : decode cX4_digest 202 = .ok (.getfield 23, 3) := by decide +kernel
theorem dX4_digest_205 : decode cX4_digest 205 = .ok (.iload_n 3, 1) := by decide +kernel
theorem dX4_digest_206 : decode cX4_digest 206 = .ok (.iaload, 1) := by decide +kernel
theorem dX4_digest_207 : decode cX4_digest 207 = .ok (.if_icmp .ge 26, 3) := by decide +kernel
theorem dX4_digest_210 : decode cX4_digest 210 = .ok (.ldc2_w 269, 3) := by decide +kernel
theorem dX4_digest_213 : decode cX4_digest 213 = .ok (.lload_n 1, 1) := by decide +kernel
theorem dX4_digest_214 : decode cX4_digest 214 = .ok (.lmul, 1) := by decide +kernel
theorem dX4_digest_215 : decode cX4_digest 215 = .ok (.aload_n 0, 1) := by decide +kernel
theorem dX4_digest_216 : decode cX4_digest 216 = .ok (.getfield 20, 3) := by decide +kernel
theorem dX4_digest_219 : decode cX4_digest 219 = .ok (.iload_n 3, 1) := by decide +kernel
theorem dX4_digest_220 : decode cX4_digest 220 = .ok (.aaload, 1) := by decide +kernel
theorem dX4_digest_221 : decode cX4_digest 221 = .ok (.iload 4, 2) := by decide +kernel
theorem dX4_digest_223 : decode cX4_digest 223 = .ok (.baload, 1) := by decide +kernel
theorem dX4_digest_224 : decode cX4_digest 224 = .ok (.i2l, 1) := by decide +kernel
theorem dX4_digest_225 : decode cX4_digest 225 = .ok (.ladd, 1) := by decide +kernel
theorem dX4_digest_226 : decode cX4_digest 226 = .ok (.lstore_n 1, 1) := by decide +kernel
theorem dX4_digest_227 : decode cX4_digest 227 = .ok (.iinc 4 1, 3) := by decide +kernel
theorem dX4_digest_230 : decode cX4_digest 230 = .ok (.goto (-31), 3) := by decide +kernel
theorem dX4_digest_233 : decode cX4_digest 233 = .ok (.iinc 3 1, 3) := by decide +kernel
theorem dX4_digest_236 : decode cX4_digest 236 = .ok (.goto (-59), 3) := by decide +kernel
theorem dX4_digest_239 : decode cX4_digest 239 = .ok (.lload_n 1, 1) := by decide +kernel
theorem dX4_digest_240 : decode cX4_digest 240 = .ok (.lreturn, 1) := by decide +kernel
theorem dX4_found_0 : decode cX4_found 0 = .ok (.aload_n 0, 1) := by decide +kernel
theorem dX4_found_1 : decode cX4_found 1 = .ok (.iload_n 1, 1) := by decide +kernel
theorem dX4_found_2 : decode cX4_found 2 = .ok (.putfield 63, 3) := by decide +kernel
theorem dX4_found_5 : decode cX4_found 5 = .ok (.aload_n 0, 1) := by decide +kernel
theorem dX4_found_6 : decode cX4_found 6 = .ok (.getfield 60, 3) := by decide +kernel
theorem dX4_found_9 : decode cX4_found 9 = .ok (.iload_n 1, 1) := by decide +kernel
theorem dX4_found_10 : decode cX4_found 10 = .ok (.dup2, 1) := by decide +kernel
theorem dX4_found_11 : decode cX4_found 11 = .ok (.iaload, 1) := by decide +kernel
theorem dX4_found_12 : decode cX4_found 12 = .ok (.iconst 1, 1) := by decide +kernel
theorem dX4_found_13 : decode cX4_found 13 = .ok (.iadd, 1) := by decide +kernel
theorem dX4_found_14 : decode cX4_found 14 = .ok (.iastore, 1) := by decide +kernel
theorem dX4_found_15 : decode cX4_found 15 = .ok (.bipush (-3), 2) := by decide +kernel
theorem dX4_found_17 : decode cX4_found 17 = .ok (.ireturn, 1) := by decide +kernel
theorem dX4_tell_0 : decode cX4_tell 0 = .ok (.aload_n 0, 1) := by decide +kernel
theorem dX4_tell_1 : decode cX4_tell 1 = .ok (.iload_n 1, 1) := by decide +kernel
theorem dX4_tell_2 : decode cX4_tell 2 = .ok (.putfield 67, 3) := by decide +kernel
theorem dX4_tell_5 : decode cX4_tell 5 = .ok (.iconst 1, 1) := by decide +kernel
theorem dX4_tell_6 : decode cX4_tell 6 = .ok (.ireturn, 1) := by decide +kernel
theorem dX4_tellRatio_0 : decode cX4_tellRatio 0 = .ok (.lload_n 1, 1) := by decide +kernel
theorem dX4_tellRatio_1 : decode cX4_tellRatio 1 = .ok (.lload_n 3, 1) := by decide +kernel
theorem dX4_tellRatio_2 : decode cX4_tellRatio 2 = .ok (.invokestatic 274, 3) := by decide +kernel
theorem dX4_tellRatio_5 : decode cX4_tellRatio 5 = .ok (.lstore 5, 2) := by decide +kernel
theorem dX4_tellRatio_7 : decode cX4_tellRatio 7 = .ok (.aload_n 0, 1) := by decide +kernel
theorem dX4_tellRatio_8 : decode cX4_tellRatio 8 = .ok (.lload 5, 2) := by decide +kernel
theorem dX4_tellRatio_10 : decode cX4_tellRatio 10 = .ok (.lconst 0, 1) := by decide +kernel
theorem dX4_tellRatio_11 : decode cX4_tellRatio 11 = .ok (.lcmp, 1) := by decide +kernel
theorem dX4_tellRatio_12 : decode cX4_tellRatio 12 = .ok (.ifCond .le 10, 3) := by decide +kernel
theorem dX4_tellRatio_15 : decode cX4_tellRatio 15 = .ok (.lload_n 1, 1) := by decide +kernel
theorem dX4_tellRatio_16 : decode cX4_tellRatio 16 = .ok (.lload 5, 2) := by decide +kernel
theorem dX4_tellRatio_18 : decode cX4_tellRatio 18 = .ok (.ldiv, 1) := by decide +kernel
theorem dX4_tellRatio_19 : decode cX4_tellRatio 19 = .ok (.goto 4, 3) := by decide +kernel
theorem dX4_tellRatio_22 : decode cX4_tellRatio 22 = .ok (.lload_n 1, 1) := by decide +kernel
theorem dX4_tellRatio_23 : decode cX4_tellRatio 23 = .ok (.putfield 70, 3) := by decide +kernel
theorem dX4_tellRatio_26 : decode cX4_tellRatio 26 = .ok (.aload_n 0, 1) := by decide +kernel
theorem dX4_tellRatio_27 : decode cX4_tellRatio 27 = .ok (.lload 5, 2) := by decide +kernel
theorem dX4_tellRatio_29 : decode cX4_tellRatio 29 = .ok (.lconst 0, 1) := by decide +kernel
theorem dX4_tellRatio_30 : decode cX4_tellRatio 30 = .ok (.lcmp, 1) := by decide +kernel
theorem dX4_tellRatio_31 : decode cX4_tellRatio 31 = .ok (.ifCond .le 10, 3) := by decide +kernel
theorem dX4_tellRatio_34 : decode cX4_tellRatio 34 = .ok (.lload_n 3, 1) := by decide +kernel
theorem dX4_tellRatio_35 : decode cX4_tellRatio 35 = .ok (.lload 5, 2) := by decide +kernel
theorem dX4_tellRatio_37 : decode cX4_tellRatio 37 = .ok (.ldiv, 1) := by decide +kernel
theorem dX4_tellRatio_38 : decode cX4_tellRatio 38 = .ok (.goto 4, 3) := by decide +kernel
theorem dX4_tellRatio_41 : decode cX4_tellRatio 41 = .ok (.lload_n 3, 1) := by decide +kernel
theorem dX4_tellRatio_42 : decode cX4_tellRatio 42 = .ok (.putfield 74, 3) := by decide +kernel
theorem dX4_tellRatio_45 : decode cX4_tellRatio 45 = .ok (.iconst 1, 1) := by decide +kernel
theorem dX4_tellRatio_46 : decode cX4_tellRatio 46 = .ok (.ireturn, 1) := by decide +kernel
theorem dX4_greatestDivisor_0 : decode cX4_greatestDivisor 0 = .ok (.lload_n 0, 1) := by decide +kernel
theorem dX4_greatestDivisor_1 : decode cX4_greatestDivisor 1 = .ok (.lstore 4, 2) := by decide +kernel
theorem dX4_greatestDivisor_3 : decode cX4_greatestDivisor 3 = .ok (.lload_n 2, 1) := by decide +kernel
theorem dX4_greatestDivisor_4 : decode cX4_greatestDivisor 4 = .ok (.lstore 6, 2) := by decide +kernel
theorem dX4_greatestDivisor_6 : decode cX4_greatestDivisor 6 = .ok (.iconst 0, 1) := by decide +kernel
theorem dX4_greatestDivisor_7 : decode cX4_greatestDivisor 7 = .ok (.istore 8, 2) := by decide +kernel
theorem dX4_greatestDivisor_9 : decode cX4_greatestDivisor 9 = .ok (.iload 8, 2) := by decide +kernel
theorem dX4_greatestDivisor_11 : decode cX4_greatestDivisor 11 = .ok (.bipush 64, 2) := by decide +kernel
theorem dX4_greatestDivisor_13 : decode cX4_greatestDivisor 13 = .ok (.if_icmp .ge 31, 3) := by decide +kernel
theorem dX4_greatestDivisor_16 : decode cX4_greatestDivisor 16 = .ok (.lload 6, 2) := by decide +kernel
theorem dX4_greatestDivisor_18 : decode cX4_greatestDivisor 18 = .ok (.lconst 0, 1) := by decide +kernel
theorem dX4_greatestDivisor_19 : decode cX4_greatestDivisor 19 = .ok (.lcmp, 1) := by decide +kernel
theorem dX4_greatestDivisor_20 : decode cX4_greatestDivisor 20 = .ok (.ifCond .eq 24, 3) := by decide +kernel
theorem dX4_greatestDivisor_23 : decode cX4_greatestDivisor 23 = .ok (.lload 4, 2) := by decide +kernel
theorem dX4_greatestDivisor_25 : decode cX4_greatestDivisor 25 = .ok (.lload 6, 2) := by decide +kernel
theorem dX4_greatestDivisor_27 : decode cX4_greatestDivisor 27 = .ok (.lrem, 1) := by decide +kernel
theorem dX4_greatestDivisor_28 : decode cX4_greatestDivisor 28 = .ok (.lstore 9, 2) := by decide +kernel
theorem dX4_greatestDivisor_30 : decode cX4_greatestDivisor 30 = .ok (.lload 6, 2) := by decide +kernel
theorem dX4_greatestDivisor_32 : decode cX4_greatestDivisor 32 = .ok (.lstore 4, 2) := by decide +kernel
theorem dX4_greatestDivisor_34 : decode cX4_greatestDivisor 34 = .ok (.lload 9, 2) := by decide +kernel
theorem dX4_greatestDivisor_36 : decode cX4_greatestDivisor 36 = .ok (.lstore 6, 2) := by decide +kernel
theorem dX4_greatestDivisor_38 : decode cX4_greatestDivisor 38 = .ok (.iinc 8 1, 3) := by decide +kernel
theorem dX4_greatestDivisor_41 : decode cX4_greatestDivisor 41 = .ok (.goto (-32), 3) := by decide +kernel
theorem dX4_greatestDivisor_44 : decode cX4_greatestDivisor 44 = .ok (.lload 4, 2) := by decide +kernel
theorem dX4_greatestDivisor_46 : decode cX4_greatestDivisor 46 = .ok (.lreturn, 1) := by decide +kernel
theorem dX4_twelveTimes_0 : decode cX4_twelveTimes 0 = .ok (.lconst 1, 1) := by decide +kernel
theorem dX4_twelveTimes_1 : decode cX4_twelveTimes 1 = .ok (.lstore_n 1, 1) := by decide +kernel
theorem dX4_twelveTimes_2 : decode cX4_twelveTimes 2 = .ok (.iconst 0, 1) := by decide +kernel
theorem dX4_twelveTimes_3 : decode cX4_twelveTimes 3 = .ok (.istore_n 3, 1) := by decide +kernel
theorem dX4_twelveTimes_4 : decode cX4_twelveTimes 4 = .ok (.iload_n 3, 1) := by decide +kernel
theorem dX4_twelveTimes_5 : decode cX4_twelveTimes 5 = .ok (.iload_n 0, 1) := by decide +kernel
theorem dX4_twelveTimes_6 : decode cX4_twelveTimes 6 = .ok (.if_icmp .ge 15, 3) := by decide +kernel
theorem dX4_twelveTimes_9 : decode cX4_twelveTimes 9 = .ok (.lload_n 1, 1) := by decide +kernel
theorem dX4_twelveTimes_10 : decode cX4_twelveTimes 10 = .ok (.ldc2_w 278, 3) := by decide +kernel
theorem dX4_twelveTimes_13 : decode cX4_twelveTimes 13 = .ok (.lmul, 1) := by decide +kernel
theorem dX4_twelveTimes_14 : decode cX4_twelveTimes 14 = .ok (.lstore_n 1, 1) := by decide +kernel
theorem dX4_twelveTimes_15 : decode cX4_twelveTimes 15 = .ok (.iinc 3 1, 3) := by decide +kernel
theorem dX4_twelveTimes_18 : decode cX4_twelveTimes 18 = .ok (.goto (-14), 3) := by decide +kernel
theorem dX4_twelveTimes_21 : decode cX4_twelveTimes 21 = .ok (.lload_n 1, 1) := by decide +kernel
theorem dX4_twelveTimes_22 : decode cX4_twelveTimes 22 = .ok (.lreturn, 1) := by decide +kernel
theorem dX4_isRow_0 : decode cX4_isRow 0 = .ok (.iload_n 0, 1) := by decide +kernel
theorem dX4_isRow_1 : decode cX4_isRow 1 = .ok (.ifCond .lt 13, 3) := by decide +kernel
theorem dX4_isRow_4 : decode cX4_isRow 4 = .ok (.iload_n 0, 1) := by decide +kernel
theorem dX4_isRow_5 : decode cX4_isRow 5 = .ok (.bipush 6, 2) := by decide +kernel
theorem dX4_isRow_7 : decode cX4_isRow 7 = .ok (.if_icmp .ge 7, 3) := by decide +kernel
theorem dX4_isRow_10 : decode cX4_isRow 10 = .ok (.iconst 1, 1) := by decide +kernel
theorem dX4_isRow_11 : decode cX4_isRow 11 = .ok (.goto 4, 3) := by decide +kernel
theorem dX4_isRow_14 : decode cX4_isRow 14 = .ok (.iconst 0, 1) := by decide +kernel
theorem dX4_isRow_15 : decode cX4_isRow 15 = .ok (.ireturn, 1) := by decide +kernel
theorem dX4_isText_0 : decode cX4_isText 0 = .ok (.iload_n 0, 1) := by decide +kernel
theorem dX4_isText_1 : decode cX4_isText 1 = .ok (.ifCond .lt 12, 3) := by decide +kernel
theorem dX4_isText_4 : decode cX4_isText 4 = .ok (.iload_n 0, 1) := by decide +kernel
theorem dX4_isText_5 : decode cX4_isText 5 = .ok (.iconst 4, 1) := by decide +kernel
theorem dX4_isText_6 : decode cX4_isText 6 = .ok (.if_icmp .ge 7, 3) := by decide +kernel
theorem dX4_isText_9 : decode cX4_isText 9 = .ok (.iconst 1, 1) := by decide +kernel
theorem dX4_isText_10 : decode cX4_isText 10 = .ok (.goto 4, 3) := by decide +kernel
theorem dX4_isText_13 : decode cX4_isText 13 = .ok (.iconst 0, 1) := by decide +kernel
theorem dX4_isText_14 : decode cX4_isText 14 = .ok (.ireturn, 1) := by decide +kernel
theorem dX4_isKeptPlace_0 : decode cX4_isKeptPlace 0 = .ok (.iload_n 0, 1) := by decide +kernel
theorem dX4_isKeptPlace_1 : decode cX4_isKeptPlace 1 = .ok (.ifCond .lt 12, 3) := by decide +kernel
theorem dX4_isKeptPlace_4 : decode cX4_isKeptPlace 4 = .ok (.iload_n 0, 1) := by decide +kernel
theorem dX4_isKeptPlace_5 : decode cX4_isKeptPlace 5 = .ok (.iconst 3, 1) := by decide +kernel
theorem dX4_isKeptPlace_6 : decode cX4_isKeptPlace 6 = .ok (.if_icmp .ge 7, 3) := by decide +kernel
theorem dX4_isKeptPlace_9 : decode cX4_isKeptPlace 9 = .ok (.iconst 1, 1) := by decide +kernel
theorem dX4_isKeptPlace_10 : decode cX4_isKeptPlace 10 = .ok (.goto 4, 3) := by decide +kernel
theorem dX4_isKeptPlace_13 : decode cX4_isKeptPlace 13 = .ok (.iconst 0, 1) := by decide +kernel
theorem dX4_isKeptPlace_14 : decode cX4_isKeptPlace 14 = .ok (.ireturn, 1) := by decide +kernel
theorem dX4_isCell_0 : decode cX4_isCell 0 = .ok (.iload_n 0, 1) := by decide +kernel
theorem dX4_isCell_1 : decode cX4_isCell 1 = .ok (.ifCond .lt 13, 3) := by decide +kernel
theorem dX4_isCell_4 : decode cX4_isCell 4 = .ok (.iload_n 0, 1) := by decide +kernel
theorem dX4_isCell_5 : decode cX4_isCell 5 = .ok (.bipush 8, 2) := by decide +kernel
theorem dX4_isCell_7 : decode cX4_isCell 7 = .ok (.if_icmp .ge 7, 3) := by decide +kernel
theorem dX4_isCell_10 : decode cX4_isCell 10 = .ok (.iconst 1, 1) := by decide +kernel
theorem dX4_isCell_11 : decode cX4_isCell 11 = .ok (.goto 4, 3) := by decide +kernel
theorem dX4_isCell_14 : decode cX4_isCell 14 = .ok (.iconst 0, 1) := by decide +kernel
theorem dX4_isCell_15 : decode cX4_isCell 15 = .ok (.ireturn, 1) := by decide +kernel
theorem dX4_isChance_0 : decode cX4_isChance 0 = .ok (.aload_n 0, 1) := by decide +kernel
theorem dX4_isChance_1 : decode cX4_isChance 1 = .ok (.getfield 42, 3) := by decide +kernel
theorem dX4_isChance_4 : decode cX4_isChance 4 = .ok (.iload_n 1, 1) := by decide +kernel
theorem dX4_isChance_5 : decode cX4_isChance 5 = .ok (.invokevirtual 121, 3) := by decide +kernel
theorem dX4_isChance_8 : decode cX4_isChance 8 = .ok (.ifCond .eq 27, 3) := by decide +kernel
theorem dX4_isChance_11 : decode cX4_isChance 11 = .ok (.iload_n 2, 1) := by decide +kernel
theorem dX4_isChance_12 : decode cX4_isChance 12 = .ok (.ifCond .lt 23, 3) := by decide +kernel
theorem dX4_isChance_15 : decode cX4_isChance 15 = .ok (.iload_n 2, 1) := by decide +kernel
theorem dX4_isChance_16 : decode cX4_isChance 16 = .ok (.bipush 6, 2) := by decide +kernel
theorem dX4_isChance_18 : decode cX4_isChance 18 = .ok (.if_icmp .gt 17, 3) := by decide +kernel
theorem dX4_isChance_21 : decode cX4_isChance 21 = .ok (.iload_n 3, 1) := by decide +kernel
theorem dX4_isChance_22 : decode cX4_isChance 22 = .ok (.ifCond .lt 13, 3) := by decide +kernel
theorem dX4_isChance_25 : decode cX4_isChance 25 = .ok (.iload_n 3, 1) := by decide +kernel
theorem dX4_isChance_26 : decode cX4_isChance 26 = .ok (.bipush 12, 2) := by decide +kernel
theorem dX4_isChance_28 : decode cX4_isChance 28 = .ok (.if_icmp .gt 7, 3) := by decide +kernel
theorem dX4_isChance_31 : decode cX4_isChance 31 = .ok (.iconst 1, 1) := by decide +kernel
theorem dX4_isChance_32 : decode cX4_isChance 32 = .ok (.goto 4, 3) := by decide +kernel
theorem dX4_isChance_35 : decode cX4_isChance 35 = .ok (.iconst 0, 1) := by decide +kernel
theorem dX4_isChance_36 : decode cX4_isChance 36 = .ok (.ireturn, 1) := by decide +kernel
theorem dX4_hasSpan_0 : decode cX4_hasSpan 0 = .ok (.iload_n 1, 1) := by decide +kernel
theorem dX4_hasSpan_1 : decode cX4_hasSpan 1 = .ok (.ifCond .lt 19, 3) := by decide +kernel
theorem dX4_hasSpan_4 : decode cX4_hasSpan 4 = .ok (.iload_n 1, 1) := by decide +kernel
theorem dX4_hasSpan_5 : decode cX4_hasSpan 5 = .ok (.iload_n 0, 1) := by decide +kernel
theorem dX4_hasSpan_6 : decode cX4_hasSpan 6 = .ok (.if_icmp .gt 14, 3) := by decide +kernel
theorem dX4_hasSpan_9 : decode cX4_hasSpan 9 = .ok (.iload_n 2, 1) := by decide +kernel
theorem dX4_hasSpan_10 : decode cX4_hasSpan 10 = .ok (.iload_n 0, 1) := by decide +kernel
theorem dX4_hasSpan_11 : decode cX4_hasSpan 11 = .ok (.iload_n 1, 1) := by decide +kernel
theorem dX4_hasSpan_12 : decode cX4_hasSpan 12 = .ok (.isub, 1) := by decide +kernel
theorem dX4_hasSpan_13 : decode cX4_hasSpan 13 = .ok (.if_icmp .gt 7, 3) := by decide +kernel
theorem dX4_hasSpan_16 : decode cX4_hasSpan 16 = .ok (.iconst 1, 1) := by decide +kernel
theorem dX4_hasSpan_17 : decode cX4_hasSpan 17 = .ok (.goto 4, 3) := by decide +kernel
theorem dX4_hasSpan_20 : decode cX4_hasSpan 20 = .ok (.iconst 0, 1) := by decide +kernel
theorem dX4_hasSpan_21 : decode cX4_hasSpan 21 = .ok (.ireturn, 1) := by decide +kernel
theorem dX4_presentIn_0 : decode cX4_presentIn 0 = .ok (.iconst 0, 1) := by decide +kernel
theorem dX4_presentIn_1 : decode cX4_presentIn 1 = .ok (.istore_n 1, 1) := by decide +kernel
theorem dX4_presentIn_2 : decode cX4_presentIn 2 = .ok (.iconst 0, 1) := by decide +kernel
theorem dX4_presentIn_3 : decode cX4_presentIn 3 = .ok (.istore_n 2, 1) := by decide +kernel
theorem dX4_presentIn_4 : decode cX4_presentIn 4 = .ok (.iload_n 2, 1) := by decide +kernel
theorem dX4_presentIn_5 : decode cX4_presentIn 5 = .ok (.aload_n 0, 1) := by decide +kernel
theorem dX4_presentIn_6 : decode cX4_presentIn 6 = .ok (.arraylength, 1) := by decide +kernel
theorem dX4_presentIn_7 : decode cX4_presentIn 7 = .ok (.if_icmp .ge 19, 3) := by decide +kernel
theorem dX4_presentIn_10 : decode cX4_presentIn 10 = .ok (.aload_n 0, 1) := by decide +kernel
theorem dX4_presentIn_11 : decode cX4_presentIn 11 = .ok (.iload_n 2, 1) := by decide +kernel
theorem dX4_presentIn_12 : decode cX4_presentIn 12 = .ok (.iaload, 1) := by decide +kernel
theorem dX4_presentIn_13 : decode cX4_presentIn 13 = .ok (.iconst (-1), 1) := by decide +kernel
theorem dX4_presentIn_14 : decode cX4_presentIn 14 = .ok (.if_icmp .eq 6, 3) := by decide +kernel
theorem dX4_presentIn_17 : decode cX4_presentIn 17 = .ok (.iinc 1 1, 3) := by decide +kernel
theorem dX4_presentIn_20 : decode cX4_presentIn 20 = .ok (.iinc 2 1, 3) := by decide +kernel
theorem dX4_presentIn_23 : decode cX4_presentIn 23 = .ok (.goto (-19), 3) := by decide +kernel
theorem dX4_presentIn_26 : decode cX4_presentIn 26 = .ok (.iload_n 1, 1) := by decide +kernel
theorem dX4_presentIn_27 : decode cX4_presentIn 27 = .ok (.ireturn, 1) := by decide +kernel
theorem dX4_isOfKind_0 : decode cX4_isOfKind 0 = .ok (.iload_n 1, 1) := by decide +kernel
theorem dX4_isOfKind_1 : decode cX4_isOfKind 1 = .ok (.ifCond .eq 28, 3) := by decide +kernel
theorem dX4_isOfKind_4 : decode cX4_isOfKind 4 = .ok (.iload_n 0, 1) := by decide +kernel
theorem dX4_isOfKind_5 : decode cX4_isOfKind 5 = .ok (.iload_n 1, 1) := by decide +kernel
theorem dX4_isOfKind_6 : decode cX4_isOfKind 6 = .ok (.if_icmp .eq 23, 3) := by decide +kernel
theorem dX4_isOfKind_9 : decode cX4_isOfKind 9 = .ok (.iload_n 0, 1) := by decide +kernel
theorem dX4_isOfKind_10 : decode cX4_isOfKind 10 = .ok (.iconst 4, 1) := by decide +kernel
theorem dX4_isOfKind_11 : decode cX4_isOfKind 11 = .ok (.if_icmp .ne 8, 3) := by decide +kernel
theorem dX4_isOfKind_14 : decode cX4_isOfKind 14 = .ok (.iload_n 1, 1) := by decide +kernel
theorem dX4_isOfKind_15 : decode cX4_isOfKind 15 = .ok (.iconst 1, 1) := by decide +kernel
theorem dX4_isOfKind_16 : decode cX4_isOfKind 16 = .ok (.if_icmp .eq 13, 3) := by decide +kernel
theorem dX4_isOfKind_19 : decode cX4_isOfKind 19 = .ok (.iload_n 0, 1) := by decide +kernel
theorem dX4_isOfKind_20 : decode cX4_isOfKind 20 = .ok (.iconst 5, 1) := by decide +kernel
theorem dX4_isOfKind_21 : decode cX4_isOfKind 21 = .ok (.if_icmp .ne 12, 3) := by decide +kernel
theorem dX4_isOfKind_24 : decode cX4_isOfKind 24 = .ok (.iload_n 1, 1) := by decide +kernel
theorem dX4_isOfKind_25 : decode cX4_isOfKind 25 = .ok (.iconst 2, 1) := by decide +kernel
theorem dX4_isOfKind_26 : decode cX4_isOfKind 26 = .ok (.if_icmp .ne 7, 3) := by decide +kernel
theorem dX4_isOfKind_29 : decode cX4_isOfKind 29 = .ok (.iconst 1, 1) := by decide +kernel
theorem dX4_isOfKind_30 : decode cX4_isOfKind 30 = .ok (.goto 4, 3) := by decide +kernel
theorem dX4_isOfKind_33 : decode cX4_isOfKind 33 = .ok (.iconst 0, 1) := by decide +kernel
theorem dX4_isOfKind_34 : decode cX4_isOfKind 34 = .ok (.ireturn, 1) := by decide +kernel
theorem dX4_pairsFinding_0 : decode cX4_pairsFinding 0 = .ok (.aload_n 0, 1) := by decide +kernel
theorem dX4_pairsFinding_1 : decode cX4_pairsFinding 1 = .ok (.getfield 14, 3) := by decide +kernel
theorem dX4_pairsFinding_4 : decode cX4_pairsFinding 4 = .ok (.iload_n 1, 1) := by decide +kernel
theorem dX4_pairsFinding_5 : decode cX4_pairsFinding 5 = .ok (.iaload, 1) := by decide +kernel
theorem dX4_pairsFinding_6 : decode cX4_pairsFinding 6 = .ok (.istore_n 2, 1) := by decide +kernel
theorem dX4_pairsFinding_7 : decode cX4_pairsFinding 7 = .ok (.iload_n 2, 1) := by decide +kernel
theorem dX4_pairsFinding_8 : decode cX4_pairsFinding 8 = .ok (.iconst (-1), 1) := by decide +kernel
theorem dX4_pairsFinding_9 : decode cX4_pairsFinding 9 = .ok (.if_icmp .ne 5, 3) := by decide +kernel
theorem dX4_pairsFinding_12 : decode cX4_pairsFinding 12 = .ok (.iconst 1, 1) := by decide +kernel
theorem dX4_pairsFinding_13 : decode cX4_pairsFinding 13 = .ok (.ireturn, 1) := by decide +kernel
theorem dX4_pairsFinding_14 : decode cX4_pairsFinding 14 = .ok (.iload_n 2, 1) := by decide +kernel
theorem dX4_pairsFinding_15 : decode cX4_pairsFinding 15 = .ok (.bipush 12, 2) := by decide +kernel
theorem dX4_pairsFinding_17 : decode cX4_pairsFinding 17 = .ok (.if_icmp .gt 9, 3) := by decide +kernel
theorem dX4_pairsFinding_20 : decode cX4_pairsFinding 20 = .ok (.iload_n 2, 1) := by decide +kernel
theorem dX4_pairsFinding_21 : decode cX4_pairsFinding 21 = .ok (.iconst 2, 1) := by decide +kernel
theorem dX4_pairsFinding_22 : decode cX4_pairsFinding 22 = .ok (.irem, 1) := by decide +kernel
theorem dX4_pairsFinding_23 : decode cX4_pairsFinding 23 = .ok (.ifCond .eq 5, 3) := by decide +kernel
theorem dX4_pairsFinding_26 : decode cX4_pairsFinding 26 = .ok (.iconst 5, 1) := by decide +kernel
theorem dX4_pairsFinding_27 : decode cX4_pairsFinding 27 = .ok (.ireturn, 1) := by decide +kernel
theorem dX4_pairsFinding_28 : decode cX4_pairsFinding 28 = .ok (.iconst 0, 1) := by decide +kernel
theorem dX4_pairsFinding_29 : decode cX4_pairsFinding 29 = .ok (.istore_n 3, 1) := by decide +kernel
theorem dX4_pairsFinding_30 : decode cX4_pairsFinding 30 = .ok (.iload_n 3, 1) := by decide +kernel
theorem dX4_pairsFinding_31 : decode cX4_pairsFinding 31 = .ok (.iconst 1, 1) := by decide +kernel
theorem dX4_pairsFinding_32 : decode cX4_pairsFinding 32 = .ok (.iadd, 1) := by decide +kernel
theorem dX4_pairsFinding_33 : decode cX4_pairsFinding 33 = .ok (.iload_n 2, 1) := by decide +kernel
theorem dX4_pairsFinding_34 : decode cX4_pairsFinding 34 = .ok (.if_icmp .ge 51, 3) := by decide +kernel
theorem dX4_pairsFinding_37 : decode cX4_pairsFinding 37 = .ok (.aload_n 0, 1) := by decide +kernel
theorem dX4_pairsFinding_38 : decode cX4_pairsFinding 38 = .ok (.getfield 11, 3) := by decide +kernel
theorem dX4_pairsFinding_41 : decode cX4_pairsFinding 41 = .ok (.iload_n 1, 1) := by decide +kernel
theorem dX4_pairsFinding_42 : decode cX4_pairsFinding 42 = .ok (.aaload, 1) := by decide +kernel
theorem dX4_pairsFinding_43 : decode cX4_pairsFinding 43 = .ok (.iload_n 3, 1) := by decide +kernel
theorem dX4_pairsFinding_44 : decode cX4_pairsFinding 44 = .ok (.iaload, 1) := by decide +kernel
theorem dX4_pairsFinding_45 : decode cX4_pairsFinding 45 = .ok (.ifCond .lt 32, 3) := by decide +kernel
theorem dX4_pairsFinding_48 : decode cX4_pairsFinding 48 = .ok (.aload_n 0, 1) := by decide +kernel
theorem dX4_pairsFinding_49 : decode cX4_pairsFinding 49 = .ok (.getfield 11, 3) := by decide +kernel
theorem dX4_pairsFinding_52 : decode cX4_pairsFinding 52 = .ok (.iload_n 1, 1) := by decide +kernel
theorem dX4_pairsFinding_53 : decode cX4_pairsFinding 53 = .ok (.aaload, 1) := by decide +kernel
theorem dX4_pairsFinding_54 : decode cX4_pairsFinding 54 = .ok (.iload_n 3, 1) := by decide +kernel
theorem dX4_pairsFinding_55 : decode cX4_pairsFinding 55 = .ok (.iaload, 1) := by decide +kernel
theorem dX4_pairsFinding_56 : decode cX4_pairsFinding 56 = .ok (.bipush 20, 2) := by decide +kernel
theorem dX4_pairsFinding_58 : decode cX4_pairsFinding 58 = .ok (.if_icmp .gt 19, 3) := by decide +kernel
theorem dX4_pairsFinding_61 : decode cX4_pairsFinding 61 = .ok (.aload_n 0, 1) := by decide +kernel
theorem dX4_pairsFinding_62 : decode cX4_pairsFinding 62 = .ok (.getfield 11, 3) := by decide +kernel
theorem dX4_pairsFinding_65 : decode cX4_pairsFinding 65 = .ok (.iload_n 1, 1) := by decide +kernel
theorem dX4_pairsFinding_66 : decode cX4_pairsFinding 66 = .ok (.aaload, 1) := by decide +kernel
theorem dX4_pairsFinding_67 : decode cX4_pairsFinding 67 = .ok (.iload_n 3, 1) := by decide +kernel
theorem dX4_pairsFinding_68 : decode cX4_pairsFinding 68 = .ok (.iconst 1, 1) := by decide +kernel
theorem dX4_pairsFinding_69 : decode cX4_pairsFinding 69 = .ok (.iadd, 1) := by decide +kernel
theorem dX4_pairsFinding_70 : decode cX4_pairsFinding 70 = .ok (.iaload, 1) := by decide +kernel
theorem dX4_pairsFinding_71 : decode cX4_pairsFinding 71 = .ok (.invokestatic 138, 3) := by decide +kernel
theorem dX4_pairsFinding_74 : decode cX4_pairsFinding 74 = .ok (.ifCond .ne 5, 3) := by decide +kernel
theorem dX4_pairsFinding_77 : decode cX4_pairsFinding 77 = .ok (.iconst 3, 1) := by decide +kernel
theorem dX4_pairsFinding_78 : decode cX4_pairsFinding 78 = .ok (.ireturn, 1) := by decide +kernel
theorem dX4_pairsFinding_79 : decode cX4_pairsFinding 79 = .ok (.iinc 3 2, 3) := by decide +kernel
theorem dX4_pairsFinding_82 : decode cX4_pairsFinding 82 = .ok (.goto (-52), 3) := by decide +kernel
theorem dX4_pairsFinding_85 : decode cX4_pairsFinding 85 = .ok (.iconst 0, 1) := by decide +kernel
theorem dX4_pairsFinding_86 : decode cX4_pairsFinding 86 = .ok (.ireturn, 1) := by decide +kernel
theorem dX4_fitsPairs_0 : decode cX4_fitsPairs 0 = .ok (.iconst 0, 1) := by decide +kernel
theorem dX4_fitsPairs_1 : decode cX4_fitsPairs 1 = .ok (.istore 5, 2) := by decide +kernel
theorem dX4_fitsPairs_3 : decode cX4_fitsPairs 3 = .ok (.iload 5, 2) := by decide +kernel
theorem dX4_fitsPairs_5 : decode cX4_fitsPairs 5 = .ok (.iconst 1, 1) := by decide +kernel
theorem dX4_fitsPairs_6 : decode cX4_fitsPairs 6 = .ok (.iadd, 1) := by decide +kernel
theorem dX4_fitsPairs_7 : decode cX4_fitsPairs 7 = .ok (.aload_n 0, 1) := by decide +kernel
theorem dX4_fitsPairs_8 : decode cX4_fitsPairs 8 = .ok (.getfield 14, 3) := by decide +kernel
theorem dX4_fitsPairs_11 : decode cX4_fitsPairs 11 = .ok (.iload 4, 2) := by decide +kernel
theorem dX4_fitsPairs_13 : decode cX4_fitsPairs 13 = .ok (.iaload, 1) := by decide +kernel
theorem dX4_fitsPairs_14 : decode cX4_fitsPairs 14 = .ok (.if_icmp .ge 46, 3) := by decide +kernel
theorem dX4_fitsPairs_17 : decode cX4_fitsPairs 17 = .ok (.aload_n 0, 1) := by decide +kernel
theorem dX4_fitsPairs_18 : decode cX4_fitsPairs 18 = .ok (.getfield 42, 3) := by decide +kernel
theorem dX4_fitsPairs_21 : decode cX4_fitsPairs 21 = .ok (.iload_n 1, 1) := by decide +kernel
theorem dX4_fitsPairs_22 : decode cX4_fitsPairs 22 = .ok (.iload_n 2, 1) := by decide +kernel
theorem dX4_fitsPairs_23 : decode cX4_fitsPairs 23 = .ok (.iload_n 3, 1) := by decide +kernel
theorem dX4_fitsPairs_24 : decode cX4_fitsPairs 24 = .ok (.aload_n 0, 1) := by decide +kernel
theorem dX4_fitsPairs_25 : decode cX4_fitsPairs 25 = .ok (.getfield 11, 3) := by decide +kernel
theorem dX4_fitsPairs_28 : decode cX4_fitsPairs 28 = .ok (.iload 4, 2) := by decide +kernel
theorem dX4_fitsPairs_30 : decode cX4_fitsPairs 30 = .ok (.aaload, 1) := by decide +kernel
theorem dX4_fitsPairs_31 : decode cX4_fitsPairs 31 = .ok (.iload 5, 2) := by decide +kernel
theorem dX4_fitsPairs_33 : decode cX4_fitsPairs 33 = .ok (.iaload, 1) := by decide +kernel
theorem dX4_fitsPairs_34 : decode cX4_fitsPairs 34 = .ok (.invokevirtual 280, 3) := by decide +kernel
theorem dX4_fitsPairs_37 : decode cX4_fitsPairs 37 = .ok (.aload_n 0, 1) := by decide +kernel
theorem dX4_fitsPairs_38 : decode cX4_fitsPairs 38 = .ok (.getfield 11, 3) := by decide +kernel
theorem dX4_fitsPairs_41 : decode cX4_fitsPairs 41 = .ok (.iload 4, 2) := by decide +kernel
theorem dX4_fitsPairs_43 : decode cX4_fitsPairs 43 = .ok (.aaload, 1) := by decide +kernel
theorem dX4_fitsPairs_44 : decode cX4_fitsPairs 44 = .ok (.iload 5, 2) := by decide +kernel
theorem dX4_fitsPairs_46 : decode cX4_fitsPairs 46 = .ok (.iconst 1, 1) := by decide +kernel
theorem dX4_fitsPairs_47 : decode cX4_fitsPairs 47 = .ok (.iadd, 1) := by decide +kernel
theorem dX4_fitsPairs_48 : decode cX4_fitsPairs 48 = .ok (.iaload, 1) := by decide +kernel
theorem dX4_fitsPairs_49 : decode cX4_fitsPairs 49 = .ok (.if_icmp .eq 5, 3) := by decide +kernel
theorem dX4_fitsPairs_52 : decode cX4_fitsPairs 52 = .ok (.iconst 0, 1) := by decide +kernel
theorem dX4_fitsPairs_53 : decode cX4_fitsPairs 53 = .ok (.ireturn, 1) := by decide +kernel
theorem dX4_fitsPairs_54 : decode cX4_fitsPairs 54 = .ok (.iinc 5 2, 3) := by decide +kernel
theorem dX4_fitsPairs_57 : decode cX4_fitsPairs 57 = .ok (.goto (-54), 3) := by decide +kernel
theorem dX4_fitsPairs_60 : decode cX4_fitsPairs 60 = .ok (.iconst 1, 1) := by decide +kernel
theorem dX4_fitsPairs_61 : decode cX4_fitsPairs 61 = .ok (.ireturn, 1) := by decide +kernel
theorem dX4_stepsHome_0 : decode cX4_stepsHome 0 = .ok (.iconst 0, 1) := by decide +kernel
theorem dX4_stepsHome_1 : decode cX4_stepsHome 1 = .ok (.istore_n 3, 1) := by decide +kernel
theorem dX4_stepsHome_2 : decode cX4_stepsHome 2 = .ok (.iconst 0, 1) := by decide +kernel
theorem dX4_stepsHome_3 : decode cX4_stepsHome 3 = .ok (.istore 4, 2) := by decide +kernel
theorem dX4_stepsHome_5 : decode cX4_stepsHome 5 = .ok (.iload 4, 2) := by decide +kernel
theorem dX4_stepsHome_7 : decode cX4_stepsHome 7 = .ok (.aload_n 0, 1) := by decide +kernel
theorem dX4_stepsHome_8 : decode cX4_stepsHome 8 = .ok (.getfield 42, 3) := by decide +kernel
theorem dX4_stepsHome_11 : decode cX4_stepsHome 11 = .ok (.getfield 118, 3) := by decide +kernel
theorem dX4_stepsHome_14 : decode cX4_stepsHome 14 = .ok (.if_icmp .ge 58, 3) := by decide +kernel
theorem dX4_stepsHome_17 : decode cX4_stepsHome 17 = .ok (.iload 4, 2) := by decide +kernel
theorem dX4_stepsHome_19 : decode cX4_stepsHome 19 = .ok (.iload_n 1, 1) := by decide +kernel
theorem dX4_stepsHome_20 : decode cX4_stepsHome 20 = .ok (.if_icmp .eq 46, 3) := by decide +kernel
theorem dX4_stepsHome_23 : decode cX4_stepsHome 23 = .ok (.iload 4, 2) := by decide +kernel
theorem dX4_stepsHome_25 : decode cX4_stepsHome 25 = .ok (.iload_n 2, 1) := by decide +kernel
theorem dX4_stepsHome_26 : decode cX4_stepsHome 26 = .ok (.if_icmp .eq 40, 3) := by decide +kernel
theorem dX4_stepsHome_29 : decode cX4_stepsHome 29 = .ok (.aload_n 0, 1) := by decide +kernel
theorem dX4_stepsHome_30 : decode cX4_stepsHome 30 = .ok (.getfield 42, 3) := by decide +kernel
theorem dX4_stepsHome_33 : decode cX4_stepsHome 33 = .ok (.iload 4, 2) := by decide +kernel
theorem dX4_stepsHome_35 : decode cX4_stepsHome 35 = .ok (.invokevirtual 184, 3) := by decide +kernel
theorem dX4_stepsHome_38 : decode cX4_stepsHome 38 = .ok (.ifCond .eq 6, 3) := by decide +kernel
theorem dX4_stepsHome_41 : decode cX4_stepsHome 41 = .ok (.goto 25, 3) := by decide +kernel
theorem dX4_stepsHome_44 : decode cX4_stepsHome 44 = .ok (.iload_n 3, 1) := by decide +kernel
theorem dX4_stepsHome_45 : decode cX4_stepsHome 45 = .ok (.iconst 1, 1) := by decide +kernel
theorem dX4_stepsHome_46 : decode cX4_stepsHome 46 = .ok (.iload 4, 2) := by decide +kernel
theorem dX4_stepsHome_48 : decode cX4_stepsHome 48 = .ok (.iconst 2, 1) := by decide +kernel
theorem dX4_stepsHome_49 : decode cX4_stepsHome 49 = .ok (.irem, 1) := by decide +kernel
theorem dX4_stepsHome_50 : decode cX4_stepsHome 50 = .ok (.aload_n 0, 1) := by decide +kernel
theorem dX4_stepsHome_51 : decode cX4_stepsHome 51 = .ok (.getfield 42, 3) := by decide +kernel
theorem dX4_stepsHome_54 : decode cX4_stepsHome 54 = .ok (.getfield 160, 3) := by decide +kernel
theorem dX4_stepsHome_57 : decode cX4_stepsHome 57 = .ok (.iload 4, 2) := by decide +kernel
theorem dX4_stepsHome_59 : decode cX4_stepsHome 59 = .ok (.iaload, 1) := by decide +kernel
theorem dX4_stepsHome_60 : decode cX4_stepsHome 60 = .ok (.invokestatic 283, 3) := by decide +kernel
theorem dX4_stepsHome_63 : decode cX4_stepsHome 63 = .ok (.ishl, 1) := by decide +kernel
theorem dX4_stepsHome_64 : decode cX4_stepsHome 64 = .ok (.ior, 1) := by decide +kernel
theorem dX4_stepsHome_65 : decode cX4_stepsHome 65 = .ok (.istore_n 3, 1) := by decide +kernel
theorem dX4_stepsHome_66 : decode cX4_stepsHome 66 = .ok (.iinc 4 1, 3) := by decide +kernel
theorem dX4_stepsHome_69 : decode cX4_stepsHome 69 = .ok (.goto (-64), 3) := by decide +kernel
theorem dX4_stepsHome_72 : decode cX4_stepsHome 72 = .ok (.iload_n 1, 1) := by decide +kernel
theorem dX4_stepsHome_73 : decode cX4_stepsHome 73 = .ok (.iconst 2, 1) := by decide +kernel
theorem dX4_stepsHome_74 : decode cX4_stepsHome 74 = .ok (.irem, 1) := by decide +kernel
theorem dX4_stepsHome_75 : decode cX4_stepsHome 75 = .ok (.aload_n 0, 1) := by decide +kernel
theorem dX4_stepsHome_76 : decode cX4_stepsHome 76 = .ok (.getfield 42, 3) := by decide +kernel
theorem dX4_stepsHome_79 : decode cX4_stepsHome 79 = .ok (.getfield 160, 3) := by decide +kernel
theorem dX4_stepsHome_82 : decode cX4_stepsHome 82 = .ok (.iload_n 1, 1) := by decide +kernel
theorem dX4_stepsHome_83 : decode cX4_stepsHome 83 = .ok (.iaload, 1) := by decide +kernel
theorem dX4_stepsHome_84 : decode cX4_stepsHome 84 = .ok (.invokestatic 283, 3) := by decide +kernel
theorem dX4_stepsHome_87 : decode cX4_stepsHome 87 = .ok (.istore 4, 2) := by decide +kernel
theorem dX4_stepsHome_89 : decode cX4_stepsHome 89 = .ok (.iconst 0, 1) := by decide +kernel
theorem dX4_stepsHome_90 : decode cX4_stepsHome 90 = .ok (.aload_n 0, 1) := by decide +kernel
theorem dX4_stepsHome_91 : decode cX4_stepsHome 91 = .ok (.getfield 42, 3) := by decide +kernel
theorem dX4_stepsHome_94 : decode cX4_stepsHome 94 = .ok (.getfield 166, 3) := by decide +kernel
theorem dX4_stepsHome_97 : decode cX4_stepsHome 97 = .ok (.iload_n 1, 1) := by decide +kernel
theorem dX4_stepsHome_98 : decode cX4_stepsHome 98 = .ok (.iaload, 1) := by decide +kernel
theorem dX4_stepsHome_99 : decode cX4_stepsHome 99 = .ok (.invokestatic 283, 3) := by decide +kernel
theorem dX4_stepsHome_102 : decode cX4_stepsHome 102 = .ok (.istore 5, 2) := by decide +kernel
theorem dX4_stepsHome_104 : decode cX4_stepsHome 104 = .ok (.iload 4, 2) := by decide +kernel
theorem dX4_stepsHome_106 : decode cX4_stepsHome 106 = .ok (.iload 5, 2) := by decide +kernel
theorem dX4_stepsHome_108 : decode cX4_stepsHome 108 = .ok (.iconst 1, 1) := by decide +kernel
theorem dX4_stepsHome_109 : decode cX4_stepsHome 109 = .ok (.iload_n 3, 1) := by decide +kernel
theorem dX4_stepsHome_110 : decode cX4_stepsHome 110 = .ok (.invokestatic 286, 3) := by decide +kernel
theorem dX4_stepsHome_113 : decode cX4_stepsHome 113 = .ok (.istore 6, 2) := by decide +kernel
theorem dX4_stepsHome_115 : decode cX4_stepsHome 115 = .ok (.iload 4, 2) := by decide +kernel
theorem dX4_stepsHome_117 : decode cX4_stepsHome 117 = .ok (.iload 5, 2) := by decide +kernel
theorem dX4_stepsHome_119 : decode cX4_stepsHome 119 = .ok (.iconst (-1), 1) := by decide +kernel
theorem dX4_stepsHome_120 : decode cX4_stepsHome 120 = .ok (.iload_n 3, 1) := by decide +kernel
theorem dX4_stepsHome_121 : decode cX4_stepsHome 121 = .ok (.invokestatic 286, 3) := by decide +kernel
theorem dX4_stepsHome_124 : decode cX4_stepsHome 124 = .ok (.istore 7, 2) := by decide +kernel
theorem dX4_stepsHome_126 : decode cX4_stepsHome 126 = .ok (.iload 6, 2) := by decide +kernel
theorem dX4_stepsHome_128 : decode cX4_stepsHome 128 = .ok (.bipush (-9), 2) := by decide +kernel
theorem dX4_stepsHome_130 : decode cX4_stepsHome 130 = .ok (.if_icmp .ne 6, 3) := by decide +kernel
theorem dX4_stepsHome_133 : decode cX4_stepsHome 133 = .ok (.iload 7, 2) := by decide +kernel
theorem dX4_stepsHome_135 : decode cX4_stepsHome 135 = .ok (.ireturn, 1) := by decide +kernel
theorem dX4_stepsHome_136 : decode cX4_stepsHome 136 = .ok (.iload 7, 2) := by decide +kernel
theorem dX4_stepsHome_138 : decode cX4_stepsHome 138 = .ok (.bipush (-9), 2) := by decide +kernel
theorem dX4_stepsHome_140 : decode cX4_stepsHome 140 = .ok (.if_icmp .ne 6, 3) := by decide +kernel
theorem dX4_stepsHome_143 : decode cX4_stepsHome 143 = .ok (.iload 6, 2) := by decide +kernel
theorem dX4_stepsHome_145 : decode cX4_stepsHome 145 = .ok (.ireturn, 1) := by decide +kernel
theorem dX4_stepsHome_146 : decode cX4_stepsHome 146 = .ok (.iload 6, 2) := by decide +kernel
theorem dX4_stepsHome_148 : decode cX4_stepsHome 148 = .ok (.iload 7, 2) := by decide +kernel
theorem dX4_stepsHome_150 : decode cX4_stepsHome 150 = .ok (.invokestatic 289, 3) := by decide +kernel
theorem dX4_stepsHome_153 : decode cX4_stepsHome 153 = .ok (.ireturn, 1) := by decide +kernel
theorem dX4_streetPlace_0 : decode cX4_streetPlace 0 = .ok (.iload_n 0, 1) := by decide +kernel
theorem dX4_streetPlace_1 : decode cX4_streetPlace 1 = .ok (.ifCond .ne 7, 3) := by decide +kernel
theorem dX4_streetPlace_4 : decode cX4_streetPlace 4 = .ok (.iload_n 1, 1) := by decide +kernel
theorem dX4_streetPlace_5 : decode cX4_streetPlace 5 = .ok (.goto 7, 3) := by decide +kernel
theorem dX4_streetPlace_8 : decode cX4_streetPlace 8 = .ok (.bipush 15, 2) := by decide +kernel
theorem dX4_streetPlace_10 : decode cX4_streetPlace 10 = .ok (.iload_n 1, 1) := by decide +kernel
theorem dX4_streetPlace_11 : decode cX4_streetPlace 11 = .ok (.isub, 1) := by decide +kernel
theorem dX4_streetPlace_12 : decode cX4_streetPlace 12 = .ok (.ireturn, 1) := by decide +kernel
theorem dX4_stepsAround_0 : decode cX4_stepsAround 0 = .ok (.iload_n 0, 1) := by decide +kernel
theorem dX4_stepsAround_1 : decode cX4_stepsAround 1 = .ok (.istore 4, 2) := by decide +kernel
theorem dX4_stepsAround_3 : decode cX4_stepsAround 3 = .ok (.iconst 0, 1) := by decide +kernel
theorem dX4_stepsAround_4 : decode cX4_stepsAround 4 = .ok (.istore 5, 2) := by decide +kernel
theorem dX4_stepsAround_6 : decode cX4_stepsAround 6 = .ok (.iload 5, 2) := by decide +kernel
theorem dX4_stepsAround_8 : decode cX4_stepsAround 8 = .ok (.bipush 16, 2) := by decide +kernel
theorem dX4_stepsAround_10 : decode cX4_stepsAround 10 = .ok (.if_icmp .ge 41, 3) := by decide +kernel
theorem dX4_stepsAround_13 : decode cX4_stepsAround 13 = .ok (.iload 4, 2) := by decide +kernel
theorem dX4_stepsAround_15 : decode cX4_stepsAround 15 = .ok (.iload_n 1, 1) := by decide +kernel
theorem dX4_stepsAround_16 : decode cX4_stepsAround 16 = .ok (.if_icmp .ne 6, 3) := by decide +kernel
theorem dX4_stepsAround_19 : decode cX4_stepsAround 19 = .ok (.iload 5, 2) := by decide +kernel
theorem dX4_stepsAround_21 : decode cX4_stepsAround 21 = .ok (.ireturn, 1) := by decide +kernel
theorem dX4_stepsAround_22 : decode cX4_stepsAround 22 = .ok (.iload 4, 2) := by decide +kernel
theorem dX4_stepsAround_24 : decode cX4_stepsAround 24 = .ok (.iload_n 2, 1) := by decide +kernel
theorem dX4_stepsAround_25 : decode cX4_stepsAround 25 = .ok (.iadd, 1) := by decide +kernel
theorem dX4_stepsAround_26 : decode cX4_stepsAround 26 = .ok (.bipush 16, 2) := by decide +kernel
theorem dX4_stepsAround_28 : decode cX4_stepsAround 28 = .ok (.invokestatic 292, 3) := by decide +kernel
theorem dX4_stepsAround_31 : decode cX4_stepsAround 31 = .ok (.istore 4, 2) := by decide +kernel
theorem dX4_stepsAround_33 : decode cX4_stepsAround 33 = .ok (.iload_n 3, 1) := by decide +kernel
theorem dX4_stepsAround_34 : decode cX4_stepsAround 34 = .ok (.iload 4, 2) := by decide +kernel
theorem dX4_stepsAround_36 : decode cX4_stepsAround 36 = .ok (.ishr, 1) := by decide +kernel
theorem dX4_stepsAround_37 : decode cX4_stepsAround 37 = .ok (.iconst 1, 1) := by decide +kernel
theorem dX4_stepsAround_38 : decode cX4_stepsAround 38 = .ok (.iand, 1) := by decide +kernel
theorem dX4_stepsAround_39 : decode cX4_stepsAround 39 = .ok (.ifCond .eq 6, 3) := by decide +kernel
theorem dX4_stepsAround_42 : decode cX4_stepsAround 42 = .ok (.bipush (-9), 2) := by decide +kernel
theorem dX4_stepsAround_44 : decode cX4_stepsAround 44 = .ok (.ireturn, 1) := by decide +kernel
theorem dX4_stepsAround_45 : decode cX4_stepsAround 45 = .ok (.iinc 5 1, 3) := by decide +kernel
theorem dX4_stepsAround_48 : decode cX4_stepsAround 48 = .ok (.goto (-42), 3) := by decide +kernel
theorem dX4_stepsAround_51 : decode cX4_stepsAround 51 = .ok (.bipush (-9), 2) := by decide +kernel
theorem dX4_stepsAround_53 : decode cX4_stepsAround 53 = .ok (.ireturn, 1) := by decide +kernel
theorem dX4_outcome_0 : decode cX4_outcome 0 = .ok (.iload_n 3, 1) := by decide +kernel
theorem dX4_outcome_1 : decode cX4_outcome 1 = .ok (.ifCond .gt 17, 3) := by decide +kernel
theorem dX4_outcome_4 : decode cX4_outcome 4 = .ok (.iload_n 0, 1) := by decide +kernel
theorem dX4_outcome_5 : decode cX4_outcome 5 = .ok (.iload_n 1, 1) := by decide +kernel
theorem dX4_outcome_6 : decode cX4_outcome 6 = .ok (.isub, 1) := by decide +kernel
theorem dX4_outcome_7 : decode cX4_outcome 7 = .ok (.invokestatic 169, 3) := by decide +kernel
theorem dX4_outcome_10 : decode cX4_outcome 10 = .ok (.iload_n 0, 1) := by decide +kernel
theorem dX4_outcome_11 : decode cX4_outcome 11 = .ok (.iload_n 2, 1) := by decide +kernel
theorem dX4_outcome_12 : decode cX4_outcome 12 = .ok (.isub, 1) := by decide +kernel
theorem dX4_outcome_13 : decode cX4_outcome 13 = .ok (.invokestatic 169, 3) := by decide +kernel
theorem dX4_outcome_16 : decode cX4_outcome 16 = .ok (.isub, 1) := by decide +kernel
theorem dX4_outcome_17 : decode cX4_outcome 17 = .ok (.ireturn, 1) := by decide +kernel
theorem dX4_outcome_18 : decode cX4_outcome 18 = .ok (.iload_n 3, 1) := by decide +kernel
theorem dX4_outcome_19 : decode cX4_outcome 19 = .ok (.iconst 2, 1) := by decide +kernel
theorem dX4_outcome_20 : decode cX4_outcome 20 = .ok (.irem, 1) := by decide +kernel
theorem dX4_outcome_21 : decode cX4_outcome 21 = .ok (.ifCond .ne 7, 3) := by decide +kernel
theorem dX4_outcome_24 : decode cX4_outcome 24 = .ok (.iconst 1, 1) := by decide +kernel
theorem dX4_outcome_25 : decode cX4_outcome 25 = .ok (.goto 4, 3) := by decide +kernel
theorem dX4_outcome_28 : decode cX4_outcome 28 = .ok (.iconst 0, 1) := by decide +kernel
theorem dX4_outcome_29 : decode cX4_outcome 29 = .ok (.istore 4, 2) := by decide +kernel
theorem dX4_outcome_31 : decode cX4_outcome 31 = .ok (.iload_n 0, 1) := by decide +kernel
theorem dX4_outcome_32 : decode cX4_outcome 32 = .ok (.iload_n 1, 1) := by decide +kernel
theorem dX4_outcome_33 : decode cX4_outcome 33 = .ok (.iload_n 2, 1) := by decide +kernel
theorem dX4_outcome_34 : decode cX4_outcome 34 = .ok (.iload_n 3, 1) := by decide +kernel
theorem dX4_outcome_35 : decode cX4_outcome 35 = .ok (.iconst 1, 1) := by decide +kernel
theorem dX4_outcome_36 : decode cX4_outcome 36 = .ok (.isub, 1) := by decide +kernel
theorem dX4_outcome_37 : decode cX4_outcome 37 = .ok (.invokestatic 226, 3) := by decide +kernel
theorem dX4_outcome_40 : decode cX4_outcome 40 = .ok (.istore 5, 2) := by decide +kernel
theorem dX4_outcome_42 : decode cX4_outcome 42 = .ok (.iconst (-1), 1) := by decide +kernel
theorem dX4_outcome_43 : decode cX4_outcome 43 = .ok (.istore 6, 2) := by decide +kernel
theorem dX4_outcome_45 : decode cX4_outcome 45 = .ok (.iload 6, 2) := by decide +kernel
theorem dX4_outcome_47 : decode cX4_outcome 47 = .ok (.iconst 1, 1) := by decide +kernel
theorem dX4_outcome_48 : decode cX4_outcome 48 = .ok (.if_icmp .gt 60, 3) := by decide +kernel
theorem dX4_outcome_51 : decode cX4_outcome 51 = .ok (.iload_n 0, 1) := by decide +kernel
theorem dX4_outcome_52 : decode cX4_outcome 52 = .ok (.iload 6, 2) := by decide +kernel
theorem dX4_outcome_54 : decode cX4_outcome 54 = .ok (.iadd, 1) := by decide +kernel
theorem dX4_outcome_55 : decode cX4_outcome 55 = .ok (.invokestatic 138, 3) := by decide +kernel
theorem dX4_outcome_58 : decode cX4_outcome 58 = .ok (.ifCond .ne 6, 3) := by decide +kernel
theorem dX4_outcome_61 : decode cX4_outcome 61 = .ok (.goto 41, 3) := by decide +kernel
theorem dX4_outcome_64 : decode cX4_outcome 64 = .ok (.iload_n 0, 1) := by decide +kernel
theorem dX4_outcome_65 : decode cX4_outcome 65 = .ok (.iload 6, 2) := by decide +kernel
theorem dX4_outcome_67 : decode cX4_outcome 67 = .ok (.iadd, 1) := by decide +kernel
theorem dX4_outcome_68 : decode cX4_outcome 68 = .ok (.iload_n 1, 1) := by decide +kernel
theorem dX4_outcome_69 : decode cX4_outcome 69 = .ok (.iload_n 2, 1) := by decide +kernel
theorem dX4_outcome_70 : decode cX4_outcome 70 = .ok (.iload_n 3, 1) := by decide +kernel
theorem dX4_outcome_71 : decode cX4_outcome 71 = .ok (.iconst 1, 1) := by decide +kernel
theorem dX4_outcome_72 : decode cX4_outcome 72 = .ok (.isub, 1) := by decide +kernel
theorem dX4_outcome_73 : decode cX4_outcome 73 = .ok (.invokestatic 226, 3) := by decide +kernel
theorem dX4_outcome_76 : decode cX4_outcome 76 = .ok (.istore 7, 2) := by decide +kernel
theorem dX4_outcome_78 : decode cX4_outcome 78 = .ok (.iload 4, 2) := by decide +kernel
theorem dX4_outcome_80 : decode cX4_outcome 80 = .ok (.ifCond .eq 13, 3) := by decide +kernel
theorem dX4_outcome_83 : decode cX4_outcome 83 = .ok (.iload 5, 2) := by decide +kernel
theorem dX4_outcome_85 : decode cX4_outcome 85 = .ok (.iload 7, 2) := by decide +kernel
theorem dX4_outcome_87 : decode cX4_outcome 87 = .ok (.invokestatic 295, 3) := by decide +kernel
theorem dX4_outcome_90 : decode cX4_outcome 90 = .ok (.goto 10, 3) := by decide +kernel
theorem dX4_outcome_93 : decode cX4_outcome 93 = .ok (.iload 5, 2) := by decide +kernel
theorem dX4_outcome_95 : decode cX4_outcome 95 = .ok (.iload 7, 2) := by decide +kernel
theorem dX4_outcome_97 : decode cX4_outcome 97 = .ok (.invokestatic 289, 3) := by decide +kernel
theorem dX4_outcome_100 : decode cX4_outcome 100 = .ok (.istore 5, 2) := by decide +kernel
theorem dX4_outcome_102 : decode cX4_outcome 102 = .ok (.iinc 6 2, 3) := by decide +kernel
theorem dX4_outcome_105 : decode cX4_outcome 105 = .ok (.goto (-60), 3) := by decide +kernel
theorem dX4_outcome_108 : decode cX4_outcome 108 = .ok (.iload 5, 2) := by decide +kernel
theorem dX4_outcome_110 : decode cX4_outcome 110 = .ok (.ireturn, 1) := by decide +kernel
theorem dX5_init_0 : decode cX5_init 0 = .ok (.aload_n 0, 1) := by decide +kernel
theorem dX5_init_1 : decode cX5_init 1 = .ok (.invokespecial 1, 3) := by decide +kernel
theorem dX5_init_4 : decode cX5_init 4 = .ok (.aload_n 0, 1) := by decide +kernel
theorem dX5_init_5 : decode cX5_init 5 = .ok (.bipush 6, 2) := by decide +kernel
theorem dX5_init_7 : decode cX5_init 7 = .ok (.newarray .int, 2) := by decide +kernel
theorem dX5_init_9 : decode cX5_init 9 = .ok (.putfield 7, 3) := by decide +kernel
theorem dX5_init_12 : decode cX5_init 12 = .ok (.aload_n 0, 1) := by decide +kernel
theorem dX5_init_13 : decode cX5_init 13 = .ok (.sipush 240, 3) := by decide +kernel
theorem dX5_init_16 : decode cX5_init 16 = .ok (.newarray .int, 2) := by decide +kernel
theorem dX5_init_18 : decode cX5_init 18 = .ok (.putfield 13, 3) := by decide +kernel
theorem dX5_init_21 : decode cX5_init 21 = .ok (.aload_n 0, 1) := by decide +kernel
theorem dX5_init_22 : decode cX5_init 22 = .ok (.iconst 4, 1) := by decide +kernel
theorem dX5_init_23 : decode cX5_init 23 = .ok (.newarray .int, 2) := by decide +kernel
theorem dX5_init_25 : decode cX5_init 25 = .ok (.putfield 16, 3) := by decide +kernel
theorem dX5_init_28 : decode cX5_init 28 = .ok (.aload_n 0, 1) := by decide +kernel
theorem dX5_init_29 : decode cX5_init 29 = .ok (.sipush 240, 3) := by decide +kernel
theorem dX5_init_32 : decode cX5_init 32 = .ok (.newarray .int, 2) := by decide +kernel
theorem dX5_init_34 : decode cX5_init 34 = .ok (.putfield 19, 3) := by decide +kernel
theorem dX5_init_37 : decode cX5_init 37 = .ok (.aload_n 0, 1) := by decide +kernel
theorem dX5_init_38 : decode cX5_init 38 = .ok (.bipush 6, 2) := by decide +kernel
theorem dX5_init_40 : decode cX5_init 40 = .ok (.newarray .int, 2) := by decide +kernel
theorem dX5_init_42 : decode cX5_init 42 = .ok (.putfield 22, 3) := by decide +kernel
theorem dX5_init_45 : decode cX5_init 45 = .ok (.aload_n 0, 1) := by decide +kernel
theorem dX5_init_46 : decode cX5_init 46 = .ok (.bipush 6, 2) := by decide +kernel
theorem dX5_init_48 : decode cX5_init 48 = .ok (.newarray .int, 2) := by decide +kernel
theorem dX5_init_50 : decode cX5_init 50 = .ok (.putfield 25, 3) := by decide +kernel
theorem dX5_init_53 : decode cX5_init 53 = .ok (.aload_n 0, 1) := by decide +kernel
theorem dX5_init_54 : decode cX5_init 54 = .ok (.bipush 6, 2) := by decide +kernel
theorem dX5_init_56 : decode cX5_init 56 = .ok (.newarray .int, 2) := by decide +kernel
theorem dX5_init_58 : decode cX5_init 58 = .ok (.putfield 28, 3) := by decide +kernel
theorem dX5_init_61 : decode cX5_init 61 = .ok (.aload_n 0, 1) := by decide +kernel
theorem dX5_init_62 : decode cX5_init 62 = .ok (.bipush 8, 2) := by decide +kernel
theorem dX5_init_64 : decode cX5_init 64 = .ok (.newarray .int, 2) := by decide +kernel
theorem dX5_init_66 : decode cX5_init 66 = .ok (.putfield 31, 3) := by decide +kernel
theorem dX5_init_69 : decode cX5_init 69 = .ok (.aload_n 0, 1) := by decide +kernel
theorem dX5_init_70 : decode cX5_init 70 = .ok (.sipush 320, 3) := by decide +kernel
theorem dX5_init_73 : decode cX5_init 73 = .ok (.newarray .int, 2) := by decide +kernel
theorem dX5_init_75 : decode cX5_init 75 = .ok (.putfield 34, 3) := by decide +kernel
theorem dX5_init_78 : decode cX5_init 78 = .ok (.aload_n 0, 1) := by decide +kernel
theorem dX5_init_79 : decode cX5_init 79 = .ok (.sipush 987, 3) := by decide +kernel
theorem dX5_init_82 : decode cX5_init 82 = .ok (.newarray .int, 2) := by decide +kernel
theorem dX5_init_84 : decode cX5_init 84 = .ok (.putfield 37, 3) := by decide +kernel
theorem dX5_init_87 : decode cX5_init 87 = .ok (.aload_n 0, 1) := by decide +kernel
theorem dX5_init_88 : decode cX5_init 88 = .ok (.iconst 3, 1) := by decide +kernel
theorem dX5_init_89 : decode cX5_init 89 = .ok (.newarray .boolean, 2) := by decide +kernel
theorem dX5_init_91 : decode cX5_init 91 = .ok (.putfield 40, 3) := by decide +kernel
theorem dX5_init_94 : decode cX5_init 94 = .ok (.aload_n 0, 1) := by decide +kernel
theorem dX5_init_95 : decode cX5_init 95 = .ok (.lconst 1, 1) := by decide +kernel
theorem dX5_init_96 : decode cX5_init 96 = .ok (.putfield 44, 3) := by decide +kernel
theorem dX5_init_99 : decode cX5_init 99 = .ok (.aload_n 0, 1) := by decide +kernel
theorem dX5_init_100 : decode cX5_init 100 = .ok (.bipush 6, 2) := by decide +kernel
theorem dX5_init_102 : decode cX5_init 102 = .ok (.newarray .int, 2) := by decide +kernel
theorem dX5_init_104 : decode cX5_init 104 = .ok (.putfield 48, 3) := by decide +kernel
theorem dX5_init_107 : decode cX5_init 107 = .ok (.aload_n 0, 1) := by decide +kernel
theorem dX5_init_108 : decode cX5_init 108 = .ok (.bipush 24, 2) := by decide +kernel
theorem dX5_init_110 : decode cX5_init 110 = .ok (.newarray .int, 2) := by decide +kernel
theorem dX5_init_112 : decode cX5_init 112 = .ok (.putfield 51, 3) := by decide +kernel
theorem dX5_init_115 : decode cX5_init 115 = .ok (.aload_n 0, 1) := by decide +kernel
theorem dX5_init_116 : decode cX5_init 116 = .ok (.bipush 6, 2) := by decide +kernel
theorem dX5_init_118 : decode cX5_init 118 = .ok (.newarray .int, 2) := by decide +kernel
theorem dX5_init_120 : decode cX5_init 120 = .ok (.putfield 54, 3) := by decide +kernel
theorem dX5_init_123 : decode cX5_init 123 = .ok (.aload_n 0, 1) := by decide +kernel
theorem dX5_init_124 : decode cX5_init 124 = .ok (.bipush 6, 2) := by decide +kernel
theorem dX5_init_126 : decode cX5_init 126 = .ok (.newarray .int, 2) := by decide +kernel
theorem dX5_init_128 : decode cX5_init 128 = .ok (.putfield 57, 3) := by decide +kernel
theorem dX5_init_131 : decode cX5_init 131 = .ok (.aload_n 0, 1) := by decide +kernel
theorem dX5_init_132 : decode cX5_init 132 = .ok (.bipush 6, 2) := by decide +kernel
theorem dX5_init_134 : decode cX5_init 134 = .ok (.newarray .int, 2) := by decide +kernel
theorem dX5_init_136 : decode cX5_init 136 = .ok (.putfield 60, 3) := by decide +kernel
theorem dX5_init_139 : decode cX5_init 139 = .ok (.aload_n 0, 1) := by decide +kernel
theorem dX5_init_140 : decode cX5_init 140 = .ok (.bipush 10, 2) := by decide +kernel
theorem dX5_init_142 : decode cX5_init 142 = .ok (.newarray .int, 2) := by decide +kernel
theorem dX5_init_144 : decode cX5_init 144 = .ok (.putfield 63, 3) := by decide +kernel
theorem dX5_init_147 : decode cX5_init 147 = .ok (.aload_n 0, 1) := by decide +kernel
theorem dX5_init_148 : decode cX5_init 148 = .ok (.bipush 16, 2) := by decide +kernel
theorem dX5_init_150 : decode cX5_init 150 = .ok (.newarray .int, 2) := by decide +kernel
theorem dX5_init_152 : decode cX5_init 152 = .ok (.putfield 66, 3) := by decide +kernel
theorem dX5_init_155 : decode cX5_init 155 = .ok (.aload_n 0, 1) := by decide +kernel
theorem dX5_init_156 : decode cX5_init 156 = .ok (.bipush 8, 2) := by decide +kernel
theorem dX5_init_158 : decode cX5_init 158 = .ok (.newarray .int, 2) := by decide +kernel
theorem dX5_init_160 : decode cX5_init 160 = .ok (.putfield 69, 3) := by decide +kernel
theorem dX5_init_163 : decode cX5_init 163 = .ok (.aload_n 0, 1) := by decide +kernel
theorem dX5_init_164 : decode cX5_init 164 = .ok (.bipush 8, 2) := by decide +kernel
theorem dX5_init_166 : decode cX5_init 166 = .ok (.newarray .int, 2) := by decide +kernel
theorem dX5_init_168 : decode cX5_init 168 = .ok (.putfield 72, 3) := by decide +kernel
theorem dX5_init_171 : decode cX5_init 171 = .ok (.iconst 0, 1) := by decide +kernel
theorem dX5_init_172 : decode cX5_init 172 = .ok (.istore_n 1, 1) := by decide +kernel
theorem dX5_init_173 : decode cX5_init 173 = .ok (.iload_n 1, 1) := by decide +kernel
theorem dX5_init_174 : decode cX5_init 174 = .ok (.bipush 6, 2) := by decide +kernel
theorem dX5_init_176 : decode cX5_init 176 = .ok (.if_icmp .ge 16, 3) := by decide +kernel
theorem dX5_init_179 : decode cX5_init 179 = .ok (.aload_n 0, 1) := by decide +kernel
theorem dX5_init_180 : decode cX5_init 180 = .ok (.getfield 7, 3) := by decide +kernel
theorem dX5_init_183 : decode cX5_init 183 = .ok (.iload_n 1, 1) := by decide +kernel
theorem dX5_init_184 : decode cX5_init 184 = .ok (.iconst (-1), 1) := by decide +kernel
theorem dX5_init_185 : decode cX5_init 185 = .ok (.iastore, 1) := by decide +kernel
theorem dX5_init_186 : decode cX5_init 186 = .ok (.iinc 1 1, 3) := by decide +kernel
theorem dX5_init_189 : decode cX5_init 189 = .ok (.goto (-16), 3) := by decide +kernel
theorem dX5_init_192 : decode cX5_init 192 = .ok (.iconst 0, 1) := by decide +kernel
theorem dX5_init_193 : decode cX5_init 193 = .ok (.istore_n 1, 1) := by decide +kernel
theorem dX5_init_194 : decode cX5_init 194 = .ok (.iload_n 1, 1) := by decide +kernel
theorem dX5_init_195 : decode cX5_init 195 = .ok (.iconst 4, 1) := by decide +kernel
theorem dX5_init_196 : decode cX5_init 196 = .ok (.if_icmp .ge 16, 3) := by decide +kernel
theorem dX5_init_199 : decode cX5_init 199 = .ok (.aload_n 0, 1) := by decide +kernel
theorem dX5_init_200 : decode cX5_init 200 = .ok (.getfield 16, 3) := by decide +kernel
theorem dX5_init_203 : decode cX5_init 203 = .ok (.iload_n 1, 1) := by decide +kernel
theorem dX5_init_204 : decode cX5_init 204 = .ok (.iconst (-1), 1) := by decide +kernel
theorem dX5_init_205 : decode cX5_init 205 = .ok (.iastore, 1) := by decide +kernel
theorem dX5_init_206 : decode cX5_init 206 = .ok (.iinc 1 1, 3) := by decide +kernel
theorem dX5_init_209 : decode cX5_init 209 = .ok (.goto (-15), 3) := by decide +kernel
theorem dX5_init_212 : decode cX5_init 212 = .ok (.return_, 1) := by decide +kernel
theorem dX5_in_0 : decode cX5_in 0 = .ok (.lload_n 0, 1) := by decide +kernel
theorem dX5_in_1 : decode cX5_in 1 = .ok (.lload_n 2, 1) := by decide +kernel
theorem dX5_in_2 : decode cX5_in 2 = .ok (.lcmp, 1) := by decide +kernel
theorem dX5_in_3 : decode cX5_in 3 = .ok (.ifCond .lt 14, 3) := by decide +kernel
theorem dX5_in_6 : decode cX5_in 6 = .ok (.lload_n 0, 1) := by decide +kernel
theorem dX5_in_7 : decode cX5_in 7 = .ok (.lload 4, 2) := by decide +kernel
theorem dX5_in_9 : decode cX5_in 9 = .ok (.lcmp, 1) := by decide +kernel
theorem dX5_in_10 : decode cX5_in 10 = .ok (.ifCond .gt 7, 3) := by decide +kernel
theorem dX5_in_13 : decode cX5_in 13 = .ok (.iconst 1, 1) := by decide +kernel
theorem dX5_in_14 : decode cX5_in 14 = .ok (.goto 4, 3) := by decide +kernel
theorem dX5_in_17 : decode cX5_in 17 = .ok (.iconst 0, 1) := by decide +kernel
theorem dX5_in_18 : decode cX5_in 18 = .ok (.ireturn, 1) := by decide +kernel
theorem dX5_has_0 : decode cX5_has 0 = .ok (.iload_n 0, 1) := by decide +kernel
theorem dX5_has_1 : decode cX5_has 1 = .ok (.iload_n 1, 1) := by decide +kernel
theorem dX5_has_2 : decode cX5_has 2 = .ok (.ishr, 1) := by decide +kernel
theorem dX5_has_3 : decode cX5_has 3 = .ok (.iconst 1, 1) := by decide +kernel
theorem dX5_has_4 : decode cX5_has 4 = .ok (.iand, 1) := by decide +kernel
theorem dX5_has_5 : decode cX5_has 5 = .ok (.iconst 1, 1) := by decide +kernel
theorem dX5_has_6 : decode cX5_has 6 = .ok (.if_icmp .ne 7, 3) := by decide +kernel
theorem dX5_has_9 : decode cX5_has 9 = .ok (.iconst 1, 1) := by decide +kernel
theorem dX5_has_10 : decode cX5_has 10 = .ok (.goto 4, 3) := by decide +kernel
theorem dX5_has_13 : decode cX5_has 13 = .ok (.iconst 0, 1) := by decide +kernel
theorem dX5_has_14 : decode cX5_has 14 = .ok (.ireturn, 1) := by decide +kernel
theorem dX5_bits_0 : decode cX5_bits 0 = .ok (.iconst 0, 1) := by decide +kernel
theorem dX5_bits_1 : decode cX5_bits 1 = .ok (.istore_n 1, 1) := by decide +kernel
theorem dX5_bits_2 : decode cX5_bits 2 = .ok (.iload_n 0, 1) := by decide +kernel
theorem dX5_bits_3 : decode cX5_bits 3 = .ok (.istore_n 2, 1) := by decide +kernel
theorem dX5_bits_4 : decode cX5_bits 4 = .ok (.iload_n 2, 1) := by decide +kernel
theorem dX5_bits_5 : decode cX5_bits 5 = .ok (.ifCond .eq 15, 3) := by decide +kernel
theorem dX5_bits_8 : decode cX5_bits 8 = .ok (.iinc 1 1, 3) := by decide +kernel
theorem dX5_bits_11 : decode cX5_bits 11 = .ok (.iload_n 2, 1) := by decide +kernel
theorem dX5_bits_12 : decode cX5_bits 12 = .ok (.iload_n 2, 1) := by decide +kernel
theorem dX5_bits_13 : decode cX5_bits 13 = .ok (.iconst 1, 1) := by decide +kernel
theorem dX5_bits_14 : decode cX5_bits 14 = .ok (.isub, 1) := by decide +kernel
theorem dX5_bits_15 : decode cX5_bits 15 = .ok (.iand, 1) := by decide +kernel
theorem dX5_bits_16 : decode cX5_bits 16 = .ok (.istore_n 2, 1) := by decide +kernel
theorem dX5_bits_17 : decode cX5_bits 17 = .ok (.goto (-13), 3) := by decide +kernel
theorem dX5_bits_20 : decode cX5_bits 20 = .ok (.iload_n 1, 1) := by decide +kernel
theorem dX5_bits_21 : decode cX5_bits 21 = .ok (.ireturn, 1) := by decide +kernel
theorem dX5_found_0 : decode cX5_found 0 = .ok (.aload_n 0, 1) := by decide +kernel
theorem dX5_found_1 : decode cX5_found 1 = .ok (.iload_n 1, 1) := by decide +kernel
theorem dX5_found_2 : decode cX5_found 2 = .ok (.putfield 75, 3) := by decide +kernel
theorem dX5_found_5 : decode cX5_found 5 = .ok (.aload_n 0, 1) := by decide +kernel
theorem dX5_found_6 : decode cX5_found 6 = .ok (.getfield 48, 3) := by decide +kernel
theorem dX5_found_9 : decode cX5_found 9 = .ok (.iload_n 1, 1) := by decide +kernel
theorem dX5_found_10 : decode cX5_found 10 = .ok (.dup2, 1) := by decide +kernel
theorem dX5_found_11 : decode cX5_found 11 = .ok (.iaload, 1) := by decide +kernel
theorem dX5_found_12 : decode cX5_found 12 = .ok (.iconst 1, 1) := by decide +kernel
theorem dX5_found_13 : decode cX5_found 13 = .ok (.iadd, 1) := by decide +kernel
theorem dX5_found_14 : decode cX5_found 14 = .ok (.iastore, 1) := by decide +kernel
theorem dX5_found_15 : decode cX5_found 15 = .ok (.bipush (-3), 2) := by decide +kernel
theorem dX5_found_17 : decode cX5_found 17 = .ok (.ireturn, 1) := by decide +kernel
theorem dX5_tell_0 : decode cX5_tell 0 = .ok (.aload_n 0, 1) := by decide +kernel
theorem dX5_tell_1 : decode cX5_tell 1 = .ok (.iload_n 1, 1) := by decide +kernel
theorem dX5_tell_2 : decode cX5_tell 2 = .ok (.putfield 79, 3) := by decide +kernel
theorem dX5_tell_5 : decode cX5_tell 5 = .ok (.iconst 1, 1) := by decide +kernel
theorem dX5_tell_6 : decode cX5_tell 6 = .ok (.ireturn, 1) := by decide +kernel
theorem dX5_answer_0 : decode cX5_answer 0 = .ok (.aload_n 0, 1) := by decide +kernel
theorem dX5_answer_1 : decode cX5_answer 1 = .ok (.iload_n 2, 1) := by decide +kernel
theorem dX5_answer_2 : decode cX5_answer 2 = .ok (.putfield 79, 3) := by decide +kernel
theorem dX5_answer_5 : decode cX5_answer 5 = .ok (.iload_n 1, 1) := by decide +kernel
theorem dX5_answer_6 : decode cX5_answer 6 = .ok (.ireturn, 1) := by decide +kernel
theorem dX5_isRow_0 : decode cX5_isRow 0 = .ok (.iload_n 0, 1) := by decide +kernel
theorem dX5_isRow_1 : decode cX5_isRow 1 = .ok (.i2l, 1) := by decide +kernel
theorem dX5_isRow_2 : decode cX5_isRow 2 = .ok (.lconst 0, 1) := by decide +kernel
theorem dX5_isRow_3 : decode cX5_isRow 3 = .ok (.ldc2_w 82, 3) := by decide +kernel
theorem dX5_isRow_6 : decode cX5_isRow 6 = .ok (.invokestatic 84, 3) := by decide +kernel
theorem dX5_isRow_9 : decode cX5_isRow 9 = .ok (.ireturn, 1) := by decide +kernel
theorem dX5_isText_0 : decode cX5_isText 0 = .ok (.iload_n 0, 1) := by decide +kernel
theorem dX5_isText_1 : decode cX5_isText 1 = .ok (.i2l, 1) := by decide +kernel
theorem dX5_isText_2 : decode cX5_isText 2 = .ok (.lconst 0, 1) := by decide +kernel
theorem dX5_isText_3 : decode cX5_isText 3 = .ok (.ldc2_w 88, 3) := by decide +kernel
theorem dX5_isText_6 : decode cX5_isText 6 = .ok (.invokestatic 84, 3) := by decide +kernel
theorem dX5_isText_9 : decode cX5_isText 9 = .ok (.ireturn, 1) := by decide +kernel
theorem dX5_row_0 : decode cX5_row 0 = .ok (.iload_n 1, 1) := by decide +kernel
theorem dX5_row_1 : decode cX5_row 1 = .ok (.invokestatic 90, 3) := by decide +kernel
theorem dX5_row_4 : decode cX5_row 4 = .ok (.ifCond .eq 9, 3) := by decide +kernel
theorem dX5_row_7 : decode cX5_row 7 = .ok (.iload_n 2, 1) := by decide +kernel
theorem dX5_row_8 : decode cX5_row 8 = .ok (.bipush 40, 2) := by decide +kernel
theorem dX5_row_10 : decode cX5_row 10 = .ok (.if_icmp .le 5, 3) := by decide +kernel
theorem dX5_row_13 : decode cX5_row 13 = .ok (.iconst (-1), 1) := by decide +kernel
theorem dX5_row_14 : decode cX5_row 14 = .ok (.ireturn, 1) := by decide +kernel
theorem dX5_row_15 : decode cX5_row 15 = .ok (.iload_n 2, 1) := by decide +kernel
theorem dX5_row_16 : decode cX5_row 16 = .ok (.ifCond .ge 9, 3) := by decide +kernel
theorem dX5_row_19 : decode cX5_row 19 = .ok (.aload_n 0, 1) := by decide +kernel
theorem dX5_row_20 : decode cX5_row 20 = .ok (.iconst 5, 1) := by decide +kernel
theorem dX5_row_21 : decode cX5_row 21 = .ok (.invokevirtual 94, 3) := by decide +kernel
theorem dX5_row_24 : decode cX5_row 24 = .ok (.ireturn, 1) := by decide +kernel
theorem dX5_row_25 : decode cX5_row 25 = .ok (.aload_n 0, 1) := by decide +kernel
theorem dX5_row_26 : decode cX5_row 26 = .ok (.getfield 7, 3) := by decide +kernel
theorem dX5_row_29 : decode cX5_row 29 = .ok (.iload_n 1, 1) := by decide +kernel
theorem dX5_row_30 : decode cX5_row 30 = .ok (.iload_n 2, 1) := by decide +kernel
theorem dX5_row_31 : decode cX5_row 31 = .ok (.iastore, 1) := by decide +kernel
theorem dX5_row_32 : decode cX5_row 32 = .ok (.iconst 0, 1) := by decide +kernel
theorem dX5_row_33 : decode cX5_row 33 = .ok (.istore_n 3, 1) := by decide +kernel
theorem dX5_row_34 : decode cX5_row 34 = .ok (.iload_n 3, 1) := by decide +kernel
theorem dX5_row_35 : decode cX5_row 35 = .ok (.bipush 40, 2) := by decide +kernel
theorem dX5_row_37 : decode cX5_row 37 = .ok (.if_icmp .ge 21, 3) := by decide +kernel
theorem dX5_row_40 : decode cX5_row 40 = .ok (.aload_n 0, 1) := by decide +kernel
theorem dX5_row_41 : decode cX5_row 41 = .ok (.getfield 13, 3) := by decide +kernel
theorem dX5_row_44 : decode cX5_row 44 = .ok (.bipush 40, 2) := by decide +kernel
theorem dX5_row_46 : decode cX5_row 46 = .ok (.iload_n 1, 1) := by decide +kernel
theorem dX5_row_47 : decode cX5_row 47 = .ok (.imul, 1) := by decide +kernel
theorem dX5_row_48 : decode cX5_row 48 = .ok (.iload_n 3, 1) := by decide +kernel
theorem dX5_row_49 : decode cX5_row 49 = .ok (.iadd, 1) := by decide +kernel
theorem dX5_row_50 : decode cX5_row 50 = .ok (.iconst 0, 1) := by decide +kernel
theorem dX5_row_51 : decode cX5_row 51 = .ok (.iastore, 1) := by decide +kernel
theorem dX5_row_52 : decode cX5_row 52 = .ok (.iinc 3 1, 3) := by decide +kernel
theorem dX5_row_55 : decode cX5_row 55 = .ok (.goto (-21), 3) := by decide +kernel
theorem dX5_row_58 : decode cX5_row 58 = .ok (.iload_n 2, 1) := by decide +kernel
theorem dX5_row_59 : decode cX5_row 59 = .ok (.ireturn, 1) := by decide +kernel
theorem dX5_lay_0 : decode cX5_lay 0 = .ok (.iload_n 1, 1) := by decide +kernel
theorem dX5_lay_1 : decode cX5_lay 1 = .ok (.invokestatic 90, 3) := by decide +kernel
theorem dX5_lay_4 : decode cX5_lay 4 = .ok (.ifCond .ne 5, 3) := by decide +kernel
theorem dX5_lay_7 : decode cX5_lay 7 = .ok (.iconst (-1), 1) := by decide +kernel
theorem dX5_lay_8 : decode cX5_lay 8 = .ok (.ireturn, 1) := by decide +kernel
theorem dX5_lay_9 : decode cX5_lay 9 = .ok (.aload_n 0, 1) := by decide +kernel
theorem dX5_lay_10 : decode cX5_lay 10 = .ok (.getfield 7, 3) := by decide +kernel
theorem dX5_lay_13 : decode cX5_lay 13 = .ok (.iload_n 1, 1) := by decide +kernel
theorem dX5_lay_14 : decode cX5_lay 14 = .ok (.iaload, 1) := by decide +kernel
theorem dX5_lay_15 : decode cX5_lay 15 = .ok (.ifCond .ge 9, 3) := by decide +kernel
theorem dX5_lay_18 : decode cX5_lay 18 = .ok (.aload_n 0, 1) := by decide +kernel
theorem dX5_lay_19 : decode cX5_lay 19 = .ok (.iconst 1, 1) := by decide +kernel
theorem dX5_lay_20 : decode cX5_lay 20 = .ok (.invokevirtual 94, 3) := by decide +kernel
theorem dX5_lay_23 : decode cX5_lay 23 = .ok (.ireturn, 1) := by decide +kernel
theorem dX5_lay_24 : decode cX5_lay 24 = .ok (.iload_n 2, 1) := by decide +kernel
theorem dX5_lay_25 : decode cX5_lay 25 = .ok (.i2l, 1) := by decide +kernel
theorem dX5_lay_26 : decode cX5_lay 26 = .ok (.lconst 0, 1) := by decide +kernel
theorem dX5_lay_27 : decode cX5_lay 27 = .ok (.aload_n 0, 1) := by decide +kernel
theorem dX5_lay_28 : decode cX5_lay 28 = .ok (.getfield 7, 3) := by decide +kernel
theorem dX5_lay_31 : decode cX5_lay 31 = .ok (.iload_n 1, 1) := by decide +kernel
theorem dX5_lay_32 : decode cX5_lay 32 = .ok (.iaload, 1) := by decide +kernel
theorem dX5_lay_33 : decode cX5_lay 33 = .ok (.iconst 1, 1) := by decide +kernel
theorem dX5_lay_34 : decode cX5_lay 34 = .ok (.isub, 1) := by decide +kernel
theorem dX5_lay_35 : decode cX5_lay 35 = .ok (.i2l, 1) := by decide +kernel
theorem dX5_lay_36 : decode cX5_lay 36 = .ok (.invokestatic 84, 3) := by decide +kernel
theorem dX5_lay_39 : decode cX5_lay 39 = .ok (.ifCond .ne 9, 3) := by decide +kernel
theorem dX5_lay_42 : decode cX5_lay 42 = .ok (.aload_n 0, 1) := by decide +kernel
theorem dX5_lay_43 : decode cX5_lay 43 = .ok (.iconst 2, 1) := by decide +kernel
theorem dX5_lay_44 : decode cX5_lay 44 = .ok (.invokevirtual 94, 3) := by decide +kernel
theorem dX5_lay_47 : decode cX5_lay 47 = .ok (.ireturn, 1) := by decide +kernel
theorem dX5_lay_48 : decode cX5_lay 48 = .ok (.aload_n 0, 1) := by decide +kernel
theorem dX5_lay_49 : decode cX5_lay 49 = .ok (.getfield 13, 3) := by decide +kernel
theorem dX5_lay_52 : decode cX5_lay 52 = .ok (.bipush 40, 2) := by decide +kernel
theorem dX5_lay_54 : decode cX5_lay 54 = .ok (.iload_n 1, 1) := by decide +kernel
theorem dX5_lay_55 : decode cX5_lay 55 = .ok (.imul, 1) := by decide +kernel
theorem dX5_lay_56 : decode cX5_lay 56 = .ok (.iload_n 2, 1) := by decide +kernel
theorem dX5_lay_57 : decode cX5_lay 57 = .ok (.iadd, 1) := by decide +kernel
theorem dX5_lay_58 : decode cX5_lay 58 = .ok (.iaload, 1) := by decide +kernel
theorem dX5_lay_59 : decode cX5_lay 59 = .ok (.istore 4, 2) := by decide +kernel
theorem dX5_lay_61 : decode cX5_lay 61 = .ok (.aload_n 0, 1) := by decide +kernel
theorem dX5_lay_62 : decode cX5_lay 62 = .ok (.getfield 13, 3) := by decide +kernel
theorem dX5_lay_65 : decode cX5_lay 65 = .ok (.bipush 40, 2) := by decide +kernel
theorem dX5_lay_67 : decode cX5_lay 67 = .ok (.iload_n 1, 1) := by decide +kernel
theorem dX5_lay_68 : decode cX5_lay 68 = .ok (.imul, 1) := by decide +kernel
theorem dX5_lay_69 : decode cX5_lay 69 = .ok (.iload_n 2, 1) := by decide +kernel
theorem dX5_lay_70 : decode cX5_lay 70 = .ok (.iadd, 1) := by decide +kernel
theorem dX5_lay_71 : decode cX5_lay 71 = .ok (.iload_n 3, 1) := by decide +kernel
theorem dX5_lay_72 : decode cX5_lay 72 = .ok (.iastore, 1) := by decide +kernel
theorem dX5_lay_73 : decode cX5_lay 73 = .ok (.aload_n 0, 1) := by decide +kernel
theorem dX5_lay_74 : decode cX5_lay 74 = .ok (.iload 4, 2) := by decide +kernel
theorem dX5_lay_76 : decode cX5_lay 76 = .ok (.invokevirtual 98, 3) := by decide +kernel
theorem dX5_lay_79 : decode cX5_lay 79 = .ok (.ireturn, 1) := by decide +kernel
theorem dX5_at_0 : decode cX5_at 0 = .ok (.iload_n 1, 1) := by decide +kernel
theorem dX5_at_1 : decode cX5_at 1 = .ok (.invokestatic 90, 3) := by decide +kernel
theorem dX5_at_4 : decode cX5_at 4 = .ok (.ifCond .ne 5, 3) := by decide +kernel
theorem dX5_at_7 : decode cX5_at 7 = .ok (.iconst (-1), 1) := by decide +kernel
theorem dX5_at_8 : decode cX5_at 8 = .ok (.ireturn, 1) := by decide +kernel
theorem dX5_at_9 : decode cX5_at 9 = .ok (.aload_n 0, 1) := by decide +kernel
theorem dX5_at_10 : decode cX5_at 10 = .ok (.getfield 7, 3) := by decide +kernel
theorem dX5_at_13 : decode cX5_at 13 = .ok (.iload_n 1, 1) := by decide +kernel
theorem dX5_at_14 : decode cX5_at 14 = .ok (.iaload, 1) := by decide +kernel
theorem dX5_at_15 : decode cX5_at 15 = .ok (.ifCond .ge 9, 3) := by decide +kernel
theorem dX5_at_18 : decode cX5_at 18 = .ok (.aload_n 0, 1) := by decide +kernel
theorem dX5_at_19 : decode cX5_at 19 = .ok (.iconst 1, 1) := by decide +kernel
theorem dX5_at_20 : decode cX5_at 20 = .ok (.invokevirtual 94, 3) := by decide +kernel
theorem dX5_at_23 : decode cX5_at 23 = .ok (.ireturn, 1) := by decide +kernel
theorem dX5_at_24 : decode cX5_at 24 = .ok (.iload_n 2, 1) := by decide +kernel
theorem dX5_at_25 : decode cX5_at 25 = .ok (.i2l, 1) := by decide +kernel
theorem dX5_at_26 : decode cX5_at 26 = .ok (.lconst 0, 1) := by decide +kernel
theorem dX5_at_27 : decode cX5_at 27 = .ok (.aload_n 0, 1) := by decide +kernel
theorem dX5_at_28 : decode cX5_at 28 = .ok (.getfield 7, 3) := by decide +kernel
theorem dX5_at_31 : decode cX5_at 31 = .ok (.iload_n 1, 1) := by decide +kernel
theorem dX5_at_32 : decode cX5_at 32 = .ok (.iaload, 1) := by decide +kernel
theorem dX5_at_33 : decode cX5_at 33 = .ok (.iconst 1, 1) := by decide +kernel
theorem dX5_at_34 : decode cX5_at 34 = .ok (.isub, 1) := by decide +kernel
theorem dX5_at_35 : decode cX5_at 35 = .ok (.i2l, 1) := by decide +kernel
theorem dX5_at_36 : decode cX5_at 36 = .ok (.invokestatic 84, 3) := by decide +kernel
theorem dX5_at_39 : decode cX5_at 39 = .ok (.ifCond .eq 21, 3) := by decide +kernel
theorem dX5_at_42 : decode cX5_at 42 = .ok (.aload_n 0, 1) := by decide +kernel
theorem dX5_at_43 : decode cX5_at 43 = .ok (.aload_n 0, 1) := by decide +kernel
theorem dX5_at_44 : decode cX5_at 44 = .ok (.getfield 13, 3) := by decide +kernel
theorem dX5_at_47 : decode cX5_at 47 = .ok (.bipush 40, 2) := by decide +kernel
theorem dX5_at_49 : decode cX5_at 49 = .ok (.iload_n 1, 1) := by decide +kernel
theorem dX5_at_50 : decode cX5_at 50 = .ok (.imul, 1) := by decide +kernel
theorem dX5_at_51 : decode cX5_at 51 = .ok (.iload_n 2, 1) := by decide +kernel
theorem dX5_at_52 : decode cX5_at 52 = .ok (.iadd, 1) := by decide +kernel
theorem dX5_at_53 : decode cX5_at 53 = .ok (.iaload, 1) := by decide +kernel
theorem dX5_at_54 : decode cX5_at 54 = .ok (.invokevirtual 98, 3) := by decide +kernel
theorem dX5_at_57 : decode cX5_at 57 = .ok (.goto 8, 3) := by decide +kernel
theorem dX5_at_60 : decode cX5_at 60 = .ok (.aload_n 0, 1) := by decide +kernel
theorem dX5_at_61 : decode cX5_at 61 = .ok (.iconst 2, 1) := by decide +kernel
theorem dX5_at_62 : decode cX5_at 62 = .ok (.invokevirtual 94, 3) := by decide +kernel
theorem dX5_at_65 : decode cX5_at 65 = .ok (.ireturn, 1) := by decide +kernel
theorem dX5_tear_0 : decode cX5_tear 0 = .ok (.iload_n 1, 1) := by decide +kernel
theorem dX5_tear_1 : decode cX5_tear 1 = .ok (.invokestatic 90, 3) := by decide +kernel
theorem dX5_tear_4 : decode cX5_tear 4 = .ok (.ifCond .ne 5, 3) := by decide +kernel
theorem dX5_tear_7 : decode cX5_tear 7 = .ok (.iconst (-1), 1) := by decide +kernel
theorem dX5_tear_8 : decode cX5_tear 8 = .ok (.ireturn, 1) := by decide +kernel
theorem dX5_tear_9 : decode cX5_tear 9 = .ok (.aload_n 0, 1) := by decide +kernel
theorem dX5_tear_10 : decode cX5_tear 10 = .ok (.getfield 7, 3) := by decide +kernel
theorem dX5_tear_13 : decode cX5_tear 13 = .ok (.iload_n 1, 1) := by decide +kernel
theorem dX5_tear_14 : decode cX5_tear 14 = .ok (.iaload, 1) := by decide +kernel
theorem dX5_tear_15 : decode cX5_tear 15 = .ok (.ifCond .ge 9, 3) := by decide +kernel
theorem dX5_tear_18 : decode cX5_tear 18 = .ok (.aload_n 0, 1) := by decide +kernel
theorem dX5_tear_19 : decode cX5_tear 19 = .ok (.iconst 1, 1) := by decide +kernel
theorem dX5_tear_20 : decode cX5_tear 20 = .ok (.invokevirtual 94, 3) := by decide +kernel
theorem dX5_tear_23 : decode cX5_tear 23 = .ok (.ireturn, 1) := by decide +kernel
theorem dX5_tear_24 : decode cX5_tear 24 = .ok (.aload_n 0, 1) := by decide +kernel
theorem dX5_tear_25 : decode cX5_tear 25 = .ok (.getfield 7, 3) := by decide +kernel
theorem dX5_tear_28 : decode cX5_tear 28 = .ok (.iload_n 1, 1) := by decide +kernel
theorem dX5_tear_29 : decode cX5_tear 29 = .ok (.iconst (-1), 1) := by decide +kernel
theorem dX5_tear_30 : decode cX5_tear 30 = .ok (.iastore, 1) := by decide +kernel
theorem dX5_tear_31 : decode cX5_tear 31 = .ok (.iconst 1, 1) := by decide +kernel
theorem dX5_tear_32 : decode cX5_tear 32 = .ok (.ireturn, 1) := by decide +kernel
theorem dX5_copy_0 : decode cX5_copy 0 = .ok (.iload_n 1, 1) := by decide +kernel
theorem dX5_copy_1 : decode cX5_copy 1 = .ok (.invokestatic 90, 3) := by decide +kernel
theorem dX5_copy_4 : decode cX5_copy 4 = .ok (.ifCond .eq 10, 3) := by decide +kernel
theorem dX5_copy_7 : decode cX5_copy 7 = .ok (.iload_n 3, 1) := by decide +kernel
theorem dX5_copy_8 : decode cX5_copy 8 = .ok (.invokestatic 90, 3) := by decide +kernel
theorem dX5_copy_11 : decode cX5_copy 11 = .ok (.ifCond .ne 5, 3) := by decide +kernel
theorem dX5_copy_14 : decode cX5_copy 14 = .ok (.iconst (-1), 1) := by decide +kernel
theorem dX5_copy_15 : decode cX5_copy 15 = .ok (.ireturn, 1) := by decide +kernel
theorem dX5_copy_16 : decode cX5_copy 16 = .ok (.iload 5, 2) := by decide +kernel
theorem dX5_copy_18 : decode cX5_copy 18 = .ok (.ifCond .ge 9, 3) := by decide +kernel
theorem dX5_copy_21 : decode cX5_copy 21 = .ok (.aload_n 0, 1) := by decide +kernel
theorem dX5_copy_22 : decode cX5_copy 22 = .ok (.iconst 5, 1) := by decide +kernel
theorem dX5_copy_23 : decode cX5_copy 23 = .ok (.invokevirtual 94, 3) := by decide +kernel
theorem dX5_copy_26 : decode cX5_copy 26 = .ok (.ireturn, 1) := by decide +kernel
theorem dX5_copy_27 : decode cX5_copy 27 = .ok (.aload_n 0, 1) := by decide +kernel
theorem dX5_copy_28 : decode cX5_copy 28 = .ok (.getfield 7, 3) := by decide +kernel
theorem dX5_copy_31 : decode cX5_copy 31 = .ok (.iload_n 1, 1) := by decide +kernel
theorem dX5_copy_32 : decode cX5_copy 32 = .ok (.iaload, 1) := by decide +kernel
theorem dX5_copy_33 : decode cX5_copy 33 = .ok (.ifCond .lt 12, 3) := by decide +kernel
theorem dX5_copy_36 : decode cX5_copy 36 = .ok (.aload_n 0, 1) := by decide +kernel
theorem dX5_copy_37 : decode cX5_copy 37 = .ok (.getfield 7, 3) := by decide +kernel
theorem dX5_copy_40 : decode cX5_copy 40 = .ok (.iload_n 3, 1) := by decide +kernel
theorem dX5_copy_41 : decode cX5_copy 41 = .ok (.iaload, 1) := by decide +kernel
theorem dX5_copy_42 : decode cX5_copy 42 = .ok (.ifCond .ge 9, 3) := by decide +kernel
theorem dX5_copy_45 : decode cX5_copy 45 = .ok (.aload_n 0, 1) := by decide +kernel
theorem dX5_copy_46 : decode cX5_copy 46 = .ok (.iconst 1, 1) := by decide +kernel
theorem dX5_copy_47 : decode cX5_copy 47 = .ok (.invokevirtual 94, 3) := by decide +kernel
theorem dX5_copy_50 : decode cX5_copy 50 = .ok (.ireturn, 1) := by decide +kernel
theorem dX5_copy_51 : decode cX5_copy 51 = .ok (.iload_n 2, 1) := by decide +kernel
theorem dX5_copy_52 : decode cX5_copy 52 = .ok (.ifCond .lt 43, 3) := by decide +kernel
theorem dX5_copy_55 : decode cX5_copy 55 = .ok (.iload 4, 2) := by decide +kernel
theorem dX5_copy_57 : decode cX5_copy 57 = .ok (.ifCond .lt 38, 3) := by decide +kernel
theorem dX5_copy_60 : decode cX5_copy 60 = .ok (.iload_n 2, 1) := by decide +kernel
theorem dX5_copy_61 : decode cX5_copy 61 = .ok (.i2l, 1) := by decide +kernel
theorem dX5_copy_62 : decode cX5_copy 62 = .ok (.iload 5, 2) := by decide +kernel
theorem dX5_copy_64 : decode cX5_copy 64 = .ok (.i2l, 1) := by decide +kernel
theorem dX5_copy_65 : decode cX5_copy 65 = .ok (.ladd, 1) := by decide +kernel
theorem dX5_copy_66 : decode cX5_copy 66 = .ok (.aload_n 0, 1) := by decide +kernel
theorem dX5_copy_67 : decode cX5_copy 67 = .ok (.getfield 7, 3) := by decide +kernel
theorem dX5_copy_70 : decode cX5_copy 70 = .ok (.iload_n 1, 1) := by decide +kernel
theorem dX5_copy_71 : decode cX5_copy 71 = .ok (.iaload, 1) := by decide +kernel
theorem dX5_copy_72 : decode cX5_copy 72 = .ok (.i2l, 1) := by decide +kernel
theorem dX5_copy_73 : decode cX5_copy 73 = .ok (.lcmp, 1) := by decide +kernel
theorem dX5_copy_74 : decode cX5_copy 74 = .ok (.ifCond .gt 21, 3) := by decide +kernel
theorem dX5_copy_77 : decode cX5_copy 77 = .ok (.iload 4, 2) := by decide +kernel
theorem dX5_copy_79 : decode cX5_copy 79 = .ok (.i2l, 1) := by decide +kernel
theorem dX5_copy_80 : decode cX5_copy 80 = .ok (.iload 5, 2) := by decide +kernel
theorem dX5_copy_82 : decode cX5_copy 82 = .ok (.i2l, 1) := by decide +kernel
theorem dX5_copy_83 : decode cX5_copy 83 = .ok (.ladd, 1) := by decide +kernel
theorem dX5_copy_84 : decode cX5_copy 84 = .ok (.aload_n 0, 1) := by decide +kernel
theorem dX5_copy_85 : decode cX5_copy 85 = .ok (.getfield 7, 3) := by decide +kernel
theorem dX5_copy_88 : decode cX5_copy 88 = .ok (.iload_n 3, 1) := by decide +kernel
theorem dX5_copy_89 : decode cX5_copy 89 = .ok (.iaload, 1) := by decide +kernel
theorem dX5_copy_90 : decode cX5_copy 90 = .ok (.i2l, 1) := by decide +kernel
theorem dX5_copy_91 : decode cX5_copy 91 = .ok (.lcmp, 1) := by decide +kernel
theorem dX5_copy_92 : decode cX5_copy 92 = .ok (.ifCond .le 9, 3) := by decide +kernel
theorem dX5_copy_95 : decode cX5_copy 95 = .ok (.aload_n 0, 1) := by decide +kernel
theorem dX5_copy_96 : decode cX5_copy 96 = .ok (.iconst 2, 1) := by decide +kernel
theorem dX5_copy_97 : decode cX5_copy 97 = .ok (.invokevirtual 94, 3) := by decide +kernel
theorem dX5_copy_100 : decode cX5_copy 100 = .ok (.ireturn, 1) := by decide +kernel
theorem dX5_copy_101 : decode cX5_copy 101 = .ok (.iconst 0, 1) := by decide +kernel
theorem dX5_copy_102 : decode cX5_copy 102 = .ok (.istore 6, 2) := by decide +kernel
theorem dX5_copy_104 : decode cX5_copy 104 = .ok (.iload 6, 2) := by decide +kernel
theorem dX5_copy_106 : decode cX5_copy 106 = .ok (.iload 5, 2) := by decide +kernel
theorem dX5_copy_108 : decode cX5_copy 108 = .ok (.if_icmp .ge 58, 3) := by decide +kernel
theorem dX5_copy_111 : decode cX5_copy 111 = .ok (.iload 4, 2) := by decide +kernel
theorem dX5_copy_113 : decode cX5_copy 113 = .ok (.iload_n 2, 1) := by decide +kernel
theorem dX5_copy_114 : decode cX5_copy 114 = .ok (.if_icmp .le 13, 3) := by decide +kernel
theorem dX5_copy_117 : decode cX5_copy 117 = .ok (.iload 5, 2) := by decide +kernel
theorem dX5_copy_119 : decode cX5_copy 119 = .ok (.iconst 1, 1) := by decide +kernel
theorem dX5_copy_120 : decode cX5_copy 120 = .ok (.isub, 1) := by decide +kernel
theorem dX5_copy_121 : decode cX5_copy 121 = .ok (.iload 6, 2) := by decide +kernel
theorem dX5_copy_123 : decode cX5_copy 123 = .ok (.isub, 1) := by decide +kernel
theorem dX5_copy_124 : decode cX5_copy 124 = .ok (.goto 5, 3) := by decide +kernel
theorem dX5_copy_127 : decode cX5_copy 127 = .ok (.iload 6, 2) := by decide +kernel
theorem dX5_copy_129 : decode cX5_copy 129 = .ok (.istore 7, 2) := by decide +kernel
theorem dX5_copy_131 : decode cX5_copy 131 = .ok (.aload_n 0, 1) := by decide +kernel
theorem dX5_copy_132 : decode cX5_copy 132 = .ok (.getfield 13, 3) := by decide +kernel
theorem dX5_copy_135 : decode cX5_copy 135 = .ok (.bipush 40, 2) := by decide +kernel
theorem dX5_copy_137 : decode cX5_copy 137 = .ok (.iload_n 3, 1) := by decide +kernel
theorem dX5_copy_138 : decode cX5_copy 138 = .ok (.imul, 1) := by decide +kernel
theorem dX5_copy_139 : decode cX5_copy 139 = .ok (.iload 4, 2) := by decide +kernel
theorem dX5_copy_141 : decode cX5_copy 141 = .ok (.iadd, 1) := by decide +kernel
theorem dX5_copy_142 : decode cX5_copy 142 = .ok (.iload 7, 2) := by decide +kernel
theorem dX5_copy_144 : decode cX5_copy 144 = .ok (.iadd, 1) := by decide +kernel
theorem dX5_copy_145 : decode cX5_copy 145 = .ok (.aload_n 0, 1) := by decide +kernel
theorem dX5_copy_146 : decode cX5_copy 146 = .ok (.getfield 13, 3) := by decide +kernel
theorem dX5_copy_149 : decode cX5_copy 149 = .ok (.bipush 40, 2) := by decide +kernel
theorem dX5_copy_151 : decode cX5_copy 151 = .ok (.iload_n 1, 1) := by decide +kernel
theorem dX5_copy_152 : decode cX5_copy 152 = .ok (.imul, 1) := by decide +kernel
theorem dX5_copy_153 : decode cX5_copy 153 = .ok (.iload_n 2, 1) := by decide +kernel
theorem dX5_copy_154 : decode cX5_copy 154 = .ok (.iadd, 1) := by decide +kernel
theorem dX5_copy_155 : decode cX5_copy 155 = .ok (.iload 7, 2) := by decide +kernel
theorem dX5_copy_157 : decode cX5_copy 157 = .ok (.iadd, 1) := by decide +kernel
theorem dX5_copy_158 : decode cX5_copy 158 = .ok (.iaload, 1) := by decide +kernel
theorem dX5_copy_159 : decode cX5_copy 159 = .ok (.iastore, 1) := by decide +kernel
theorem dX5_copy_160 : decode cX5_copy 160 = .ok (.iinc 6 1, 3) := by decide +kernel
theorem dX5_copy_163 : decode cX5_copy 163 = .ok (.goto (-59), 3) := by decide +kernel
theorem dX5_copy_166 : decode cX5_copy 166 = .ok (.iconst 1, 1) := by decide +kernel
theorem dX5_copy_167 : decode cX5_copy 167 = .ok (.ireturn, 1) := by decide +kernel
theorem dX5_mean_0 : decode cX5_mean 0 = .ok (.iload_n 1, 1) := by decide +kernel
theorem dX5_mean_1 : decode cX5_mean 1 = .ok (.invokestatic 90, 3) := by decide +kernel
theorem dX5_mean_4 : decode cX5_mean 4 = .ok (.ifCond .ne 5, 3) := by decide +kernel
theorem dX5_mean_7 : decode cX5_mean 7 = .ok (.iconst (-1), 1) := by decide +kernel
theorem dX5_mean_8 : decode cX5_mean 8 = .ok (.ireturn, 1) := by decide +kernel
theorem dX5_mean_9 : decode cX5_mean 9 = .ok (.aload_n 0, 1) := by decide +kernel
theorem dX5_mean_10 : decode cX5_mean 10 = .ok (.getfield 7, 3) := by decide +kernel
theorem dX5_mean_13 : decode cX5_mean 13 = .ok (.iload_n 1, 1) := by decide +kernel
theorem dX5_mean_14 : decode cX5_mean 14 = .ok (.iaload, 1) := by decide +kernel
theorem dX5_mean_15 : decode cX5_mean 15 = .ok (.ifCond .ge 9, 3) := by decide +kernel
theorem dX5_mean_18 : decode cX5_mean 18 = .ok (.aload_n 0, 1) := by decide +kernel
theorem dX5_mean_19 : decode cX5_mean 19 = .ok (.iconst 1, 1) := by decide +kernel
theorem dX5_mean_20 : decode cX5_mean 20 = .ok (.invokevirtual 94, 3) := by decide +kernel
theorem dX5_mean_23 : decode cX5_mean 23 = .ok (.ireturn, 1) := by decide +kernel
theorem dX5_mean_24 : decode cX5_mean 24 = .ok (.aload_n 0, 1) := by decide +kernel
theorem dX5_mean_25 : decode cX5_mean 25 = .ok (.getfield 7, 3) := by decide +kernel
theorem dX5_mean_28 : decode cX5_mean 28 = .ok (.iload_n 1, 1) := by decide +kernel
theorem dX5_mean_29 : decode cX5_mean 29 = .ok (.iaload, 1) := by decide +kernel
theorem dX5_mean_30 : decode cX5_mean 30 = .ok (.ifCond .ne 9, 3) := by decide +kernel
theorem dX5_mean_33 : decode cX5_mean 33 = .ok (.aload_n 0, 1) := by decide +kernel
theorem dX5_mean_34 : decode cX5_mean 34 = .ok (.iconst 4, 1) := by decide +kernel
theorem dX5_mean_35 : decode cX5_mean 35 = .ok (.invokevirtual 94, 3) := by decide +kernel
theorem dX5_mean_38 : decode cX5_mean 38 = .ok (.ireturn, 1) := by decide +kernel
theorem dX5_mean_39 : decode cX5_mean 39 = .ok (.lconst 0, 1) := by decide +kernel
theorem dX5_mean_40 : decode cX5_mean 40 = .ok (.lstore_n 2, 1) := by decide +kernel
theorem dX5_mean_41 : decode cX5_mean 41 = .ok (.iconst 0, 1) := by decide +kernel
theorem dX5_mean_42 : decode cX5_mean 42 = .ok (.istore 4, 2) := by decide +kernel
theorem dX5_mean_44 : decode cX5_mean 44 = .ok (.iload 4, 2) := by decide +kernel
theorem dX5_mean_46 : decode cX5_mean 46 = .ok (.aload_n 0, 1) := by decide +kernel
theorem dX5_mean_47 : decode cX5_mean 47 = .ok (.getfield 7, 3) := by decide +kernel
theorem dX5_mean_50 : decode cX5_mean 50 = .ok (.iload_n 1, 1) := by decide +kernel
theorem dX5_mean_51 : decode cX5_mean 51 = .ok (.iaload, 1) := by decide +kernel
theorem dX5_mean_52 : decode cX5_mean 52 = .ok (.if_icmp .ge 25, 3) := by decide +kernel
theorem dX5_mean_55 : decode cX5_mean 55 = .ok (.lload_n 2, 1) := by decide +kernel
theorem dX5_mean_56 : decode cX5_mean 56 = .ok (.aload_n 0, 1) := by decide +kernel
theorem dX5_mean_57 : decode cX5_mean 57 = .ok (.getfield 13, 3) := by decide +kernel
theorem dX5_mean_60 : decode cX5_mean 60 = .ok (.bipush 40, 2) := by decide +kernel
theorem dX5_mean_62 : decode cX5_mean 62 = .ok (.iload_n 1, 1) := by decide +kernel
theorem dX5_mean_63 : decode cX5_mean 63 = .ok (.imul, 1) := by decide +kernel
theorem dX5_mean_64 : decode cX5_mean 64 = .ok (.iload 4, 2) := by decide +kernel
theorem dX5_mean_66 : decode cX5_mean 66 = .ok (.iadd, 1) := by decide +kernel
theorem dX5_mean_67 : decode cX5_mean 67 = .ok (.iaload, 1) := by decide +kernel
theorem dX5_mean_68 : decode cX5_mean 68 = .ok (.i2l, 1) := by decide +kernel
theorem dX5_mean_69 : decode cX5_mean 69 = .ok (.ladd, 1) := by decide +kernel
theorem dX5_mean_70 : decode cX5_mean 70 = .ok (.lstore_n 2, 1) := by decide +kernel
theorem dX5_mean_71 : decode cX5_mean 71 = .ok (.iinc 4 1, 3) := by decide +kernel
theorem dX5_mean_74 : decode cX5_mean 74 = .ok (.goto (-30), 3) := by decide +kernel
theorem dX5_mean_77 : decode cX5_mean 77 = .ok (.aload_n 0, 1) := by decide +kernel
theorem dX5_mean_78 : decode cX5_mean 78 = .ok (.lload_n 2, 1) := by decide +kernel
theorem dX5_mean_79 : decode cX5_mean 79 = .ok (.aload_n 0, 1) := by decide +kernel
theorem dX5_mean_80 : decode cX5_mean 80 = .ok (.getfield 7, 3) := by decide +kernel
theorem dX5_mean_83 : decode cX5_mean 83 = .ok (.iload_n 1, 1) := by decide +kernel
theorem dX5_mean_84 : decode cX5_mean 84 = .ok (.iaload, 1) := by decide +kernel
theorem dX5_mean_85 : decode cX5_mean 85 = .ok (.i2l, 1) := by decide +kernel
theorem dX5_mean_86 : decode cX5_mean 86 = .ok (.ldiv, 1) := by decide +kernel
theorem dX5_mean_87 : decode cX5_mean 87 = .ok (.l2i, 1) := by decide +kernel
theorem dX5_mean_88 : decode cX5_mean 88 = .ok (.invokevirtual 98, 3) := by decide +kernel
theorem dX5_mean_91 : decode cX5_mean 91 = .ok (.ireturn, 1) := by decide +kernel
theorem dX5_text_0 : decode cX5_text 0 = .ok (.iload_n 1, 1) := by decide +kernel
theorem dX5_text_1 : decode cX5_text 1 = .ok (.invokestatic 101, 3) := by decide +kernel
theorem dX5_text_4 : decode cX5_text 4 = .ok (.ifCond .eq 9, 3) := by decide +kernel
theorem dX5_text_7 : decode cX5_text 7 = .ok (.iload_n 2, 1) := by decide +kernel
theorem dX5_text_8 : decode cX5_text 8 = .ok (.bipush 60, 2) := by decide +kernel
theorem dX5_text_10 : decode cX5_text 10 = .ok (.if_icmp .le 5, 3) := by decide +kernel
theorem dX5_text_13 : decode cX5_text 13 = .ok (.iconst (-1), 1) := by decide +kernel
theorem dX5_text_14 : decode cX5_text 14 = .ok (.ireturn, 1) := by decide +kernel
theorem dX5_text_15 : decode cX5_text 15 = .ok (.iload_n 2, 1) := by decide +kernel
theorem dX5_text_16 : decode cX5_text 16 = .ok (.ifCond .ge 9, 3) := by decide +kernel
theorem dX5_text_19 : decode cX5_text 19 = .ok (.aload_n 0, 1) := by decide +kernel
theorem dX5_text_20 : decode cX5_text 20 = .ok (.iconst 5, 1) := by decide +kernel
theorem dX5_text_21 : decode cX5_text 21 = .ok (.invokevirtual 94, 3) := by decide +kernel
theorem dX5_text_24 : decode cX5_text 24 = .ok (.ireturn, 1) := by decide +kernel
theorem dX5_text_25 : decode cX5_text 25 = .ok (.aload_n 0, 1) := by decide +kernel
theorem dX5_text_26 : decode cX5_text 26 = .ok (.getfield 16, 3) := by decide +kernel
theorem dX5_text_29 : decode cX5_text 29 = .ok (.iload_n 1, 1) := by decide +kernel
theorem dX5_text_30 : decode cX5_text 30 = .ok (.iload_n 2, 1) := by decide +kernel
theorem dX5_text_31 : decode cX5_text 31 = .ok (.iastore, 1) := by decide +kernel
theorem dX5_text_32 : decode cX5_text 32 = .ok (.iconst 0, 1) := by decide +kernel
theorem dX5_text_33 : decode cX5_text 33 = .ok (.istore_n 3, 1) := by decide +kernel
theorem dX5_text_34 : decode cX5_text 34 = .ok (.iload_n 3, 1) := by decide +kernel
theorem dX5_text_35 : decode cX5_text 35 = .ok (.bipush 60, 2) := by decide +kernel
theorem dX5_text_37 : decode cX5_text 37 = .ok (.if_icmp .ge 22, 3) := by decide +kernel
theorem dX5_text_40 : decode cX5_text 40 = .ok (.aload_n 0, 1) := by decide +kernel
theorem dX5_text_41 : decode cX5_text 41 = .ok (.getfield 19, 3) := by decide +kernel
theorem dX5_text_44 : decode cX5_text 44 = .ok (.bipush 60, 2) := by decide +kernel
theorem dX5_text_46 : decode cX5_text 46 = .ok (.iload_n 1, 1) := by decide +kernel
theorem dX5_text_47 : decode cX5_text 47 = .ok (.imul, 1) := by decide +kernel
theorem dX5_text_48 : decode cX5_text 48 = .ok (.iload_n 3, 1) := by decide +kernel
theorem dX5_text_49 : decode cX5_text 49 = .ok (.iadd, 1) := by decide +kernel
theorem dX5_text_50 : decode cX5_text 50 = .ok (.bipush 32, 2) := by decide +kernel
theorem dX5_text_52 : decode cX5_text 52 = .ok (.iastore, 1) := by decide +kernel
theorem dX5_text_53 : decode cX5_text 53 = .ok (.iinc 3 1, 3) := by decide +kernel
theorem dX5_text_56 : decode cX5_text 56 = .ok (.goto (-22), 3) := by decide +kernel
theorem dX5_text_59 : decode cX5_text 59 = .ok (.iload_n 2, 1) := by decide +kernel
theorem dX5_text_60 : decode cX5_text 60 = .ok (.ireturn, 1) := by decide +kernel
theorem dX5_put_0 : decode cX5_put 0 = .ok (.iload_n 1, 1) := by decide +kernel
theorem dX5_put_1 : decode cX5_put 1 = .ok (.invokestatic 101, 3) := by decide +kernel
theorem dX5_put_4 : decode cX5_put 4 = .ok (.ifCond .ne 5, 3) := by decide +kernel
theorem dX5_put_7 : decode cX5_put 7 = .ok (.iconst (-1), 1) := by decide +kernel
theorem dX5_put_8 : decode cX5_put 8 = .ok (.ireturn, 1) := by decide +kernel
theorem dX5_put_9 : decode cX5_put 9 = .ok (.aload_n 0, 1) := by decide +kernel
theorem dX5_put_10 : decode cX5_put 10 = .ok (.getfield 16, 3) := by decide +kernel
theorem dX5_put_13 : decode cX5_put 13 = .ok (.iload_n 1, 1) := by decide +kernel
theorem dX5_put_14 : decode cX5_put 14 = .ok (.iaload, 1) := by decide +kernel
theorem dX5_put_15 : decode cX5_put 15 = .ok (.ifCond .ge 9, 3) := by decide +kernel
theorem dX5_put_18 : decode cX5_put 18 = .ok (.aload_n 0, 1) := by decide +kernel
theorem dX5_put_19 : decode cX5_put 19 = .ok (.iconst 1, 1) := by decide +kernel
theorem dX5_put_20 : decode cX5_put 20 = .ok (.invokevirtual 94, 3) := by decide +kernel
theorem dX5_put_23 : decode cX5_put 23 = .ok (.ireturn, 1) := by decide +kernel
theorem dX5_put_24 : decode cX5_put 24 = .ok (.iload_n 2, 1) := by decide +kernel
theorem dX5_put_25 : decode cX5_put 25 = .ok (.i2l, 1) := by decide +kernel
theorem dX5_put_26 : decode cX5_put 26 = .ok (.lconst 0, 1) := by decide +kernel
theorem dX5_put_27 : decode cX5_put 27 = .ok (.aload_n 0, 1) := by decide +kernel
theorem dX5_put_28 : decode cX5_put 28 = .ok (.getfield 16, 3) := by decide +kernel
theorem dX5_put_31 : decode cX5_put 31 = .ok (.iload_n 1, 1) := by decide +kernel
theorem dX5_put_32 : decode cX5_put 32 = .ok (.iaload, 1) := by decide +kernel
theorem dX5_put_33 : decode cX5_put 33 = .ok (.iconst 1, 1) := by decide +kernel
theorem dX5_put_34 : decode cX5_put 34 = .ok (.isub, 1) := by decide +kernel
theorem dX5_put_35 : decode cX5_put 35 = .ok (.i2l, 1) := by decide +kernel
theorem dX5_put_36 : decode cX5_put 36 = .ok (.invokestatic 84, 3) := by decide +kernel
theorem dX5_put_39 : decode cX5_put 39 = .ok (.ifCond .ne 9, 3) := by decide +kernel
theorem dX5_put_42 : decode cX5_put 42 = .ok (.aload_n 0, 1) := by decide +kernel
theorem dX5_put_43 : decode cX5_put 43 = .ok (.iconst 2, 1) := by decide +kernel
theorem dX5_put_44 : decode cX5_put 44 = .ok (.invokevirtual 94, 3) := by decide +kernel
theorem dX5_put_47 : decode cX5_put 47 = .ok (.ireturn, 1) := by decide +kernel
theorem dX5_put_48 : decode cX5_put 48 = .ok (.aload_n 0, 1) := by decide +kernel
theorem dX5_put_49 : decode cX5_put 49 = .ok (.getfield 19, 3) := by decide +kernel
theorem dX5_put_52 : decode cX5_put 52 = .ok (.bipush 60, 2) := by decide +kernel
theorem dX5_put_54 : decode cX5_put 54 = .ok (.iload_n 1, 1) := by decide +kernel
theorem dX5_put_55 : decode cX5_put 55 = .ok (.imul, 1) := by decide +kernel
theorem dX5_put_56 : decode cX5_put 56 = .ok (.iload_n 2, 1) := by decide +kernel
theorem dX5_put_57 : decode cX5_put 57 = .ok (.iadd, 1) := by decide +kernel
theorem dX5_put_58 : decode cX5_put 58 = .ok (.iaload, 1) := by decide +kernel
theorem dX5_put_59 : decode cX5_put 59 = .ok (.istore 4, 2) := by decide +kernel
theorem dX5_put_61 : decode cX5_put 61 = .ok (.aload_n 0, 1) := by decide +kernel
theorem dX5_put_62 : decode cX5_put 62 = .ok (.getfield 19, 3) := by decide +kernel
theorem dX5_put_65 : decode cX5_put 65 = .ok (.bipush 60, 2) := by decide +kernel
theorem dX5_put_67 : decode cX5_put 67 = .ok (.iload_n 1, 1) := by decide +kernel
theorem dX5_put_68 : decode cX5_put 68 = .ok (.imul, 1) := by decide +kernel
theorem dX5_put_69 : decode cX5_put 69 = .ok (.iload_n 2, 1) := by decide +kernel
theorem dX5_put_70 : decode cX5_put 70 = .ok (.iadd, 1) := by decide +kernel
theorem dX5_put_71 : decode cX5_put 71 = .ok (.iload_n 3, 1) := by decide +kernel
theorem dX5_put_72 : decode cX5_put 72 = .ok (.i2b, 1) := by decide +kernel
theorem dX5_put_73 : decode cX5_put 73 = .ok (.iastore, 1) := by decide +kernel
theorem dX5_put_74 : decode cX5_put 74 = .ok (.iload 4, 2) := by decide +kernel
theorem dX5_put_76 : decode cX5_put 76 = .ok (.sipush 1000, 3) := by decide +kernel
theorem dX5_put_79 : decode cX5_put 79 = .ok (.iadd, 1) := by decide +kernel
theorem dX5_put_80 : decode cX5_put 80 = .ok (.ireturn, 1) := by decide +kernel
theorem dX5_byteAt_0 : decode cX5_byteAt 0 = .ok (.aload_n 0, 1) := by decide +kernel
theorem dX5_byteAt_1 : decode cX5_byteAt 1 = .ok (.getfield 104, 3) := by decide +kernel
theorem dX5_byteAt_4 : decode cX5_byteAt 4 = .ok (.aload_n 0, 1) := by decide +kernel
theorem dX5_byteAt_5 : decode cX5_byteAt 5 = .ok (.getfield 16, 3) := by decide +kernel
theorem dX5_byteAt_8 : decode cX5_byteAt 8 = .ok (.iload_n 1, 1) := by decide +kernel
theorem dX5_byteAt_9 : decode cX5_byteAt 9 = .ok (.iaload, 1) := by decide +kernel
theorem dX5_byteAt_10 : decode cX5_byteAt 10 = .ok (.if_icmp .ge 20, 3) := by decide +kernel
theorem dX5_byteAt_13 : decode cX5_byteAt 13 = .ok (.aload_n 0, 1) := by decide +kernel
theorem dX5_byteAt_14 : decode cX5_byteAt 14 = .ok (.getfield 19, 3) := by decide +kernel
theorem dX5_byteAt_17 : decode cX5_byteAt 17 = .ok (.bipush 60, 2) := by decide +kernel
theorem dX5_byteAt_19 : decode cX5_byteAt 19 = .ok (.iload_n 1, 1) := by decide +kernel
theorem dX5_byteAt_20 : decode cX5_byteAt 20 = .ok (.imul, 1) := by decide +kernel
theorem dX5_byteAt_21 : decode cX5_byteAt 21 = .ok (.aload_n 0, 1) := by decide +kernel
theorem dX5_byteAt_22 : decode cX5_byteAt 22 = .ok (.getfield 104, 3) := by decide +kernel
theorem dX5_byteAt_25 : decode cX5_byteAt 25 = .ok (.iadd, 1) := by decide +kernel
theorem dX5_byteAt_26 : decode cX5_byteAt 26 = .ok (.iaload, 1) := by decide +kernel
theorem dX5_byteAt_27 : decode cX5_byteAt 27 = .ok (.goto 6, 3) := by decide +kernel
theorem dX5_byteAt_30 : decode cX5_byteAt 30 = .ok (.sipush (-1000), 3) := by decide +kernel
theorem dX5_byteAt_33 : decode cX5_byteAt 33 = .ok (.ireturn, 1) := by decide +kernel
theorem dX5_blanks_0 : decode cX5_blanks 0 = .ok (.aload_n 0, 1) := by decide +kernel
theorem dX5_blanks_1 : decode cX5_blanks 1 = .ok (.iload_n 1, 1) := by decide +kernel
theorem dX5_blanks_2 : decode cX5_blanks 2 = .ok (.invokevirtual 107, 3) := by decide +kernel
theorem dX5_blanks_5 : decode cX5_blanks 5 = .ok (.bipush 32, 2) := by decide +kernel
theorem dX5_blanks_7 : decode cX5_blanks 7 = .ok (.if_icmp .ne 16, 3) := by decide +kernel
theorem dX5_blanks_10 : decode cX5_blanks 10 = .ok (.aload_n 0, 1) := by decide +kernel
theorem dX5_blanks_11 : decode cX5_blanks 11 = .ok (.dup, 1) := by decide +kernel
theorem dX5_blanks_12 : decode cX5_blanks 12 = .ok (.getfield 104, 3) := by decide +kernel
theorem dX5_blanks_15 : decode cX5_blanks 15 = .ok (.iconst 1, 1) := by decide +kernel
theorem dX5_blanks_16 : decode cX5_blanks 16 = .ok (.iadd, 1) := by decide +kernel
theorem dX5_blanks_17 : decode cX5_blanks 17 = .ok (.putfield 104, 3) := by decide +kernel
theorem dX5_blanks_20 : decode cX5_blanks 20 = .ok (.goto (-20), 3) := by decide +kernel
theorem dX5_blanks_23 : decode cX5_blanks 23 = .ok (.return_, 1) := by decide +kernel
theorem dX5_kindOf_0 : decode cX5_kindOf 0 = .ok (.iload_n 0, 1) := by decide +kernel
theorem dX5_kindOf_1 : decode cX5_kindOf 1 = .ok (.bipush 116, 2) := by decide +kernel
theorem dX5_kindOf_3 : decode cX5_kindOf 3 = .ok (.if_icmp .ne 7, 3) := by decide +kernel
theorem dX5_kindOf_6 : decode cX5_kindOf 6 = .ok (.iconst 0, 1) := by decide +kernel
theorem dX5_kindOf_7 : decode cX5_kindOf 7 = .ok (.goto 54, 3) := by decide +kernel
theorem dX5_kindOf_10 : decode cX5_kindOf 10 = .ok (.iload_n 0, 1) := by decide +kernel
theorem dX5_kindOf_11 : decode cX5_kindOf 11 = .ok (.bipush 114, 2) := by decide +kernel
theorem dX5_kindOf_13 : decode cX5_kindOf 13 = .ok (.if_icmp .ne 7, 3) := by decide +kernel
theorem dX5_kindOf_16 : decode cX5_kindOf 16 = .ok (.iconst 1, 1) := by decide +kernel
theorem dX5_kindOf_17 : decode cX5_kindOf 17 = .ok (.goto 44, 3) := by decide +kernel
theorem dX5_kindOf_20 : decode cX5_kindOf 20 = .ok (.iload_n 0, 1) := by decide +kernel
theorem dX5_kindOf_21 : decode cX5_kindOf 21 = .ok (.bipush 115, 2) := by decide +kernel
theorem dX5_kindOf_23 : decode cX5_kindOf 23 = .ok (.if_icmp .ne 7, 3) := by decide +kernel
theorem dX5_kindOf_26 : decode cX5_kindOf 26 = .ok (.iconst 2, 1) := by decide +kernel
theorem dX5_kindOf_27 : decode cX5_kindOf 27 = .ok (.goto 34, 3) := by decide +kernel
theorem dX5_kindOf_30 : decode cX5_kindOf 30 = .ok (.iload_n 0, 1) := by decide +kernel
theorem dX5_kindOf_31 : decode cX5_kindOf 31 = .ok (.bipush 98, 2) := by decide +kernel
theorem dX5_kindOf_33 : decode cX5_kindOf 33 = .ok (.if_icmp .ne 7, 3) := by decide +kernel
theorem dX5_kindOf_36 : decode cX5_kindOf 36 = .ok (.iconst 3, 1) := by decide +kernel
theorem dX5_kindOf_37 : decode cX5_kindOf 37 = .ok (.goto 24, 3) := by decide +kernel
theorem dX5_kindOf_40 : decode cX5_kindOf 40 = .ok (.iload_n 0, 1) := by decide +kernel
theorem dX5_kindOf_41 : decode cX5_kindOf 41 = .ok (.bipush 100, 2) := by decide +kernel
theorem dX5_kindOf_43 : decode cX5_kindOf 43 = .ok (.if_icmp .ne 7, 3) := by decide +kernel
theorem dX5_kindOf_46 : decode cX5_kindOf 46 = .ok (.iconst 4, 1) := by decide +kernel
theorem dX5_kindOf_47 : decode cX5_kindOf 47 = .ok (.goto 14, 3) := by decide +kernel
theorem dX5_kindOf_50 : decode cX5_kindOf 50 = .ok (.iload_n 0, 1) := by decide +kernel
theorem dX5_kindOf_51 : decode cX5_kindOf 51 = .ok (.bipush 99, 2) := by decide +kernel
theorem dX5_kindOf_53 : decode cX5_kindOf 53 = .ok (.if_icmp .ne 7, 3) := by decide +kernel
theorem dX5_kindOf_56 : decode cX5_kindOf 56 = .ok (.iconst 5, 1) := by decide +kernel
theorem dX5_kindOf_57 : decode cX5_kindOf 57 = .ok (.goto 4, 3) := by decide +kernel
theorem dX5_kindOf_60 : decode cX5_kindOf 60 = .ok (.iconst (-1), 1) := by decide +kernel
theorem dX5_kindOf_61 : decode cX5_kindOf 61 = .ok (.ireturn, 1) := by decide +kernel
theorem dX5_takes_0 : decode cX5_takes 0 = .ok (.aload_n 0, 1) := by decide +kernel
theorem dX5_takes_1 : decode cX5_takes 1 = .ok (.aload_n 0, 1) := by decide +kernel
theorem dX5_takes_2 : decode cX5_takes 2 = .ok (.iload_n 1, 1) := by decide +kernel
theorem dX5_takes_3 : decode cX5_takes 3 = .ok (.invokevirtual 107, 3) := by decide +kernel
theorem dX5_takes_6 : decode cX5_takes 6 = .ok (.bipush 48, 2) := by decide +kernel
theorem dX5_takes_8 : decode cX5_takes 8 = .ok (.isub, 1) := by decide +kernel
theorem dX5_takes_9 : decode cX5_takes 9 = .ok (.putfield 110, 3) := by decide +kernel
theorem dX5_takes_12 : decode cX5_takes 12 = .ok (.aload_n 0, 1) := by decide +kernel
theorem dX5_takes_13 : decode cX5_takes 13 = .ok (.getfield 110, 3) := by decide +kernel
theorem dX5_takes_16 : decode cX5_takes 16 = .ok (.i2l, 1) := by decide +kernel
theorem dX5_takes_17 : decode cX5_takes 17 = .ok (.lconst 0, 1) := by decide +kernel
theorem dX5_takes_18 : decode cX5_takes 18 = .ok (.iload_n 2, 1) := by decide +kernel
theorem dX5_takes_19 : decode cX5_takes 19 = .ok (.i2l, 1) := by decide +kernel
theorem dX5_takes_20 : decode cX5_takes 20 = .ok (.invokestatic 84, 3) := by decide +kernel
theorem dX5_takes_23 : decode cX5_takes 23 = .ok (.ifCond .ne 5, 3) := by decide +kernel
theorem dX5_takes_26 : decode cX5_takes 26 = .ok (.iconst 0, 1) := by decide +kernel
theorem dX5_takes_27 : decode cX5_takes 27 = .ok (.ireturn, 1) := by decide +kernel
theorem dX5_takes_28 : decode cX5_takes 28 = .ok (.aload_n 0, 1) := by decide +kernel
theorem dX5_takes_29 : decode cX5_takes 29 = .ok (.dup, 1) := by decide +kernel
theorem dX5_takes_30 : decode cX5_takes 30 = .ok (.getfield 104, 3) := by decide +kernel
theorem dX5_takes_33 : decode cX5_takes 33 = .ok (.iconst 1, 1) := by decide +kernel
theorem dX5_takes_34 : decode cX5_takes 34 = .ok (.iadd, 1) := by decide +kernel
theorem dX5_takes_35 : decode cX5_takes 35 = .ok (.putfield 104, 3) := by decide +kernel
theorem dX5_takes_38 : decode cX5_takes 38 = .ok (.iconst 1, 1) := by decide +kernel
theorem dX5_takes_39 : decode cX5_takes 39 = .ok (.ireturn, 1) := by decide +kernel
theorem dX5_readsFirst_0 : decode cX5_readsFirst 0 = .ok (.aload_n 0, 1) := by decide +kernel
theorem dX5_readsFirst_1 : decode cX5_readsFirst 1 = .ok (.iload_n 1, 1) := by decide +kernel
theorem dX5_readsFirst_2 : decode cX5_readsFirst 2 = .ok (.invokevirtual 107, 3) := by decide +kernel
theorem dX5_readsFirst_5 : decode cX5_readsFirst 5 = .ok (.bipush 102, 2) := by decide +kernel
theorem dX5_readsFirst_7 : decode cX5_readsFirst 7 = .ok (.if_icmp .eq 5, 3) := by decide +kernel
theorem dX5_readsFirst_10 : decode cX5_readsFirst 10 = .ok (.iconst 0, 1) := by decide +kernel
theorem dX5_readsFirst_11 : decode cX5_readsFirst 11 = .ok (.ireturn, 1) := by decide +kernel
theorem dX5_readsFirst_12 : decode cX5_readsFirst 12 = .ok (.aload_n 0, 1) := by decide +kernel
theorem dX5_readsFirst_13 : decode cX5_readsFirst 13 = .ok (.dup, 1) := by decide +kernel
theorem dX5_readsFirst_14 : decode cX5_readsFirst 14 = .ok (.getfield 104, 3) := by decide +kernel
theorem dX5_readsFirst_17 : decode cX5_readsFirst 17 = .ok (.iconst 1, 1) := by decide +kernel
theorem dX5_readsFirst_18 : decode cX5_readsFirst 18 = .ok (.iadd, 1) := by decide +kernel
theorem dX5_readsFirst_19 : decode cX5_readsFirst 19 = .ok (.putfield 104, 3) := by decide +kernel
theorem dX5_readsFirst_22 : decode cX5_readsFirst 22 = .ok (.aload_n 0, 1) := by decide +kernel
theorem dX5_readsFirst_23 : decode cX5_readsFirst 23 = .ok (.iload_n 1, 1) := by decide +kernel
theorem dX5_readsFirst_24 : decode cX5_readsFirst 24 = .ok (.bipush 9, 2) := by decide +kernel
theorem dX5_readsFirst_26 : decode cX5_readsFirst 26 = .ok (.invokevirtual 113, 3) := by decide +kernel
theorem dX5_readsFirst_29 : decode cX5_readsFirst 29 = .ok (.ifCond .ne 5, 3) := by decide +kernel
theorem dX5_readsFirst_32 : decode cX5_readsFirst 32 = .ok (.iconst 0, 1) := by decide +kernel
theorem dX5_readsFirst_33 : decode cX5_readsFirst 33 = .ok (.ireturn, 1) := by decide +kernel
theorem dX5_readsFirst_34 : decode cX5_readsFirst 34 = .ok (.aload_n 0, 1) := by decide +kernel
theorem dX5_readsFirst_35 : decode cX5_readsFirst 35 = .ok (.aload_n 0, 1) := by decide +kernel
theorem dX5_readsFirst_36 : decode cX5_readsFirst 36 = .ok (.getfield 110, 3) := by decide +kernel
theorem dX5_readsFirst_39 : decode cX5_readsFirst 39 = .ok (.putfield 117, 3) := by decide +kernel
theorem dX5_readsFirst_42 : decode cX5_readsFirst 42 = .ok (.aload_n 0, 1) := by decide +kernel
theorem dX5_readsFirst_43 : decode cX5_readsFirst 43 = .ok (.iload_n 1, 1) := by decide +kernel
theorem dX5_readsFirst_44 : decode cX5_readsFirst 44 = .ok (.bipush 9, 2) := by decide +kernel
theorem dX5_readsFirst_46 : decode cX5_readsFirst 46 = .ok (.invokevirtual 113, 3) := by decide +kernel
theorem dX5_readsFirst_49 : decode cX5_readsFirst 49 = .ok (.ifCond .ne 5, 3) := by decide +kernel
theorem dX5_readsFirst_52 : decode cX5_readsFirst 52 = .ok (.iconst 0, 1) := by decide +kernel
theorem dX5_readsFirst_53 : decode cX5_readsFirst 53 = .ok (.ireturn, 1) := by decide +kernel
theorem dX5_readsFirst_54 : decode cX5_readsFirst 54 = .ok (.aload_n 0, 1) := by decide +kernel
theorem dX5_readsFirst_55 : decode cX5_readsFirst 55 = .ok (.aload_n 0, 1) := by decide +kernel
theorem dX5_readsFirst_56 : decode cX5_readsFirst 56 = .ok (.getfield 110, 3) := by decide +kernel
theorem dX5_readsFirst_59 : decode cX5_readsFirst 59 = .ok (.putfield 120, 3) := by decide +kernel
theorem dX5_readsFirst_62 : decode cX5_readsFirst 62 = .ok (.iconst 1, 1) := by decide +kernel
theorem dX5_readsFirst_63 : decode cX5_readsFirst 63 = .ok (.ireturn, 1) := by decide +kernel
theorem dX5_readsThing_0 : decode cX5_readsThing 0 = .ok (.aload_n 0, 1) := by decide +kernel
theorem dX5_readsThing_1 : decode cX5_readsThing 1 = .ok (.iload_n 1, 1) := by decide +kernel
theorem dX5_readsThing_2 : decode cX5_readsThing 2 = .ok (.invokevirtual 107, 3) := by decide +kernel
theorem dX5_readsThing_5 : decode cX5_readsThing 5 = .ok (.invokestatic 123, 3) := by decide +kernel
theorem dX5_readsThing_8 : decode cX5_readsThing 8 = .ok (.istore_n 2, 1) := by decide +kernel
theorem dX5_readsThing_9 : decode cX5_readsThing 9 = .ok (.iload_n 2, 1) := by decide +kernel
theorem dX5_readsThing_10 : decode cX5_readsThing 10 = .ok (.ifCond .lt 12, 3) := by decide +kernel
theorem dX5_readsThing_13 : decode cX5_readsThing 13 = .ok (.aload_n 0, 1) := by decide +kernel
theorem dX5_readsThing_14 : decode cX5_readsThing 14 = .ok (.getfield 126, 3) := by decide +kernel
theorem dX5_readsThing_17 : decode cX5_readsThing 17 = .ok (.bipush 6, 2) := by decide +kernel
theorem dX5_readsThing_19 : decode cX5_readsThing 19 = .ok (.if_icmp .ne 5, 3) := by decide +kernel
theorem dX5_readsThing_22 : decode cX5_readsThing 22 = .ok (.iconst 0, 1) := by decide +kernel
theorem dX5_readsThing_23 : decode cX5_readsThing 23 = .ok (.ireturn, 1) := by decide +kernel
theorem dX5_readsThing_24 : decode cX5_readsThing 24 = .ok (.aload_n 0, 1) := by decide +kernel
theorem dX5_readsThing_25 : decode cX5_readsThing 25 = .ok (.dup, 1) := by decide +kernel
theorem dX5_readsThing_26 : decode cX5_readsThing 26 = .ok (.getfield 104, 3) := by decide +kernel
theorem dX5_readsThing_29 : decode cX5_readsThing 29 = .ok (.iconst 1, 1) := by decide +kernel
theorem dX5_readsThing_30 : decode cX5_readsThing 30 = .ok (.iadd, 1) := by decide +kernel
theorem dX5_readsThing_31 : decode cX5_readsThing 31 = .ok (.putfield 104, 3) := by decide +kernel
theorem dX5_readsThing_34 : decode cX5_readsThing 34 = .ok (.iconst 4, 1) := by decide +kernel
theorem dX5_readsThing_35 : decode cX5_readsThing 35 = .ok (.aload_n 0, 1) := by decide +kernel
theorem dX5_readsThing_36 : decode cX5_readsThing 36 = .ok (.getfield 126, 3) := by decide +kernel
theorem dX5_readsThing_39 : decode cX5_readsThing 39 = .ok (.imul, 1) := by decide +kernel
theorem dX5_readsThing_40 : decode cX5_readsThing 40 = .ok (.istore_n 3, 1) := by decide +kernel
theorem dX5_readsThing_41 : decode cX5_readsThing 41 = .ok (.aload_n 0, 1) := by decide +kernel
theorem dX5_readsThing_42 : decode cX5_readsThing 42 = .ok (.getfield 51, 3) := by decide +kernel
theorem dX5_readsThing_45 : decode cX5_readsThing 45 = .ok (.iload_n 3, 1) := by decide +kernel
theorem dX5_readsThing_46 : decode cX5_readsThing 46 = .ok (.iload_n 2, 1) := by decide +kernel
theorem dX5_readsThing_47 : decode cX5_readsThing 47 = .ok (.iastore, 1) := by decide +kernel
theorem dX5_readsThing_48 : decode cX5_readsThing 48 = .ok (.iconst 1, 1) := by decide +kernel
theorem dX5_readsThing_49 : decode cX5_readsThing 49 = .ok (.istore 4, 2) := by decide +kernel
theorem dX5_readsThing_51 : decode cX5_readsThing 51 = .ok (.iload 4, 2) := by decide +kernel
theorem dX5_readsThing_53 : decode cX5_readsThing 53 = .ok (.iconst 4, 1) := by decide +kernel
theorem dX5_readsThing_54 : decode cX5_readsThing 54 = .ok (.if_icmp .ge 45, 3) := by decide +kernel
theorem dX5_readsThing_57 : decode cX5_readsThing 57 = .ok (.aload_n 0, 1) := by decide +kernel
theorem dX5_readsThing_58 : decode cX5_readsThing 58 = .ok (.iload_n 1, 1) := by decide +kernel
theorem dX5_readsThing_59 : decode cX5_readsThing 59 = .ok (.iload 4, 2) := by decide +kernel
theorem dX5_readsThing_61 : decode cX5_readsThing 61 = .ok (.iconst 2, 1) := by decide +kernel
theorem dX5_readsThing_62 : decode cX5_readsThing 62 = .ok (.if_icmp .ne 8, 3) := by decide +kernel
theorem dX5_readsThing_65 : decode cX5_readsThing 65 = .ok (.bipush 9, 2) := by decide +kernel
theorem dX5_readsThing_67 : decode cX5_readsThing 67 = .ok (.goto 5, 3) := by decide +kernel
theorem dX5_readsThing_70 : decode cX5_readsThing 70 = .ok (.bipush 7, 2) := by decide +kernel
theorem dX5_readsThing_72 : decode cX5_readsThing 72 = .ok (.invokevirtual 113, 3) := by decide +kernel
theorem dX5_readsThing_75 : decode cX5_readsThing 75 = .ok (.ifCond .ne 5, 3) := by decide +kernel
theorem dX5_readsThing_78 : decode cX5_readsThing 78 = .ok (.iconst 0, 1) := by decide +kernel
theorem dX5_readsThing_79 : decode cX5_readsThing 79 = .ok (.ireturn, 1) := by decide +kernel
theorem dX5_readsThing_80 : decode cX5_readsThing 80 = .ok (.aload_n 0, 1) := by decide +kernel
theorem dX5_readsThing_81 : decode cX5_readsThing 81 = .ok (.getfield 51, 3) := by decide +kernel
theorem dX5_readsThing_84 : decode cX5_readsThing 84 = .ok (.iload_n 3, 1) := by decide +kernel
theorem dX5_readsThing_85 : decode cX5_readsThing 85 = .ok (.iload 4, 2) := by decide +kernel
theorem dX5_readsThing_87 : decode cX5_readsThing 87 = .ok (.iadd, 1) := by decide +kernel
theorem dX5_readsThing_88 : decode cX5_readsThing 88 = .ok (.aload_n 0, 1) := by decide +kernel
theorem dX5_readsThing_89 : decode cX5_readsThing 89 = .ok (.getfield 110, 3) := by decide +kernel
theorem dX5_readsThing_92 : decode cX5_readsThing 92 = .ok (.iastore, 1) := by decide +kernel
theorem dX5_readsThing_93 : decode cX5_readsThing 93 = .ok (.iinc 4 1, 3) := by decide +kernel
theorem dX5_readsThing_96 : decode cX5_readsThing 96 = .ok (.goto (-45), 3) := by decide +kernel
theorem dX5_readsThing_99 : decode cX5_readsThing 99 = .ok (.aload_n 0, 1) := by decide +kernel
theorem dX5_readsThing_100 : decode cX5_readsThing 100 = .ok (.dup, 1) := by decide +kernel
theorem dX5_readsThing_101 : decode cX5_readsThing 101 = .ok (.getfield 126, 3) := by decide +kernel
theorem dX5_readsThing_104 : decode cX5_readsThing 104 = .ok (.iconst 1, 1) := by decide +kernel
theorem dX5_readsThing_105 : decode cX5_readsThing 105 = .ok (.iadd, 1) := by decide +kernel
theorem dX5_readsThing_106 : decode cX5_readsThing 106 = .ok (.putfield 126, 3) := by decide +kernel
theorem dX5_readsThing_109 : decode cX5_readsThing 109 = .ok (.iconst 1, 1) := by decide +kernel
theorem dX5_readsThing_110 : decode cX5_readsThing 110 = .ok (.ireturn, 1) := by decide +kernel
theorem dX5_faultOf_0 : decode cX5_faultOf 0 = .ok (.aload_n 0, 1) := by decide +kernel
theorem dX5_faultOf_1 : decode cX5_faultOf 1 = .ok (.iconst 0, 1) := by decide +kernel
theorem dX5_faultOf_2 : decode cX5_faultOf 2 = .ok (.putfield 104, 3) := by decide +kernel
theorem dX5_faultOf_5 : decode cX5_faultOf 5 = .ok (.aload_n 0, 1) := by decide +kernel
theorem dX5_faultOf_6 : decode cX5_faultOf 6 = .ok (.iconst 0, 1) := by decide +kernel
theorem dX5_faultOf_7 : decode cX5_faultOf 7 = .ok (.putfield 126, 3) := by decide +kernel
theorem dX5_faultOf_10 : decode cX5_faultOf 10 = .ok (.aload_n 0, 1) := by decide +kernel
theorem dX5_faultOf_11 : decode cX5_faultOf 11 = .ok (.iload_n 1, 1) := by decide +kernel
theorem dX5_faultOf_12 : decode cX5_faultOf 12 = .ok (.invokevirtual 129, 3) := by decide +kernel
theorem dX5_faultOf_15 : decode cX5_faultOf 15 = .ok (.aload_n 0, 1) := by decide +kernel
theorem dX5_faultOf_16 : decode cX5_faultOf 16 = .ok (.iload_n 1, 1) := by decide +kernel
theorem dX5_faultOf_17 : decode cX5_faultOf 17 = .ok (.invokevirtual 133, 3) := by decide +kernel
theorem dX5_faultOf_20 : decode cX5_faultOf 20 = .ok (.istore_n 2, 1) := by decide +kernel
theorem dX5_faultOf_21 : decode cX5_faultOf 21 = .ok (.iload_n 2, 1) := by decide +kernel
theorem dX5_faultOf_22 : decode cX5_faultOf 22 = .ok (.ifCond .eq 40, 3) := by decide +kernel
theorem dX5_faultOf_25 : decode cX5_faultOf 25 = .ok (.aload_n 0, 1) := by decide +kernel
theorem dX5_faultOf_26 : decode cX5_faultOf 26 = .ok (.iload_n 1, 1) := by decide +kernel
theorem dX5_faultOf_27 : decode cX5_faultOf 27 = .ok (.invokevirtual 129, 3) := by decide +kernel
theorem dX5_faultOf_30 : decode cX5_faultOf 30 = .ok (.aload_n 0, 1) := by decide +kernel
theorem dX5_faultOf_31 : decode cX5_faultOf 31 = .ok (.getfield 104, 3) := by decide +kernel
theorem dX5_faultOf_34 : decode cX5_faultOf 34 = .ok (.aload_n 0, 1) := by decide +kernel
theorem dX5_faultOf_35 : decode cX5_faultOf 35 = .ok (.getfield 16, 3) := by decide +kernel
theorem dX5_faultOf_38 : decode cX5_faultOf 38 = .ok (.iload_n 1, 1) := by decide +kernel
theorem dX5_faultOf_39 : decode cX5_faultOf 39 = .ok (.iaload, 1) := by decide +kernel
theorem dX5_faultOf_40 : decode cX5_faultOf 40 = .ok (.if_icmp .ne 13, 3) := by decide +kernel
theorem dX5_faultOf_43 : decode cX5_faultOf 43 = .ok (.aload_n 0, 1) := by decide +kernel
theorem dX5_faultOf_44 : decode cX5_faultOf 44 = .ok (.getfield 126, 3) := by decide +kernel
theorem dX5_faultOf_47 : decode cX5_faultOf 47 = .ok (.ifCond .le 6, 3) := by decide +kernel
theorem dX5_faultOf_50 : decode cX5_faultOf 50 = .ok (.bipush (-9), 2) := by decide +kernel
theorem dX5_faultOf_52 : decode cX5_faultOf 52 = .ok (.ireturn, 1) := by decide +kernel
theorem dX5_faultOf_53 : decode cX5_faultOf 53 = .ok (.aload_n 0, 1) := by decide +kernel
theorem dX5_faultOf_54 : decode cX5_faultOf 54 = .ok (.iload_n 1, 1) := by decide +kernel
theorem dX5_faultOf_55 : decode cX5_faultOf 55 = .ok (.invokevirtual 136, 3) := by decide +kernel
theorem dX5_faultOf_58 : decode cX5_faultOf 58 = .ok (.istore_n 2, 1) := by decide +kernel
theorem dX5_faultOf_59 : decode cX5_faultOf 59 = .ok (.goto (-38), 3) := by decide +kernel
theorem dX5_faultOf_62 : decode cX5_faultOf 62 = .ok (.aload_n 0, 1) := by decide +kernel
theorem dX5_faultOf_63 : decode cX5_faultOf 63 = .ok (.getfield 104, 3) := by decide +kernel
theorem dX5_faultOf_66 : decode cX5_faultOf 66 = .ok (.ireturn, 1) := by decide +kernel
theorem dX5_fault_0 : decode cX5_fault 0 = .ok (.iload_n 1, 1) := by decide +kernel
theorem dX5_fault_1 : decode cX5_fault 1 = .ok (.invokestatic 101, 3) := by decide +kernel
theorem dX5_fault_4 : decode cX5_fault 4 = .ok (.ifCond .ne 5, 3) := by decide +kernel
theorem dX5_fault_7 : decode cX5_fault 7 = .ok (.iconst (-1), 1) := by decide +kernel
theorem dX5_fault_8 : decode cX5_fault 8 = .ok (.ireturn, 1) := by decide +kernel
theorem dX5_fault_9 : decode cX5_fault 9 = .ok (.aload_n 0, 1) := by decide +kernel
theorem dX5_fault_10 : decode cX5_fault 10 = .ok (.getfield 16, 3) := by decide +kernel
theorem dX5_fault_13 : decode cX5_fault 13 = .ok (.iload_n 1, 1) := by decide +kernel
theorem dX5_fault_14 : decode cX5_fault 14 = .ok (.iaload, 1) := by decide +kernel
theorem dX5_fault_15 : decode cX5_fault 15 = .ok (.ifCond .ge 11, 3) := by decide +kernel
theorem dX5_fault_18 : decode cX5_fault 18 = .ok (.aload_n 0, 1) := by decide +kernel
theorem dX5_fault_19 : decode cX5_fault 19 = .ok (.iconst 1, 1) := by decide +kernel
theorem dX5_fault_20 : decode cX5_fault 20 = .ok (.invokevirtual 94, 3) := by decide +kernel
theorem dX5_fault_23 : decode cX5_fault 23 = .ok (.goto 8, 3) := by decide +kernel
theorem dX5_fault_26 : decode cX5_fault 26 = .ok (.aload_n 0, 1) := by decide +kernel
theorem dX5_fault_27 : decode cX5_fault 27 = .ok (.iload_n 1, 1) := by decide +kernel
theorem dX5_fault_28 : decode cX5_fault 28 = .ok (.invokevirtual 139, 3) := by decide +kernel
theorem dX5_fault_31 : decode cX5_fault 31 = .ok (.ireturn, 1) := by decide +kernel
theorem dX5_canal_0 : decode cX5_canal 0 = .ok (.iload_n 1, 1) := by decide +kernel
theorem dX5_canal_1 : decode cX5_canal 1 = .ok (.invokestatic 101, 3) := by decide +kernel
theorem dX5_canal_4 : decode cX5_canal 4 = .ok (.ifCond .ne 5, 3) := by decide +kernel
theorem dX5_canal_7 : decode cX5_canal 7 = .ok (.iconst (-1), 1) := by decide +kernel
theorem dX5_canal_8 : decode cX5_canal 8 = .ok (.ireturn, 1) := by decide +kernel
theorem dX5_canal_9 : decode cX5_canal 9 = .ok (.aload_n 0, 1) := by decide +kernel
theorem dX5_canal_10 : decode cX5_canal 10 = .ok (.getfield 16, 3) := by decide +kernel
theorem dX5_canal_13 : decode cX5_canal 13 = .ok (.iload_n 1, 1) := by decide +kernel
theorem dX5_canal_14 : decode cX5_canal 14 = .ok (.iaload, 1) := by decide +kernel
theorem dX5_canal_15 : decode cX5_canal 15 = .ok (.ifCond .ge 9, 3) := by decide +kernel
theorem dX5_canal_18 : decode cX5_canal 18 = .ok (.aload_n 0, 1) := by decide +kernel
theorem dX5_canal_19 : decode cX5_canal 19 = .ok (.iconst 1, 1) := by decide +kernel
theorem dX5_canal_20 : decode cX5_canal 20 = .ok (.invokevirtual 94, 3) := by decide +kernel
theorem dX5_canal_23 : decode cX5_canal 23 = .ok (.ireturn, 1) := by decide +kernel
theorem dX5_canal_24 : decode cX5_canal 24 = .ok (.aload_n 0, 1) := by decide +kernel
theorem dX5_canal_25 : decode cX5_canal 25 = .ok (.iload_n 1, 1) := by decide +kernel
theorem dX5_canal_26 : decode cX5_canal 26 = .ok (.invokevirtual 139, 3) := by decide +kernel
theorem dX5_canal_29 : decode cX5_canal 29 = .ok (.bipush (-9), 2) := by decide +kernel
theorem dX5_canal_31 : decode cX5_canal 31 = .ok (.if_icmp .eq 6, 3) := by decide +kernel
theorem dX5_canal_34 : decode cX5_canal 34 = .ok (.bipush (-4), 2) := by decide +kernel
theorem dX5_canal_36 : decode cX5_canal 36 = .ok (.ireturn, 1) := by decide +kernel
theorem dX5_canal_37 : decode cX5_canal 37 = .ok (.aload_n 0, 1) := by decide +kernel
theorem dX5_canal_38 : decode cX5_canal 38 = .ok (.aload_n 0, 1) := by decide +kernel
theorem dX5_canal_39 : decode cX5_canal 39 = .ok (.getfield 126, 3) := by decide +kernel
theorem dX5_canal_42 : decode cX5_canal 42 = .ok (.putfield 142, 3) := by decide +kernel
theorem dX5_canal_45 : decode cX5_canal 45 = .ok (.aload_n 0, 1) := by decide +kernel
theorem dX5_canal_46 : decode cX5_canal 46 = .ok (.aload_n 0, 1) := by decide +kernel
theorem dX5_canal_47 : decode cX5_canal 47 = .ok (.getfield 117, 3) := by decide +kernel
theorem dX5_canal_50 : decode cX5_canal 50 = .ok (.putfield 145, 3) := by decide +kernel
theorem dX5_canal_53 : decode cX5_canal 53 = .ok (.iconst 0, 1) := by decide +kernel
theorem dX5_canal_54 : decode cX5_canal 54 = .ok (.istore_n 2, 1) := by decide +kernel
theorem dX5_canal_55 : decode cX5_canal 55 = .ok (.iload_n 2, 1) := by decide +kernel
theorem dX5_canal_56 : decode cX5_canal 56 = .ok (.aload_n 0, 1) := by decide +kernel
theorem dX5_canal_57 : decode cX5_canal 57 = .ok (.getfield 142, 3) := by decide +kernel
theorem dX5_canal_60 : decode cX5_canal 60 = .ok (.if_icmp .ge 73, 3) := by decide +kernel
theorem dX5_canal_63 : decode cX5_canal 63 = .ok (.aload_n 0, 1) := by decide +kernel
theorem dX5_canal_64 : decode cX5_canal 64 = .ok (.getfield 22, 3) := by decide +kernel
theorem dX5_canal_67 : decode cX5_canal 67 = .ok (.iload_n 2, 1) := by decide +kernel
theorem dX5_canal_68 : decode cX5_canal 68 = .ok (.aload_n 0, 1) := by decide +kernel
theorem dX5_canal_69 : decode cX5_canal 69 = .ok (.getfield 51, 3) := by decide +kernel
theorem dX5_canal_72 : decode cX5_canal 72 = .ok (.iconst 4, 1) := by decide +kernel
theorem dX5_canal_73 : decode cX5_canal 73 = .ok (.iload_n 2, 1) := by decide +kernel
theorem dX5_canal_74 : decode cX5_canal 74 = .ok (.imul, 1) := by decide +kernel
theorem dX5_canal_75 : decode cX5_canal 75 = .ok (.iaload, 1) := by decide +kernel
theorem dX5_canal_76 : decode cX5_canal 76 = .ok (.iastore, 1) := by decide +kernel
theorem dX5_canal_77 : decode cX5_canal 77 = .ok (.aload_n 0, 1) := by decide +kernel
theorem dX5_canal_78 : decode cX5_canal 78 = .ok (.getfield 31, 3) := by decide +kernel
theorem dX5_canal_81 : decode cX5_canal 81 = .ok (.iconst 0, 1) := by decide +kernel
theorem dX5_canal_82 : decode cX5_canal 82 = .ok (.iload_n 2, 1) := by decide +kernel
theorem dX5_canal_83 : decode cX5_canal 83 = .ok (.iadd, 1) := by decide +kernel
theorem dX5_canal_84 : decode cX5_canal 84 = .ok (.aload_n 0, 1) := by decide +kernel
theorem dX5_canal_85 : decode cX5_canal 85 = .ok (.getfield 51, 3) := by decide +kernel
theorem dX5_canal_88 : decode cX5_canal 88 = .ok (.iconst 4, 1) := by decide +kernel
theorem dX5_canal_89 : decode cX5_canal 89 = .ok (.iload_n 2, 1) := by decide +kernel
theorem dX5_canal_90 : decode cX5_canal 90 = .ok (.imul, 1) := by decide +kernel
theorem dX5_canal_91 : decode cX5_canal 91 = .ok (.iconst 1, 1) := by decide +kernel
theorem dX5_canal_92 : decode cX5_canal 92 = .ok (.iadd, 1) := by decide +kernel
theorem dX5_canal_93 : decode cX5_canal 93 = .ok (.iaload, 1) := by decide +kernel
theorem dX5_canal_94 : decode cX5_canal 94 = .ok (.iastore, 1) := by decide +kernel
theorem dX5_canal_95 : decode cX5_canal 95 = .ok (.aload_n 0, 1) := by decide +kernel
theorem dX5_canal_96 : decode cX5_canal 96 = .ok (.getfield 25, 3) := by decide +kernel
theorem dX5_canal_99 : decode cX5_canal 99 = .ok (.iload_n 2, 1) := by decide +kernel
theorem dX5_canal_100 : decode cX5_canal 100 = .ok (.aload_n 0, 1) := by decide +kernel
theorem dX5_canal_101 : decode cX5_canal 101 = .ok (.getfield 51, 3) := by decide +kernel
theorem dX5_canal_104 : decode cX5_canal 104 = .ok (.iconst 4, 1) := by decide +kernel
theorem dX5_canal_105 : decode cX5_canal 105 = .ok (.iload_n 2, 1) := by decide +kernel
theorem dX5_canal_106 : decode cX5_canal 106 = .ok (.imul, 1) := by decide +kernel
theorem dX5_canal_107 : decode cX5_canal 107 = .ok (.iconst 2, 1) := by decide +kernel
theorem dX5_canal_108 : decode cX5_canal 108 = .ok (.iadd, 1) := by decide +kernel
theorem dX5_canal_109 : decode cX5_canal 109 = .ok (.iaload, 1) := by decide +kernel
theorem dX5_canal_110 : decode cX5_canal 110 = .ok (.iastore, 1) := by decide +kernel
theorem dX5_canal_111 : decode cX5_canal 111 = .ok (.aload_n 0, 1) := by decide +kernel
theorem dX5_canal_112 : decode cX5_canal 112 = .ok (.getfield 28, 3) := by decide +kernel
theorem dX5_canal_115 : decode cX5_canal 115 = .ok (.iload_n 2, 1) := by decide +kernel
theorem dX5_canal_116 : decode cX5_canal 116 = .ok (.aload_n 0, 1) := by decide +kernel
theorem dX5_canal_117 : decode cX5_canal 117 = .ok (.getfield 51, 3) := by decide +kernel
theorem dX5_canal_120 : decode cX5_canal 120 = .ok (.iconst 4, 1) := by decide +kernel
theorem dX5_canal_121 : decode cX5_canal 121 = .ok (.iload_n 2, 1) := by decide +kernel
theorem dX5_canal_122 : decode cX5_canal 122 = .ok (.imul, 1) := by decide +kernel
theorem dX5_canal_123 : decode cX5_canal 123 = .ok (.iconst 3, 1) := by decide +kernel
theorem dX5_canal_124 : decode cX5_canal 124 = .ok (.iadd, 1) := by decide +kernel
theorem dX5_canal_125 : decode cX5_canal 125 = .ok (.iaload, 1) := by decide +kernel
theorem dX5_canal_126 : decode cX5_canal 126 = .ok (.iastore, 1) := by decide +kernel
theorem dX5_canal_127 : decode cX5_canal 127 = .ok (.iinc 2 1, 3) := by decide +kernel
theorem dX5_canal_130 : decode cX5_canal 130 = .ok (.goto (-75), 3) := by decide +kernel
theorem dX5_canal_133 : decode cX5_canal 133 = .ok (.aload_n 0, 1) := by decide +kernel
theorem dX5_canal_134 : decode cX5_canal 134 = .ok (.getfield 31, 3) := by decide +kernel
theorem dX5_canal_137 : decode cX5_canal 137 = .ok (.bipush 6, 2) := by decide +kernel
theorem dX5_canal_139 : decode cX5_canal 139 = .ok (.aload_n 0, 1) := by decide +kernel
theorem dX5_canal_140 : decode cX5_canal 140 = .ok (.getfield 120, 3) := by decide +kernel
theorem dX5_canal_143 : decode cX5_canal 143 = .ok (.iastore, 1) := by decide +kernel
theorem dX5_canal_144 : decode cX5_canal 144 = .ok (.aload_n 0, 1) := by decide +kernel
theorem dX5_canal_145 : decode cX5_canal 145 = .ok (.getfield 31, 3) := by decide +kernel
theorem dX5_canal_148 : decode cX5_canal 148 = .ok (.bipush 7, 2) := by decide +kernel
theorem dX5_canal_150 : decode cX5_canal 150 = .ok (.iconst 0, 1) := by decide +kernel
theorem dX5_canal_151 : decode cX5_canal 151 = .ok (.iastore, 1) := by decide +kernel
theorem dX5_canal_152 : decode cX5_canal 152 = .ok (.aload_n 0, 1) := by decide +kernel
theorem dX5_canal_153 : decode cX5_canal 153 = .ok (.iconst 0, 1) := by decide +kernel
theorem dX5_canal_154 : decode cX5_canal 154 = .ok (.putfield 148, 3) := by decide +kernel
theorem dX5_canal_157 : decode cX5_canal 157 = .ok (.iconst 0, 1) := by decide +kernel
theorem dX5_canal_158 : decode cX5_canal 158 = .ok (.istore_n 2, 1) := by decide +kernel
theorem dX5_canal_159 : decode cX5_canal 159 = .ok (.iload_n 2, 1) := by decide +kernel
theorem dX5_canal_160 : decode cX5_canal 160 = .ok (.iconst 3, 1) := by decide +kernel
theorem dX5_canal_161 : decode cX5_canal 161 = .ok (.if_icmp .ge 16, 3) := by decide +kernel
theorem dX5_canal_164 : decode cX5_canal 164 = .ok (.aload_n 0, 1) := by decide +kernel
theorem dX5_canal_165 : decode cX5_canal 165 = .ok (.getfield 40, 3) := by decide +kernel
theorem dX5_canal_168 : decode cX5_canal 168 = .ok (.iload_n 2, 1) := by decide +kernel
theorem dX5_canal_169 : decode cX5_canal 169 = .ok (.iconst 0, 1) := by decide +kernel
theorem dX5_canal_170 : decode cX5_canal 170 = .ok (.bastore, 1) := by decide +kernel
