theorem dX0_init_0 : decode cX0_init 0 = .ok (.aload_n 0, 1) := by decide +kernel
theorem dX0_init_1 : decode cX0_init 1 = .ok (.invokespecial 3, 3) := by decide +kernel
theorem dX0_init_4 : decode cX0_init 4 = .ok (.aload_n 0, 1) := by decide +kernel
theorem dX0_init_5 : decode cX0_init 5 = .ok (.bipush 6, 2) := by decide +kernel
theorem dX0_init_7 : decode cX0_init 7 = .ok (.newarray .int, 2) := by decide +kernel
theorem dX0_init_9 : decode cX0_init 9 = .ok (.putfield 9, 3) := by decide +kernel
theorem dX0_init_12 : decode cX0_init 12 = .ok (.aload_n 0, 1) := by decide +kernel
theorem dX0_init_13 : decode cX0_init 13 = .ok (.bipush 6, 2) := by decide +kernel
theorem dX0_init_15 : decode cX0_init 15 = .ok (.newarray .int, 2) := by decide +kernel
theorem dX0_init_17 : decode cX0_init 17 = .ok (.putfield 15, 3) := by decide +kernel
theorem dX0_init_20 : decode cX0_init 20 = .ok (.aload_n 0, 1) := by decide +kernel
theorem dX0_init_21 : decode cX0_init 21 = .ok (.bipush 6, 2) := by decide +kernel
theorem dX0_init_23 : decode cX0_init 23 = .ok (.newarray .int, 2) := by decide +kernel
theorem dX0_init_25 : decode cX0_init 25 = .ok (.putfield 18, 3) := by decide +kernel
theorem dX0_init_28 : decode cX0_init 28 = .ok (.aload_n 0, 1) := by decide +kernel
theorem dX0_init_29 : decode cX0_init 29 = .ok (.bipush 6, 2) := by decide +kernel
theorem dX0_init_31 : decode cX0_init 31 = .ok (.newarray .int, 2) := by decide +kernel
theorem dX0_init_33 : decode cX0_init 33 = .ok (.putfield 21, 3) := by decide +kernel
theorem dX0_init_36 : decode cX0_init 36 = .ok (.aload_n 0, 1) := by decide +kernel
theorem dX0_init_37 : decode cX0_init 37 = .ok (.bipush 6, 2) := by decide +kernel
theorem dX0_init_39 : decode cX0_init 39 = .ok (.newarray .int, 2) := by decide +kernel
theorem dX0_init_41 : decode cX0_init 41 = .ok (.putfield 24, 3) := by decide +kernel
theorem dX0_init_44 : decode cX0_init 44 = .ok (.aload_n 0, 1) := by decide +kernel
theorem dX0_init_45 : decode cX0_init 45 = .ok (.bipush 40, 2) := by decide +kernel
theorem dX0_init_47 : decode cX0_init 47 = .ok (.newarray .int, 2) := by decide +kernel
theorem dX0_init_49 : decode cX0_init 49 = .ok (.putfield 27, 3) := by decide +kernel
theorem dX0_init_52 : decode cX0_init 52 = .ok (.aload_n 0, 1) := by decide +kernel
theorem dX0_init_53 : decode cX0_init 53 = .ok (.iconst 0, 1) := by decide +kernel
theorem dX0_init_54 : decode cX0_init 54 = .ok (.putfield 30, 3) := by decide +kernel
theorem dX0_init_57 : decode cX0_init 57 = .ok (.aload_n 0, 1) := by decide +kernel
theorem dX0_init_58 : decode cX0_init 58 = .ok (.iconst 0, 1) := by decide +kernel
theorem dX0_init_59 : decode cX0_init 59 = .ok (.putfield 34, 3) := by decide +kernel
theorem dX0_init_62 : decode cX0_init 62 = .ok (.aload_n 0, 1) := by decide +kernel
theorem dX0_init_63 : decode cX0_init 63 = .ok (.iconst 0, 1) := by decide +kernel
theorem dX0_init_64 : decode cX0_init 64 = .ok (.putfield 37, 3) := by decide +kernel
theorem dX0_init_67 : decode cX0_init 67 = .ok (.aload_n 0, 1) := by decide +kernel
theorem dX0_init_68 : decode cX0_init 68 = .ok (.iconst 0, 1) := by decide +kernel
theorem dX0_init_69 : decode cX0_init 69 = .ok (.putfield 40, 3) := by decide +kernel
theorem dX0_init_72 : decode cX0_init 72 = .ok (.aload_n 0, 1) := by decide +kernel
theorem dX0_init_73 : decode cX0_init 73 = .ok (.iconst 0, 1) := by decide +kernel
theorem dX0_init_74 : decode cX0_init 74 = .ok (.putfield 43, 3) := by decide +kernel
theorem dX0_init_77 : decode cX0_init 77 = .ok (.aload_n 0, 1) := by decide +kernel
theorem dX0_init_78 : decode cX0_init 78 = .ok (.iconst 0, 1) := by decide +kernel
theorem dX0_init_79 : decode cX0_init 79 = .ok (.putfield 46, 3) := by decide +kernel
theorem dX0_init_82 : decode cX0_init 82 = .ok (.return_, 1) := by decide +kernel
theorem dX0_fillFrom_0 : decode cX0_fillFrom 0 = .ok (.aload_n 0, 1) := by decide +kernel
theorem dX0_fillFrom_1 : decode cX0_fillFrom 1 = .ok (.aload_n 1, 1) := by decide +kernel
theorem dX0_fillFrom_2 : decode cX0_fillFrom 2 = .ok (.getfield 49, 3) := by decide +kernel
theorem dX0_fillFrom_5 : decode cX0_fillFrom 5 = .ok (.bipush 6, 2) := by decide +kernel
theorem dX0_fillFrom_7 : decode cX0_fillFrom 7 = .ok (.invokestatic 52, 3) := by decide +kernel
theorem dX0_fillFrom_10 : decode cX0_fillFrom 10 = .ok (.putfield 30, 3) := by decide +kernel
theorem dX0_fillFrom_13 : decode cX0_fillFrom 13 = .ok (.aload_n 0, 1) := by decide +kernel
theorem dX0_fillFrom_14 : decode cX0_fillFrom 14 = .ok (.aload_n 1, 1) := by decide +kernel
theorem dX0_fillFrom_15 : decode cX0_fillFrom 15 = .ok (.getfield 58, 3) := by decide +kernel
theorem dX0_fillFrom_18 : decode cX0_fillFrom 18 = .ok (.iconst 1, 1) := by decide +kernel
theorem dX0_fillFrom_19 : decode cX0_fillFrom 19 = .ok (.iaload, 1) := by decide +kernel
theorem dX0_fillFrom_20 : decode cX0_fillFrom 20 = .ok (.putfield 34, 3) := by decide +kernel
theorem dX0_fillFrom_23 : decode cX0_fillFrom 23 = .ok (.aload_n 0, 1) := by decide +kernel
theorem dX0_fillFrom_24 : decode cX0_fillFrom 24 = .ok (.aload_n 1, 1) := by decide +kernel
theorem dX0_fillFrom_25 : decode cX0_fillFrom 25 = .ok (.getfield 58, 3) := by decide +kernel
theorem dX0_fillFrom_28 : decode cX0_fillFrom 28 = .ok (.iconst 2, 1) := by decide +kernel
theorem dX0_fillFrom_29 : decode cX0_fillFrom 29 = .ok (.iaload, 1) := by decide +kernel
theorem dX0_fillFrom_30 : decode cX0_fillFrom 30 = .ok (.putfield 37, 3) := by decide +kernel
theorem dX0_fillFrom_33 : decode cX0_fillFrom 33 = .ok (.iconst 0, 1) := by decide +kernel
theorem dX0_fillFrom_34 : decode cX0_fillFrom 34 = .ok (.istore_n 2, 1) := by decide +kernel
theorem dX0_fillFrom_35 : decode cX0_fillFrom 35 = .ok (.iload_n 2, 1) := by decide +kernel
theorem dX0_fillFrom_36 : decode cX0_fillFrom 36 = .ok (.aload_n 0, 1) := by decide +kernel
theorem dX0_fillFrom_37 : decode cX0_fillFrom 37 = .ok (.getfield 30, 3) := by decide +kernel
theorem dX0_fillFrom_40 : decode cX0_fillFrom 40 = .ok (.if_icmp .ge 69, 3) := by decide +kernel
theorem dX0_fillFrom_43 : decode cX0_fillFrom 43 = .ok (.iconst 4, 1) := by decide +kernel
theorem dX0_fillFrom_44 : decode cX0_fillFrom 44 = .ok (.iload_n 2, 1) := by decide +kernel
theorem dX0_fillFrom_45 : decode cX0_fillFrom 45 = .ok (.iconst 1, 1) := by decide +kernel
theorem dX0_fillFrom_46 : decode cX0_fillFrom 46 = .ok (.iadd, 1) := by decide +kernel
theorem dX0_fillFrom_47 : decode cX0_fillFrom 47 = .ok (.imul, 1) := by decide +kernel
theorem dX0_fillFrom_48 : decode cX0_fillFrom 48 = .ok (.istore_n 3, 1) := by decide +kernel
theorem dX0_fillFrom_49 : decode cX0_fillFrom 49 = .ok (.aload_n 0, 1) := by decide +kernel
theorem dX0_fillFrom_50 : decode cX0_fillFrom 50 = .ok (.getfield 9, 3) := by decide +kernel
theorem dX0_fillFrom_53 : decode cX0_fillFrom 53 = .ok (.iload_n 2, 1) := by decide +kernel
theorem dX0_fillFrom_54 : decode cX0_fillFrom 54 = .ok (.aload_n 1, 1) := by decide +kernel
theorem dX0_fillFrom_55 : decode cX0_fillFrom 55 = .ok (.getfield 58, 3) := by decide +kernel
theorem dX0_fillFrom_58 : decode cX0_fillFrom 58 = .ok (.iload_n 3, 1) := by decide +kernel
theorem dX0_fillFrom_59 : decode cX0_fillFrom 59 = .ok (.iaload, 1) := by decide +kernel
theorem dX0_fillFrom_60 : decode cX0_fillFrom 60 = .ok (.iastore, 1) := by decide +kernel
theorem dX0_fillFrom_61 : decode cX0_fillFrom 61 = .ok (.aload_n 0, 1) := by decide +kernel
theorem dX0_fillFrom_62 : decode cX0_fillFrom 62 = .ok (.getfield 15, 3) := by decide +kernel
theorem dX0_fillFrom_65 : decode cX0_fillFrom 65 = .ok (.iload_n 2, 1) := by decide +kernel
theorem dX0_fillFrom_66 : decode cX0_fillFrom 66 = .ok (.aload_n 1, 1) := by decide +kernel
theorem dX0_fillFrom_67 : decode cX0_fillFrom 67 = .ok (.getfield 58, 3) := by decide +kernel
theorem dX0_fillFrom_70 : decode cX0_fillFrom 70 = .ok (.iload_n 3, 1) := by decide +kernel
theorem dX0_fillFrom_71 : decode cX0_fillFrom 71 = .ok (.iconst 1, 1) := by decide +kernel
theorem dX0_fillFrom_72 : decode cX0_fillFrom 72 = .ok (.iadd, 1) := by decide +kernel
theorem dX0_fillFrom_73 : decode cX0_fillFrom 73 = .ok (.iaload, 1) := by decide +kernel
theorem dX0_fillFrom_74 : decode cX0_fillFrom 74 = .ok (.iastore, 1) := by decide +kernel
theorem dX0_fillFrom_75 : decode cX0_fillFrom 75 = .ok (.aload_n 0, 1) := by decide +kernel
theorem dX0_fillFrom_76 : decode cX0_fillFrom 76 = .ok (.getfield 21, 3) := by decide +kernel
theorem dX0_fillFrom_79 : decode cX0_fillFrom 79 = .ok (.iload_n 2, 1) := by decide +kernel
theorem dX0_fillFrom_80 : decode cX0_fillFrom 80 = .ok (.aload_n 1, 1) := by decide +kernel
theorem dX0_fillFrom_81 : decode cX0_fillFrom 81 = .ok (.getfield 58, 3) := by decide +kernel
theorem dX0_fillFrom_84 : decode cX0_fillFrom 84 = .ok (.iload_n 3, 1) := by decide +kernel
theorem dX0_fillFrom_85 : decode cX0_fillFrom 85 = .ok (.iconst 2, 1) := by decide +kernel
theorem dX0_fillFrom_86 : decode cX0_fillFrom 86 = .ok (.iadd, 1) := by decide +kernel
theorem dX0_fillFrom_87 : decode cX0_fillFrom 87 = .ok (.iaload, 1) := by decide +kernel
theorem dX0_fillFrom_88 : decode cX0_fillFrom 88 = .ok (.iastore, 1) := by decide +kernel
theorem dX0_fillFrom_89 : decode cX0_fillFrom 89 = .ok (.aload_n 0, 1) := by decide +kernel
theorem dX0_fillFrom_90 : decode cX0_fillFrom 90 = .ok (.getfield 24, 3) := by decide +kernel
theorem dX0_fillFrom_93 : decode cX0_fillFrom 93 = .ok (.iload_n 2, 1) := by decide +kernel
theorem dX0_fillFrom_94 : decode cX0_fillFrom 94 = .ok (.aload_n 1, 1) := by decide +kernel
theorem dX0_fillFrom_95 : decode cX0_fillFrom 95 = .ok (.getfield 58, 3) := by decide +kernel
theorem dX0_fillFrom_98 : decode cX0_fillFrom 98 = .ok (.iload_n 3, 1) := by decide +kernel
theorem dX0_fillFrom_99 : decode cX0_fillFrom 99 = .ok (.iconst 3, 1) := by decide +kernel
theorem dX0_fillFrom_100 : decode cX0_fillFrom 100 = .ok (.iadd, 1) := by decide +kernel
theorem dX0_fillFrom_101 : decode cX0_fillFrom 101 = .ok (.iaload, 1) := by decide +kernel
theorem dX0_fillFrom_102 : decode cX0_fillFrom 102 = .ok (.iastore, 1) := by decide +kernel
theorem dX0_fillFrom_103 : decode cX0_fillFrom 103 = .ok (.iinc 2 1, 3) := by decide +kernel
theorem dX0_fillFrom_106 : decode cX0_fillFrom 106 = .ok (.goto (-71), 3) := by decide +kernel
theorem dX0_fillFrom_109 : decode cX0_fillFrom 109 = .ok (.aload_n 0, 1) := by decide +kernel
theorem dX0_fillFrom_110 : decode cX0_fillFrom 110 = .ok (.iconst 0, 1) := by decide +kernel
theorem dX0_fillFrom_111 : decode cX0_fillFrom 111 = .ok (.invokevirtual 61, 3) := by decide +kernel
theorem dX0_fillFrom_114 : decode cX0_fillFrom 114 = .ok (.return_, 1) := by decide +kernel
theorem dX0_replay_0 : decode cX0_replay 0 = .ok (.aload_n 0, 1) := by decide +kernel
theorem dX0_replay_1 : decode cX0_replay 1 = .ok (.getfield 15, 3) := by decide +kernel
theorem dX0_replay_4 : decode cX0_replay 4 = .ok (.iconst 0, 1) := by decide +kernel
theorem dX0_replay_5 : decode cX0_replay 5 = .ok (.aload_n 0, 1) := by decide +kernel
theorem dX0_replay_6 : decode cX0_replay 6 = .ok (.getfield 18, 3) := by decide +kernel
theorem dX0_replay_9 : decode cX0_replay 9 = .ok (.iconst 0, 1) := by decide +kernel
theorem dX0_replay_10 : decode cX0_replay 10 = .ok (.bipush 6, 2) := by decide +kernel
theorem dX0_replay_12 : decode cX0_replay 12 = .ok (.invokestatic 65, 3) := by decide +kernel
theorem dX0_replay_15 : decode cX0_replay 15 = .ok (.aload_n 0, 1) := by decide +kernel
theorem dX0_replay_16 : decode cX0_replay 16 = .ok (.aload_n 0, 1) := by decide +kernel
theorem dX0_replay_17 : decode cX0_replay 17 = .ok (.getfield 37, 3) := by decide +kernel
theorem dX0_replay_20 : decode cX0_replay 20 = .ok (.putfield 40, 3) := by decide +kernel
theorem dX0_replay_23 : decode cX0_replay 23 = .ok (.aload_n 0, 1) := by decide +kernel
theorem dX0_replay_24 : decode cX0_replay 24 = .ok (.iconst 0, 1) := by decide +kernel
theorem dX0_replay_25 : decode cX0_replay 25 = .ok (.putfield 43, 3) := by decide +kernel
theorem dX0_replay_28 : decode cX0_replay 28 = .ok (.aload_n 0, 1) := by decide +kernel
theorem dX0_replay_29 : decode cX0_replay 29 = .ok (.iload_n 1, 1) := by decide +kernel
theorem dX0_replay_30 : decode cX0_replay 30 = .ok (.bipush 40, 2) := by decide +kernel
theorem dX0_replay_32 : decode cX0_replay 32 = .ok (.invokestatic 52, 3) := by decide +kernel
theorem dX0_replay_35 : decode cX0_replay 35 = .ok (.putfield 46, 3) := by decide +kernel
theorem dX0_replay_38 : decode cX0_replay 38 = .ok (.iconst 0, 1) := by decide +kernel
theorem dX0_replay_39 : decode cX0_replay 39 = .ok (.istore_n 2, 1) := by decide +kernel
theorem dX0_replay_40 : decode cX0_replay 40 = .ok (.iload_n 2, 1) := by decide +kernel
theorem dX0_replay_41 : decode cX0_replay 41 = .ok (.aload_n 0, 1) := by decide +kernel
theorem dX0_replay_42 : decode cX0_replay 42 = .ok (.getfield 46, 3) := by decide +kernel
theorem dX0_replay_45 : decode cX0_replay 45 = .ok (.if_icmp .ge 31, 3) := by decide +kernel
theorem dX0_replay_48 : decode cX0_replay 48 = .ok (.aload_n 0, 1) := by decide +kernel
theorem dX0_replay_49 : decode cX0_replay 49 = .ok (.aload_n 0, 1) := by decide +kernel
theorem dX0_replay_50 : decode cX0_replay 50 = .ok (.getfield 27, 3) := by decide +kernel
theorem dX0_replay_53 : decode cX0_replay 53 = .ok (.iload_n 2, 1) := by decide +kernel
theorem dX0_replay_54 : decode cX0_replay 54 = .ok (.iaload, 1) := by decide +kernel
theorem dX0_replay_55 : decode cX0_replay 55 = .ok (.bipush 8, 2) := by decide +kernel
theorem dX0_replay_57 : decode cX0_replay 57 = .ok (.idiv, 1) := by decide +kernel
theorem dX0_replay_58 : decode cX0_replay 58 = .ok (.aload_n 0, 1) := by decide +kernel
theorem dX0_replay_59 : decode cX0_replay 59 = .ok (.getfield 27, 3) := by decide +kernel
theorem dX0_replay_62 : decode cX0_replay 62 = .ok (.iload_n 2, 1) := by decide +kernel
theorem dX0_replay_63 : decode cX0_replay 63 = .ok (.iaload, 1) := by decide +kernel
theorem dX0_replay_64 : decode cX0_replay 64 = .ok (.bipush 8, 2) := by decide +kernel
theorem dX0_replay_66 : decode cX0_replay 66 = .ok (.irem, 1) := by decide +kernel
theorem dX0_replay_67 : decode cX0_replay 67 = .ok (.invokevirtual 71, 3) := by decide +kernel
theorem dX0_replay_70 : decode cX0_replay 70 = .ok (.iinc 2 1, 3) := by decide +kernel
theorem dX0_replay_73 : decode cX0_replay 73 = .ok (.goto (-33), 3) := by decide +kernel
theorem dX0_replay_76 : decode cX0_replay 76 = .ok (.return_, 1) := by decide +kernel
theorem dX0_perform_0 : decode cX0_perform 0 = .ok (.aload_n 0, 1) := by decide +kernel
theorem dX0_perform_1 : decode cX0_perform 1 = .ok (.getfield 46, 3) := by decide +kernel
theorem dX0_perform_4 : decode cX0_perform 4 = .ok (.bipush 40, 2) := by decide +kernel
theorem dX0_perform_6 : decode cX0_perform 6 = .ok (.if_icmp .lt 4, 3) := by decide +kernel
theorem dX0_perform_9 : decode cX0_perform 9 = .ok (.return_, 1) := by decide +kernel
theorem dX0_perform_10 : decode cX0_perform 10 = .ok (.aload_n 0, 1) := by decide +kernel
theorem dX0_perform_11 : decode cX0_perform 11 = .ok (.getfield 27, 3) := by decide +kernel
theorem dX0_perform_14 : decode cX0_perform 14 = .ok (.aload_n 0, 1) := by decide +kernel
theorem dX0_perform_15 : decode cX0_perform 15 = .ok (.getfield 46, 3) := by decide +kernel
theorem dX0_perform_18 : decode cX0_perform 18 = .ok (.bipush 8, 2) := by decide +kernel
theorem dX0_perform_20 : decode cX0_perform 20 = .ok (.iload_n 1, 1) := by decide +kernel
theorem dX0_perform_21 : decode cX0_perform 21 = .ok (.imul, 1) := by decide +kernel
theorem dX0_perform_22 : decode cX0_perform 22 = .ok (.iload_n 2, 1) := by decide +kernel
theorem dX0_perform_23 : decode cX0_perform 23 = .ok (.iadd, 1) := by decide +kernel
theorem dX0_perform_24 : decode cX0_perform 24 = .ok (.iastore, 1) := by decide +kernel
theorem dX0_perform_25 : decode cX0_perform 25 = .ok (.aload_n 0, 1) := by decide +kernel
theorem dX0_perform_26 : decode cX0_perform 26 = .ok (.dup, 1) := by decide +kernel
theorem dX0_perform_27 : decode cX0_perform 27 = .ok (.getfield 46, 3) := by decide +kernel
theorem dX0_perform_30 : decode cX0_perform 30 = .ok (.iconst 1, 1) := by decide +kernel
theorem dX0_perform_31 : decode cX0_perform 31 = .ok (.iadd, 1) := by decide +kernel
theorem dX0_perform_32 : decode cX0_perform 32 = .ok (.putfield 46, 3) := by decide +kernel
theorem dX0_perform_35 : decode cX0_perform 35 = .ok (.aload_n 0, 1) := by decide +kernel
theorem dX0_perform_36 : decode cX0_perform 36 = .ok (.iload_n 1, 1) := by decide +kernel
theorem dX0_perform_37 : decode cX0_perform 37 = .ok (.iload_n 2, 1) := by decide +kernel
theorem dX0_perform_38 : decode cX0_perform 38 = .ok (.invokevirtual 71, 3) := by decide +kernel
theorem dX0_perform_41 : decode cX0_perform 41 = .ok (.return_, 1) := by decide +kernel
theorem dX0_performLot_0 : decode cX0_performLot 0 = .ok (.aload_n 0, 1) := by decide +kernel
theorem dX0_performLot_1 : decode cX0_performLot 1 = .ok (.getfield 30, 3) := by decide +kernel
theorem dX0_performLot_4 : decode cX0_performLot 4 = .ok (.ifCond .ne 4, 3) := by decide +kernel
theorem dX0_performLot_7 : decode cX0_performLot 7 = .ok (.return_, 1) := by decide +kernel
theorem dX0_performLot_8 : decode cX0_performLot 8 = .ok (.lload_n 1, 1) := by decide +kernel
theorem dX0_performLot_9 : decode cX0_performLot 9 = .ok (.aload_n 0, 1) := by decide +kernel
theorem dX0_performLot_10 : decode cX0_performLot 10 = .ok (.getfield 30, 3) := by decide +kernel
theorem dX0_performLot_13 : decode cX0_performLot 13 = .ok (.i2l, 1) := by decide +kernel
theorem dX0_performLot_14 : decode cX0_performLot 14 = .ok (.lrem, 1) := by decide +kernel
theorem dX0_performLot_15 : decode cX0_performLot 15 = .ok (.l2i, 1) := by decide +kernel
theorem dX0_performLot_16 : decode cX0_performLot 16 = .ok (.istore_n 3, 1) := by decide +kernel
theorem dX0_performLot_17 : decode cX0_performLot 17 = .ok (.lload_n 1, 1) := by decide +kernel
theorem dX0_performLot_18 : decode cX0_performLot 18 = .ok (.ldc2_w 75, 3) := by decide +kernel
theorem dX0_performLot_21 : decode cX0_performLot 21 = .ok (.ldiv, 1) := by decide +kernel
theorem dX0_performLot_22 : decode cX0_performLot 22 = .ok (.ldc2_w 77, 3) := by decide +kernel
theorem dX0_performLot_25 : decode cX0_performLot 25 = .ok (.lrem, 1) := by decide +kernel
theorem dX0_performLot_26 : decode cX0_performLot 26 = .ok (.l2i, 1) := by decide +kernel
theorem dX0_performLot_27 : decode cX0_performLot 27 = .ok (.tableswitch 77 0 2 #[25, 34, 56], 25) := by decide +kernel
theorem dX0_performLot_52 : decode cX0_performLot 52 = .ok (.aload_n 0, 1) := by decide +kernel
theorem dX0_performLot_53 : decode cX0_performLot 53 = .ok (.iconst 1, 1) := by decide +kernel
theorem dX0_performLot_54 : decode cX0_performLot 54 = .ok (.iconst 0, 1) := by decide +kernel
theorem dX0_performLot_55 : decode cX0_performLot 55 = .ok (.invokevirtual 79, 3) := by decide +kernel
theorem dX0_performLot_58 : decode cX0_performLot 58 = .ok (.goto 52, 3) := by decide +kernel
theorem dX0_performLot_61 : decode cX0_performLot 61 = .ok (.aload_n 0, 1) := by decide +kernel
theorem dX0_performLot_62 : decode cX0_performLot 62 = .ok (.aload_n 0, 1) := by decide +kernel
theorem dX0_performLot_63 : decode cX0_performLot 63 = .ok (.iload_n 3, 1) := by decide +kernel
theorem dX0_performLot_64 : decode cX0_performLot 64 = .ok (.iconst 1, 1) := by decide +kernel
theorem dX0_performLot_65 : decode cX0_performLot 65 = .ok (.invokevirtual 82, 3) := by decide +kernel
theorem dX0_performLot_68 : decode cX0_performLot 68 = .ok (.ifCond .eq 7, 3) := by decide +kernel
theorem dX0_performLot_71 : decode cX0_performLot 71 = .ok (.iconst 3, 1) := by decide +kernel
theorem dX0_performLot_72 : decode cX0_performLot 72 = .ok (.goto 4, 3) := by decide +kernel
theorem dX0_performLot_75 : decode cX0_performLot 75 = .ok (.iconst 2, 1) := by decide +kernel
theorem dX0_performLot_76 : decode cX0_performLot 76 = .ok (.iload_n 3, 1) := by decide +kernel
theorem dX0_performLot_77 : decode cX0_performLot 77 = .ok (.invokevirtual 79, 3) := by decide +kernel
theorem dX0_performLot_80 : decode cX0_performLot 80 = .ok (.goto 30, 3) := by decide +kernel
theorem dX0_performLot_83 : decode cX0_performLot 83 = .ok (.aload_n 0, 1) := by decide +kernel
theorem dX0_performLot_84 : decode cX0_performLot 84 = .ok (.aload_n 0, 1) := by decide +kernel
theorem dX0_performLot_85 : decode cX0_performLot 85 = .ok (.iload_n 3, 1) := by decide +kernel
theorem dX0_performLot_86 : decode cX0_performLot 86 = .ok (.invokevirtual 86, 3) := by decide +kernel
theorem dX0_performLot_89 : decode cX0_performLot 89 = .ok (.ifCond .eq 7, 3) := by decide +kernel
theorem dX0_performLot_92 : decode cX0_performLot 92 = .ok (.iconst 5, 1) := by decide +kernel
theorem dX0_performLot_93 : decode cX0_performLot 93 = .ok (.goto 4, 3) := by decide +kernel
theorem dX0_performLot_96 : decode cX0_performLot 96 = .ok (.iconst 2, 1) := by decide +kernel
theorem dX0_performLot_97 : decode cX0_performLot 97 = .ok (.iload_n 3, 1) := by decide +kernel
theorem dX0_performLot_98 : decode cX0_performLot 98 = .ok (.invokevirtual 79, 3) := by decide +kernel
theorem dX0_performLot_101 : decode cX0_performLot 101 = .ok (.goto 9, 3) := by decide +kernel
theorem dX0_performLot_104 : decode cX0_performLot 104 = .ok (.aload_n 0, 1) := by decide +kernel
theorem dX0_performLot_105 : decode cX0_performLot 105 = .ok (.iconst 0, 1) := by decide +kernel
theorem dX0_performLot_106 : decode cX0_performLot 106 = .ok (.iconst 0, 1) := by decide +kernel
theorem dX0_performLot_107 : decode cX0_performLot 107 = .ok (.invokevirtual 79, 3) := by decide +kernel
theorem dX0_performLot_110 : decode cX0_performLot 110 = .ok (.return_, 1) := by decide +kernel
theorem dX0_act_0 : decode cX0_act 0 = .ok (.aload_n 0, 1) := by decide +kernel
theorem dX0_act_1 : decode cX0_act 1 = .ok (.iload_n 2, 1) := by decide +kernel
theorem dX0_act_2 : decode cX0_act 2 = .ok (.invokevirtual 90, 3) := by decide +kernel
theorem dX0_act_5 : decode cX0_act 5 = .ok (.ifCond .ne 4, 3) := by decide +kernel
theorem dX0_act_8 : decode cX0_act 8 = .ok (.return_, 1) := by decide +kernel
theorem dX0_act_9 : decode cX0_act 9 = .ok (.iload_n 1, 1) := by decide +kernel
theorem dX0_act_10 : decode cX0_act 10 = .ok (.tableswitch 110 0 5 #[38, 45, 59, 73, 86, 99], 38) := by decide +kernel
theorem dX0_act_48 : decode cX0_act 48 = .ok (.aload_n 0, 1) := by decide +kernel
theorem dX0_act_49 : decode cX0_act 49 = .ok (.invokevirtual 93, 3) := by decide +kernel
theorem dX0_act_52 : decode cX0_act 52 = .ok (.goto 68, 3) := by decide +kernel
theorem dX0_act_55 : decode cX0_act 55 = .ok (.aload_n 0, 1) := by decide +kernel
theorem dX0_act_56 : decode cX0_act 56 = .ok (.aload_n 0, 1) := by decide +kernel
theorem dX0_act_57 : decode cX0_act 57 = .ok (.getfield 40, 3) := by decide +kernel
theorem dX0_act_60 : decode cX0_act 60 = .ok (.invokestatic 96, 3) := by decide +kernel
theorem dX0_act_63 : decode cX0_act 63 = .ok (.putfield 40, 3) := by decide +kernel
theorem dX0_act_66 : decode cX0_act 66 = .ok (.goto 54, 3) := by decide +kernel
theorem dX0_act_69 : decode cX0_act 69 = .ok (.aload_n 0, 1) := by decide +kernel
theorem dX0_act_70 : decode cX0_act 70 = .ok (.aload_n 0, 1) := by decide +kernel
theorem dX0_act_71 : decode cX0_act 71 = .ok (.getfield 40, 3) := by decide +kernel
theorem dX0_act_74 : decode cX0_act 74 = .ok (.invokestatic 102, 3) := by decide +kernel
theorem dX0_act_77 : decode cX0_act 77 = .ok (.putfield 40, 3) := by decide +kernel
theorem dX0_act_80 : decode cX0_act 80 = .ok (.goto 40, 3) := by decide +kernel
theorem dX0_act_83 : decode cX0_act 83 = .ok (.aload_n 0, 1) := by decide +kernel
theorem dX0_act_84 : decode cX0_act 84 = .ok (.getfield 18, 3) := by decide +kernel
theorem dX0_act_87 : decode cX0_act 87 = .ok (.iload_n 2, 1) := by decide +kernel
theorem dX0_act_88 : decode cX0_act 88 = .ok (.dup2, 1) := by decide +kernel
theorem dX0_act_89 : decode cX0_act 89 = .ok (.iaload, 1) := by decide +kernel
theorem dX0_act_90 : decode cX0_act 90 = .ok (.iconst 1, 1) := by decide +kernel
theorem dX0_act_91 : decode cX0_act 91 = .ok (.iadd, 1) := by decide +kernel
theorem dX0_act_92 : decode cX0_act 92 = .ok (.iastore, 1) := by decide +kernel
theorem dX0_act_93 : decode cX0_act 93 = .ok (.goto 27, 3) := by decide +kernel
theorem dX0_act_96 : decode cX0_act 96 = .ok (.aload_n 0, 1) := by decide +kernel
theorem dX0_act_97 : decode cX0_act 97 = .ok (.getfield 18, 3) := by decide +kernel
theorem dX0_act_100 : decode cX0_act 100 = .ok (.iload_n 2, 1) := by decide +kernel
theorem dX0_act_101 : decode cX0_act 101 = .ok (.dup2, 1) := by decide +kernel
theorem dX0_act_102 : decode cX0_act 102 = .ok (.iaload, 1) := by decide +kernel
theorem dX0_act_103 : decode cX0_act 103 = .ok (.iconst 1, 1) := by decide +kernel
theorem dX0_act_104 : decode cX0_act 104 = .ok (.isub, 1) := by decide +kernel
theorem dX0_act_105 : decode cX0_act 105 = .ok (.iastore, 1) := by decide +kernel
theorem dX0_act_106 : decode cX0_act 106 = .ok (.goto 14, 3) := by decide +kernel
theorem dX0_act_109 : decode cX0_act 109 = .ok (.aload_n 0, 1) := by decide +kernel
theorem dX0_act_110 : decode cX0_act 110 = .ok (.getfield 18, 3) := by decide +kernel
theorem dX0_act_113 : decode cX0_act 113 = .ok (.iload_n 2, 1) := by decide +kernel
theorem dX0_act_114 : decode cX0_act 114 = .ok (.bipush (-9), 2) := by decide +kernel
theorem dX0_act_116 : decode cX0_act 116 = .ok (.iastore, 1) := by decide +kernel
theorem dX0_act_117 : decode cX0_act 117 = .ok (.goto 3, 3) := by decide +kernel
theorem dX0_act_120 : decode cX0_act 120 = .ok (.return_, 1) := by decide +kernel
theorem dX0_passYear_0 : decode cX0_passYear 0 = .ok (.iconst 0, 1) := by decide +kernel
theorem dX0_passYear_1 : decode cX0_passYear 1 = .ok (.istore_n 1, 1) := by decide +kernel
theorem dX0_passYear_2 : decode cX0_passYear 2 = .ok (.iload_n 1, 1) := by decide +kernel
theorem dX0_passYear_3 : decode cX0_passYear 3 = .ok (.aload_n 0, 1) := by decide +kernel
theorem dX0_passYear_4 : decode cX0_passYear 4 = .ok (.getfield 30, 3) := by decide +kernel
theorem dX0_passYear_7 : decode cX0_passYear 7 = .ok (.if_icmp .ge 49, 3) := by decide +kernel
theorem dX0_passYear_10 : decode cX0_passYear 10 = .ok (.aload_n 0, 1) := by decide +kernel
theorem dX0_passYear_11 : decode cX0_passYear 11 = .ok (.iload_n 1, 1) := by decide +kernel
theorem dX0_passYear_12 : decode cX0_passYear 12 = .ok (.invokevirtual 105, 3) := by decide +kernel
theorem dX0_passYear_15 : decode cX0_passYear 15 = .ok (.ifCond .ne 35, 3) := by decide +kernel
theorem dX0_passYear_18 : decode cX0_passYear 18 = .ok (.aload_n 0, 1) := by decide +kernel
theorem dX0_passYear_19 : decode cX0_passYear 19 = .ok (.getfield 18, 3) := by decide +kernel
theorem dX0_passYear_22 : decode cX0_passYear 22 = .ok (.iload_n 1, 1) := by decide +kernel
theorem dX0_passYear_23 : decode cX0_passYear 23 = .ok (.aload_n 0, 1) := by decide +kernel
theorem dX0_passYear_24 : decode cX0_passYear 24 = .ok (.aload_n 0, 1) := by decide +kernel
theorem dX0_passYear_25 : decode cX0_passYear 25 = .ok (.getfield 9, 3) := by decide +kernel
theorem dX0_passYear_28 : decode cX0_passYear 28 = .ok (.iload_n 1, 1) := by decide +kernel
theorem dX0_passYear_29 : decode cX0_passYear 29 = .ok (.iaload, 1) := by decide +kernel
theorem dX0_passYear_30 : decode cX0_passYear 30 = .ok (.aload_n 0, 1) := by decide +kernel
theorem dX0_passYear_31 : decode cX0_passYear 31 = .ok (.getfield 21, 3) := by decide +kernel
theorem dX0_passYear_34 : decode cX0_passYear 34 = .ok (.iload_n 1, 1) := by decide +kernel
theorem dX0_passYear_35 : decode cX0_passYear 35 = .ok (.iaload, 1) := by decide +kernel
theorem dX0_passYear_36 : decode cX0_passYear 36 = .ok (.aload_n 0, 1) := by decide +kernel
theorem dX0_passYear_37 : decode cX0_passYear 37 = .ok (.getfield 18, 3) := by decide +kernel
theorem dX0_passYear_40 : decode cX0_passYear 40 = .ok (.iload_n 1, 1) := by decide +kernel
theorem dX0_passYear_41 : decode cX0_passYear 41 = .ok (.iaload, 1) := by decide +kernel
theorem dX0_passYear_42 : decode cX0_passYear 42 = .ok (.aload_n 0, 1) := by decide +kernel
theorem dX0_passYear_43 : decode cX0_passYear 43 = .ok (.getfield 43, 3) := by decide +kernel
theorem dX0_passYear_46 : decode cX0_passYear 46 = .ok (.invokevirtual 108, 3) := by decide +kernel
theorem dX0_passYear_49 : decode cX0_passYear 49 = .ok (.iastore, 1) := by decide +kernel
theorem dX0_passYear_50 : decode cX0_passYear 50 = .ok (.iinc 1 1, 3) := by decide +kernel
theorem dX0_passYear_53 : decode cX0_passYear 53 = .ok (.goto (-51), 3) := by decide +kernel
theorem dX0_passYear_56 : decode cX0_passYear 56 = .ok (.aload_n 0, 1) := by decide +kernel
theorem dX0_passYear_57 : decode cX0_passYear 57 = .ok (.dup, 1) := by decide +kernel
theorem dX0_passYear_58 : decode cX0_passYear 58 = .ok (.getfield 43, 3) := by decide +kernel
theorem dX0_passYear_61 : decode cX0_passYear 61 = .ok (.iconst 1, 1) := by decide +kernel
theorem dX0_passYear_62 : decode cX0_passYear 62 = .ok (.iadd, 1) := by decide +kernel
theorem dX0_passYear_63 : decode cX0_passYear 63 = .ok (.putfield 43, 3) := by decide +kernel
theorem dX0_passYear_66 : decode cX0_passYear 66 = .ok (.return_, 1) := by decide +kernel
theorem dX0_has_0 : decode cX0_has 0 = .ok (.iload_n 1, 1) := by decide +kernel
theorem dX0_has_1 : decode cX0_has 1 = .ok (.ifCond .lt 15, 3) := by decide +kernel
theorem dX0_has_4 : decode cX0_has 4 = .ok (.iload_n 1, 1) := by decide +kernel
theorem dX0_has_5 : decode cX0_has 5 = .ok (.aload_n 0, 1) := by decide +kernel
theorem dX0_has_6 : decode cX0_has 6 = .ok (.getfield 30, 3) := by decide +kernel
theorem dX0_has_9 : decode cX0_has 9 = .ok (.if_icmp .ge 7, 3) := by decide +kernel
theorem dX0_has_12 : decode cX0_has 12 = .ok (.iconst 1, 1) := by decide +kernel
theorem dX0_has_13 : decode cX0_has 13 = .ok (.goto 4, 3) := by decide +kernel
theorem dX0_has_16 : decode cX0_has 16 = .ok (.iconst 0, 1) := by decide +kernel
theorem dX0_has_17 : decode cX0_has 17 = .ok (.ireturn, 1) := by decide +kernel
theorem dX0_isTaken_0 : decode cX0_isTaken 0 = .ok (.aload_n 0, 1) := by decide +kernel
theorem dX0_isTaken_1 : decode cX0_isTaken 1 = .ok (.getfield 18, 3) := by decide +kernel
theorem dX0_isTaken_4 : decode cX0_isTaken 4 = .ok (.iload_n 1, 1) := by decide +kernel
theorem dX0_isTaken_5 : decode cX0_isTaken 5 = .ok (.iaload, 1) := by decide +kernel
theorem dX0_isTaken_6 : decode cX0_isTaken 6 = .ok (.bipush (-9), 2) := by decide +kernel
theorem dX0_isTaken_8 : decode cX0_isTaken 8 = .ok (.if_icmp .ne 7, 3) := by decide +kernel
theorem dX0_isTaken_11 : decode cX0_isTaken 11 = .ok (.iconst 1, 1) := by decide +kernel
theorem dX0_isTaken_12 : decode cX0_isTaken 12 = .ok (.goto 4, 3) := by decide +kernel
theorem dX0_isTaken_15 : decode cX0_isTaken 15 = .ok (.iconst 0, 1) := by decide +kernel
theorem dX0_isTaken_16 : decode cX0_isTaken 16 = .ok (.ireturn, 1) := by decide +kernel
theorem dX0_canMove_0 : decode cX0_canMove 0 = .ok (.aload_n 0, 1) := by decide +kernel
theorem dX0_canMove_1 : decode cX0_canMove 1 = .ok (.iload_n 1, 1) := by decide +kernel
theorem dX0_canMove_2 : decode cX0_canMove 2 = .ok (.invokevirtual 105, 3) := by decide +kernel
theorem dX0_canMove_5 : decode cX0_canMove 5 = .ok (.ifCond .ne 21, 3) := by decide +kernel
theorem dX0_canMove_8 : decode cX0_canMove 8 = .ok (.aload_n 0, 1) := by decide +kernel
theorem dX0_canMove_9 : decode cX0_canMove 9 = .ok (.getfield 18, 3) := by decide +kernel
theorem dX0_canMove_12 : decode cX0_canMove 12 = .ok (.iload_n 1, 1) := by decide +kernel
theorem dX0_canMove_13 : decode cX0_canMove 13 = .ok (.iaload, 1) := by decide +kernel
theorem dX0_canMove_14 : decode cX0_canMove 14 = .ok (.iload_n 2, 1) := by decide +kernel
theorem dX0_canMove_15 : decode cX0_canMove 15 = .ok (.iadd, 1) := by decide +kernel
theorem dX0_canMove_16 : decode cX0_canMove 16 = .ok (.invokestatic 112, 3) := by decide +kernel
theorem dX0_canMove_19 : decode cX0_canMove 19 = .ok (.ifCond .eq 7, 3) := by decide +kernel
theorem dX0_canMove_22 : decode cX0_canMove 22 = .ok (.iconst 1, 1) := by decide +kernel
theorem dX0_canMove_23 : decode cX0_canMove 23 = .ok (.goto 4, 3) := by decide +kernel
theorem dX0_canMove_26 : decode cX0_canMove 26 = .ok (.iconst 0, 1) := by decide +kernel
theorem dX0_canMove_27 : decode cX0_canMove 27 = .ok (.ireturn, 1) := by decide +kernel
theorem dX0_canTake_0 : decode cX0_canTake 0 = .ok (.aload_n 0, 1) := by decide +kernel
theorem dX0_canTake_1 : decode cX0_canTake 1 = .ok (.iload_n 1, 1) := by decide +kernel
theorem dX0_canTake_2 : decode cX0_canTake 2 = .ok (.invokevirtual 105, 3) := by decide +kernel
theorem dX0_canTake_5 : decode cX0_canTake 5 = .ok (.ifCond .ne 14, 3) := by decide +kernel
theorem dX0_canTake_8 : decode cX0_canTake 8 = .ok (.aload_n 0, 1) := by decide +kernel
theorem dX0_canTake_9 : decode cX0_canTake 9 = .ok (.getfield 40, 3) := by decide +kernel
theorem dX0_canTake_12 : decode cX0_canTake 12 = .ok (.ifCond .ne 7, 3) := by decide +kernel
theorem dX0_canTake_15 : decode cX0_canTake 15 = .ok (.iconst 1, 1) := by decide +kernel
theorem dX0_canTake_16 : decode cX0_canTake 16 = .ok (.goto 4, 3) := by decide +kernel
theorem dX0_canTake_19 : decode cX0_canTake 19 = .ok (.iconst 0, 1) := by decide +kernel
theorem dX0_canTake_20 : decode cX0_canTake 20 = .ok (.ireturn, 1) := by decide +kernel
theorem dX0_drift_0 : decode cX0_drift 0 = .ok (.aload_n 0, 1) := by decide +kernel
theorem dX0_drift_1 : decode cX0_drift 1 = .ok (.getfield 40, 3) := by decide +kernel
theorem dX0_drift_4 : decode cX0_drift 4 = .ok (.ifCond .ne 5, 3) := by decide +kernel
theorem dX0_drift_7 : decode cX0_drift 7 = .ok (.iconst 0, 1) := by decide +kernel
theorem dX0_drift_8 : decode cX0_drift 8 = .ok (.ireturn, 1) := by decide +kernel
theorem dX0_drift_9 : decode cX0_drift 9 = .ok (.aload_n 0, 1) := by decide +kernel
theorem dX0_drift_10 : decode cX0_drift 10 = .ok (.getfield 34, 3) := by decide +kernel
theorem dX0_drift_13 : decode cX0_drift 13 = .ok (.iload_n 2, 1) := by decide +kernel
theorem dX0_drift_14 : decode cX0_drift 14 = .ok (.if_icmp .le 7, 3) := by decide +kernel
theorem dX0_drift_17 : decode cX0_drift 17 = .ok (.iconst 1, 1) := by decide +kernel
theorem dX0_drift_18 : decode cX0_drift 18 = .ok (.goto 4, 3) := by decide +kernel
theorem dX0_drift_21 : decode cX0_drift 21 = .ok (.iconst 0, 1) := by decide +kernel
theorem dX0_drift_22 : decode cX0_drift 22 = .ok (.istore 4, 2) := by decide +kernel
theorem dX0_drift_24 : decode cX0_drift 24 = .ok (.iload_n 3, 1) := by decide +kernel
theorem dX0_drift_25 : decode cX0_drift 25 = .ok (.iconst 2, 1) := by decide +kernel
theorem dX0_drift_26 : decode cX0_drift 26 = .ok (.irem, 1) := by decide +kernel
theorem dX0_drift_27 : decode cX0_drift 27 = .ok (.ifCond .ne 7, 3) := by decide +kernel
theorem dX0_drift_30 : decode cX0_drift 30 = .ok (.iconst 1, 1) := by decide +kernel
theorem dX0_drift_31 : decode cX0_drift 31 = .ok (.goto 4, 3) := by decide +kernel
theorem dX0_drift_34 : decode cX0_drift 34 = .ok (.iconst 0, 1) := by decide +kernel
theorem dX0_drift_35 : decode cX0_drift 35 = .ok (.istore 5, 2) := by decide +kernel
theorem dX0_drift_37 : decode cX0_drift 37 = .ok (.iload_n 1, 1) := by decide +kernel
theorem dX0_drift_38 : decode cX0_drift 38 = .ok (.tableswitch 70 1 5 #[34, 39, 41, 53, 59], 34) := by decide +kernel
theorem dX0_drift_72 : decode cX0_drift 72 = .ok (.iload 4, 2) := by decide +kernel
theorem dX0_drift_74 : decode cX0_drift 74 = .ok (.iconst 1, 1) := by decide +kernel
theorem dX0_drift_75 : decode cX0_drift 75 = .ok (.iadd, 1) := by decide +kernel
theorem dX0_drift_76 : decode cX0_drift 76 = .ok (.ireturn, 1) := by decide +kernel
theorem dX0_drift_77 : decode cX0_drift 77 = .ok (.iconst 0, 1) := by decide +kernel
theorem dX0_drift_78 : decode cX0_drift 78 = .ok (.ireturn, 1) := by decide +kernel
theorem dX0_drift_79 : decode cX0_drift 79 = .ok (.iload 5, 2) := by decide +kernel
theorem dX0_drift_81 : decode cX0_drift 81 = .ok (.ifCond .eq 8, 3) := by decide +kernel
theorem dX0_drift_84 : decode cX0_drift 84 = .ok (.iload 4, 2) := by decide +kernel
theorem dX0_drift_86 : decode cX0_drift 86 = .ok (.goto 4, 3) := by decide +kernel
theorem dX0_drift_89 : decode cX0_drift 89 = .ok (.iconst 0, 1) := by decide +kernel
theorem dX0_drift_90 : decode cX0_drift 90 = .ok (.ireturn, 1) := by decide +kernel
theorem dX0_drift_91 : decode cX0_drift 91 = .ok (.iload 4, 2) := by decide +kernel
theorem dX0_drift_93 : decode cX0_drift 93 = .ok (.iconst 1, 1) := by decide +kernel
theorem dX0_drift_94 : decode cX0_drift 94 = .ok (.iadd, 1) := by decide +kernel
theorem dX0_drift_95 : decode cX0_drift 95 = .ok (.ineg, 1) := by decide +kernel
theorem dX0_drift_96 : decode cX0_drift 96 = .ok (.ireturn, 1) := by decide +kernel
theorem dX0_drift_97 : decode cX0_drift 97 = .ok (.iload 5, 2) := by decide +kernel
theorem dX0_drift_99 : decode cX0_drift 99 = .ok (.ifCond .eq 7, 3) := by decide +kernel
theorem dX0_drift_102 : decode cX0_drift 102 = .ok (.iconst 0, 1) := by decide +kernel
theorem dX0_drift_103 : decode cX0_drift 103 = .ok (.goto 4, 3) := by decide +kernel
theorem dX0_drift_106 : decode cX0_drift 106 = .ok (.iconst 1, 1) := by decide +kernel
theorem dX0_drift_107 : decode cX0_drift 107 = .ok (.ireturn, 1) := by decide +kernel
theorem dX0_drift_108 : decode cX0_drift 108 = .ok (.iload 4, 2) := by decide +kernel
theorem dX0_drift_110 : decode cX0_drift 110 = .ok (.ireturn, 1) := by decide +kernel
theorem dX0_step_0 : decode cX0_step 0 = .ok (.iconst 0, 1) := by decide +kernel
theorem dX0_step_1 : decode cX0_step 1 = .ok (.bipush 7, 2) := by decide +kernel
theorem dX0_step_3 : decode cX0_step 3 = .ok (.iload_n 3, 1) := by decide +kernel
theorem dX0_step_4 : decode cX0_step 4 = .ok (.aload_n 0, 1) := by decide +kernel
theorem dX0_step_5 : decode cX0_step 5 = .ok (.iload_n 1, 1) := by decide +kernel
theorem dX0_step_6 : decode cX0_step 6 = .ok (.iload_n 2, 1) := by decide +kernel
theorem dX0_step_7 : decode cX0_step 7 = .ok (.iload 4, 2) := by decide +kernel
theorem dX0_step_9 : decode cX0_step 9 = .ok (.invokevirtual 115, 3) := by decide +kernel
theorem dX0_step_12 : decode cX0_step 12 = .ok (.iadd, 1) := by decide +kernel
theorem dX0_step_13 : decode cX0_step 13 = .ok (.invokestatic 52, 3) := by decide +kernel
theorem dX0_step_16 : decode cX0_step 16 = .ok (.invokestatic 119, 3) := by decide +kernel
theorem dX0_step_19 : decode cX0_step 19 = .ok (.ireturn, 1) := by decide +kernel
theorem dX0_drifted_0 : decode cX0_drifted 0 = .ok (.iload_n 3, 1) := by decide +kernel
theorem dX0_drifted_1 : decode cX0_drifted 1 = .ok (.istore 5, 2) := by decide +kernel
theorem dX0_drifted_3 : decode cX0_drifted 3 = .ok (.iconst 0, 1) := by decide +kernel
theorem dX0_drifted_4 : decode cX0_drifted 4 = .ok (.istore 6, 2) := by decide +kernel
theorem dX0_drifted_6 : decode cX0_drifted 6 = .ok (.iload 6, 2) := by decide +kernel
theorem dX0_drifted_8 : decode cX0_drifted 8 = .ok (.iload 4, 2) := by decide +kernel
theorem dX0_drifted_10 : decode cX0_drifted 10 = .ok (.if_icmp .ge 26, 3) := by decide +kernel
theorem dX0_drifted_13 : decode cX0_drifted 13 = .ok (.aload_n 0, 1) := by decide +kernel
theorem dX0_drifted_14 : decode cX0_drifted 14 = .ok (.iload_n 1, 1) := by decide +kernel
theorem dX0_drifted_15 : decode cX0_drifted 15 = .ok (.iload_n 2, 1) := by decide +kernel
theorem dX0_drifted_16 : decode cX0_drifted 16 = .ok (.iload 5, 2) := by decide +kernel
theorem dX0_drifted_18 : decode cX0_drifted 18 = .ok (.aload_n 0, 1) := by decide +kernel
theorem dX0_drifted_19 : decode cX0_drifted 19 = .ok (.getfield 43, 3) := by decide +kernel
theorem dX0_drifted_22 : decode cX0_drifted 22 = .ok (.iload 6, 2) := by decide +kernel
theorem dX0_drifted_24 : decode cX0_drifted 24 = .ok (.iadd, 1) := by decide +kernel
theorem dX0_drifted_25 : decode cX0_drifted 25 = .ok (.invokevirtual 108, 3) := by decide +kernel
theorem dX0_drifted_28 : decode cX0_drifted 28 = .ok (.istore 5, 2) := by decide +kernel
theorem dX0_drifted_30 : decode cX0_drifted 30 = .ok (.iinc 6 1, 3) := by decide +kernel
theorem dX0_drifted_33 : decode cX0_drifted 33 = .ok (.goto (-27), 3) := by decide +kernel
theorem dX0_drifted_36 : decode cX0_drifted 36 = .ok (.iload 5, 2) := by decide +kernel
theorem dX0_drifted_38 : decode cX0_drifted 38 = .ok (.ireturn, 1) := by decide +kernel
theorem dX0_cellAfter_0 : decode cX0_cellAfter 0 = .ok (.aload_n 0, 1) := by decide +kernel
theorem dX0_cellAfter_1 : decode cX0_cellAfter 1 = .ok (.aload_n 0, 1) := by decide +kernel
theorem dX0_cellAfter_2 : decode cX0_cellAfter 2 = .ok (.getfield 9, 3) := by decide +kernel
theorem dX0_cellAfter_5 : decode cX0_cellAfter 5 = .ok (.iload_n 1, 1) := by decide +kernel
theorem dX0_cellAfter_6 : decode cX0_cellAfter 6 = .ok (.iaload, 1) := by decide +kernel
theorem dX0_cellAfter_7 : decode cX0_cellAfter 7 = .ok (.aload_n 0, 1) := by decide +kernel
theorem dX0_cellAfter_8 : decode cX0_cellAfter 8 = .ok (.getfield 21, 3) := by decide +kernel
theorem dX0_cellAfter_11 : decode cX0_cellAfter 11 = .ok (.iload_n 1, 1) := by decide +kernel
theorem dX0_cellAfter_12 : decode cX0_cellAfter 12 = .ok (.iaload, 1) := by decide +kernel
theorem dX0_cellAfter_13 : decode cX0_cellAfter 13 = .ok (.iload_n 2, 1) := by decide +kernel
theorem dX0_cellAfter_14 : decode cX0_cellAfter 14 = .ok (.iload_n 3, 1) := by decide +kernel
theorem dX0_cellAfter_15 : decode cX0_cellAfter 15 = .ok (.invokevirtual 122, 3) := by decide +kernel
theorem dX0_cellAfter_18 : decode cX0_cellAfter 18 = .ok (.ireturn, 1) := by decide +kernel
theorem dX0_crowdedCell_0 : decode cX0_crowdedCell 0 = .ok (.iconst 0, 1) := by decide +kernel
theorem dX0_crowdedCell_1 : decode cX0_crowdedCell 1 = .ok (.istore_n 2, 1) := by decide +kernel
theorem dX0_crowdedCell_2 : decode cX0_crowdedCell 2 = .ok (.iconst 0, 1) := by decide +kernel
theorem dX0_crowdedCell_3 : decode cX0_crowdedCell 3 = .ok (.istore_n 3, 1) := by decide +kernel
theorem dX0_crowdedCell_4 : decode cX0_crowdedCell 4 = .ok (.iconst 0, 1) := by decide +kernel
theorem dX0_crowdedCell_5 : decode cX0_crowdedCell 5 = .ok (.istore 4, 2) := by decide +kernel
theorem dX0_crowdedCell_7 : decode cX0_crowdedCell 7 = .ok (.iconst 0, 1) := by decide +kernel
theorem dX0_crowdedCell_8 : decode cX0_crowdedCell 8 = .ok (.istore 5, 2) := by decide +kernel
theorem dX0_crowdedCell_10 : decode cX0_crowdedCell 10 = .ok (.iload 5, 2) := by decide +kernel
theorem dX0_crowdedCell_12 : decode cX0_crowdedCell 12 = .ok (.aload_n 0, 1) := by decide +kernel
theorem dX0_crowdedCell_13 : decode cX0_crowdedCell 13 = .ok (.getfield 30, 3) := by decide +kernel
theorem dX0_crowdedCell_16 : decode cX0_crowdedCell 16 = .ok (.if_icmp .ge 60, 3) := by decide +kernel
theorem dX0_crowdedCell_19 : decode cX0_crowdedCell 19 = .ok (.aload_n 0, 1) := by decide +kernel
theorem dX0_crowdedCell_20 : decode cX0_crowdedCell 20 = .ok (.iload 5, 2) := by decide +kernel
theorem dX0_crowdedCell_22 : decode cX0_crowdedCell 22 = .ok (.invokevirtual 105, 3) := by decide +kernel
theorem dX0_crowdedCell_25 : decode cX0_crowdedCell 25 = .ok (.ifCond .eq 6, 3) := by decide +kernel
theorem dX0_crowdedCell_28 : decode cX0_crowdedCell 28 = .ok (.goto 42, 3) := by decide +kernel
theorem dX0_crowdedCell_31 : decode cX0_crowdedCell 31 = .ok (.iconst 1, 1) := by decide +kernel
theorem dX0_crowdedCell_32 : decode cX0_crowdedCell 32 = .ok (.aload_n 0, 1) := by decide +kernel
theorem dX0_crowdedCell_33 : decode cX0_crowdedCell 33 = .ok (.iload 5, 2) := by decide +kernel
theorem dX0_crowdedCell_35 : decode cX0_crowdedCell 35 = .ok (.aload_n 0, 1) := by decide +kernel
theorem dX0_crowdedCell_36 : decode cX0_crowdedCell 36 = .ok (.getfield 18, 3) := by decide +kernel
theorem dX0_crowdedCell_39 : decode cX0_crowdedCell 39 = .ok (.iload 5, 2) := by decide +kernel
theorem dX0_crowdedCell_41 : decode cX0_crowdedCell 41 = .ok (.iaload, 1) := by decide +kernel
theorem dX0_crowdedCell_42 : decode cX0_crowdedCell 42 = .ok (.iload_n 1, 1) := by decide +kernel
theorem dX0_crowdedCell_43 : decode cX0_crowdedCell 43 = .ok (.invokevirtual 125, 3) := by decide +kernel
theorem dX0_crowdedCell_46 : decode cX0_crowdedCell 46 = .ok (.ishl, 1) := by decide +kernel
theorem dX0_crowdedCell_47 : decode cX0_crowdedCell 47 = .ok (.istore 6, 2) := by decide +kernel
theorem dX0_crowdedCell_49 : decode cX0_crowdedCell 49 = .ok (.iload 4, 2) := by decide +kernel
theorem dX0_crowdedCell_51 : decode cX0_crowdedCell 51 = .ok (.iload_n 3, 1) := by decide +kernel
theorem dX0_crowdedCell_52 : decode cX0_crowdedCell 52 = .ok (.iload 6, 2) := by decide +kernel
theorem dX0_crowdedCell_54 : decode cX0_crowdedCell 54 = .ok (.iand, 1) := by decide +kernel
theorem dX0_crowdedCell_55 : decode cX0_crowdedCell 55 = .ok (.ior, 1) := by decide +kernel
theorem dX0_crowdedCell_56 : decode cX0_crowdedCell 56 = .ok (.istore 4, 2) := by decide +kernel
theorem dX0_crowdedCell_58 : decode cX0_crowdedCell 58 = .ok (.iload_n 3, 1) := by decide +kernel
theorem dX0_crowdedCell_59 : decode cX0_crowdedCell 59 = .ok (.iload_n 2, 1) := by decide +kernel
theorem dX0_crowdedCell_60 : decode cX0_crowdedCell 60 = .ok (.iload 6, 2) := by decide +kernel
theorem dX0_crowdedCell_62 : decode cX0_crowdedCell 62 = .ok (.iand, 1) := by decide +kernel
theorem dX0_crowdedCell_63 : decode cX0_crowdedCell 63 = .ok (.ior, 1) := by decide +kernel
theorem dX0_crowdedCell_64 : decode cX0_crowdedCell 64 = .ok (.istore_n 3, 1) := by decide +kernel
theorem dX0_crowdedCell_65 : decode cX0_crowdedCell 65 = .ok (.iload_n 2, 1) := by decide +kernel
theorem dX0_crowdedCell_66 : decode cX0_crowdedCell 66 = .ok (.iload 6, 2) := by decide +kernel
theorem dX0_crowdedCell_68 : decode cX0_crowdedCell 68 = .ok (.ior, 1) := by decide +kernel
theorem dX0_crowdedCell_69 : decode cX0_crowdedCell 69 = .ok (.istore_n 2, 1) := by decide +kernel
theorem dX0_crowdedCell_70 : decode cX0_crowdedCell 70 = .ok (.iinc 5 1, 3) := by decide +kernel
theorem dX0_crowdedCell_73 : decode cX0_crowdedCell 73 = .ok (.goto (-63), 3) := by decide +kernel
theorem dX0_crowdedCell_76 : decode cX0_crowdedCell 76 = .ok (.iload 4, 2) := by decide +kernel
theorem dX0_crowdedCell_78 : decode cX0_crowdedCell 78 = .ok (.ifCond .ne 8, 3) := by decide +kernel
theorem dX0_crowdedCell_81 : decode cX0_crowdedCell 81 = .ok (.bipush (-9), 2) := by decide +kernel
theorem dX0_crowdedCell_83 : decode cX0_crowdedCell 83 = .ok (.goto 8, 3) := by decide +kernel
theorem dX0_crowdedCell_86 : decode cX0_crowdedCell 86 = .ok (.iload 4, 2) := by decide +kernel
theorem dX0_crowdedCell_88 : decode cX0_crowdedCell 88 = .ok (.invokestatic 128, 3) := by decide +kernel
theorem dX0_crowdedCell_91 : decode cX0_crowdedCell 91 = .ok (.ireturn, 1) := by decide +kernel
theorem dX0_fewestMoves_0 : decode cX0_fewestMoves 0 = .ok (.bipush (-9), 2) := by decide +kernel
theorem dX0_fewestMoves_2 : decode cX0_fewestMoves 2 = .ok (.istore 4, 2) := by decide +kernel
theorem dX0_fewestMoves_4 : decode cX0_fewestMoves 4 = .ok (.iconst 0, 1) := by decide +kernel
theorem dX0_fewestMoves_5 : decode cX0_fewestMoves 5 = .ok (.istore 5, 2) := by decide +kernel
theorem dX0_fewestMoves_7 : decode cX0_fewestMoves 7 = .ok (.iload 5, 2) := by decide +kernel
theorem dX0_fewestMoves_9 : decode cX0_fewestMoves 9 = .ok (.bipush 8, 2) := by decide +kernel
theorem dX0_fewestMoves_11 : decode cX0_fewestMoves 11 = .ok (.if_icmp .ge 56, 3) := by decide +kernel
theorem dX0_fewestMoves_14 : decode cX0_fewestMoves 14 = .ok (.aload_n 0, 1) := by decide +kernel
theorem dX0_fewestMoves_15 : decode cX0_fewestMoves 15 = .ok (.iload_n 1, 1) := by decide +kernel
theorem dX0_fewestMoves_16 : decode cX0_fewestMoves 16 = .ok (.iload 5, 2) := by decide +kernel
theorem dX0_fewestMoves_18 : decode cX0_fewestMoves 18 = .ok (.iload_n 3, 1) := by decide +kernel
theorem dX0_fewestMoves_19 : decode cX0_fewestMoves 19 = .ok (.invokevirtual 125, 3) := by decide +kernel
theorem dX0_fewestMoves_22 : decode cX0_fewestMoves 22 = .ok (.iload_n 2, 1) := by decide +kernel
theorem dX0_fewestMoves_23 : decode cX0_fewestMoves 23 = .ok (.if_icmp .eq 6, 3) := by decide +kernel
theorem dX0_fewestMoves_26 : decode cX0_fewestMoves 26 = .ok (.goto 35, 3) := by decide +kernel
theorem dX0_fewestMoves_29 : decode cX0_fewestMoves 29 = .ok (.iload 5, 2) := by decide +kernel
theorem dX0_fewestMoves_31 : decode cX0_fewestMoves 31 = .ok (.aload_n 0, 1) := by decide +kernel
theorem dX0_fewestMoves_32 : decode cX0_fewestMoves 32 = .ok (.getfield 18, 3) := by decide +kernel
theorem dX0_fewestMoves_35 : decode cX0_fewestMoves 35 = .ok (.iload_n 1, 1) := by decide +kernel
theorem dX0_fewestMoves_36 : decode cX0_fewestMoves 36 = .ok (.iaload, 1) := by decide +kernel
theorem dX0_fewestMoves_37 : decode cX0_fewestMoves 37 = .ok (.isub, 1) := by decide +kernel
theorem dX0_fewestMoves_38 : decode cX0_fewestMoves 38 = .ok (.invokestatic 133, 3) := by decide +kernel
theorem dX0_fewestMoves_41 : decode cX0_fewestMoves 41 = .ok (.istore 6, 2) := by decide +kernel
theorem dX0_fewestMoves_43 : decode cX0_fewestMoves 43 = .ok (.iload 4, 2) := by decide +kernel
theorem dX0_fewestMoves_45 : decode cX0_fewestMoves 45 = .ok (.bipush (-9), 2) := by decide +kernel
theorem dX0_fewestMoves_47 : decode cX0_fewestMoves 47 = .ok (.if_icmp .eq 10, 3) := by decide +kernel
theorem dX0_fewestMoves_50 : decode cX0_fewestMoves 50 = .ok (.iload 6, 2) := by decide +kernel
theorem dX0_fewestMoves_52 : decode cX0_fewestMoves 52 = .ok (.iload 4, 2) := by decide +kernel
theorem dX0_fewestMoves_54 : decode cX0_fewestMoves 54 = .ok (.if_icmp .ge 7, 3) := by decide +kernel
theorem dX0_fewestMoves_57 : decode cX0_fewestMoves 57 = .ok (.iload 6, 2) := by decide +kernel
theorem dX0_fewestMoves_59 : decode cX0_fewestMoves 59 = .ok (.istore 4, 2) := by decide +kernel
theorem dX0_fewestMoves_61 : decode cX0_fewestMoves 61 = .ok (.iinc 5 1, 3) := by decide +kernel
theorem dX0_fewestMoves_64 : decode cX0_fewestMoves 64 = .ok (.goto (-57), 3) := by decide +kernel
theorem dX0_fewestMoves_67 : decode cX0_fewestMoves 67 = .ok (.iload 4, 2) := by decide +kernel
theorem dX0_fewestMoves_69 : decode cX0_fewestMoves 69 = .ok (.ireturn, 1) := by decide +kernel
theorem dX0_weighWays_0 : decode cX0_weighWays 0 = .ok (.iload_n 3, 1) := by decide +kernel
theorem dX0_weighWays_1 : decode cX0_weighWays 1 = .ok (.ifCond .gt 25, 3) := by decide +kernel
theorem dX0_weighWays_4 : decode cX0_weighWays 4 = .ok (.iload 5, 2) := by decide +kernel
theorem dX0_weighWays_6 : decode cX0_weighWays 6 = .ok (.bipush (-9), 2) := by decide +kernel
theorem dX0_weighWays_8 : decode cX0_weighWays 8 = .ok (.if_icmp .ne 6, 3) := by decide +kernel
theorem dX0_weighWays_11 : decode cX0_weighWays 11 = .ok (.iload_n 2, 1) := by decide +kernel
theorem dX0_weighWays_12 : decode cX0_weighWays 12 = .ok (.i2l, 1) := by decide +kernel
theorem dX0_weighWays_13 : decode cX0_weighWays 13 = .ok (.lreturn, 1) := by decide +kernel
theorem dX0_weighWays_14 : decode cX0_weighWays 14 = .ok (.iload_n 2, 1) := by decide +kernel
theorem dX0_weighWays_15 : decode cX0_weighWays 15 = .ok (.iload 5, 2) := by decide +kernel
theorem dX0_weighWays_17 : decode cX0_weighWays 17 = .ok (.if_icmp .ne 7, 3) := by decide +kernel
theorem dX0_weighWays_20 : decode cX0_weighWays 20 = .ok (.lconst 1, 1) := by decide +kernel
theorem dX0_weighWays_21 : decode cX0_weighWays 21 = .ok (.goto 4, 3) := by decide +kernel
theorem dX0_weighWays_24 : decode cX0_weighWays 24 = .ok (.lconst 0, 1) := by decide +kernel
theorem dX0_weighWays_25 : decode cX0_weighWays 25 = .ok (.lreturn, 1) := by decide +kernel
theorem dX0_weighWays_26 : decode cX0_weighWays 26 = .ok (.aload_n 0, 1) := by decide +kernel
theorem dX0_weighWays_27 : decode cX0_weighWays 27 = .ok (.aload_n 0, 1) := by decide +kernel
theorem dX0_weighWays_28 : decode cX0_weighWays 28 = .ok (.getfield 9, 3) := by decide +kernel
theorem dX0_weighWays_31 : decode cX0_weighWays 31 = .ok (.iload_n 1, 1) := by decide +kernel
theorem dX0_weighWays_32 : decode cX0_weighWays 32 = .ok (.iaload, 1) := by decide +kernel
theorem dX0_weighWays_33 : decode cX0_weighWays 33 = .ok (.aload_n 0, 1) := by decide +kernel
theorem dX0_weighWays_34 : decode cX0_weighWays 34 = .ok (.getfield 21, 3) := by decide +kernel
theorem dX0_weighWays_37 : decode cX0_weighWays 37 = .ok (.iload_n 1, 1) := by decide +kernel
theorem dX0_weighWays_38 : decode cX0_weighWays 38 = .ok (.iaload, 1) := by decide +kernel
theorem dX0_weighWays_39 : decode cX0_weighWays 39 = .ok (.iload_n 2, 1) := by decide +kernel
theorem dX0_weighWays_40 : decode cX0_weighWays 40 = .ok (.iload 6, 2) := by decide +kernel
theorem dX0_weighWays_42 : decode cX0_weighWays 42 = .ok (.invokevirtual 108, 3) := by decide +kernel
theorem dX0_weighWays_45 : decode cX0_weighWays 45 = .ok (.istore 7, 2) := by decide +kernel
theorem dX0_weighWays_47 : decode cX0_weighWays 47 = .ok (.iload 4, 2) := by decide +kernel
theorem dX0_weighWays_49 : decode cX0_weighWays 49 = .ok (.i2l, 1) := by decide +kernel
theorem dX0_weighWays_50 : decode cX0_weighWays 50 = .ok (.aload_n 0, 1) := by decide +kernel
theorem dX0_weighWays_51 : decode cX0_weighWays 51 = .ok (.iload_n 1, 1) := by decide +kernel
theorem dX0_weighWays_52 : decode cX0_weighWays 52 = .ok (.iload_n 2, 1) := by decide +kernel
theorem dX0_weighWays_53 : decode cX0_weighWays 53 = .ok (.iload_n 3, 1) := by decide +kernel
theorem dX0_weighWays_54 : decode cX0_weighWays 54 = .ok (.iconst 1, 1) := by decide +kernel
theorem dX0_weighWays_55 : decode cX0_weighWays 55 = .ok (.isub, 1) := by decide +kernel
theorem dX0_weighWays_56 : decode cX0_weighWays 56 = .ok (.iload 4, 2) := by decide +kernel
theorem dX0_weighWays_58 : decode cX0_weighWays 58 = .ok (.iload 5, 2) := by decide +kernel
theorem dX0_weighWays_60 : decode cX0_weighWays 60 = .ok (.iload 6, 2) := by decide +kernel
theorem dX0_weighWays_62 : decode cX0_weighWays 62 = .ok (.iconst 1, 1) := by decide +kernel
theorem dX0_weighWays_63 : decode cX0_weighWays 63 = .ok (.iadd, 1) := by decide +kernel
theorem dX0_weighWays_64 : decode cX0_weighWays 64 = .ok (.invokevirtual 136, 3) := by decide +kernel
theorem dX0_weighWays_67 : decode cX0_weighWays 67 = .ok (.lmul, 1) := by decide +kernel
theorem dX0_weighWays_68 : decode cX0_weighWays 68 = .ok (.bipush 12, 2) := by decide +kernel
theorem dX0_weighWays_70 : decode cX0_weighWays 70 = .ok (.iload 4, 2) := by decide +kernel
theorem dX0_weighWays_72 : decode cX0_weighWays 72 = .ok (.isub, 1) := by decide +kernel
theorem dX0_weighWays_73 : decode cX0_weighWays 73 = .ok (.i2l, 1) := by decide +kernel
theorem dX0_weighWays_74 : decode cX0_weighWays 74 = .ok (.aload_n 0, 1) := by decide +kernel
theorem dX0_weighWays_75 : decode cX0_weighWays 75 = .ok (.iload_n 1, 1) := by decide +kernel
theorem dX0_weighWays_76 : decode cX0_weighWays 76 = .ok (.iload 7, 2) := by decide +kernel
theorem dX0_weighWays_78 : decode cX0_weighWays 78 = .ok (.iload_n 3, 1) := by decide +kernel
theorem dX0_weighWays_79 : decode cX0_weighWays 79 = .ok (.iconst 1, 1) := by decide +kernel
theorem dX0_weighWays_80 : decode cX0_weighWays 80 = .ok (.isub, 1) := by decide +kernel
theorem dX0_weighWays_81 : decode cX0_weighWays 81 = .ok (.iload 4, 2) := by decide +kernel
theorem dX0_weighWays_83 : decode cX0_weighWays 83 = .ok (.iload 5, 2) := by decide +kernel
theorem dX0_weighWays_85 : decode cX0_weighWays 85 = .ok (.iload 6, 2) := by decide +kernel
theorem dX0_weighWays_87 : decode cX0_weighWays 87 = .ok (.iconst 1, 1) := by decide +kernel
theorem dX0_weighWays_88 : decode cX0_weighWays 88 = .ok (.iadd, 1) := by decide +kernel
theorem dX0_weighWays_89 : decode cX0_weighWays 89 = .ok (.invokevirtual 136, 3) := by decide +kernel
theorem dX0_weighWays_92 : decode cX0_weighWays 92 = .ok (.lmul, 1) := by decide +kernel
theorem dX0_weighWays_93 : decode cX0_weighWays 93 = .ok (.ladd, 1) := by decide +kernel
theorem dX0_weighWays_94 : decode cX0_weighWays 94 = .ok (.lreturn, 1) := by decide +kernel
theorem dX0_fact_0 : decode cX0_fact 0 = .ok (.iload_n 2, 1) := by decide +kernel
theorem dX0_fact_1 : decode cX0_fact 1 = .ok (.tableswitch 59 0 3 #[31, 38, 45, 52], 31) := by decide +kernel
theorem dX0_fact_32 : decode cX0_fact 32 = .ok (.aload_n 0, 1) := by decide +kernel
theorem dX0_fact_33 : decode cX0_fact 33 = .ok (.getfield 9, 3) := by decide +kernel
theorem dX0_fact_36 : decode cX0_fact 36 = .ok (.iload_n 1, 1) := by decide +kernel
theorem dX0_fact_37 : decode cX0_fact 37 = .ok (.iaload, 1) := by decide +kernel
theorem dX0_fact_38 : decode cX0_fact 38 = .ok (.ireturn, 1) := by decide +kernel
theorem dX0_fact_39 : decode cX0_fact 39 = .ok (.aload_n 0, 1) := by decide +kernel
theorem dX0_fact_40 : decode cX0_fact 40 = .ok (.getfield 18, 3) := by decide +kernel
theorem dX0_fact_43 : decode cX0_fact 43 = .ok (.iload_n 1, 1) := by decide +kernel
theorem dX0_fact_44 : decode cX0_fact 44 = .ok (.iaload, 1) := by decide +kernel
theorem dX0_fact_45 : decode cX0_fact 45 = .ok (.ireturn, 1) := by decide +kernel
theorem dX0_fact_46 : decode cX0_fact 46 = .ok (.aload_n 0, 1) := by decide +kernel
theorem dX0_fact_47 : decode cX0_fact 47 = .ok (.getfield 21, 3) := by decide +kernel
theorem dX0_fact_50 : decode cX0_fact 50 = .ok (.iload_n 1, 1) := by decide +kernel
theorem dX0_fact_51 : decode cX0_fact 51 = .ok (.iaload, 1) := by decide +kernel
theorem dX0_fact_52 : decode cX0_fact 52 = .ok (.ireturn, 1) := by decide +kernel
theorem dX0_fact_53 : decode cX0_fact 53 = .ok (.aload_n 0, 1) := by decide +kernel
theorem dX0_fact_54 : decode cX0_fact 54 = .ok (.getfield 24, 3) := by decide +kernel
theorem dX0_fact_57 : decode cX0_fact 57 = .ok (.iload_n 1, 1) := by decide +kernel
theorem dX0_fact_58 : decode cX0_fact 58 = .ok (.iaload, 1) := by decide +kernel
theorem dX0_fact_59 : decode cX0_fact 59 = .ok (.ireturn, 1) := by decide +kernel
theorem dX0_fact_60 : decode cX0_fact 60 = .ok (.aload_n 0, 1) := by decide +kernel
theorem dX0_fact_61 : decode cX0_fact 61 = .ok (.aload_n 0, 1) := by decide +kernel
theorem dX0_fact_62 : decode cX0_fact 62 = .ok (.getfield 9, 3) := by decide +kernel
theorem dX0_fact_65 : decode cX0_fact 65 = .ok (.iload_n 1, 1) := by decide +kernel
theorem dX0_fact_66 : decode cX0_fact 66 = .ok (.iaload, 1) := by decide +kernel
theorem dX0_fact_67 : decode cX0_fact 67 = .ok (.aload_n 0, 1) := by decide +kernel
theorem dX0_fact_68 : decode cX0_fact 68 = .ok (.getfield 21, 3) := by decide +kernel
theorem dX0_fact_71 : decode cX0_fact 71 = .ok (.iload_n 1, 1) := by decide +kernel
theorem dX0_fact_72 : decode cX0_fact 72 = .ok (.iaload, 1) := by decide +kernel
theorem dX0_fact_73 : decode cX0_fact 73 = .ok (.aload_n 0, 1) := by decide +kernel
theorem dX0_fact_74 : decode cX0_fact 74 = .ok (.getfield 43, 3) := by decide +kernel
theorem dX0_fact_77 : decode cX0_fact 77 = .ok (.invokevirtual 115, 3) := by decide +kernel
theorem dX0_fact_80 : decode cX0_fact 80 = .ok (.ireturn, 1) := by decide +kernel
theorem dX0_markAs_0 : decode cX0_markAs 0 = .ok (.iload_n 2, 1) := by decide +kernel
theorem dX0_markAs_1 : decode cX0_markAs 1 = .ok (.tableswitch 90 1 4 #[31, 49, 77, 84], 31) := by decide +kernel
theorem dX0_markAs_32 : decode cX0_markAs 32 = .ok (.iconst 0, 1) := by decide +kernel
theorem dX0_markAs_33 : decode cX0_markAs 33 = .ok (.aload_n 0, 1) := by decide +kernel
theorem dX0_markAs_34 : decode cX0_markAs 34 = .ok (.getfield 21, 3) := by decide +kernel
theorem dX0_markAs_37 : decode cX0_markAs 37 = .ok (.iload_n 1, 1) := by decide +kernel
theorem dX0_markAs_38 : decode cX0_markAs 38 = .ok (.iaload, 1) := by decide +kernel
theorem dX0_markAs_39 : decode cX0_markAs 39 = .ok (.iconst 1, 1) := by decide +kernel
theorem dX0_markAs_40 : decode cX0_markAs 40 = .ok (.iadd, 1) := by decide +kernel
theorem dX0_markAs_41 : decode cX0_markAs 41 = .ok (.aload_n 0, 1) := by decide +kernel
theorem dX0_markAs_42 : decode cX0_markAs 42 = .ok (.getfield 34, 3) := by decide +kernel
theorem dX0_markAs_45 : decode cX0_markAs 45 = .ok (.isub, 1) := by decide +kernel
theorem dX0_markAs_46 : decode cX0_markAs 46 = .ok (.invokestatic 119, 3) := by decide +kernel
theorem dX0_markAs_49 : decode cX0_markAs 49 = .ok (.ireturn, 1) := by decide +kernel
theorem dX0_markAs_50 : decode cX0_markAs 50 = .ok (.aload_n 0, 1) := by decide +kernel
theorem dX0_markAs_51 : decode cX0_markAs 51 = .ok (.iload_n 1, 1) := by decide +kernel
theorem dX0_markAs_52 : decode cX0_markAs 52 = .ok (.invokevirtual 105, 3) := by decide +kernel
theorem dX0_markAs_55 : decode cX0_markAs 55 = .ok (.ifCond .eq 7, 3) := by decide +kernel
theorem dX0_markAs_58 : decode cX0_markAs 58 = .ok (.iconst 0, 1) := by decide +kernel
theorem dX0_markAs_59 : decode cX0_markAs 59 = .ok (.goto 18, 3) := by decide +kernel
theorem dX0_markAs_62 : decode cX0_markAs 62 = .ok (.aload_n 0, 1) := by decide +kernel
theorem dX0_markAs_63 : decode cX0_markAs 63 = .ok (.aload_n 0, 1) := by decide +kernel
theorem dX0_markAs_64 : decode cX0_markAs 64 = .ok (.getfield 18, 3) := by decide +kernel
theorem dX0_markAs_67 : decode cX0_markAs 67 = .ok (.iload_n 1, 1) := by decide +kernel
theorem dX0_markAs_68 : decode cX0_markAs 68 = .ok (.iaload, 1) := by decide +kernel
theorem dX0_markAs_69 : decode cX0_markAs 69 = .ok (.invokevirtual 140, 3) := by decide +kernel
theorem dX0_markAs_72 : decode cX0_markAs 72 = .ok (.invokestatic 143, 3) := by decide +kernel
theorem dX0_markAs_75 : decode cX0_markAs 75 = .ok (.iconst 1, 1) := by decide +kernel
theorem dX0_markAs_76 : decode cX0_markAs 76 = .ok (.isub, 1) := by decide +kernel
theorem dX0_markAs_77 : decode cX0_markAs 77 = .ok (.ireturn, 1) := by decide +kernel
theorem dX0_markAs_78 : decode cX0_markAs 78 = .ok (.aload_n 0, 1) := by decide +kernel
theorem dX0_markAs_79 : decode cX0_markAs 79 = .ok (.getfield 43, 3) := by decide +kernel
theorem dX0_markAs_82 : decode cX0_markAs 82 = .ok (.iconst 2, 1) := by decide +kernel
theorem dX0_markAs_83 : decode cX0_markAs 83 = .ok (.irem, 1) := by decide +kernel
theorem dX0_markAs_84 : decode cX0_markAs 84 = .ok (.ireturn, 1) := by decide +kernel
theorem dX0_markAs_85 : decode cX0_markAs 85 = .ok (.aload_n 0, 1) := by decide +kernel
theorem dX0_markAs_86 : decode cX0_markAs 86 = .ok (.iconst 1, 1) := by decide +kernel
theorem dX0_markAs_87 : decode cX0_markAs 87 = .ok (.invokevirtual 146, 3) := by decide +kernel
theorem dX0_markAs_90 : decode cX0_markAs 90 = .ok (.ireturn, 1) := by decide +kernel
theorem dX0_markAs_91 : decode cX0_markAs 91 = .ok (.aload_n 0, 1) := by decide +kernel
theorem dX0_markAs_92 : decode cX0_markAs 92 = .ok (.iload_n 1, 1) := by decide +kernel
theorem dX0_markAs_93 : decode cX0_markAs 93 = .ok (.invokevirtual 105, 3) := by decide +kernel
theorem dX0_markAs_96 : decode cX0_markAs 96 = .ok (.ifCond .eq 7, 3) := by decide +kernel
theorem dX0_markAs_99 : decode cX0_markAs 99 = .ok (.iconst 0, 1) := by decide +kernel
theorem dX0_markAs_100 : decode cX0_markAs 100 = .ok (.goto 12, 3) := by decide +kernel
theorem dX0_markAs_103 : decode cX0_markAs 103 = .ok (.bipush 7, 2) := by decide +kernel
theorem dX0_markAs_105 : decode cX0_markAs 105 = .ok (.aload_n 0, 1) := by decide +kernel
theorem dX0_markAs_106 : decode cX0_markAs 106 = .ok (.getfield 18, 3) := by decide +kernel
theorem dX0_markAs_109 : decode cX0_markAs 109 = .ok (.iload_n 1, 1) := by decide +kernel
theorem dX0_markAs_110 : decode cX0_markAs 110 = .ok (.iaload, 1) := by decide +kernel
theorem dX0_markAs_111 : decode cX0_markAs 111 = .ok (.isub, 1) := by decide +kernel
theorem dX0_markAs_112 : decode cX0_markAs 112 = .ok (.ireturn, 1) := by decide +kernel
theorem dX0_lyingIn_0 : decode cX0_lyingIn 0 = .ok (.iconst 0, 1) := by decide +kernel
theorem dX0_lyingIn_1 : decode cX0_lyingIn 1 = .ok (.istore_n 2, 1) := by decide +kernel
theorem dX0_lyingIn_2 : decode cX0_lyingIn 2 = .ok (.iconst 0, 1) := by decide +kernel
theorem dX0_lyingIn_3 : decode cX0_lyingIn 3 = .ok (.istore_n 3, 1) := by decide +kernel
theorem dX0_lyingIn_4 : decode cX0_lyingIn 4 = .ok (.iload_n 3, 1) := by decide +kernel
theorem dX0_lyingIn_5 : decode cX0_lyingIn 5 = .ok (.aload_n 0, 1) := by decide +kernel
theorem dX0_lyingIn_6 : decode cX0_lyingIn 6 = .ok (.getfield 30, 3) := by decide +kernel
theorem dX0_lyingIn_9 : decode cX0_lyingIn 9 = .ok (.if_icmp .ge 25, 3) := by decide +kernel
theorem dX0_lyingIn_12 : decode cX0_lyingIn 12 = .ok (.aload_n 0, 1) := by decide +kernel
theorem dX0_lyingIn_13 : decode cX0_lyingIn 13 = .ok (.getfield 18, 3) := by decide +kernel
theorem dX0_lyingIn_16 : decode cX0_lyingIn 16 = .ok (.iload_n 3, 1) := by decide +kernel
theorem dX0_lyingIn_17 : decode cX0_lyingIn 17 = .ok (.iaload, 1) := by decide +kernel
theorem dX0_lyingIn_18 : decode cX0_lyingIn 18 = .ok (.iload_n 1, 1) := by decide +kernel
theorem dX0_lyingIn_19 : decode cX0_lyingIn 19 = .ok (.if_icmp .ne 9, 3) := by decide +kernel
theorem dX0_lyingIn_22 : decode cX0_lyingIn 22 = .ok (.iload_n 2, 1) := by decide +kernel
theorem dX0_lyingIn_23 : decode cX0_lyingIn 23 = .ok (.iconst 1, 1) := by decide +kernel
theorem dX0_lyingIn_24 : decode cX0_lyingIn 24 = .ok (.iload_n 3, 1) := by decide +kernel
theorem dX0_lyingIn_25 : decode cX0_lyingIn 25 = .ok (.ishl, 1) := by decide +kernel
theorem dX0_lyingIn_26 : decode cX0_lyingIn 26 = .ok (.ior, 1) := by decide +kernel
theorem dX0_lyingIn_27 : decode cX0_lyingIn 27 = .ok (.istore_n 2, 1) := by decide +kernel
theorem dX0_lyingIn_28 : decode cX0_lyingIn 28 = .ok (.iinc 3 1, 3) := by decide +kernel
theorem dX0_lyingIn_31 : decode cX0_lyingIn 31 = .ok (.goto (-27), 3) := by decide +kernel
theorem dX0_lyingIn_34 : decode cX0_lyingIn 34 = .ok (.iload_n 2, 1) := by decide +kernel
theorem dX0_lyingIn_35 : decode cX0_lyingIn 35 = .ok (.ireturn, 1) := by decide +kernel
theorem dX0_takenBits_0 : decode cX0_takenBits 0 = .ok (.aload_n 0, 1) := by decide +kernel
theorem dX0_takenBits_1 : decode cX0_takenBits 1 = .ok (.bipush (-9), 2) := by decide +kernel
theorem dX0_takenBits_3 : decode cX0_takenBits 3 = .ok (.invokevirtual 140, 3) := by decide +kernel
theorem dX0_takenBits_6 : decode cX0_takenBits 6 = .ok (.ireturn, 1) := by decide +kernel
theorem dX0_countOfKind_0 : decode cX0_countOfKind 0 = .ok (.iconst 0, 1) := by decide +kernel
theorem dX0_countOfKind_1 : decode cX0_countOfKind 1 = .ok (.istore_n 2, 1) := by decide +kernel
theorem dX0_countOfKind_2 : decode cX0_countOfKind 2 = .ok (.iconst 0, 1) := by decide +kernel
theorem dX0_countOfKind_3 : decode cX0_countOfKind 3 = .ok (.istore_n 3, 1) := by decide +kernel
theorem dX0_countOfKind_4 : decode cX0_countOfKind 4 = .ok (.iload_n 3, 1) := by decide +kernel
theorem dX0_countOfKind_5 : decode cX0_countOfKind 5 = .ok (.aload_n 0, 1) := by decide +kernel
theorem dX0_countOfKind_6 : decode cX0_countOfKind 6 = .ok (.getfield 30, 3) := by decide +kernel
theorem dX0_countOfKind_9 : decode cX0_countOfKind 9 = .ok (.if_icmp .ge 25, 3) := by decide +kernel
theorem dX0_countOfKind_12 : decode cX0_countOfKind 12 = .ok (.aload_n 0, 1) := by decide +kernel
theorem dX0_countOfKind_13 : decode cX0_countOfKind 13 = .ok (.getfield 9, 3) := by decide +kernel
theorem dX0_countOfKind_16 : decode cX0_countOfKind 16 = .ok (.iload_n 3, 1) := by decide +kernel
theorem dX0_countOfKind_17 : decode cX0_countOfKind 17 = .ok (.iaload, 1) := by decide +kernel
theorem dX0_countOfKind_18 : decode cX0_countOfKind 18 = .ok (.iload_n 1, 1) := by decide +kernel
theorem dX0_countOfKind_19 : decode cX0_countOfKind 19 = .ok (.invokestatic 149, 3) := by decide +kernel
theorem dX0_countOfKind_22 : decode cX0_countOfKind 22 = .ok (.ifCond .eq 6, 3) := by decide +kernel
theorem dX0_countOfKind_25 : decode cX0_countOfKind 25 = .ok (.iinc 2 1, 3) := by decide +kernel
theorem dX0_countOfKind_28 : decode cX0_countOfKind 28 = .ok (.iinc 3 1, 3) := by decide +kernel
theorem dX0_countOfKind_31 : decode cX0_countOfKind 31 = .ok (.goto (-27), 3) := by decide +kernel
theorem dX0_countOfKind_34 : decode cX0_countOfKind 34 = .ok (.iload_n 2, 1) := by decide +kernel
theorem dX0_countOfKind_35 : decode cX0_countOfKind 35 = .ok (.ireturn, 1) := by decide +kernel
theorem dX1_init_0 : decode cX1_init 0 = .ok (.aload_n 0, 1) := by decide +kernel
theorem dX1_init_1 : decode cX1_init 1 = .ok (.invokespecial 3, 3) := by decide +kernel
theorem dX1_init_4 : decode cX1_init 4 = .ok (.aload_n 0, 1) := by decide +kernel
theorem dX1_init_5 : decode cX1_init 5 = .ok (.bipush 6, 2) := by decide +kernel
theorem dX1_init_7 : decode cX1_init 7 = .ok (.newarray .int, 2) := by decide +kernel
theorem dX1_init_9 : decode cX1_init 9 = .ok (.putfield 9, 3) := by decide +kernel
theorem dX1_init_12 : decode cX1_init 12 = .ok (.aload_n 0, 1) := by decide +kernel
theorem dX1_init_13 : decode cX1_init 13 = .ok (.bipush 6, 2) := by decide +kernel
theorem dX1_init_15 : decode cX1_init 15 = .ok (.newarray .int, 2) := by decide +kernel
theorem dX1_init_17 : decode cX1_init 17 = .ok (.putfield 15, 3) := by decide +kernel
theorem dX1_init_20 : decode cX1_init 20 = .ok (.aload_n 0, 1) := by decide +kernel
theorem dX1_init_21 : decode cX1_init 21 = .ok (.iconst 0, 1) := by decide +kernel
theorem dX1_init_22 : decode cX1_init 22 = .ok (.putfield 18, 3) := by decide +kernel
theorem dX1_init_25 : decode cX1_init 25 = .ok (.return_, 1) := by decide +kernel
theorem dX1_leastSum_0 : decode cX1_leastSum 0 = .ok (.aload_n 0, 1) := by decide +kernel
theorem dX1_leastSum_1 : decode cX1_leastSum 1 = .ok (.ldc 24, 2) := by decide +kernel
theorem dX1_leastSum_3 : decode cX1_leastSum 3 = .ok (.putfield 18, 3) := by decide +kernel
theorem dX1_leastSum_6 : decode cX1_leastSum 6 = .ok (.aload_n 0, 1) := by decide +kernel
theorem dX1_leastSum_7 : decode cX1_leastSum 7 = .ok (.aload_n 1, 1) := by decide +kernel
theorem dX1_leastSum_8 : decode cX1_leastSum 8 = .ok (.iconst 0, 1) := by decide +kernel
theorem dX1_leastSum_9 : decode cX1_leastSum 9 = .ok (.iconst 0, 1) := by decide +kernel
theorem dX1_leastSum_10 : decode cX1_leastSum 10 = .ok (.iconst 0, 1) := by decide +kernel
theorem dX1_leastSum_11 : decode cX1_leastSum 11 = .ok (.invokevirtual 25, 3) := by decide +kernel
theorem dX1_leastSum_14 : decode cX1_leastSum 14 = .ok (.aload_n 0, 1) := by decide +kernel
theorem dX1_leastSum_15 : decode cX1_leastSum 15 = .ok (.getfield 18, 3) := by decide +kernel
theorem dX1_leastSum_18 : decode cX1_leastSum 18 = .ok (.ireturn, 1) := by decide +kernel
theorem dX1_seat_0 : decode cX1_seat 0 = .ok (.iload 4, 2) := by decide +kernel
theorem dX1_seat_2 : decode cX1_seat 2 = .ok (.aload_n 0, 1) := by decide +kernel
theorem dX1_seat_3 : decode cX1_seat 3 = .ok (.getfield 18, 3) := by decide +kernel
theorem dX1_seat_6 : decode cX1_seat 6 = .ok (.if_icmp .lt 4, 3) := by decide +kernel
theorem dX1_seat_9 : decode cX1_seat 9 = .ok (.return_, 1) := by decide +kernel
theorem dX1_seat_10 : decode cX1_seat 10 = .ok (.aload_n 1, 1) := by decide +kernel
theorem dX1_seat_11 : decode cX1_seat 11 = .ok (.iload_n 2, 1) := by decide +kernel
theorem dX1_seat_12 : decode cX1_seat 12 = .ok (.invokevirtual 29, 3) := by decide +kernel
theorem dX1_seat_15 : decode cX1_seat 15 = .ok (.ifCond .ne 25, 3) := by decide +kernel
theorem dX1_seat_18 : decode cX1_seat 18 = .ok (.aload_n 0, 1) := by decide +kernel
theorem dX1_seat_19 : decode cX1_seat 19 = .ok (.iload 4, 2) := by decide +kernel
theorem dX1_seat_21 : decode cX1_seat 21 = .ok (.putfield 18, 3) := by decide +kernel
theorem dX1_seat_24 : decode cX1_seat 24 = .ok (.aload_n 0, 1) := by decide +kernel
theorem dX1_seat_25 : decode cX1_seat 25 = .ok (.getfield 9, 3) := by decide +kernel
theorem dX1_seat_28 : decode cX1_seat 28 = .ok (.iconst 0, 1) := by decide +kernel
theorem dX1_seat_29 : decode cX1_seat 29 = .ok (.aload_n 0, 1) := by decide +kernel
theorem dX1_seat_30 : decode cX1_seat 30 = .ok (.getfield 15, 3) := by decide +kernel
theorem dX1_seat_33 : decode cX1_seat 33 = .ok (.iconst 0, 1) := by decide +kernel
theorem dX1_seat_34 : decode cX1_seat 34 = .ok (.bipush 6, 2) := by decide +kernel
theorem dX1_seat_36 : decode cX1_seat 36 = .ok (.invokestatic 35, 3) := by decide +kernel
theorem dX1_seat_39 : decode cX1_seat 39 = .ok (.return_, 1) := by decide +kernel
theorem dX1_seat_40 : decode cX1_seat 40 = .ok (.aload_n 1, 1) := by decide +kernel
theorem dX1_seat_41 : decode cX1_seat 41 = .ok (.iload_n 2, 1) := by decide +kernel
theorem dX1_seat_42 : decode cX1_seat 42 = .ok (.invokevirtual 41, 3) := by decide +kernel
theorem dX1_seat_45 : decode cX1_seat 45 = .ok (.ifCond .eq 15, 3) := by decide +kernel
theorem dX1_seat_48 : decode cX1_seat 48 = .ok (.aload_n 0, 1) := by decide +kernel
theorem dX1_seat_49 : decode cX1_seat 49 = .ok (.aload_n 1, 1) := by decide +kernel
theorem dX1_seat_50 : decode cX1_seat 50 = .ok (.iload_n 2, 1) := by decide +kernel
theorem dX1_seat_51 : decode cX1_seat 51 = .ok (.iconst 1, 1) := by decide +kernel
theorem dX1_seat_52 : decode cX1_seat 52 = .ok (.iadd, 1) := by decide +kernel
theorem dX1_seat_53 : decode cX1_seat 53 = .ok (.iload_n 3, 1) := by decide +kernel
theorem dX1_seat_54 : decode cX1_seat 54 = .ok (.iload 4, 2) := by decide +kernel
theorem dX1_seat_56 : decode cX1_seat 56 = .ok (.invokevirtual 25, 3) := by decide +kernel
theorem dX1_seat_59 : decode cX1_seat 59 = .ok (.return_, 1) := by decide +kernel
theorem dX1_seat_60 : decode cX1_seat 60 = .ok (.iconst 0, 1) := by decide +kernel
theorem dX1_seat_61 : decode cX1_seat 61 = .ok (.istore 5, 2) := by decide +kernel
theorem dX1_seat_63 : decode cX1_seat 63 = .ok (.iload 5, 2) := by decide +kernel
theorem dX1_seat_65 : decode cX1_seat 65 = .ok (.aload_n 1, 1) := by decide +kernel
theorem dX1_seat_66 : decode cX1_seat 66 = .ok (.getfield 44, 3) := by decide +kernel
theorem dX1_seat_69 : decode cX1_seat 69 = .ok (.if_icmp .ge 72, 3) := by decide +kernel
theorem dX1_seat_72 : decode cX1_seat 72 = .ok (.aload_n 1, 1) := by decide +kernel
theorem dX1_seat_73 : decode cX1_seat 73 = .ok (.iload 5, 2) := by decide +kernel
theorem dX1_seat_75 : decode cX1_seat 75 = .ok (.invokevirtual 41, 3) := by decide +kernel
theorem dX1_seat_78 : decode cX1_seat 78 = .ok (.ifCond .ne 57, 3) := by decide +kernel
theorem dX1_seat_81 : decode cX1_seat 81 = .ok (.iload_n 3, 1) := by decide +kernel
theorem dX1_seat_82 : decode cX1_seat 82 = .ok (.iload 5, 2) := by decide +kernel
theorem dX1_seat_84 : decode cX1_seat 84 = .ok (.ishr, 1) := by decide +kernel
theorem dX1_seat_85 : decode cX1_seat 85 = .ok (.iconst 1, 1) := by decide +kernel
theorem dX1_seat_86 : decode cX1_seat 86 = .ok (.iand, 1) := by decide +kernel
theorem dX1_seat_87 : decode cX1_seat 87 = .ok (.ifCond .eq 6, 3) := by decide +kernel
theorem dX1_seat_90 : decode cX1_seat 90 = .ok (.goto 45, 3) := by decide +kernel
theorem dX1_seat_93 : decode cX1_seat 93 = .ok (.aload_n 0, 1) := by decide +kernel
theorem dX1_seat_94 : decode cX1_seat 94 = .ok (.getfield 9, 3) := by decide +kernel
theorem dX1_seat_97 : decode cX1_seat 97 = .ok (.iload_n 2, 1) := by decide +kernel
theorem dX1_seat_98 : decode cX1_seat 98 = .ok (.iload 5, 2) := by decide +kernel
theorem dX1_seat_100 : decode cX1_seat 100 = .ok (.iastore, 1) := by decide +kernel
theorem dX1_seat_101 : decode cX1_seat 101 = .ok (.aload_n 0, 1) := by decide +kernel
theorem dX1_seat_102 : decode cX1_seat 102 = .ok (.aload_n 1, 1) := by decide +kernel
theorem dX1_seat_103 : decode cX1_seat 103 = .ok (.iload_n 2, 1) := by decide +kernel
theorem dX1_seat_104 : decode cX1_seat 104 = .ok (.iconst 1, 1) := by decide +kernel
theorem dX1_seat_105 : decode cX1_seat 105 = .ok (.iadd, 1) := by decide +kernel
theorem dX1_seat_106 : decode cX1_seat 106 = .ok (.iload_n 3, 1) := by decide +kernel
theorem dX1_seat_107 : decode cX1_seat 107 = .ok (.iconst 1, 1) := by decide +kernel
theorem dX1_seat_108 : decode cX1_seat 108 = .ok (.iload 5, 2) := by decide +kernel
theorem dX1_seat_110 : decode cX1_seat 110 = .ok (.ishl, 1) := by decide +kernel
theorem dX1_seat_111 : decode cX1_seat 111 = .ok (.ior, 1) := by decide +kernel
theorem dX1_seat_112 : decode cX1_seat 112 = .ok (.iload 4, 2) := by decide +kernel
theorem dX1_seat_114 : decode cX1_seat 114 = .ok (.aload_n 1, 1) := by decide +kernel
theorem dX1_seat_115 : decode cX1_seat 115 = .ok (.getfield 47, 3) := by decide +kernel
theorem dX1_seat_118 : decode cX1_seat 118 = .ok (.iload 5, 2) := by decide +kernel
theorem dX1_seat_120 : decode cX1_seat 120 = .ok (.iaload, 1) := by decide +kernel
theorem dX1_seat_121 : decode cX1_seat 121 = .ok (.aload_n 1, 1) := by decide +kernel
theorem dX1_seat_122 : decode cX1_seat 122 = .ok (.getfield 50, 3) := by decide +kernel
theorem dX1_seat_125 : decode cX1_seat 125 = .ok (.iload_n 2, 1) := by decide +kernel
theorem dX1_seat_126 : decode cX1_seat 126 = .ok (.iaload, 1) := by decide +kernel
theorem dX1_seat_127 : decode cX1_seat 127 = .ok (.isub, 1) := by decide +kernel
theorem dX1_seat_128 : decode cX1_seat 128 = .ok (.invokestatic 53, 3) := by decide +kernel
theorem dX1_seat_131 : decode cX1_seat 131 = .ok (.iadd, 1) := by decide +kernel
theorem dX1_seat_132 : decode cX1_seat 132 = .ok (.invokevirtual 25, 3) := by decide +kernel
theorem dX1_seat_135 : decode cX1_seat 135 = .ok (.iinc 5 1, 3) := by decide +kernel
theorem dX1_seat_138 : decode cX1_seat 138 = .ok (.goto (-75), 3) := by decide +kernel
theorem dX1_seat_141 : decode cX1_seat 141 = .ok (.return_, 1) := by decide +kernel
theorem dX2_init_0 : decode cX2_init 0 = .ok (.aload_n 0, 1) := by decide +kernel
theorem dX2_init_1 : decode cX2_init 1 = .ok (.invokespecial 3, 3) := by decide +kernel
theorem dX2_init_4 : decode cX2_init 4 = .ok (.aload_n 0, 1) := by decide +kernel
theorem dX2_init_5 : decode cX2_init 5 = .ok (.bipush 10, 2) := by decide +kernel
theorem dX2_init_7 : decode cX2_init 7 = .ok (.newarray .int, 2) := by decide +kernel
theorem dX2_init_9 : decode cX2_init 9 = .ok (.putfield 9, 3) := by decide +kernel
theorem dX2_init_12 : decode cX2_init 12 = .ok (.return_, 1) := by decide +kernel
theorem dX2_drawn_0 : decode cX2_drawn 0 = .ok (.iconst 0, 1) := by decide +kernel
theorem dX2_drawn_1 : decode cX2_drawn 1 = .ok (.iload_n 0, 1) := by decide +kernel
theorem dX2_drawn_2 : decode cX2_drawn 2 = .ok (.iconst 2, 1) := by decide +kernel
theorem dX2_drawn_3 : decode cX2_drawn 3 = .ok (.isub, 1) := by decide +kernel
theorem dX2_drawn_4 : decode cX2_drawn 4 = .ok (.invokestatic 15, 3) := by decide +kernel
theorem dX2_drawn_7 : decode cX2_drawn 7 = .ok (.ireturn, 1) := by decide +kernel
theorem dX2_filled_0 : decode cX2_filled 0 = .ok (.bipush 9, 2) := by decide +kernel
theorem dX2_filled_2 : decode cX2_filled 2 = .ok (.iload_n 0, 1) := by decide +kernel
theorem dX2_filled_3 : decode cX2_filled 3 = .ok (.iconst 3, 1) := by decide +kernel
theorem dX2_filled_4 : decode cX2_filled 4 = .ok (.iadd, 1) := by decide +kernel
theorem dX2_filled_5 : decode cX2_filled 5 = .ok (.invokestatic 21, 3) := by decide +kernel
theorem dX2_filled_8 : decode cX2_filled 8 = .ok (.ireturn, 1) := by decide +kernel
theorem dX2_countTurnsTo_0 : decode cX2_countTurnsTo 0 = .ok (.aload_n 0, 1) := by decide +kernel
theorem dX2_countTurnsTo_1 : decode cX2_countTurnsTo 1 = .ok (.getfield 9, 3) := by decide +kernel
theorem dX2_countTurnsTo_4 : decode cX2_countTurnsTo 4 = .ok (.bipush 10, 2) := by decide +kernel
theorem dX2_countTurnsTo_6 : decode cX2_countTurnsTo 6 = .ok (.invokestatic 24, 3) := by decide +kernel
theorem dX2_countTurnsTo_9 : decode cX2_countTurnsTo 9 = .ok (.aload_n 0, 1) := by decide +kernel
theorem dX2_countTurnsTo_10 : decode cX2_countTurnsTo 10 = .ok (.getfield 9, 3) := by decide +kernel
theorem dX2_countTurnsTo_13 : decode cX2_countTurnsTo 13 = .ok (.iload_n 1, 1) := by decide +kernel
theorem dX2_countTurnsTo_14 : decode cX2_countTurnsTo 14 = .ok (.iconst 0, 1) := by decide +kernel
theorem dX2_countTurnsTo_15 : decode cX2_countTurnsTo 15 = .ok (.iastore, 1) := by decide +kernel
theorem dX2_countTurnsTo_16 : decode cX2_countTurnsTo 16 = .ok (.iconst 0, 1) := by decide +kernel
theorem dX2_countTurnsTo_17 : decode cX2_countTurnsTo 17 = .ok (.istore_n 2, 1) := by decide +kernel
theorem dX2_countTurnsTo_18 : decode cX2_countTurnsTo 18 = .ok (.iload_n 2, 1) := by decide +kernel
theorem dX2_countTurnsTo_19 : decode cX2_countTurnsTo 19 = .ok (.bipush 9, 2) := by decide +kernel
theorem dX2_countTurnsTo_21 : decode cX2_countTurnsTo 21 = .ok (.if_icmp .gt 65, 3) := by decide +kernel
theorem dX2_countTurnsTo_24 : decode cX2_countTurnsTo 24 = .ok (.iconst 0, 1) := by decide +kernel
theorem dX2_countTurnsTo_25 : decode cX2_countTurnsTo 25 = .ok (.istore_n 3, 1) := by decide +kernel
theorem dX2_countTurnsTo_26 : decode cX2_countTurnsTo 26 = .ok (.iload_n 3, 1) := by decide +kernel
theorem dX2_countTurnsTo_27 : decode cX2_countTurnsTo 27 = .ok (.bipush 9, 2) := by decide +kernel
theorem dX2_countTurnsTo_29 : decode cX2_countTurnsTo 29 = .ok (.if_icmp .gt 51, 3) := by decide +kernel
theorem dX2_countTurnsTo_32 : decode cX2_countTurnsTo 32 = .ok (.iconst 1, 1) := by decide +kernel
theorem dX2_countTurnsTo_33 : decode cX2_countTurnsTo 33 = .ok (.aload_n 0, 1) := by decide +kernel
theorem dX2_countTurnsTo_34 : decode cX2_countTurnsTo 34 = .ok (.getfield 9, 3) := by decide +kernel
theorem dX2_countTurnsTo_37 : decode cX2_countTurnsTo 37 = .ok (.iload_n 3, 1) := by decide +kernel
theorem dX2_countTurnsTo_38 : decode cX2_countTurnsTo 38 = .ok (.invokestatic 30, 3) := by decide +kernel
theorem dX2_countTurnsTo_41 : decode cX2_countTurnsTo 41 = .ok (.iaload, 1) := by decide +kernel
theorem dX2_countTurnsTo_42 : decode cX2_countTurnsTo 42 = .ok (.aload_n 0, 1) := by decide +kernel
theorem dX2_countTurnsTo_43 : decode cX2_countTurnsTo 43 = .ok (.getfield 9, 3) := by decide +kernel
theorem dX2_countTurnsTo_46 : decode cX2_countTurnsTo 46 = .ok (.iload_n 3, 1) := by decide +kernel
theorem dX2_countTurnsTo_47 : decode cX2_countTurnsTo 47 = .ok (.invokestatic 34, 3) := by decide +kernel
theorem dX2_countTurnsTo_50 : decode cX2_countTurnsTo 50 = .ok (.iaload, 1) := by decide +kernel
theorem dX2_countTurnsTo_51 : decode cX2_countTurnsTo 51 = .ok (.invokestatic 21, 3) := by decide +kernel
theorem dX2_countTurnsTo_54 : decode cX2_countTurnsTo 54 = .ok (.iadd, 1) := by decide +kernel
theorem dX2_countTurnsTo_55 : decode cX2_countTurnsTo 55 = .ok (.istore 4, 2) := by decide +kernel
theorem dX2_countTurnsTo_57 : decode cX2_countTurnsTo 57 = .ok (.aload_n 0, 1) := by decide +kernel
theorem dX2_countTurnsTo_58 : decode cX2_countTurnsTo 58 = .ok (.getfield 9, 3) := by decide +kernel
theorem dX2_countTurnsTo_61 : decode cX2_countTurnsTo 61 = .ok (.iload_n 3, 1) := by decide +kernel
theorem dX2_countTurnsTo_62 : decode cX2_countTurnsTo 62 = .ok (.aload_n 0, 1) := by decide +kernel
theorem dX2_countTurnsTo_63 : decode cX2_countTurnsTo 63 = .ok (.getfield 9, 3) := by decide +kernel
theorem dX2_countTurnsTo_66 : decode cX2_countTurnsTo 66 = .ok (.iload_n 3, 1) := by decide +kernel
theorem dX2_countTurnsTo_67 : decode cX2_countTurnsTo 67 = .ok (.iaload, 1) := by decide +kernel
theorem dX2_countTurnsTo_68 : decode cX2_countTurnsTo 68 = .ok (.iload 4, 2) := by decide +kernel
theorem dX2_countTurnsTo_70 : decode cX2_countTurnsTo 70 = .ok (.invokestatic 21, 3) := by decide +kernel
theorem dX2_countTurnsTo_73 : decode cX2_countTurnsTo 73 = .ok (.iastore, 1) := by decide +kernel
theorem dX2_countTurnsTo_74 : decode cX2_countTurnsTo 74 = .ok (.iinc 3 1, 3) := by decide +kernel
theorem dX2_countTurnsTo_77 : decode cX2_countTurnsTo 77 = .ok (.goto (-51), 3) := by decide +kernel
theorem dX2_countTurnsTo_80 : decode cX2_countTurnsTo 80 = .ok (.iinc 2 1, 3) := by decide +kernel
theorem dX2_countTurnsTo_83 : decode cX2_countTurnsTo 83 = .ok (.goto (-65), 3) := by decide +kernel
theorem dX2_countTurnsTo_86 : decode cX2_countTurnsTo 86 = .ok (.return_, 1) := by decide +kernel
theorem dX2_firstRowFrom_0 : decode cX2_firstRowFrom 0 = .ok (.iconst 0, 1) := by decide +kernel
theorem dX2_firstRowFrom_1 : decode cX2_firstRowFrom 1 = .ok (.istore_n 2, 1) := by decide +kernel
theorem dX2_firstRowFrom_2 : decode cX2_firstRowFrom 2 = .ok (.iload_n 1, 1) := by decide +kernel
theorem dX2_firstRowFrom_3 : decode cX2_firstRowFrom 3 = .ok (.istore_n 3, 1) := by decide +kernel
theorem dX2_firstRowFrom_4 : decode cX2_firstRowFrom 4 = .ok (.aload_n 0, 1) := by decide +kernel
theorem dX2_firstRowFrom_5 : decode cX2_firstRowFrom 5 = .ok (.getfield 9, 3) := by decide +kernel
theorem dX2_firstRowFrom_8 : decode cX2_firstRowFrom 8 = .ok (.iload_n 1, 1) := by decide +kernel
theorem dX2_firstRowFrom_9 : decode cX2_firstRowFrom 9 = .ok (.iaload, 1) := by decide +kernel
theorem dX2_firstRowFrom_10 : decode cX2_firstRowFrom 10 = .ok (.istore 4, 2) := by decide +kernel
theorem dX2_firstRowFrom_12 : decode cX2_firstRowFrom 12 = .ok (.iconst 0, 1) := by decide +kernel
theorem dX2_firstRowFrom_13 : decode cX2_firstRowFrom 13 = .ok (.istore 5, 2) := by decide +kernel
theorem dX2_firstRowFrom_15 : decode cX2_firstRowFrom 15 = .ok (.iload 5, 2) := by decide +kernel
theorem dX2_firstRowFrom_17 : decode cX2_firstRowFrom 17 = .ok (.iload 4, 2) := by decide +kernel
theorem dX2_firstRowFrom_19 : decode cX2_firstRowFrom 19 = .ok (.if_icmp .ge 55, 3) := by decide +kernel
theorem dX2_firstRowFrom_22 : decode cX2_firstRowFrom 22 = .ok (.iload 5, 2) := by decide +kernel
theorem dX2_firstRowFrom_24 : decode cX2_firstRowFrom 24 = .ok (.bipush 9, 2) := by decide +kernel
theorem dX2_firstRowFrom_26 : decode cX2_firstRowFrom 26 = .ok (.if_icmp .gt 48, 3) := by decide +kernel
theorem dX2_firstRowFrom_29 : decode cX2_firstRowFrom 29 = .ok (.aload_n 0, 1) := by decide +kernel
theorem dX2_firstRowFrom_30 : decode cX2_firstRowFrom 30 = .ok (.getfield 9, 3) := by decide +kernel
theorem dX2_firstRowFrom_33 : decode cX2_firstRowFrom 33 = .ok (.iload_n 3, 1) := by decide +kernel
theorem dX2_firstRowFrom_34 : decode cX2_firstRowFrom 34 = .ok (.invokestatic 30, 3) := by decide +kernel
theorem dX2_firstRowFrom_37 : decode cX2_firstRowFrom 37 = .ok (.iaload, 1) := by decide +kernel
theorem dX2_firstRowFrom_38 : decode cX2_firstRowFrom 38 = .ok (.iload 4, 2) := by decide +kernel
theorem dX2_firstRowFrom_40 : decode cX2_firstRowFrom 40 = .ok (.iload 5, 2) := by decide +kernel
theorem dX2_firstRowFrom_42 : decode cX2_firstRowFrom 42 = .ok (.isub, 1) := by decide +kernel
theorem dX2_firstRowFrom_43 : decode cX2_firstRowFrom 43 = .ok (.iconst 1, 1) := by decide +kernel
theorem dX2_firstRowFrom_44 : decode cX2_firstRowFrom 44 = .ok (.isub, 1) := by decide +kernel
theorem dX2_firstRowFrom_45 : decode cX2_firstRowFrom 45 = .ok (.if_icmp .ne 11, 3) := by decide +kernel
theorem dX2_firstRowFrom_48 : decode cX2_firstRowFrom 48 = .ok (.iload_n 3, 1) := by decide +kernel
theorem dX2_firstRowFrom_49 : decode cX2_firstRowFrom 49 = .ok (.invokestatic 30, 3) := by decide +kernel
theorem dX2_firstRowFrom_52 : decode cX2_firstRowFrom 52 = .ok (.istore_n 3, 1) := by decide +kernel
theorem dX2_firstRowFrom_53 : decode cX2_firstRowFrom 53 = .ok (.goto 15, 3) := by decide +kernel
theorem dX2_firstRowFrom_56 : decode cX2_firstRowFrom 56 = .ok (.iload_n 3, 1) := by decide +kernel
theorem dX2_firstRowFrom_57 : decode cX2_firstRowFrom 57 = .ok (.invokestatic 34, 3) := by decide +kernel
theorem dX2_firstRowFrom_60 : decode cX2_firstRowFrom 60 = .ok (.istore_n 3, 1) := by decide +kernel
theorem dX2_firstRowFrom_61 : decode cX2_firstRowFrom 61 = .ok (.iload_n 2, 1) := by decide +kernel
theorem dX2_firstRowFrom_62 : decode cX2_firstRowFrom 62 = .ok (.iconst 1, 1) := by decide +kernel
theorem dX2_firstRowFrom_63 : decode cX2_firstRowFrom 63 = .ok (.iload 5, 2) := by decide +kernel
theorem dX2_firstRowFrom_65 : decode cX2_firstRowFrom 65 = .ok (.ishl, 1) := by decide +kernel
theorem dX2_firstRowFrom_66 : decode cX2_firstRowFrom 66 = .ok (.ior, 1) := by decide +kernel
theorem dX2_firstRowFrom_67 : decode cX2_firstRowFrom 67 = .ok (.istore_n 2, 1) := by decide +kernel
theorem dX2_firstRowFrom_68 : decode cX2_firstRowFrom 68 = .ok (.iinc 5 1, 3) := by decide +kernel
theorem dX2_firstRowFrom_71 : decode cX2_firstRowFrom 71 = .ok (.goto (-56), 3) := by decide +kernel
theorem dX2_firstRowFrom_74 : decode cX2_firstRowFrom 74 = .ok (.iload_n 2, 1) := by decide +kernel
theorem dX2_firstRowFrom_75 : decode cX2_firstRowFrom 75 = .ok (.ireturn, 1) := by decide +kernel
theorem dX3_init_0 : decode cX3_init 0 = .ok (.aload_n 0, 1) := by decide +kernel
theorem dX3_init_1 : decode cX3_init 1 = .ok (.invokespecial 3, 3) := by decide +kernel
theorem dX3_init_4 : decode cX3_init 4 = .ok (.aload_n 0, 1) := by decide +kernel
theorem dX3_init_5 : decode cX3_init 5 = .ok (.bipush 28, 2) := by decide +kernel
theorem dX3_init_7 : decode cX3_init 7 = .ok (.newarray .int, 2) := by decide +kernel
theorem dX3_init_9 : decode cX3_init 9 = .ok (.putfield 11, 3) := by decide +kernel
theorem dX3_init_12 : decode cX3_init 12 = .ok (.aload_n 0, 1) := by decide +kernel
theorem dX3_init_13 : decode cX3_init 13 = .ok (.iconst 0, 1) := by decide +kernel
theorem dX3_init_14 : decode cX3_init 14 = .ok (.putfield 15, 3) := by decide +kernel
theorem dX3_init_17 : decode cX3_init 17 = .ok (.return_, 1) := by decide +kernel
theorem dX3_firstFault_0 : decode cX3_firstFault 0 = .ok (.iconst 0, 1) := by decide +kernel
theorem dX3_firstFault_1 : decode cX3_firstFault 1 = .ok (.istore_n 3, 1) := by decide +kernel
theorem dX3_firstFault_2 : decode cX3_firstFault 2 = .ok (.iconst 0, 1) := by decide +kernel
theorem dX3_firstFault_3 : decode cX3_firstFault 3 = .ok (.istore 4, 2) := by decide +kernel
theorem dX3_firstFault_5 : decode cX3_firstFault 5 = .ok (.iconst 0, 1) := by decide +kernel
theorem dX3_firstFault_6 : decode cX3_firstFault 6 = .ok (.istore 5, 2) := by decide +kernel
theorem dX3_firstFault_8 : decode cX3_firstFault 8 = .ok (.iload 5, 2) := by decide +kernel
theorem dX3_firstFault_10 : decode cX3_firstFault 10 = .ok (.iload_n 2, 1) := by decide +kernel
theorem dX3_firstFault_11 : decode cX3_firstFault 11 = .ok (.if_icmp .ge 115, 3) := by decide +kernel
theorem dX3_firstFault_14 : decode cX3_firstFault 14 = .ok (.iload 5, 2) := by decide +kernel
theorem dX3_firstFault_16 : decode cX3_firstFault 16 = .ok (.aload_n 1, 1) := by decide +kernel
theorem dX3_firstFault_17 : decode cX3_firstFault 17 = .ok (.arraylength, 1) := by decide +kernel
theorem dX3_firstFault_18 : decode cX3_firstFault 18 = .ok (.if_icmp .ge 108, 3) := by decide +kernel
theorem dX3_firstFault_21 : decode cX3_firstFault 21 = .ok (.aload_n 1, 1) := by decide +kernel
theorem dX3_firstFault_22 : decode cX3_firstFault 22 = .ok (.iload 5, 2) := by decide +kernel
theorem dX3_firstFault_24 : decode cX3_firstFault 24 = .ok (.baload, 1) := by decide +kernel
theorem dX3_firstFault_25 : decode cX3_firstFault 25 = .ok (.istore 6, 2) := by decide +kernel
theorem dX3_firstFault_27 : decode cX3_firstFault 27 = .ok (.iload 4, 2) := by decide +kernel
theorem dX3_firstFault_29 : decode cX3_firstFault 29 = .ok (.ifCond .ne 13, 3) := by decide +kernel
theorem dX3_firstFault_32 : decode cX3_firstFault 32 = .ok (.iload 6, 2) := by decide +kernel
theorem dX3_firstFault_34 : decode cX3_firstFault 34 = .ok (.bipush 32, 2) := by decide +kernel
theorem dX3_firstFault_36 : decode cX3_firstFault 36 = .ok (.if_icmp .ne 6, 3) := by decide +kernel
theorem dX3_firstFault_39 : decode cX3_firstFault 39 = .ok (.goto 81, 3) := by decide +kernel
theorem dX3_firstFault_42 : decode cX3_firstFault 42 = .ok (.iload_n 3, 1) := by decide +kernel
theorem dX3_firstFault_43 : decode cX3_firstFault 43 = .ok (.bipush 6, 2) := by decide +kernel
theorem dX3_firstFault_45 : decode cX3_firstFault 45 = .ok (.if_icmp .le 6, 3) := by decide +kernel
theorem dX3_firstFault_48 : decode cX3_firstFault 48 = .ok (.iload 5, 2) := by decide +kernel
theorem dX3_firstFault_50 : decode cX3_firstFault 50 = .ok (.ireturn, 1) := by decide +kernel
theorem dX3_firstFault_51 : decode cX3_firstFault 51 = .ok (.iload_n 3, 1) := by decide +kernel
theorem dX3_firstFault_52 : decode cX3_firstFault 52 = .ok (.ifCond .ne 13, 3) := by decide +kernel
theorem dX3_firstFault_55 : decode cX3_firstFault 55 = .ok (.iload 4, 2) := by decide +kernel
theorem dX3_firstFault_57 : decode cX3_firstFault 57 = .ok (.iload 6, 2) := by decide +kernel
theorem dX3_firstFault_59 : decode cX3_firstFault 59 = .ok (.invokestatic 19, 3) := by decide +kernel
theorem dX3_firstFault_62 : decode cX3_firstFault 62 = .ok (.goto 10, 3) := by decide +kernel
theorem dX3_firstFault_65 : decode cX3_firstFault 65 = .ok (.iload 4, 2) := by decide +kernel
theorem dX3_firstFault_67 : decode cX3_firstFault 67 = .ok (.iload 6, 2) := by decide +kernel
theorem dX3_firstFault_69 : decode cX3_firstFault 69 = .ok (.invokestatic 23, 3) := by decide +kernel
theorem dX3_firstFault_72 : decode cX3_firstFault 72 = .ok (.istore 7, 2) := by decide +kernel
theorem dX3_firstFault_74 : decode cX3_firstFault 74 = .ok (.iload 7, 2) := by decide +kernel
theorem dX3_firstFault_76 : decode cX3_firstFault 76 = .ok (.bipush (-9), 2) := by decide +kernel
theorem dX3_firstFault_78 : decode cX3_firstFault 78 = .ok (.if_icmp .ne 6, 3) := by decide +kernel
theorem dX3_firstFault_81 : decode cX3_firstFault 81 = .ok (.iload 5, 2) := by decide +kernel
theorem dX3_firstFault_83 : decode cX3_firstFault 83 = .ok (.ireturn, 1) := by decide +kernel
theorem dX3_firstFault_84 : decode cX3_firstFault 84 = .ok (.aload_n 0, 1) := by decide +kernel
theorem dX3_firstFault_85 : decode cX3_firstFault 85 = .ok (.getfield 11, 3) := by decide +kernel
theorem dX3_firstFault_88 : decode cX3_firstFault 88 = .ok (.iconst 4, 1) := by decide +kernel
theorem dX3_firstFault_89 : decode cX3_firstFault 89 = .ok (.iload_n 3, 1) := by decide +kernel
theorem dX3_firstFault_90 : decode cX3_firstFault 90 = .ok (.imul, 1) := by decide +kernel
theorem dX3_firstFault_91 : decode cX3_firstFault 91 = .ok (.iload 4, 2) := by decide +kernel
theorem dX3_firstFault_93 : decode cX3_firstFault 93 = .ok (.iadd, 1) := by decide +kernel
theorem dX3_firstFault_94 : decode cX3_firstFault 94 = .ok (.iload 7, 2) := by decide +kernel
theorem dX3_firstFault_96 : decode cX3_firstFault 96 = .ok (.iastore, 1) := by decide +kernel
theorem dX3_firstFault_97 : decode cX3_firstFault 97 = .ok (.iinc 4 1, 3) := by decide +kernel
theorem dX3_firstFault_100 : decode cX3_firstFault 100 = .ok (.iload 4, 2) := by decide +kernel
theorem dX3_firstFault_102 : decode cX3_firstFault 102 = .ok (.iload_n 3, 1) := by decide +kernel
theorem dX3_firstFault_103 : decode cX3_firstFault 103 = .ok (.ifCond .ne 7, 3) := by decide +kernel
theorem dX3_firstFault_106 : decode cX3_firstFault 106 = .ok (.iconst 3, 1) := by decide +kernel
theorem dX3_firstFault_107 : decode cX3_firstFault 107 = .ok (.goto 4, 3) := by decide +kernel
theorem dX3_firstFault_110 : decode cX3_firstFault 110 = .ok (.iconst 4, 1) := by decide +kernel
theorem dX3_firstFault_111 : decode cX3_firstFault 111 = .ok (.if_icmp .ne 9, 3) := by decide +kernel
theorem dX3_firstFault_114 : decode cX3_firstFault 114 = .ok (.iconst 0, 1) := by decide +kernel
theorem dX3_firstFault_115 : decode cX3_firstFault 115 = .ok (.istore 4, 2) := by decide +kernel
theorem dX3_firstFault_117 : decode cX3_firstFault 117 = .ok (.iinc 3 1, 3) := by decide +kernel
theorem dX3_firstFault_120 : decode cX3_firstFault 120 = .ok (.iinc 5 1, 3) := by decide +kernel
theorem dX3_firstFault_123 : decode cX3_firstFault 123 = .ok (.goto (-115), 3) := by decide +kernel
theorem dX3_firstFault_126 : decode cX3_firstFault 126 = .ok (.iload 4, 2) := by decide +kernel
theorem dX3_firstFault_128 : decode cX3_firstFault 128 = .ok (.ifCond .ne 8, 3) := by decide +kernel
theorem dX3_firstFault_131 : decode cX3_firstFault 131 = .ok (.iload_n 3, 1) := by decide +kernel
theorem dX3_firstFault_132 : decode cX3_firstFault 132 = .ok (.iconst 2, 1) := by decide +kernel
theorem dX3_firstFault_133 : decode cX3_firstFault 133 = .ok (.if_icmp .ge 5, 3) := by decide +kernel
theorem dX3_firstFault_136 : decode cX3_firstFault 136 = .ok (.iload_n 2, 1) := by decide +kernel
theorem dX3_firstFault_137 : decode cX3_firstFault 137 = .ok (.ireturn, 1) := by decide +kernel
theorem dX3_firstFault_138 : decode cX3_firstFault 138 = .ok (.aload_n 0, 1) := by decide +kernel
theorem dX3_firstFault_139 : decode cX3_firstFault 139 = .ok (.iload_n 3, 1) := by decide +kernel
theorem dX3_firstFault_140 : decode cX3_firstFault 140 = .ok (.iconst 1, 1) := by decide +kernel
theorem dX3_firstFault_141 : decode cX3_firstFault 141 = .ok (.isub, 1) := by decide +kernel
theorem dX3_firstFault_142 : decode cX3_firstFault 142 = .ok (.putfield 15, 3) := by decide +kernel
theorem dX3_firstFault_145 : decode cX3_firstFault 145 = .ok (.bipush (-9), 2) := by decide +kernel
theorem dX3_firstFault_147 : decode cX3_firstFault 147 = .ok (.ireturn, 1) := by decide +kernel
theorem dX3_headPart_0 : decode cX3_headPart 0 = .ok (.iload_n 0, 1) := by decide +kernel
theorem dX3_headPart_1 : decode cX3_headPart 1 = .ok (.ifCond .ne 16, 3) := by decide +kernel
theorem dX3_headPart_4 : decode cX3_headPart 4 = .ok (.iload_n 1, 1) := by decide +kernel
theorem dX3_headPart_5 : decode cX3_headPart 5 = .ok (.bipush 102, 2) := by decide +kernel
theorem dX3_headPart_7 : decode cX3_headPart 7 = .ok (.if_icmp .ne 7, 3) := by decide +kernel
theorem dX3_headPart_10 : decode cX3_headPart 10 = .ok (.iconst 0, 1) := by decide +kernel
theorem dX3_headPart_11 : decode cX3_headPart 11 = .ok (.goto 5, 3) := by decide +kernel
theorem dX3_headPart_14 : decode cX3_headPart 14 = .ok (.bipush (-9), 2) := by decide +kernel
theorem dX3_headPart_16 : decode cX3_headPart 16 = .ok (.ireturn, 1) := by decide +kernel
theorem dX3_headPart_17 : decode cX3_headPart 17 = .ok (.iload_n 1, 1) := by decide +kernel
theorem dX3_headPart_18 : decode cX3_headPart 18 = .ok (.bipush 9, 2) := by decide +kernel
theorem dX3_headPart_20 : decode cX3_headPart 20 = .ok (.invokestatic 26, 3) := by decide +kernel
theorem dX3_headPart_23 : decode cX3_headPart 23 = .ok (.ireturn, 1) := by decide +kernel
theorem dX3_thingPart_0 : decode cX3_thingPart 0 = .ok (.iload_n 0, 1) := by decide +kernel
theorem dX3_thingPart_1 : decode cX3_thingPart 1 = .ok (.ifCond .ne 8, 3) := by decide +kernel
theorem dX3_thingPart_4 : decode cX3_thingPart 4 = .ok (.iload_n 1, 1) := by decide +kernel
theorem dX3_thingPart_5 : decode cX3_thingPart 5 = .ok (.invokestatic 29, 3) := by decide +kernel
theorem dX3_thingPart_8 : decode cX3_thingPart 8 = .ok (.ireturn, 1) := by decide +kernel
theorem dX3_thingPart_9 : decode cX3_thingPart 9 = .ok (.iload_n 1, 1) := by decide +kernel
theorem dX3_thingPart_10 : decode cX3_thingPart 10 = .ok (.iload_n 0, 1) := by decide +kernel
theorem dX3_thingPart_11 : decode cX3_thingPart 11 = .ok (.iconst 2, 1) := by decide +kernel
theorem dX3_thingPart_12 : decode cX3_thingPart 12 = .ok (.if_icmp .ne 8, 3) := by decide +kernel
theorem dX3_thingPart_15 : decode cX3_thingPart 15 = .ok (.bipush 9, 2) := by decide +kernel
theorem dX3_thingPart_17 : decode cX3_thingPart 17 = .ok (.goto 5, 3) := by decide +kernel
theorem dX3_thingPart_20 : decode cX3_thingPart 20 = .ok (.bipush 7, 2) := by decide +kernel
theorem dX3_thingPart_22 : decode cX3_thingPart 22 = .ok (.invokestatic 26, 3) := by decide +kernel
theorem dX3_thingPart_25 : decode cX3_thingPart 25 = .ok (.ireturn, 1) := by decide +kernel
theorem dX3_figure_0 : decode cX3_figure 0 = .ok (.iload_n 0, 1) := by decide +kernel
theorem dX3_figure_1 : decode cX3_figure 1 = .ok (.bipush 48, 2) := by decide +kernel
theorem dX3_figure_3 : decode cX3_figure 3 = .ok (.isub, 1) := by decide +kernel
theorem dX3_figure_4 : decode cX3_figure 4 = .ok (.istore_n 2, 1) := by decide +kernel
theorem dX3_figure_5 : decode cX3_figure 5 = .ok (.iload_n 2, 1) := by decide +kernel
theorem dX3_figure_6 : decode cX3_figure 6 = .ok (.ifCond .lt 12, 3) := by decide +kernel
theorem dX3_figure_9 : decode cX3_figure 9 = .ok (.iload_n 2, 1) := by decide +kernel
theorem dX3_figure_10 : decode cX3_figure 10 = .ok (.iload_n 1, 1) := by decide +kernel
theorem dX3_figure_11 : decode cX3_figure 11 = .ok (.if_icmp .gt 7, 3) := by decide +kernel
theorem dX3_figure_14 : decode cX3_figure 14 = .ok (.iload_n 2, 1) := by decide +kernel
theorem dX3_figure_15 : decode cX3_figure 15 = .ok (.goto 5, 3) := by decide +kernel
theorem dX3_figure_18 : decode cX3_figure 18 = .ok (.bipush (-9), 2) := by decide +kernel
theorem dX3_figure_20 : decode cX3_figure 20 = .ok (.ireturn, 1) := by decide +kernel
theorem dX3_kindOfLetter_0 : decode cX3_kindOfLetter 0 = .ok (.iload_n 0, 1) := by decide +kernel
theorem dX3_kindOfLetter_1 : decode cX3_kindOfLetter 1 = .ok (.tableswitch 103 98 116 #[97, 101, 99, 103, 103, 103, 103, 103, 103, 103, 103, 103, 103, 103, 103, 103, 93, 95, 91], 91) := by decide +kernel
theorem dX3_kindOfLetter_92 : decode cX3_kindOfLetter 92 = .ok (.iconst 0, 1) := by decide +kernel
theorem dX3_kindOfLetter_93 : decode cX3_kindOfLetter 93 = .ok (.ireturn, 1) := by decide +kernel
theorem dX3_kindOfLetter_94 : decode cX3_kindOfLetter 94 = .ok (.iconst 1, 1) := by decide +kernel
theorem dX3_kindOfLetter_95 : decode cX3_kindOfLetter 95 = .ok (.ireturn, 1) := by decide +kernel
theorem dX3_kindOfLetter_96 : decode cX3_kindOfLetter 96 = .ok (.iconst 2, 1) := by decide +kernel
theorem dX3_kindOfLetter_97 : decode cX3_kindOfLetter 97 = .ok (.ireturn, 1) := by decide +kernel
theorem dX3_kindOfLetter_98 : decode cX3_kindOfLetter 98 = .ok (.iconst 3, 1) := by decide +kernel
theorem dX3_kindOfLetter_99 : decode cX3_kindOfLetter 99 = .ok (.ireturn, 1) := by decide +kernel
theorem dX3_kindOfLetter_100 : decode cX3_kindOfLetter 100 = .ok (.iconst 4, 1) := by decide +kernel
theorem dX3_kindOfLetter_101 : decode cX3_kindOfLetter 101 = .ok (.ireturn, 1) := by decide +kernel
theorem dX3_kindOfLetter_102 : decode cX3_kindOfLetter 102 = .ok (.iconst 5, 1) := by decide +kernel
theorem dX3_kindOfLetter_103 : decode cX3_kindOfLetter 103 = .ok (.ireturn, 1) := by decide +kernel
theorem dX3_kindOfLetter_104 : decode cX3_kindOfLetter 104 = .ok (.bipush (-9), 2) := by decide +kernel
theorem dX3_kindOfLetter_106 : decode cX3_kindOfLetter 106 = .ok (.ireturn, 1) := by decide +kernel
theorem dX4_init_0 : decode cX4_init 0 = .ok (.aload_n 0, 1) := by decide +kernel
theorem dX4_init_1 : decode cX4_init 1 = .ok (.invokespecial 1, 3) := by decide +kernel
theorem dX4_init_4 : decode cX4_init 4 = .ok (.aload_n 0, 1) := by decide +kernel
theorem dX4_init_5 : decode cX4_init 5 = .ok (.bipush 6, 2) := by decide +kernel
theorem dX4_init_7 : decode cX4_init 7 = .ok (.bipush 40, 2) := by decide +kernel
theorem dX4_init_9 : decode cX4_init 9 = .ok (.multianewarray 9 2, 4) := by decide +kernel
theorem dX4_init_13 : decode cX4_init 13 = .ok (.putfield 11, 3) := by decide +kernel
theorem dX4_init_16 : decode cX4_init 16 = .ok (.aload_n 0, 1) := by decide +kernel
theorem dX4_init_17 : decode cX4_init 17 = .ok (.bipush 6, 2) := by decide +kernel
theorem dX4_init_19 : decode cX4_init 19 = .ok (.newarray .int, 2) := by decide +kernel
theorem dX4_init_21 : decode cX4_init 21 = .ok (.putfield 14, 3) := by decide +kernel
theorem dX4_init_24 : decode cX4_init 24 = .ok (.aload_n 0, 1) := by decide +kernel
theorem dX4_init_25 : decode cX4_init 25 = .ok (.iconst 4, 1) := by decide +kernel
theorem dX4_init_26 : decode cX4_init 26 = .ok (.bipush 60, 2) := by decide +kernel
theorem dX4_init_28 : decode cX4_init 28 = .ok (.multianewarray 18 2, 4) := by decide +kernel
theorem dX4_init_32 : decode cX4_init 32 = .ok (.putfield 20, 3) := by decide +kernel
theorem dX4_init_35 : decode cX4_init 35 = .ok (.aload_n 0, 1) := by decide +kernel
theorem dX4_init_36 : decode cX4_init 36 = .ok (.iconst 4, 1) := by decide +kernel
theorem dX4_init_37 : decode cX4_init 37 = .ok (.newarray .int, 2) := by decide +kernel
theorem dX4_init_39 : decode cX4_init 39 = .ok (.putfield 23, 3) := by decide +kernel
theorem dX4_init_42 : decode cX4_init 42 = .ok (.aload_n 0, 1) := by decide +kernel
theorem dX4_init_43 : decode cX4_init 43 = .ok (.iconst 3, 1) := by decide +kernel
theorem dX4_init_44 : decode cX4_init 44 = .ok (.bipush 40, 2) := by decide +kernel
theorem dX4_init_46 : decode cX4_init 46 = .ok (.multianewarray 9 2, 4) := by decide +kernel
theorem dX4_init_50 : decode cX4_init 50 = .ok (.putfield 26, 3) := by decide +kernel
theorem dX4_init_53 : decode cX4_init 53 = .ok (.aload_n 0, 1) := by decide +kernel
theorem dX4_init_54 : decode cX4_init 54 = .ok (.iconst 3, 1) := by decide +kernel
theorem dX4_init_55 : decode cX4_init 55 = .ok (.newarray .int, 2) := by decide +kernel
theorem dX4_init_57 : decode cX4_init 57 = .ok (.putfield 29, 3) := by decide +kernel
theorem dX4_init_60 : decode cX4_init 60 = .ok (.aload_n 0, 1) := by decide +kernel
theorem dX4_init_61 : decode cX4_init 61 = .ok (.new 32, 3) := by decide +kernel
theorem dX4_init_64 : decode cX4_init 64 = .ok (.dup, 1) := by decide +kernel
theorem dX4_init_65 : decode cX4_init 65 = .ok (.invokespecial 34, 3) := by decide +kernel
theorem dX4_init_68 : decode cX4_init 68 = .ok (.putfield 35, 3) := by decide +kernel
theorem dX4_init_71 : decode cX4_init 71 = .ok (.aload_n 0, 1) := by decide +kernel
theorem dX4_init_72 : decode cX4_init 72 = .ok (.new 39, 3) := by decide +kernel
theorem dX4_init_75 : decode cX4_init 75 = .ok (.dup, 1) := by decide +kernel
theorem dX4_init_76 : decode cX4_init 76 = .ok (.invokespecial 41, 3) := by decide +kernel
theorem dX4_init_79 : decode cX4_init 79 = .ok (.putfield 42, 3) := by decide +kernel
theorem dX4_init_82 : decode cX4_init 82 = .ok (.aload_n 0, 1) := by decide +kernel
theorem dX4_init_83 : decode cX4_init 83 = .ok (.new 46, 3) := by decide +kernel
theorem dX4_init_86 : decode cX4_init 86 = .ok (.dup, 1) := by decide +kernel
theorem dX4_init_87 : decode cX4_init 87 = .ok (.invokespecial 48, 3) := by decide +kernel
theorem dX4_init_90 : decode cX4_init 90 = .ok (.putfield 49, 3) := by decide +kernel
theorem dX4_init_93 : decode cX4_init 93 = .ok (.aload_n 0, 1) := by decide +kernel
theorem dX4_init_94 : decode cX4_init 94 = .ok (.new 53, 3) := by decide +kernel
theorem dX4_init_97 : decode cX4_init 97 = .ok (.dup, 1) := by decide +kernel
theorem dX4_init_98 : decode cX4_init 98 = .ok (.invokespecial 55, 3) := by decide +kernel
theorem dX4_init_101 : decode cX4_init 101 = .ok (.putfield 56, 3) := by decide +kernel
theorem dX4_init_104 : decode cX4_init 104 = .ok (.aload_n 0, 1) := by decide +kernel
theorem dX4_init_105 : decode cX4_init 105 = .ok (.bipush 6, 2) := by decide +kernel
theorem dX4_init_107 : decode cX4_init 107 = .ok (.newarray .int, 2) := by decide +kernel
theorem dX4_init_109 : decode cX4_init 109 = .ok (.putfield 60, 3) := by decide +kernel
theorem dX4_init_112 : decode cX4_init 112 = .ok (.aload_n 0, 1) := by decide +kernel
theorem dX4_init_113 : decode cX4_init 113 = .ok (.iconst 0, 1) := by decide +kernel
theorem dX4_init_114 : decode cX4_init 114 = .ok (.putfield 63, 3) := by decide +kernel
theorem dX4_init_117 : decode cX4_init 117 = .ok (.aload_n 0, 1) := by decide +kernel
theorem dX4_init_118 : decode cX4_init 118 = .ok (.iconst 0, 1) := by decide +kernel
theorem dX4_init_119 : decode cX4_init 119 = .ok (.putfield 67, 3) := by decide +kernel
theorem dX4_init_122 : decode cX4_init 122 = .ok (.aload_n 0, 1) := by decide +kernel
theorem dX4_init_123 : decode cX4_init 123 = .ok (.lconst 0, 1) := by decide +kernel
theorem dX4_init_124 : decode cX4_init 124 = .ok (.putfield 70, 3) := by decide +kernel
theorem dX4_init_127 : decode cX4_init 127 = .ok (.aload_n 0, 1) := by decide +kernel
theorem dX4_init_128 : decode cX4_init 128 = .ok (.lconst 1, 1) := by decide +kernel
theorem dX4_init_129 : decode cX4_init 129 = .ok (.putfield 74, 3) := by decide +kernel
theorem dX4_init_132 : decode cX4_init 132 = .ok (.aload_n 0, 1) := by decide +kernel
theorem dX4_init_133 : decode cX4_init 133 = .ok (.getfield 14, 3) := by decide +kernel
theorem dX4_init_136 : decode cX4_init 136 = .ok (.iconst (-1), 1) := by decide +kernel
theorem dX4_init_137 : decode cX4_init 137 = .ok (.invokestatic 77, 3) := by decide +kernel
theorem dX4_init_140 : decode cX4_init 140 = .ok (.aload_n 0, 1) := by decide +kernel
theorem dX4_init_141 : decode cX4_init 141 = .ok (.getfield 23, 3) := by decide +kernel
theorem dX4_init_144 : decode cX4_init 144 = .ok (.iconst (-1), 1) := by decide +kernel
theorem dX4_init_145 : decode cX4_init 145 = .ok (.invokestatic 77, 3) := by decide +kernel
theorem dX4_init_148 : decode cX4_init 148 = .ok (.aload_n 0, 1) := by decide +kernel
theorem dX4_init_149 : decode cX4_init 149 = .ok (.getfield 29, 3) := by decide +kernel
theorem dX4_init_152 : decode cX4_init 152 = .ok (.iconst (-1), 1) := by decide +kernel
theorem dX4_init_153 : decode cX4_init 153 = .ok (.invokestatic 77, 3) := by decide +kernel
theorem dX4_init_156 : decode cX4_init 156 = .ok (.return_, 1) := by decide +kernel
theorem dX4_row_0 : decode cX4_row 0 = .ok (.iload_n 1, 1) := by decide +kernel
theorem dX4_row_1 : decode cX4_row 1 = .ok (.invokestatic 83, 3) := by decide +kernel
theorem dX4_row_4 : decode cX4_row 4 = .ok (.ifCond .eq 9, 3) := by decide +kernel
theorem dX4_row_7 : decode cX4_row 7 = .ok (.iload_n 2, 1) := by decide +kernel
theorem dX4_row_8 : decode cX4_row 8 = .ok (.bipush 40, 2) := by decide +kernel
theorem dX4_row_10 : decode cX4_row 10 = .ok (.if_icmp .le 5, 3) := by decide +kernel
theorem dX4_row_13 : decode cX4_row 13 = .ok (.iconst (-1), 1) := by decide +kernel
theorem dX4_row_14 : decode cX4_row 14 = .ok (.ireturn, 1) := by decide +kernel
theorem dX4_row_15 : decode cX4_row 15 = .ok (.iload_n 2, 1) := by decide +kernel
theorem dX4_row_16 : decode cX4_row 16 = .ok (.ifCond .ge 9, 3) := by decide +kernel
theorem dX4_row_19 : decode cX4_row 19 = .ok (.aload_n 0, 1) := by decide +kernel
theorem dX4_row_20 : decode cX4_row 20 = .ok (.iconst 5, 1) := by decide +kernel
theorem dX4_row_21 : decode cX4_row 21 = .ok (.invokevirtual 87, 3) := by decide +kernel
theorem dX4_row_24 : decode cX4_row 24 = .ok (.ireturn, 1) := by decide +kernel
theorem dX4_row_25 : decode cX4_row 25 = .ok (.aload_n 0, 1) := by decide +kernel
theorem dX4_row_26 : decode cX4_row 26 = .ok (.getfield 11, 3) := by decide +kernel
theorem dX4_row_29 : decode cX4_row 29 = .ok (.iload_n 1, 1) := by decide +kernel
theorem dX4_row_30 : decode cX4_row 30 = .ok (.aaload, 1) := by decide +kernel
theorem dX4_row_31 : decode cX4_row 31 = .ok (.iconst 0, 1) := by decide +kernel
theorem dX4_row_32 : decode cX4_row 32 = .ok (.invokestatic 77, 3) := by decide +kernel
theorem dX4_row_35 : decode cX4_row 35 = .ok (.aload_n 0, 1) := by decide +kernel
theorem dX4_row_36 : decode cX4_row 36 = .ok (.getfield 14, 3) := by decide +kernel
theorem dX4_row_39 : decode cX4_row 39 = .ok (.iload_n 1, 1) := by decide +kernel
theorem dX4_row_40 : decode cX4_row 40 = .ok (.iload_n 2, 1) := by decide +kernel
theorem dX4_row_41 : decode cX4_row 41 = .ok (.iastore, 1) := by decide +kernel
theorem dX4_row_42 : decode cX4_row 42 = .ok (.iload_n 2, 1) := by decide +kernel
theorem dX4_row_43 : decode cX4_row 43 = .ok (.ireturn, 1) := by decide +kernel
theorem dX4_lay_0 : decode cX4_lay 0 = .ok (.iload_n 1, 1) := by decide +kernel
theorem dX4_lay_1 : decode cX4_lay 1 = .ok (.invokestatic 83, 3) := by decide +kernel
theorem dX4_lay_4 : decode cX4_lay 4 = .ok (.ifCond .ne 5, 3) := by decide +kernel
theorem dX4_lay_7 : decode cX4_lay 7 = .ok (.iconst (-1), 1) := by decide +kernel
theorem dX4_lay_8 : decode cX4_lay 8 = .ok (.ireturn, 1) := by decide +kernel
theorem dX4_lay_9 : decode cX4_lay 9 = .ok (.aload_n 0, 1) := by decide +kernel
theorem dX4_lay_10 : decode cX4_lay 10 = .ok (.getfield 14, 3) := by decide +kernel
theorem dX4_lay_13 : decode cX4_lay 13 = .ok (.iload_n 1, 1) := by decide +kernel
theorem dX4_lay_14 : decode cX4_lay 14 = .ok (.iaload, 1) := by decide +kernel
theorem dX4_lay_15 : decode cX4_lay 15 = .ok (.iconst (-1), 1) := by decide +kernel
theorem dX4_lay_16 : decode cX4_lay 16 = .ok (.if_icmp .ne 9, 3) := by decide +kernel
theorem dX4_lay_19 : decode cX4_lay 19 = .ok (.aload_n 0, 1) := by decide +kernel
theorem dX4_lay_20 : decode cX4_lay 20 = .ok (.iconst 1, 1) := by decide +kernel
theorem dX4_lay_21 : decode cX4_lay 21 = .ok (.invokevirtual 87, 3) := by decide +kernel
theorem dX4_lay_24 : decode cX4_lay 24 = .ok (.ireturn, 1) := by decide +kernel
theorem dX4_lay_25 : decode cX4_lay 25 = .ok (.iload_n 2, 1) := by decide +kernel
theorem dX4_lay_26 : decode cX4_lay 26 = .ok (.ifCond .lt 13, 3) := by decide +kernel
theorem dX4_lay_29 : decode cX4_lay 29 = .ok (.iload_n 2, 1) := by decide +kernel
theorem dX4_lay_30 : decode cX4_lay 30 = .ok (.aload_n 0, 1) := by decide +kernel
theorem dX4_lay_31 : decode cX4_lay 31 = .ok (.getfield 14, 3) := by decide +kernel
theorem dX4_lay_34 : decode cX4_lay 34 = .ok (.iload_n 1, 1) := by decide +kernel
theorem dX4_lay_35 : decode cX4_lay 35 = .ok (.iaload, 1) := by decide +kernel
theorem dX4_lay_36 : decode cX4_lay 36 = .ok (.if_icmp .lt 9, 3) := by decide +kernel
theorem dX4_lay_39 : decode cX4_lay 39 = .ok (.aload_n 0, 1) := by decide +kernel
theorem dX4_lay_40 : decode cX4_lay 40 = .ok (.iconst 2, 1) := by decide +kernel
theorem dX4_lay_41 : decode cX4_lay 41 = .ok (.invokevirtual 87, 3) := by decide +kernel
theorem dX4_lay_44 : decode cX4_lay 44 = .ok (.ireturn, 1) := by decide +kernel
theorem dX4_lay_45 : decode cX4_lay 45 = .ok (.aload_n 0, 1) := by decide +kernel
theorem dX4_lay_46 : decode cX4_lay 46 = .ok (.getfield 11, 3) := by decide +kernel
theorem dX4_lay_49 : decode cX4_lay 49 = .ok (.iload_n 1, 1) := by decide +kernel
theorem dX4_lay_50 : decode cX4_lay 50 = .ok (.aaload, 1) := by decide +kernel
theorem dX4_lay_51 : decode cX4_lay 51 = .ok (.iload_n 2, 1) := by decide +kernel
theorem dX4_lay_52 : decode cX4_lay 52 = .ok (.iaload, 1) := by decide +kernel
theorem dX4_lay_53 : decode cX4_lay 53 = .ok (.istore 4, 2) := by decide +kernel
theorem dX4_lay_55 : decode cX4_lay 55 = .ok (.aload_n 0, 1) := by decide +kernel
theorem dX4_lay_56 : decode cX4_lay 56 = .ok (.getfield 11, 3) := by decide +kernel
theorem dX4_lay_59 : decode cX4_lay 59 = .ok (.iload_n 1, 1) := by decide +kernel
theorem dX4_lay_60 : decode cX4_lay 60 = .ok (.aaload, 1) := by decide +kernel
theorem dX4_lay_61 : decode cX4_lay 61 = .ok (.iload_n 2, 1) := by decide +kernel
theorem dX4_lay_62 : decode cX4_lay 62 = .ok (.iload_n 3, 1) := by decide +kernel
theorem dX4_lay_63 : decode cX4_lay 63 = .ok (.iastore, 1) := by decide +kernel
theorem dX4_lay_64 : decode cX4_lay 64 = .ok (.aload_n 0, 1) := by decide +kernel
theorem dX4_lay_65 : decode cX4_lay 65 = .ok (.iload 4, 2) := by decide +kernel
theorem dX4_lay_67 : decode cX4_lay 67 = .ok (.invokevirtual 91, 3) := by decide +kernel
theorem dX4_lay_70 : decode cX4_lay 70 = .ok (.ireturn, 1) := by decide +kernel
theorem dX4_at_0 : decode cX4_at 0 = .ok (.iload_n 1, 1) := by decide +kernel
theorem dX4_at_1 : decode cX4_at 1 = .ok (.invokestatic 83, 3) := by decide +kernel
theorem dX4_at_4 : decode cX4_at 4 = .ok (.ifCond .ne 5, 3) := by decide +kernel
theorem dX4_at_7 : decode cX4_at 7 = .ok (.iconst (-1), 1) := by decide +kernel
theorem dX4_at_8 : decode cX4_at 8 = .ok (.ireturn, 1) := by decide +kernel
theorem dX4_at_9 : decode cX4_at 9 = .ok (.aload_n 0, 1) := by decide +kernel
theorem dX4_at_10 : decode cX4_at 10 = .ok (.getfield 14, 3) := by decide +kernel
theorem dX4_at_13 : decode cX4_at 13 = .ok (.iload_n 1, 1) := by decide +kernel
theorem dX4_at_14 : decode cX4_at 14 = .ok (.iaload, 1) := by decide +kernel
theorem dX4_at_15 : decode cX4_at 15 = .ok (.iconst (-1), 1) := by decide +kernel
theorem dX4_at_16 : decode cX4_at 16 = .ok (.if_icmp .ne 9, 3) := by decide +kernel
theorem dX4_at_19 : decode cX4_at 19 = .ok (.aload_n 0, 1) := by decide +kernel
theorem dX4_at_20 : decode cX4_at 20 = .ok (.iconst 1, 1) := by decide +kernel
theorem dX4_at_21 : decode cX4_at 21 = .ok (.invokevirtual 87, 3) := by decide +kernel
theorem dX4_at_24 : decode cX4_at 24 = .ok (.ireturn, 1) := by decide +kernel
theorem dX4_at_25 : decode cX4_at 25 = .ok (.iload_n 2, 1) := by decide +kernel
theorem dX4_at_26 : decode cX4_at 26 = .ok (.ifCond .lt 13, 3) := by decide +kernel
theorem dX4_at_29 : decode cX4_at 29 = .ok (.iload_n 2, 1) := by decide +kernel
theorem dX4_at_30 : decode cX4_at 30 = .ok (.aload_n 0, 1) := by decide +kernel
theorem dX4_at_31 : decode cX4_at 31 = .ok (.getfield 14, 3) := by decide +kernel
theorem dX4_at_34 : decode cX4_at 34 = .ok (.iload_n 1, 1) := by decide +kernel
theorem dX4_at_35 : decode cX4_at 35 = .ok (.iaload, 1) := by decide +kernel
theorem dX4_at_36 : decode cX4_at 36 = .ok (.if_icmp .lt 9, 3) := by decide +kernel
theorem dX4_at_39 : decode cX4_at 39 = .ok (.aload_n 0, 1) := by decide +kernel
theorem dX4_at_40 : decode cX4_at 40 = .ok (.iconst 2, 1) := by decide +kernel
theorem dX4_at_41 : decode cX4_at 41 = .ok (.invokevirtual 87, 3) := by decide +kernel
theorem dX4_at_44 : decode cX4_at 44 = .ok (.ireturn, 1) := by decide +kernel
theorem dX4_at_45 : decode cX4_at 45 = .ok (.aload_n 0, 1) := by decide +kernel
theorem dX4_at_46 : decode cX4_at 46 = .ok (.aload_n 0, 1) := by decide +kernel
theorem dX4_at_47 : decode cX4_at 47 = .ok (.getfield 11, 3) := by decide +kernel
theorem dX4_at_50 : decode cX4_at 50 = .ok (.iload_n 1, 1) := by decide +kernel
theorem dX4_at_51 : decode cX4_at 51 = .ok (.aaload, 1) := by decide +kernel
theorem dX4_at_52 : decode cX4_at 52 = .ok (.iload_n 2, 1) := by decide +kernel
theorem dX4_at_53 : decode cX4_at 53 = .ok (.iaload, 1) := by decide +kernel
theorem dX4_at_54 : decode cX4_at 54 = .ok (.invokevirtual 91, 3) := by decide +kernel
theorem dX4_at_57 : decode cX4_at 57 = .ok (.ireturn, 1) := by decide +kernel
theorem dX4_tear_0 : decode cX4_tear 0 = .ok (.iload_n 1, 1) := by decide +kernel
theorem dX4_tear_1 : decode cX4_tear 1 = .ok (.invokestatic 83, 3) := by decide +kernel
theorem dX4_tear_4 : decode cX4_tear 4 = .ok (.ifCond .ne 5, 3) := by decide +kernel
theorem dX4_tear_7 : decode cX4_tear 7 = .ok (.iconst (-1), 1) := by decide +kernel
theorem dX4_tear_8 : decode cX4_tear 8 = .ok (.ireturn, 1) := by decide +kernel
theorem dX4_tear_9 : decode cX4_tear 9 = .ok (.aload_n 0, 1) := by decide +kernel
theorem dX4_tear_10 : decode cX4_tear 10 = .ok (.getfield 14, 3) := by decide +kernel
theorem dX4_tear_13 : decode cX4_tear 13 = .ok (.iload_n 1, 1) := by decide +kernel
theorem dX4_tear_14 : decode cX4_tear 14 = .ok (.iaload, 1) := by decide +kernel
theorem dX4_tear_15 : decode cX4_tear 15 = .ok (.iconst (-1), 1) := by decide +kernel
theorem dX4_tear_16 : decode cX4_tear 16 = .ok (.if_icmp .ne 9, 3) := by decide +kernel
theorem dX4_tear_19 : decode cX4_tear 19 = .ok (.aload_n 0, 1) := by decide +kernel
theorem dX4_tear_20 : decode cX4_tear 20 = .ok (.iconst 1, 1) := by decide +kernel
theorem dX4_tear_21 : decode cX4_tear 21 = .ok (.invokevirtual 87, 3) := by decide +kernel
theorem dX4_tear_24 : decode cX4_tear 24 = .ok (.ireturn, 1) := by decide +kernel
theorem dX4_tear_25 : decode cX4_tear 25 = .ok (.aload_n 0, 1) := by decide +kernel
theorem dX4_tear_26 : decode cX4_tear 26 = .ok (.getfield 14, 3) := by decide +kernel
theorem dX4_tear_29 : decode cX4_tear 29 = .ok (.iload_n 1, 1) := by decide +kernel
theorem dX4_tear_30 : decode cX4_tear 30 = .ok (.iconst (-1), 1) := by decide +kernel
theorem dX4_tear_31 : decode cX4_tear 31 = .ok (.iastore, 1) := by decide +kernel
theorem dX4_tear_32 : decode cX4_tear 32 = .ok (.iconst 1, 1) := by decide +kernel
theorem dX4_tear_33 : decode cX4_tear 33 = .ok (.ireturn, 1) := by decide +kernel
theorem dX4_copy_0 : decode cX4_copy 0 = .ok (.iload_n 1, 1) := by decide +kernel
theorem dX4_copy_1 : decode cX4_copy 1 = .ok (.invokestatic 83, 3) := by decide +kernel
theorem dX4_copy_4 : decode cX4_copy 4 = .ok (.ifCond .eq 10, 3) := by decide +kernel
theorem dX4_copy_7 : decode cX4_copy 7 = .ok (.iload_n 3, 1) := by decide +kernel
theorem dX4_copy_8 : decode cX4_copy 8 = .ok (.invokestatic 83, 3) := by decide +kernel
theorem dX4_copy_11 : decode cX4_copy 11 = .ok (.ifCond .ne 5, 3) := by decide +kernel
theorem dX4_copy_14 : decode cX4_copy 14 = .ok (.iconst (-1), 1) := by decide +kernel
theorem dX4_copy_15 : decode cX4_copy 15 = .ok (.ireturn, 1) := by decide +kernel
theorem dX4_copy_16 : decode cX4_copy 16 = .ok (.iload 5, 2) := by decide +kernel
theorem dX4_copy_18 : decode cX4_copy 18 = .ok (.ifCond .ge 9, 3) := by decide +kernel
theorem dX4_copy_21 : decode cX4_copy 21 = .ok (.aload_n 0, 1) := by decide +kernel
theorem dX4_copy_22 : decode cX4_copy 22 = .ok (.iconst 5, 1) := by decide +kernel
theorem dX4_copy_23 : decode cX4_copy 23 = .ok (.invokevirtual 87, 3) := by decide +kernel
theorem dX4_copy_26 : decode cX4_copy 26 = .ok (.ireturn, 1) := by decide +kernel
theorem dX4_copy_27 : decode cX4_copy 27 = .ok (.aload_n 0, 1) := by decide +kernel
theorem dX4_copy_28 : decode cX4_copy 28 = .ok (.getfield 14, 3) := by decide +kernel
theorem dX4_copy_31 : decode cX4_copy 31 = .ok (.iload_n 1, 1) := by decide +kernel
theorem dX4_copy_32 : decode cX4_copy 32 = .ok (.iaload, 1) := by decide +kernel
theorem dX4_copy_33 : decode cX4_copy 33 = .ok (.iconst (-1), 1) := by decide +kernel
theorem dX4_copy_34 : decode cX4_copy 34 = .ok (.if_icmp .eq 13, 3) := by decide +kernel
theorem dX4_copy_37 : decode cX4_copy 37 = .ok (.aload_n 0, 1) := by decide +kernel
theorem dX4_copy_38 : decode cX4_copy 38 = .ok (.getfield 14, 3) := by decide +kernel
theorem dX4_copy_41 : decode cX4_copy 41 = .ok (.iload_n 3, 1) := by decide +kernel
theorem dX4_copy_42 : decode cX4_copy 42 = .ok (.iaload, 1) := by decide +kernel
theorem dX4_copy_43 : decode cX4_copy 43 = .ok (.iconst (-1), 1) := by decide +kernel
theorem dX4_copy_44 : decode cX4_copy 44 = .ok (.if_icmp .ne 9, 3) := by decide +kernel
theorem dX4_copy_47 : decode cX4_copy 47 = .ok (.aload_n 0, 1) := by decide +kernel
theorem dX4_copy_48 : decode cX4_copy 48 = .ok (.iconst 1, 1) := by decide +kernel
theorem dX4_copy_49 : decode cX4_copy 49 = .ok (.invokevirtual 87, 3) := by decide +kernel
theorem dX4_copy_52 : decode cX4_copy 52 = .ok (.ireturn, 1) := by decide +kernel
theorem dX4_copy_53 : decode cX4_copy 53 = .ok (.aload_n 0, 1) := by decide +kernel
theorem dX4_copy_54 : decode cX4_copy 54 = .ok (.getfield 14, 3) := by decide +kernel
theorem dX4_copy_57 : decode cX4_copy 57 = .ok (.iload_n 1, 1) := by decide +kernel
theorem dX4_copy_58 : decode cX4_copy 58 = .ok (.iaload, 1) := by decide +kernel
theorem dX4_copy_59 : decode cX4_copy 59 = .ok (.iload_n 2, 1) := by decide +kernel
theorem dX4_copy_60 : decode cX4_copy 60 = .ok (.iload 5, 2) := by decide +kernel
theorem dX4_copy_62 : decode cX4_copy 62 = .ok (.invokestatic 94, 3) := by decide +kernel
theorem dX4_copy_65 : decode cX4_copy 65 = .ok (.ifCond .eq 19, 3) := by decide +kernel
theorem dX4_copy_68 : decode cX4_copy 68 = .ok (.aload_n 0, 1) := by decide +kernel
theorem dX4_copy_69 : decode cX4_copy 69 = .ok (.getfield 14, 3) := by decide +kernel
theorem dX4_copy_72 : decode cX4_copy 72 = .ok (.iload_n 3, 1) := by decide +kernel
theorem dX4_copy_73 : decode cX4_copy 73 = .ok (.iaload, 1) := by decide +kernel
theorem dX4_copy_74 : decode cX4_copy 74 = .ok (.iload 4, 2) := by decide +kernel
theorem dX4_copy_76 : decode cX4_copy 76 = .ok (.iload 5, 2) := by decide +kernel
theorem dX4_copy_78 : decode cX4_copy 78 = .ok (.invokestatic 94, 3) := by decide +kernel
theorem dX4_copy_81 : decode cX4_copy 81 = .ok (.ifCond .ne 9, 3) := by decide +kernel
theorem dX4_copy_84 : decode cX4_copy 84 = .ok (.aload_n 0, 1) := by decide +kernel
theorem dX4_copy_85 : decode cX4_copy 85 = .ok (.iconst 2, 1) := by decide +kernel
theorem dX4_copy_86 : decode cX4_copy 86 = .ok (.invokevirtual 87, 3) := by decide +kernel
theorem dX4_copy_89 : decode cX4_copy 89 = .ok (.ireturn, 1) := by decide +kernel
theorem dX4_copy_90 : decode cX4_copy 90 = .ok (.aload_n 0, 1) := by decide +kernel
theorem dX4_copy_91 : decode cX4_copy 91 = .ok (.getfield 11, 3) := by decide +kernel
theorem dX4_copy_94 : decode cX4_copy 94 = .ok (.iload_n 1, 1) := by decide +kernel
theorem dX4_copy_95 : decode cX4_copy 95 = .ok (.aaload, 1) := by decide +kernel
theorem dX4_copy_96 : decode cX4_copy 96 = .ok (.iload_n 2, 1) := by decide +kernel
theorem dX4_copy_97 : decode cX4_copy 97 = .ok (.aload_n 0, 1) := by decide +kernel
theorem dX4_copy_98 : decode cX4_copy 98 = .ok (.getfield 11, 3) := by decide +kernel
theorem dX4_copy_101 : decode cX4_copy 101 = .ok (.iload_n 3, 1) := by decide +kernel
theorem dX4_copy_102 : decode cX4_copy 102 = .ok (.aaload, 1) := by decide +kernel
theorem dX4_copy_103 : decode cX4_copy 103 = .ok (.iload 4, 2) := by decide +kernel
theorem dX4_copy_105 : decode cX4_copy 105 = .ok (.iload 5, 2) := by decide +kernel
theorem dX4_copy_107 : decode cX4_copy 107 = .ok (.invokestatic 98, 3) := by decide +kernel
theorem dX4_copy_110 : decode cX4_copy 110 = .ok (.iconst 1, 1) := by decide +kernel
theorem dX4_copy_111 : decode cX4_copy 111 = .ok (.ireturn, 1) := by decide +kernel
theorem dX4_mean_0 : decode cX4_mean 0 = .ok (.iload_n 1, 1) := by decide +kernel
theorem dX4_mean_1 : decode cX4_mean 1 = .ok (.invokestatic 83, 3) := by decide +kernel
theorem dX4_mean_4 : decode cX4_mean 4 = .ok (.ifCond .ne 5, 3) := by decide +kernel
theorem dX4_mean_7 : decode cX4_mean 7 = .ok (.iconst (-1), 1) := by decide +kernel
theorem dX4_mean_8 : decode cX4_mean 8 = .ok (.ireturn, 1) := by decide +kernel
theorem dX4_mean_9 : decode cX4_mean 9 = .ok (.aload_n 0, 1) := by decide +kernel
theorem dX4_mean_10 : decode cX4_mean 10 = .ok (.getfield 14, 3) := by decide +kernel
theorem dX4_mean_13 : decode cX4_mean 13 = .ok (.iload_n 1, 1) := by decide +kernel
theorem dX4_mean_14 : decode cX4_mean 14 = .ok (.iaload, 1) := by decide +kernel
theorem dX4_mean_15 : decode cX4_mean 15 = .ok (.istore_n 2, 1) := by decide +kernel
theorem dX4_mean_16 : decode cX4_mean 16 = .ok (.iload_n 2, 1) := by decide +kernel
theorem dX4_mean_17 : decode cX4_mean 17 = .ok (.iconst (-1), 1) := by decide +kernel
theorem dX4_mean_18 : decode cX4_mean 18 = .ok (.if_icmp .ne 9, 3) := by decide +kernel
theorem dX4_mean_21 : decode cX4_mean 21 = .ok (.aload_n 0, 1) := by decide +kernel
theorem dX4_mean_22 : decode cX4_mean 22 = .ok (.iconst 1, 1) := by decide +kernel
theorem dX4_mean_23 : decode cX4_mean 23 = .ok (.invokevirtual 87, 3) := by decide +kernel
theorem dX4_mean_26 : decode cX4_mean 26 = .ok (.ireturn, 1) := by decide +kernel
theorem dX4_mean_27 : decode cX4_mean 27 = .ok (.iload_n 2, 1) := by decide +kernel
theorem dX4_mean_28 : decode cX4_mean 28 = .ok (.ifCond .ne 9, 3) := by decide +kernel
theorem dX4_mean_31 : decode cX4_mean 31 = .ok (.aload_n 0, 1) := by decide +kernel
theorem dX4_mean_32 : decode cX4_mean 32 = .ok (.iconst 4, 1) := by decide +kernel
theorem dX4_mean_33 : decode cX4_mean 33 = .ok (.invokevirtual 87, 3) := by decide +kernel
theorem dX4_mean_36 : decode cX4_mean 36 = .ok (.ireturn, 1) := by decide +kernel
theorem dX4_mean_37 : decode cX4_mean 37 = .ok (.lconst 0, 1) := by decide +kernel
theorem dX4_mean_38 : decode cX4_mean 38 = .ok (.lstore_n 3, 1) := by decide +kernel
theorem dX4_mean_39 : decode cX4_mean 39 = .ok (.iconst 0, 1) := by decide +kernel
theorem dX4_mean_40 : decode cX4_mean 40 = .ok (.istore 5, 2) := by decide +kernel
theorem dX4_mean_42 : decode cX4_mean 42 = .ok (.iload 5, 2) := by decide +kernel
theorem dX4_mean_44 : decode cX4_mean 44 = .ok (.iload_n 2, 1) := by decide +kernel
theorem dX4_mean_45 : decode cX4_mean 45 = .ok (.if_icmp .ge 22, 3) := by decide +kernel
theorem dX4_mean_48 : decode cX4_mean 48 = .ok (.lload_n 3, 1) := by decide +kernel
theorem dX4_mean_49 : decode cX4_mean 49 = .ok (.aload_n 0, 1) := by decide +kernel
theorem dX4_mean_50 : decode cX4_mean 50 = .ok (.getfield 11, 3) := by decide +kernel
theorem dX4_mean_53 : decode cX4_mean 53 = .ok (.iload_n 1, 1) := by decide +kernel
theorem dX4_mean_54 : decode cX4_mean 54 = .ok (.aaload, 1) := by decide +kernel
theorem dX4_mean_55 : decode cX4_mean 55 = .ok (.iload 5, 2) := by decide +kernel
theorem dX4_mean_57 : decode cX4_mean 57 = .ok (.iaload, 1) := by decide +kernel
theorem dX4_mean_58 : decode cX4_mean 58 = .ok (.i2l, 1) := by decide +kernel
theorem dX4_mean_59 : decode cX4_mean 59 = .ok (.ladd, 1) := by decide +kernel
theorem dX4_mean_60 : decode cX4_mean 60 = .ok (.lstore_n 3, 1) := by decide +kernel
theorem dX4_mean_61 : decode cX4_mean 61 = .ok (.iinc 5 1, 3) := by decide +kernel
theorem dX4_mean_64 : decode cX4_mean 64 = .ok (.goto (-22), 3) := by decide +kernel
theorem dX4_mean_67 : decode cX4_mean 67 = .ok (.aload_n 0, 1) := by decide +kernel
theorem dX4_mean_68 : decode cX4_mean 68 = .ok (.lload_n 3, 1) := by decide +kernel
theorem dX4_mean_69 : decode cX4_mean 69 = .ok (.iload_n 2, 1) := by decide +kernel
theorem dX4_mean_70 : decode cX4_mean 70 = .ok (.i2l, 1) := by decide +kernel
theorem dX4_mean_71 : decode cX4_mean 71 = .ok (.ldiv, 1) := by decide +kernel
theorem dX4_mean_72 : decode cX4_mean 72 = .ok (.l2i, 1) := by decide +kernel
theorem dX4_mean_73 : decode cX4_mean 73 = .ok (.invokevirtual 91, 3) := by decide +kernel
theorem dX4_mean_76 : decode cX4_mean 76 = .ok (.ireturn, 1) := by decide +kernel
theorem dX4_text_0 : decode cX4_text 0 = .ok (.iload_n 1, 1) := by decide +kernel
theorem dX4_text_1 : decode cX4_text 1 = .ok (.invokestatic 104, 3) := by decide +kernel
theorem dX4_text_4 : decode cX4_text 4 = .ok (.ifCond .eq 9, 3) := by decide +kernel
theorem dX4_text_7 : decode cX4_text 7 = .ok (.iload_n 2, 1) := by decide +kernel
theorem dX4_text_8 : decode cX4_text 8 = .ok (.bipush 60, 2) := by decide +kernel
theorem dX4_text_10 : decode cX4_text 10 = .ok (.if_icmp .le 5, 3) := by decide +kernel
theorem dX4_text_13 : decode cX4_text 13 = .ok (.iconst (-1), 1) := by decide +kernel
theorem dX4_text_14 : decode cX4_text 14 = .ok (.ireturn, 1) := by decide +kernel
theorem dX4_text_15 : decode cX4_text 15 = .ok (.iload_n 2, 1) := by decide +kernel
theorem dX4_text_16 : decode cX4_text 16 = .ok (.ifCond .ge 9, 3) := by decide +kernel
theorem dX4_text_19 : decode cX4_text 19 = .ok (.aload_n 0, 1) := by decide +kernel
theorem dX4_text_20 : decode cX4_text 20 = .ok (.iconst 5, 1) := by decide +kernel
theorem dX4_text_21 : decode cX4_text 21 = .ok (.invokevirtual 87, 3) := by decide +kernel
theorem dX4_text_24 : decode cX4_text 24 = .ok (.ireturn, 1) := by decide +kernel
theorem dX4_text_25 : decode cX4_text 25 = .ok (.aload_n 0, 1) := by decide +kernel
theorem dX4_text_26 : decode cX4_text 26 = .ok (.getfield 20, 3) := by decide +kernel
theorem dX4_text_29 : decode cX4_text 29 = .ok (.iload_n 1, 1) := by decide +kernel
theorem dX4_text_30 : decode cX4_text 30 = .ok (.aaload, 1) := by decide +kernel
theorem dX4_text_31 : decode cX4_text 31 = .ok (.bipush 32, 2) := by decide +kernel
theorem dX4_text_33 : decode cX4_text 33 = .ok (.invokestatic 107, 3) := by decide +kernel
theorem dX4_text_36 : decode cX4_text 36 = .ok (.aload_n 0, 1) := by decide +kernel
theorem dX4_text_37 : decode cX4_text 37 = .ok (.getfield 23, 3) := by decide +kernel
theorem dX4_text_40 : decode cX4_text 40 = .ok (.iload_n 1, 1) := by decide +kernel
theorem dX4_text_41 : decode cX4_text 41 = .ok (.iload_n 2, 1) := by decide +kernel
theorem dX4_text_42 : decode cX4_text 42 = .ok (.iastore, 1) := by decide +kernel
theorem dX4_text_43 : decode cX4_text 43 = .ok (.iload_n 2, 1) := by decide +kernel
theorem dX4_text_44 : decode cX4_text 44 = .ok (.ireturn, 1) := by decide +kernel
theorem dX4_put_0 : decode cX4_put 0 = .ok (.iload_n 1, 1) := by decide +kernel
theorem dX4_put_1 : decode cX4_put 1 = .ok (.invokestatic 104, 3) := by decide +kernel
theorem dX4_put_4 : decode cX4_put 4 = .ok (.ifCond .ne 5, 3) := by decide +kernel
theorem dX4_put_7 : decode cX4_put 7 = .ok (.iconst (-1), 1) := by decide +kernel
theorem dX4_put_8 : decode cX4_put 8 = .ok (.ireturn, 1) := by decide +kernel
theorem dX4_put_9 : decode cX4_put 9 = .ok (.aload_n 0, 1) := by decide +kernel
theorem dX4_put_10 : decode cX4_put 10 = .ok (.getfield 23, 3) := by decide +kernel
theorem dX4_put_13 : decode cX4_put 13 = .ok (.iload_n 1, 1) := by decide +kernel
theorem dX4_put_14 : decode cX4_put 14 = .ok (.iaload, 1) := by decide +kernel
theorem dX4_put_15 : decode cX4_put 15 = .ok (.iconst (-1), 1) := by decide +kernel
theorem dX4_put_16 : decode cX4_put 16 = .ok (.if_icmp .ne 9, 3) := by decide +kernel
theorem dX4_put_19 : decode cX4_put 19 = .ok (.aload_n 0, 1) := by decide +kernel
theorem dX4_put_20 : decode cX4_put 20 = .ok (.iconst 1, 1) := by decide +kernel
theorem dX4_put_21 : decode cX4_put 21 = .ok (.invokevirtual 87, 3) := by decide +kernel
theorem dX4_put_24 : decode cX4_put 24 = .ok (.ireturn, 1) := by decide +kernel
theorem dX4_put_25 : decode cX4_put 25 = .ok (.iload_n 2, 1) := by decide +kernel
theorem dX4_put_26 : decode cX4_put 26 = .ok (.ifCond .lt 13, 3) := by decide +kernel
theorem dX4_put_29 : decode cX4_put 29 = .ok (.iload_n 2, 1) := by decide +kernel
theorem dX4_put_30 : decode cX4_put 30 = .ok (.aload_n 0, 1) := by decide +kernel
theorem dX4_put_31 : decode cX4_put 31 = .ok (.getfield 23, 3) := by decide +kernel
theorem dX4_put_34 : decode cX4_put 34 = .ok (.iload_n 1, 1) := by decide +kernel
theorem dX4_put_35 : decode cX4_put 35 = .ok (.iaload, 1) := by decide +kernel
theorem dX4_put_36 : decode cX4_put 36 = .ok (.if_icmp .lt 9, 3) := by decide +kernel
theorem dX4_put_39 : decode cX4_put 39 = .ok (.aload_n 0, 1) := by decide +kernel
theorem dX4_put_40 : decode cX4_put 40 = .ok (.iconst 2, 1) := by decide +kernel
theorem dX4_put_41 : decode cX4_put 41 = .ok (.invokevirtual 87, 3) := by decide +kernel
theorem dX4_put_44 : decode cX4_put 44 = .ok (.ireturn, 1) := by decide +kernel
theorem dX4_put_45 : decode cX4_put 45 = .ok (.aload_n 0, 1) := by decide +kernel
theorem dX4_put_46 : decode cX4_put 46 = .ok (.getfield 20, 3) := by decide +kernel
theorem dX4_put_49 : decode cX4_put 49 = .ok (.iload_n 1, 1) := by decide +kernel
theorem dX4_put_50 : decode cX4_put 50 = .ok (.aaload, 1) := by decide +kernel
theorem dX4_put_51 : decode cX4_put 51 = .ok (.iload_n 2, 1) := by decide +kernel
theorem dX4_put_52 : decode cX4_put 52 = .ok (.baload, 1) := by decide +kernel
theorem dX4_put_53 : decode cX4_put 53 = .ok (.istore 4, 2) := by decide +kernel
theorem dX4_put_55 : decode cX4_put 55 = .ok (.aload_n 0, 1) := by decide +kernel
theorem dX4_put_56 : decode cX4_put 56 = .ok (.getfield 20, 3) := by decide +kernel
theorem dX4_put_59 : decode cX4_put 59 = .ok (.iload_n 1, 1) := by decide +kernel
theorem dX4_put_60 : decode cX4_put 60 = .ok (.aaload, 1) := by decide +kernel
theorem dX4_put_61 : decode cX4_put 61 = .ok (.iload_n 2, 1) := by decide +kernel
theorem dX4_put_62 : decode cX4_put 62 = .ok (.iload_n 3, 1) := by decide +kernel
theorem dX4_put_63 : decode cX4_put 63 = .ok (.i2b, 1) := by decide +kernel
theorem dX4_put_64 : decode cX4_put 64 = .ok (.bastore, 1) := by decide +kernel
theorem dX4_put_65 : decode cX4_put 65 = .ok (.iload 4, 2) := by decide +kernel
theorem dX4_put_67 : decode cX4_put 67 = .ok (.sipush 1000, 3) := by decide +kernel
theorem dX4_put_70 : decode cX4_put 70 = .ok (.iadd, 1) := by decide +kernel
theorem dX4_put_71 : decode cX4_put 71 = .ok (.ireturn, 1) := by decide +kernel
theorem dX4_fault_0 : decode cX4_fault 0 = .ok (.iload_n 1, 1) := by decide +kernel
theorem dX4_fault_1 : decode cX4_fault 1 = .ok (.invokestatic 104, 3) := by decide +kernel
theorem dX4_fault_4 : decode cX4_fault 4 = .ok (.ifCond .ne 5, 3) := by decide +kernel
theorem dX4_fault_7 : decode cX4_fault 7 = .ok (.iconst (-1), 1) := by decide +kernel
theorem dX4_fault_8 : decode cX4_fault 8 = .ok (.ireturn, 1) := by decide +kernel
theorem dX4_fault_9 : decode cX4_fault 9 = .ok (.aload_n 0, 1) := by decide +kernel
theorem dX4_fault_10 : decode cX4_fault 10 = .ok (.getfield 23, 3) := by decide +kernel
theorem dX4_fault_13 : decode cX4_fault 13 = .ok (.iload_n 1, 1) := by decide +kernel
theorem dX4_fault_14 : decode cX4_fault 14 = .ok (.iaload, 1) := by decide +kernel
theorem dX4_fault_15 : decode cX4_fault 15 = .ok (.iconst (-1), 1) := by decide +kernel
theorem dX4_fault_16 : decode cX4_fault 16 = .ok (.if_icmp .ne 9, 3) := by decide +kernel
theorem dX4_fault_19 : decode cX4_fault 19 = .ok (.aload_n 0, 1) := by decide +kernel
theorem dX4_fault_20 : decode cX4_fault 20 = .ok (.iconst 1, 1) := by decide +kernel
theorem dX4_fault_21 : decode cX4_fault 21 = .ok (.invokevirtual 87, 3) := by decide +kernel
theorem dX4_fault_24 : decode cX4_fault 24 = .ok (.ireturn, 1) := by decide +kernel
theorem dX4_fault_25 : decode cX4_fault 25 = .ok (.aload_n 0, 1) := by decide +kernel
theorem dX4_fault_26 : decode cX4_fault 26 = .ok (.getfield 35, 3) := by decide +kernel
theorem dX4_fault_29 : decode cX4_fault 29 = .ok (.aload_n 0, 1) := by decide +kernel
theorem dX4_fault_30 : decode cX4_fault 30 = .ok (.getfield 20, 3) := by decide +kernel
theorem dX4_fault_33 : decode cX4_fault 33 = .ok (.iload_n 1, 1) := by decide +kernel
theorem dX4_fault_34 : decode cX4_fault 34 = .ok (.aaload, 1) := by decide +kernel
theorem dX4_fault_35 : decode cX4_fault 35 = .ok (.aload_n 0, 1) := by decide +kernel
theorem dX4_fault_36 : decode cX4_fault 36 = .ok (.getfield 23, 3) := by decide +kernel
theorem dX4_fault_39 : decode cX4_fault 39 = .ok (.iload_n 1, 1) := by decide +kernel
theorem dX4_fault_40 : decode cX4_fault 40 = .ok (.iaload, 1) := by decide +kernel
theorem dX4_fault_41 : decode cX4_fault 41 = .ok (.invokevirtual 110, 3) := by decide +kernel
theorem dX4_fault_44 : decode cX4_fault 44 = .ok (.ireturn, 1) := by decide +kernel
theorem dX4_canal_0 : decode cX4_canal 0 = .ok (.iload_n 1, 1) := by decide +kernel
theorem dX4_canal_1 : decode cX4_canal 1 = .ok (.invokestatic 104, 3) := by decide +kernel
theorem dX4_canal_4 : decode cX4_canal 4 = .ok (.ifCond .ne 5, 3) := by decide +kernel
theorem dX4_canal_7 : decode cX4_canal 7 = .ok (.iconst (-1), 1) := by decide +kernel
theorem dX4_canal_8 : decode cX4_canal 8 = .ok (.ireturn, 1) := by decide +kernel
theorem dX4_canal_9 : decode cX4_canal 9 = .ok (.aload_n 0, 1) := by decide +kernel
theorem dX4_canal_10 : decode cX4_canal 10 = .ok (.getfield 23, 3) := by decide +kernel
theorem dX4_canal_13 : decode cX4_canal 13 = .ok (.iload_n 1, 1) := by decide +kernel
theorem dX4_canal_14 : decode cX4_canal 14 = .ok (.iaload, 1) := by decide +kernel
theorem dX4_canal_15 : decode cX4_canal 15 = .ok (.iconst (-1), 1) := by decide +kernel
theorem dX4_canal_16 : decode cX4_canal 16 = .ok (.if_icmp .ne 9, 3) := by decide +kernel
theorem dX4_canal_19 : decode cX4_canal 19 = .ok (.aload_n 0, 1) := by decide +kernel
theorem dX4_canal_20 : decode cX4_canal 20 = .ok (.iconst 1, 1) := by decide +kernel
theorem dX4_canal_21 : decode cX4_canal 21 = .ok (.invokevirtual 87, 3) := by decide +kernel
theorem dX4_canal_24 : decode cX4_canal 24 = .ok (.ireturn, 1) := by decide +kernel
theorem dX4_canal_25 : decode cX4_canal 25 = .ok (.aload_n 0, 1) := by decide +kernel
theorem dX4_canal_26 : decode cX4_canal 26 = .ok (.getfield 35, 3) := by decide +kernel
theorem dX4_canal_29 : decode cX4_canal 29 = .ok (.aload_n 0, 1) := by decide +kernel
theorem dX4_canal_30 : decode cX4_canal 30 = .ok (.getfield 20, 3) := by decide +kernel
theorem dX4_canal_33 : decode cX4_canal 33 = .ok (.iload_n 1, 1) := by decide +kernel
theorem dX4_canal_34 : decode cX4_canal 34 = .ok (.aaload, 1) := by decide +kernel
theorem dX4_canal_35 : decode cX4_canal 35 = .ok (.aload_n 0, 1) := by decide +kernel
theorem dX4_canal_36 : decode cX4_canal 36 = .ok (.getfield 23, 3) := by decide +kernel
theorem dX4_canal_39 : decode cX4_canal 39 = .ok (.iload_n 1, 1) := by decide +kernel
theorem dX4_canal_40 : decode cX4_canal 40 = .ok (.iaload, 1) := by decide +kernel
theorem dX4_canal_41 : decode cX4_canal 41 = .ok (.invokevirtual 110, 3) := by decide +kernel
theorem dX4_canal_44 : decode cX4_canal 44 = .ok (.bipush (-9), 2) := by decide +kernel
theorem dX4_canal_46 : decode cX4_canal 46 = .ok (.if_icmp .eq 6, 3) := by decide +kernel
theorem dX4_canal_49 : decode cX4_canal 49 = .ok (.bipush (-4), 2) := by decide +kernel
theorem dX4_canal_51 : decode cX4_canal 51 = .ok (.ireturn, 1) := by decide +kernel
theorem dX4_canal_52 : decode cX4_canal 52 = .ok (.aload_n 0, 1) := by decide +kernel
theorem dX4_canal_53 : decode cX4_canal 53 = .ok (.getfield 42, 3) := by decide +kernel
theorem dX4_canal_56 : decode cX4_canal 56 = .ok (.aload_n 0, 1) := by decide +kernel
theorem dX4_canal_57 : decode cX4_canal 57 = .ok (.getfield 35, 3) := by decide +kernel
theorem dX4_canal_60 : decode cX4_canal 60 = .ok (.invokevirtual 114, 3) := by decide +kernel
theorem dX4_canal_63 : decode cX4_canal 63 = .ok (.aload_n 0, 1) := by decide +kernel
theorem dX4_canal_64 : decode cX4_canal 64 = .ok (.getfield 29, 3) := by decide +kernel
theorem dX4_canal_67 : decode cX4_canal 67 = .ok (.iconst (-1), 1) := by decide +kernel
theorem dX4_canal_68 : decode cX4_canal 68 = .ok (.invokestatic 77, 3) := by decide +kernel
theorem dX4_canal_71 : decode cX4_canal 71 = .ok (.aload_n 0, 1) := by decide +kernel
theorem dX4_canal_72 : decode cX4_canal 72 = .ok (.getfield 42, 3) := by decide +kernel
theorem dX4_canal_75 : decode cX4_canal 75 = .ok (.getfield 118, 3) := by decide +kernel
theorem dX4_canal_78 : decode cX4_canal 78 = .ok (.ireturn, 1) := by decide +kernel
theorem dX4_thing_0 : decode cX4_thing 0 = .ok (.aload_n 0, 1) := by decide +kernel
theorem dX4_thing_1 : decode cX4_thing 1 = .ok (.getfield 42, 3) := by decide +kernel
theorem dX4_thing_4 : decode cX4_thing 4 = .ok (.iload_n 1, 1) := by decide +kernel
theorem dX4_thing_5 : decode cX4_thing 5 = .ok (.invokevirtual 121, 3) := by decide +kernel
theorem dX4_thing_8 : decode cX4_thing 8 = .ok (.ifCond .eq 12, 3) := by decide +kernel
theorem dX4_thing_11 : decode cX4_thing 11 = .ok (.iload_n 2, 1) := by decide +kernel
theorem dX4_thing_12 : decode cX4_thing 12 = .ok (.ifCond .lt 8, 3) := by decide +kernel
theorem dX4_thing_15 : decode cX4_thing 15 = .ok (.iload_n 2, 1) := by decide +kernel
theorem dX4_thing_16 : decode cX4_thing 16 = .ok (.iconst 5, 1) := by decide +kernel
theorem dX4_thing_17 : decode cX4_thing 17 = .ok (.if_icmp .lt 5, 3) := by decide +kernel
theorem dX4_thing_20 : decode cX4_thing 20 = .ok (.iconst (-1), 1) := by decide +kernel
theorem dX4_thing_21 : decode cX4_thing 21 = .ok (.ireturn, 1) := by decide +kernel
theorem dX4_thing_22 : decode cX4_thing 22 = .ok (.aload_n 0, 1) := by decide +kernel
theorem dX4_thing_23 : decode cX4_thing 23 = .ok (.aload_n 0, 1) := by decide +kernel
theorem dX4_thing_24 : decode cX4_thing 24 = .ok (.getfield 42, 3) := by decide +kernel
theorem dX4_thing_27 : decode cX4_thing 27 = .ok (.iload_n 1, 1) := by decide +kernel
theorem dX4_thing_28 : decode cX4_thing 28 = .ok (.iload_n 2, 1) := by decide +kernel
theorem dX4_thing_29 : decode cX4_thing 29 = .ok (.invokevirtual 124, 3) := by decide +kernel
theorem dX4_thing_32 : decode cX4_thing 32 = .ok (.invokevirtual 91, 3) := by decide +kernel
theorem dX4_thing_35 : decode cX4_thing 35 = .ok (.ireturn, 1) := by decide +kernel
theorem dX4_mark_0 : decode cX4_mark 0 = .ok (.aload_n 0, 1) := by decide +kernel
theorem dX4_mark_1 : decode cX4_mark 1 = .ok (.getfield 42, 3) := by decide +kernel
theorem dX4_mark_4 : decode cX4_mark 4 = .ok (.iload_n 1, 1) := by decide +kernel
theorem dX4_mark_5 : decode cX4_mark 5 = .ok (.invokevirtual 121, 3) := by decide +kernel
theorem dX4_mark_8 : decode cX4_mark 8 = .ok (.ifCond .eq 13, 3) := by decide +kernel
theorem dX4_mark_11 : decode cX4_mark 11 = .ok (.iload_n 2, 1) := by decide +kernel
theorem dX4_mark_12 : decode cX4_mark 12 = .ok (.ifCond .le 9, 3) := by decide +kernel
theorem dX4_mark_15 : decode cX4_mark 15 = .ok (.iload_n 2, 1) := by decide +kernel
theorem dX4_mark_16 : decode cX4_mark 16 = .ok (.bipush 6, 2) := by decide +kernel
theorem dX4_mark_18 : decode cX4_mark 18 = .ok (.if_icmp .lt 5, 3) := by decide +kernel
theorem dX4_mark_21 : decode cX4_mark 21 = .ok (.iconst (-1), 1) := by decide +kernel
theorem dX4_mark_22 : decode cX4_mark 22 = .ok (.ireturn, 1) := by decide +kernel
theorem dX4_mark_23 : decode cX4_mark 23 = .ok (.aload_n 0, 1) := by decide +kernel
theorem dX4_mark_24 : decode cX4_mark 24 = .ok (.getfield 42, 3) := by decide +kernel
theorem dX4_mark_27 : decode cX4_mark 27 = .ok (.getfield 128, 3) := by decide +kernel
theorem dX4_mark_30 : decode cX4_mark 30 = .ok (.iload_n 1, 1) := by decide +kernel
theorem dX4_mark_31 : decode cX4_mark 31 = .ok (.iaload, 1) := by decide +kernel
theorem dX4_mark_32 : decode cX4_mark 32 = .ok (.iload_n 2, 1) := by decide +kernel
theorem dX4_mark_33 : decode cX4_mark 33 = .ok (.invokestatic 131, 3) := by decide +kernel
theorem dX4_mark_36 : decode cX4_mark 36 = .ok (.ifCond .ne 9, 3) := by decide +kernel
theorem dX4_mark_39 : decode cX4_mark 39 = .ok (.aload_n 0, 1) := by decide +kernel
theorem dX4_mark_40 : decode cX4_mark 40 = .ok (.iconst 3, 1) := by decide +kernel
theorem dX4_mark_41 : decode cX4_mark 41 = .ok (.invokevirtual 87, 3) := by decide +kernel
theorem dX4_mark_44 : decode cX4_mark 44 = .ok (.ireturn, 1) := by decide +kernel
theorem dX4_mark_45 : decode cX4_mark 45 = .ok (.aload_n 0, 1) := by decide +kernel
theorem dX4_mark_46 : decode cX4_mark 46 = .ok (.getfield 42, 3) := by decide +kernel
theorem dX4_mark_49 : decode cX4_mark 49 = .ok (.iload_n 1, 1) := by decide +kernel
theorem dX4_mark_50 : decode cX4_mark 50 = .ok (.iload_n 2, 1) := by decide +kernel
theorem dX4_mark_51 : decode cX4_mark 51 = .ok (.invokevirtual 135, 3) := by decide +kernel
theorem dX4_mark_54 : decode cX4_mark 54 = .ok (.ireturn, 1) := by decide +kernel
theorem dX4_cell_0 : decode cX4_cell 0 = .ok (.iload_n 1, 1) := by decide +kernel
theorem dX4_cell_1 : decode cX4_cell 1 = .ok (.invokestatic 138, 3) := by decide +kernel
theorem dX4_cell_4 : decode cX4_cell 4 = .ok (.ifCond .ne 5, 3) := by decide +kernel
theorem dX4_cell_7 : decode cX4_cell 7 = .ok (.iconst (-1), 1) := by decide +kernel
theorem dX4_cell_8 : decode cX4_cell 8 = .ok (.ireturn, 1) := by decide +kernel
theorem dX4_cell_9 : decode cX4_cell 9 = .ok (.aload_n 0, 1) := by decide +kernel
theorem dX4_cell_10 : decode cX4_cell 10 = .ok (.getfield 42, 3) := by decide +kernel
theorem dX4_cell_13 : decode cX4_cell 13 = .ok (.iload_n 1, 1) := by decide +kernel
theorem dX4_cell_14 : decode cX4_cell 14 = .ok (.invokevirtual 141, 3) := by decide +kernel
theorem dX4_cell_17 : decode cX4_cell 17 = .ok (.ireturn, 1) := by decide +kernel
theorem dX4_year_0 : decode cX4_year 0 = .ok (.aload_n 0, 1) := by decide +kernel
theorem dX4_year_1 : decode cX4_year 1 = .ok (.getfield 42, 3) := by decide +kernel
theorem dX4_year_4 : decode cX4_year 4 = .ok (.getfield 118, 3) := by decide +kernel
theorem dX4_year_7 : decode cX4_year 7 = .ok (.ifCond .ne 6, 3) := by decide +kernel
theorem dX4_year_10 : decode cX4_year 10 = .ok (.bipush (-4), 2) := by decide +kernel
theorem dX4_year_12 : decode cX4_year 12 = .ok (.ireturn, 1) := by decide +kernel
theorem dX4_year_13 : decode cX4_year 13 = .ok (.aload_n 0, 1) := by decide +kernel
theorem dX4_year_14 : decode cX4_year 14 = .ok (.getfield 42, 3) := by decide +kernel
theorem dX4_year_17 : decode cX4_year 17 = .ok (.getfield 144, 3) := by decide +kernel
theorem dX4_year_20 : decode cX4_year 20 = .ok (.bipush 40, 2) := by decide +kernel
theorem dX4_year_22 : decode cX4_year 22 = .ok (.if_icmp .lt 6, 3) := by decide +kernel
theorem dX4_year_25 : decode cX4_year 25 = .ok (.bipush (-2), 2) := by decide +kernel
theorem dX4_year_27 : decode cX4_year 27 = .ok (.ireturn, 1) := by decide +kernel
theorem dX4_year_28 : decode cX4_year 28 = .ok (.aload_n 0, 1) := by decide +kernel
theorem dX4_year_29 : decode cX4_year 29 = .ok (.getfield 42, 3) := by decide +kernel
theorem dX4_year_32 : decode cX4_year 32 = .ok (.iconst 0, 1) := by decide +kernel
theorem dX4_year_33 : decode cX4_year 33 = .ok (.iconst 0, 1) := by decide +kernel
theorem dX4_year_34 : decode cX4_year 34 = .ok (.invokevirtual 147, 3) := by decide +kernel
theorem dX4_year_37 : decode cX4_year 37 = .ok (.aload_n 0, 1) := by decide +kernel
theorem dX4_year_38 : decode cX4_year 38 = .ok (.getfield 42, 3) := by decide +kernel
theorem dX4_year_41 : decode cX4_year 41 = .ok (.getfield 151, 3) := by decide +kernel
theorem dX4_year_44 : decode cX4_year 44 = .ok (.ireturn, 1) := by decide +kernel
theorem dX4_paddle_0 : decode cX4_paddle 0 = .ok (.iload_n 1, 1) := by decide +kernel
theorem dX4_paddle_1 : decode cX4_paddle 1 = .ok (.ifCond .eq 10, 3) := by decide +kernel
theorem dX4_paddle_4 : decode cX4_paddle 4 = .ok (.iload_n 1, 1) := by decide +kernel
theorem dX4_paddle_5 : decode cX4_paddle 5 = .ok (.iconst 1, 1) := by decide +kernel
theorem dX4_paddle_6 : decode cX4_paddle 6 = .ok (.if_icmp .eq 5, 3) := by decide +kernel
theorem dX4_paddle_9 : decode cX4_paddle 9 = .ok (.iconst (-1), 1) := by decide +kernel
theorem dX4_paddle_10 : decode cX4_paddle 10 = .ok (.ireturn, 1) := by decide +kernel
theorem dX4_paddle_11 : decode cX4_paddle 11 = .ok (.aload_n 0, 1) := by decide +kernel
theorem dX4_paddle_12 : decode cX4_paddle 12 = .ok (.getfield 42, 3) := by decide +kernel
theorem dX4_paddle_15 : decode cX4_paddle 15 = .ok (.getfield 118, 3) := by decide +kernel
theorem dX4_paddle_18 : decode cX4_paddle 18 = .ok (.ifCond .ne 6, 3) := by decide +kernel
theorem dX4_paddle_21 : decode cX4_paddle 21 = .ok (.bipush (-4), 2) := by decide +kernel
theorem dX4_paddle_23 : decode cX4_paddle 23 = .ok (.ireturn, 1) := by decide +kernel
theorem dX4_paddle_24 : decode cX4_paddle 24 = .ok (.aload_n 0, 1) := by decide +kernel
theorem dX4_paddle_25 : decode cX4_paddle 25 = .ok (.getfield 42, 3) := by decide +kernel
theorem dX4_paddle_28 : decode cX4_paddle 28 = .ok (.getfield 144, 3) := by decide +kernel
theorem dX4_paddle_31 : decode cX4_paddle 31 = .ok (.bipush 40, 2) := by decide +kernel
theorem dX4_paddle_33 : decode cX4_paddle 33 = .ok (.if_icmp .lt 6, 3) := by decide +kernel
theorem dX4_paddle_36 : decode cX4_paddle 36 = .ok (.bipush (-2), 2) := by decide +kernel
theorem dX4_paddle_38 : decode cX4_paddle 38 = .ok (.ireturn, 1) := by decide +kernel
theorem dX4_paddle_39 : decode cX4_paddle 39 = .ok (.aload_n 0, 1) := by decide +kernel
theorem dX4_paddle_40 : decode cX4_paddle 40 = .ok (.getfield 42, 3) := by decide +kernel
theorem dX4_paddle_43 : decode cX4_paddle 43 = .ok (.iload_n 1, 1) := by decide +kernel
theorem dX4_paddle_44 : decode cX4_paddle 44 = .ok (.iconst 1, 1) := by decide +kernel
theorem dX4_paddle_45 : decode cX4_paddle 45 = .ok (.if_icmp .ne 7, 3) := by decide +kernel
theorem dX4_paddle_48 : decode cX4_paddle 48 = .ok (.iconst 2, 1) := by decide +kernel
theorem dX4_paddle_49 : decode cX4_paddle 49 = .ok (.goto 4, 3) := by decide +kernel
theorem dX4_paddle_52 : decode cX4_paddle 52 = .ok (.iconst 1, 1) := by decide +kernel
theorem dX4_paddle_53 : decode cX4_paddle 53 = .ok (.iconst 0, 1) := by decide +kernel
theorem dX4_paddle_54 : decode cX4_paddle 54 = .ok (.invokevirtual 147, 3) := by decide +kernel
theorem dX4_paddle_57 : decode cX4_paddle 57 = .ok (.aload_n 0, 1) := by decide +kernel
theorem dX4_paddle_58 : decode cX4_paddle 58 = .ok (.getfield 42, 3) := by decide +kernel
theorem dX4_paddle_61 : decode cX4_paddle 61 = .ok (.getfield 154, 3) := by decide +kernel
theorem dX4_paddle_64 : decode cX4_paddle 64 = .ok (.ireturn, 1) := by decide +kernel
theorem dX4_move_0 : decode cX4_move 0 = .ok (.aload_n 0, 1) := by decide +kernel
theorem dX4_move_1 : decode cX4_move 1 = .ok (.getfield 42, 3) := by decide +kernel
theorem dX4_move_4 : decode cX4_move 4 = .ok (.iload_n 1, 1) := by decide +kernel
theorem dX4_move_5 : decode cX4_move 5 = .ok (.invokevirtual 121, 3) := by decide +kernel
theorem dX4_move_8 : decode cX4_move 8 = .ok (.ifCond .eq 13, 3) := by decide +kernel
theorem dX4_move_11 : decode cX4_move 11 = .ok (.iload_n 2, 1) := by decide +kernel
theorem dX4_move_12 : decode cX4_move 12 = .ok (.iconst 1, 1) := by decide +kernel
theorem dX4_move_13 : decode cX4_move 13 = .ok (.if_icmp .eq 10, 3) := by decide +kernel
theorem dX4_move_16 : decode cX4_move 16 = .ok (.iload_n 2, 1) := by decide +kernel
theorem dX4_move_17 : decode cX4_move 17 = .ok (.iconst (-1), 1) := by decide +kernel
theorem dX4_move_18 : decode cX4_move 18 = .ok (.if_icmp .eq 5, 3) := by decide +kernel
theorem dX4_move_21 : decode cX4_move 21 = .ok (.iconst (-1), 1) := by decide +kernel
theorem dX4_move_22 : decode cX4_move 22 = .ok (.ireturn, 1) := by decide +kernel
theorem dX4_move_23 : decode cX4_move 23 = .ok (.aload_n 0, 1) := by decide +kernel
theorem dX4_move_24 : decode cX4_move 24 = .ok (.getfield 42, 3) := by decide +kernel
theorem dX4_move_27 : decode cX4_move 27 = .ok (.iload_n 1, 1) := by decide +kernel
theorem dX4_move_28 : decode cX4_move 28 = .ok (.iload_n 2, 1) := by decide +kernel
theorem dX4_move_29 : decode cX4_move 29 = .ok (.invokevirtual 157, 3) := by decide +kernel
theorem dX4_move_32 : decode cX4_move 32 = .ok (.ifCond .ne 6, 3) := by decide +kernel
theorem dX4_move_35 : decode cX4_move 35 = .ok (.bipush (-4), 2) := by decide +kernel
theorem dX4_move_37 : decode cX4_move 37 = .ok (.ireturn, 1) := by decide +kernel
theorem dX4_move_38 : decode cX4_move 38 = .ok (.aload_n 0, 1) := by decide +kernel
theorem dX4_move_39 : decode cX4_move 39 = .ok (.getfield 42, 3) := by decide +kernel
theorem dX4_move_42 : decode cX4_move 42 = .ok (.getfield 144, 3) := by decide +kernel
theorem dX4_move_45 : decode cX4_move 45 = .ok (.bipush 40, 2) := by decide +kernel
theorem dX4_move_47 : decode cX4_move 47 = .ok (.if_icmp .lt 6, 3) := by decide +kernel
theorem dX4_move_50 : decode cX4_move 50 = .ok (.bipush (-2), 2) := by decide +kernel
theorem dX4_move_52 : decode cX4_move 52 = .ok (.ireturn, 1) := by decide +kernel
theorem dX4_move_53 : decode cX4_move 53 = .ok (.aload_n 0, 1) := by decide +kernel
theorem dX4_move_54 : decode cX4_move 54 = .ok (.getfield 42, 3) := by decide +kernel
theorem dX4_move_57 : decode cX4_move 57 = .ok (.iload_n 2, 1) := by decide +kernel
theorem dX4_move_58 : decode cX4_move 58 = .ok (.iconst 1, 1) := by decide +kernel
theorem dX4_move_59 : decode cX4_move 59 = .ok (.if_icmp .ne 7, 3) := by decide +kernel
theorem dX4_move_62 : decode cX4_move 62 = .ok (.iconst 3, 1) := by decide +kernel
theorem dX4_move_63 : decode cX4_move 63 = .ok (.goto 4, 3) := by decide +kernel
theorem dX4_move_66 : decode cX4_move 66 = .ok (.iconst 4, 1) := by decide +kernel
theorem dX4_move_67 : decode cX4_move 67 = .ok (.iload_n 1, 1) := by decide +kernel
theorem dX4_move_68 : decode cX4_move 68 = .ok (.invokevirtual 147, 3) := by decide +kernel
theorem dX4_move_71 : decode cX4_move 71 = .ok (.aload_n 0, 1) := by decide +kernel
theorem dX4_move_72 : decode cX4_move 72 = .ok (.getfield 42, 3) := by decide +kernel
theorem dX4_move_75 : decode cX4_move 75 = .ok (.getfield 160, 3) := by decide +kernel
theorem dX4_move_78 : decode cX4_move 78 = .ok (.iload_n 1, 1) := by decide +kernel
theorem dX4_move_79 : decode cX4_move 79 = .ok (.iaload, 1) := by decide +kernel
theorem dX4_move_80 : decode cX4_move 80 = .ok (.ireturn, 1) := by decide +kernel
theorem dX4_take_0 : decode cX4_take 0 = .ok (.aload_n 0, 1) := by decide +kernel
theorem dX4_take_1 : decode cX4_take 1 = .ok (.getfield 42, 3) := by decide +kernel
theorem dX4_take_4 : decode cX4_take 4 = .ok (.iload_n 1, 1) := by decide +kernel
theorem dX4_take_5 : decode cX4_take 5 = .ok (.invokevirtual 121, 3) := by decide +kernel
theorem dX4_take_8 : decode cX4_take 8 = .ok (.ifCond .ne 5, 3) := by decide +kernel
theorem dX4_take_11 : decode cX4_take 11 = .ok (.iconst (-1), 1) := by decide +kernel
theorem dX4_take_12 : decode cX4_take 12 = .ok (.ireturn, 1) := by decide +kernel
theorem dX4_take_13 : decode cX4_take 13 = .ok (.aload_n 0, 1) := by decide +kernel
theorem dX4_take_14 : decode cX4_take 14 = .ok (.getfield 42, 3) := by decide +kernel
theorem dX4_take_17 : decode cX4_take 17 = .ok (.iload_n 1, 1) := by decide +kernel
theorem dX4_take_18 : decode cX4_take 18 = .ok (.invokevirtual 163, 3) := by decide +kernel
theorem dX4_take_21 : decode cX4_take 21 = .ok (.ifCond .ne 6, 3) := by decide +kernel
theorem dX4_take_24 : decode cX4_take 24 = .ok (.bipush (-4), 2) := by decide +kernel
theorem dX4_take_26 : decode cX4_take 26 = .ok (.ireturn, 1) := by decide +kernel
theorem dX4_take_27 : decode cX4_take 27 = .ok (.aload_n 0, 1) := by decide +kernel
theorem dX4_take_28 : decode cX4_take 28 = .ok (.getfield 42, 3) := by decide +kernel
theorem dX4_take_31 : decode cX4_take 31 = .ok (.getfield 144, 3) := by decide +kernel
theorem dX4_take_34 : decode cX4_take 34 = .ok (.bipush 40, 2) := by decide +kernel
theorem dX4_take_36 : decode cX4_take 36 = .ok (.if_icmp .lt 6, 3) := by decide +kernel
theorem dX4_take_39 : decode cX4_take 39 = .ok (.bipush (-2), 2) := by decide +kernel
theorem dX4_take_41 : decode cX4_take 41 = .ok (.ireturn, 1) := by decide +kernel
theorem dX4_take_42 : decode cX4_take 42 = .ok (.aload_n 0, 1) := by decide +kernel
theorem dX4_take_43 : decode cX4_take 43 = .ok (.getfield 42, 3) := by decide +kernel
theorem dX4_take_46 : decode cX4_take 46 = .ok (.getfield 160, 3) := by decide +kernel
theorem dX4_take_49 : decode cX4_take 49 = .ok (.iload_n 1, 1) := by decide +kernel
theorem dX4_take_50 : decode cX4_take 50 = .ok (.iaload, 1) := by decide +kernel
theorem dX4_take_51 : decode cX4_take 51 = .ok (.aload_n 0, 1) := by decide +kernel
theorem dX4_take_52 : decode cX4_take 52 = .ok (.getfield 42, 3) := by decide +kernel
theorem dX4_take_55 : decode cX4_take 55 = .ok (.getfield 166, 3) := by decide +kernel
theorem dX4_take_58 : decode cX4_take 58 = .ok (.iload_n 1, 1) := by decide +kernel
theorem dX4_take_59 : decode cX4_take 59 = .ok (.iaload, 1) := by decide +kernel
theorem dX4_take_60 : decode cX4_take 60 = .ok (.isub, 1) := by decide +kernel
theorem dX4_take_61 : decode cX4_take 61 = .ok (.invokestatic 169, 3) := by decide +kernel
theorem dX4_take_64 : decode cX4_take 64 = .ok (.istore_n 2, 1) := by decide +kernel
theorem dX4_take_65 : decode cX4_take 65 = .ok (.aload_n 0, 1) := by decide +kernel
theorem dX4_take_66 : decode cX4_take 66 = .ok (.getfield 42, 3) := by decide +kernel
theorem dX4_take_69 : decode cX4_take 69 = .ok (.iconst 5, 1) := by decide +kernel
theorem dX4_take_70 : decode cX4_take 70 = .ok (.iload_n 1, 1) := by decide +kernel
theorem dX4_take_71 : decode cX4_take 71 = .ok (.invokevirtual 147, 3) := by decide +kernel
theorem dX4_take_74 : decode cX4_take 74 = .ok (.iload_n 2, 1) := by decide +kernel
theorem dX4_take_75 : decode cX4_take 75 = .ok (.ireturn, 1) := by decide +kernel
theorem dX4_undo_0 : decode cX4_undo 0 = .ok (.iload_n 1, 1) := by decide +kernel
theorem dX4_undo_1 : decode cX4_undo 1 = .ok (.ifCond .lt 14, 3) := by decide +kernel
theorem dX4_undo_4 : decode cX4_undo 4 = .ok (.iload_n 1, 1) := by decide +kernel
theorem dX4_undo_5 : decode cX4_undo 5 = .ok (.aload_n 0, 1) := by decide +kernel
theorem dX4_undo_6 : decode cX4_undo 6 = .ok (.getfield 42, 3) := by decide +kernel
theorem dX4_undo_9 : decode cX4_undo 9 = .ok (.getfield 144, 3) := by decide +kernel
theorem dX4_undo_12 : decode cX4_undo 12 = .ok (.if_icmp .le 5, 3) := by decide +kernel
theorem dX4_undo_15 : decode cX4_undo 15 = .ok (.iconst (-1), 1) := by decide +kernel
theorem dX4_undo_16 : decode cX4_undo 16 = .ok (.ireturn, 1) := by decide +kernel
theorem dX4_undo_17 : decode cX4_undo 17 = .ok (.aload_n 0, 1) := by decide +kernel
theorem dX4_undo_18 : decode cX4_undo 18 = .ok (.getfield 42, 3) := by decide +kernel
theorem dX4_undo_21 : decode cX4_undo 21 = .ok (.getfield 144, 3) := by decide +kernel
theorem dX4_undo_24 : decode cX4_undo 24 = .ok (.iload_n 1, 1) := by decide +kernel
theorem dX4_undo_25 : decode cX4_undo 25 = .ok (.isub, 1) := by decide +kernel
theorem dX4_undo_26 : decode cX4_undo 26 = .ok (.istore_n 2, 1) := by decide +kernel
theorem dX4_undo_27 : decode cX4_undo 27 = .ok (.aload_n 0, 1) := by decide +kernel
theorem dX4_undo_28 : decode cX4_undo 28 = .ok (.getfield 42, 3) := by decide +kernel
theorem dX4_undo_31 : decode cX4_undo 31 = .ok (.iload_n 1, 1) := by decide +kernel
theorem dX4_undo_32 : decode cX4_undo 32 = .ok (.invokevirtual 174, 3) := by decide +kernel
theorem dX4_undo_35 : decode cX4_undo 35 = .ok (.iload_n 2, 1) := by decide +kernel
theorem dX4_undo_36 : decode cX4_undo 36 = .ok (.ireturn, 1) := by decide +kernel
theorem dX4_keep_0 : decode cX4_keep 0 = .ok (.iload_n 1, 1) := by decide +kernel
theorem dX4_keep_1 : decode cX4_keep 1 = .ok (.invokestatic 178, 3) := by decide +kernel
theorem dX4_keep_4 : decode cX4_keep 4 = .ok (.ifCond .ne 5, 3) := by decide +kernel
theorem dX4_keep_7 : decode cX4_keep 7 = .ok (.iconst (-1), 1) := by decide +kernel
theorem dX4_keep_8 : decode cX4_keep 8 = .ok (.ireturn, 1) := by decide +kernel
theorem dX4_keep_9 : decode cX4_keep 9 = .ok (.aload_n 0, 1) := by decide +kernel
theorem dX4_keep_10 : decode cX4_keep 10 = .ok (.getfield 42, 3) := by decide +kernel
theorem dX4_keep_13 : decode cX4_keep 13 = .ok (.getfield 118, 3) := by decide +kernel
theorem dX4_keep_16 : decode cX4_keep 16 = .ok (.ifCond .ne 6, 3) := by decide +kernel
theorem dX4_keep_19 : decode cX4_keep 19 = .ok (.bipush (-4), 2) := by decide +kernel
theorem dX4_keep_21 : decode cX4_keep 21 = .ok (.ireturn, 1) := by decide +kernel
theorem dX4_keep_22 : decode cX4_keep 22 = .ok (.aload_n 0, 1) := by decide +kernel
theorem dX4_keep_23 : decode cX4_keep 23 = .ok (.getfield 42, 3) := by decide +kernel
theorem dX4_keep_26 : decode cX4_keep 26 = .ok (.getfield 181, 3) := by decide +kernel
theorem dX4_keep_29 : decode cX4_keep 29 = .ok (.iconst 0, 1) := by decide +kernel
theorem dX4_keep_30 : decode cX4_keep 30 = .ok (.aload_n 0, 1) := by decide +kernel
theorem dX4_keep_31 : decode cX4_keep 31 = .ok (.getfield 26, 3) := by decide +kernel
theorem dX4_keep_34 : decode cX4_keep 34 = .ok (.iload_n 1, 1) := by decide +kernel
theorem dX4_keep_35 : decode cX4_keep 35 = .ok (.aaload, 1) := by decide +kernel
theorem dX4_keep_36 : decode cX4_keep 36 = .ok (.iconst 0, 1) := by decide +kernel
theorem dX4_keep_37 : decode cX4_keep 37 = .ok (.bipush 40, 2) := by decide +kernel
theorem dX4_keep_39 : decode cX4_keep 39 = .ok (.invokestatic 98, 3) := by decide +kernel
theorem dX4_keep_42 : decode cX4_keep 42 = .ok (.aload_n 0, 1) := by decide +kernel
theorem dX4_keep_43 : decode cX4_keep 43 = .ok (.getfield 29, 3) := by decide +kernel
theorem dX4_keep_46 : decode cX4_keep 46 = .ok (.iload_n 1, 1) := by decide +kernel
theorem dX4_keep_47 : decode cX4_keep 47 = .ok (.aload_n 0, 1) := by decide +kernel
theorem dX4_keep_48 : decode cX4_keep 48 = .ok (.getfield 42, 3) := by decide +kernel
theorem dX4_keep_51 : decode cX4_keep 51 = .ok (.getfield 144, 3) := by decide +kernel
theorem dX4_keep_54 : decode cX4_keep 54 = .ok (.iastore, 1) := by decide +kernel
theorem dX4_keep_55 : decode cX4_keep 55 = .ok (.aload_n 0, 1) := by decide +kernel
theorem dX4_keep_56 : decode cX4_keep 56 = .ok (.getfield 42, 3) := by decide +kernel
theorem dX4_keep_59 : decode cX4_keep 59 = .ok (.getfield 144, 3) := by decide +kernel
theorem dX4_keep_62 : decode cX4_keep 62 = .ok (.ireturn, 1) := by decide +kernel
theorem dX4_on_0 : decode cX4_on 0 = .ok (.iload_n 1, 1) := by decide +kernel
theorem dX4_on_1 : decode cX4_on 1 = .ok (.invokestatic 178, 3) := by decide +kernel
theorem dX4_on_4 : decode cX4_on 4 = .ok (.ifCond .ne 5, 3) := by decide +kernel
theorem dX4_on_7 : decode cX4_on 7 = .ok (.iconst (-1), 1) := by decide +kernel
theorem dX4_on_8 : decode cX4_on 8 = .ok (.ireturn, 1) := by decide +kernel
theorem dX4_on_9 : decode cX4_on 9 = .ok (.aload_n 0, 1) := by decide +kernel
theorem dX4_on_10 : decode cX4_on 10 = .ok (.getfield 29, 3) := by decide +kernel
theorem dX4_on_13 : decode cX4_on 13 = .ok (.iload_n 1, 1) := by decide +kernel
theorem dX4_on_14 : decode cX4_on 14 = .ok (.iaload, 1) := by decide +kernel
theorem dX4_on_15 : decode cX4_on 15 = .ok (.iconst (-1), 1) := by decide +kernel
theorem dX4_on_16 : decode cX4_on 16 = .ok (.if_icmp .ne 9, 3) := by decide +kernel
theorem dX4_on_19 : decode cX4_on 19 = .ok (.aload_n 0, 1) := by decide +kernel
theorem dX4_on_20 : decode cX4_on 20 = .ok (.iconst 1, 1) := by decide +kernel
theorem dX4_on_21 : decode cX4_on 21 = .ok (.invokevirtual 87, 3) := by decide +kernel
theorem dX4_on_24 : decode cX4_on 24 = .ok (.ireturn, 1) := by decide +kernel
theorem dX4_on_25 : decode cX4_on 25 = .ok (.aload_n 0, 1) := by decide +kernel
theorem dX4_on_26 : decode cX4_on 26 = .ok (.getfield 26, 3) := by decide +kernel
theorem dX4_on_29 : decode cX4_on 29 = .ok (.iload_n 1, 1) := by decide +kernel
theorem dX4_on_30 : decode cX4_on 30 = .ok (.aaload, 1) := by decide +kernel
theorem dX4_on_31 : decode cX4_on 31 = .ok (.iconst 0, 1) := by decide +kernel
theorem dX4_on_32 : decode cX4_on 32 = .ok (.aload_n 0, 1) := by decide +kernel
theorem dX4_on_33 : decode cX4_on 33 = .ok (.getfield 42, 3) := by decide +kernel
theorem dX4_on_36 : decode cX4_on 36 = .ok (.getfield 181, 3) := by decide +kernel
theorem dX4_on_39 : decode cX4_on 39 = .ok (.iconst 0, 1) := by decide +kernel
theorem dX4_on_40 : decode cX4_on 40 = .ok (.bipush 40, 2) := by decide +kernel
theorem dX4_on_42 : decode cX4_on 42 = .ok (.invokestatic 98, 3) := by decide +kernel
theorem dX4_on_45 : decode cX4_on 45 = .ok (.aload_n 0, 1) := by decide +kernel
theorem dX4_on_46 : decode cX4_on 46 = .ok (.getfield 42, 3) := by decide +kernel
theorem dX4_on_49 : decode cX4_on 49 = .ok (.aload_n 0, 1) := by decide +kernel
theorem dX4_on_50 : decode cX4_on 50 = .ok (.getfield 29, 3) := by decide +kernel
theorem dX4_on_53 : decode cX4_on 53 = .ok (.iload_n 1, 1) := by decide +kernel
theorem dX4_on_54 : decode cX4_on 54 = .ok (.iaload, 1) := by decide +kernel
theorem dX4_on_55 : decode cX4_on 55 = .ok (.invokevirtual 174, 3) := by decide +kernel
theorem dX4_on_58 : decode cX4_on 58 = .ok (.aload_n 0, 1) := by decide +kernel
theorem dX4_on_59 : decode cX4_on 59 = .ok (.getfield 42, 3) := by decide +kernel
theorem dX4_on_62 : decode cX4_on 62 = .ok (.getfield 144, 3) := by decide +kernel
theorem dX4_on_65 : decode cX4_on 65 = .ok (.ireturn, 1) := by decide +kernel
theorem dX4_lies_0 : decode cX4_lies 0 = .ok (.aload_n 0, 1) := by decide +kernel
theorem dX4_lies_1 : decode cX4_lies 1 = .ok (.getfield 42, 3) := by decide +kernel
theorem dX4_lies_4 : decode cX4_lies 4 = .ok (.iload_n 1, 1) := by decide +kernel
theorem dX4_lies_5 : decode cX4_lies 5 = .ok (.invokevirtual 121, 3) := by decide +kernel
theorem dX4_lies_8 : decode cX4_lies 8 = .ok (.ifCond .eq 13, 3) := by decide +kernel
theorem dX4_lies_11 : decode cX4_lies 11 = .ok (.iload_n 2, 1) := by decide +kernel
theorem dX4_lies_12 : decode cX4_lies 12 = .ok (.ifCond .lt 9, 3) := by decide +kernel
theorem dX4_lies_15 : decode cX4_lies 15 = .ok (.iload_n 2, 1) := by decide +kernel
theorem dX4_lies_16 : decode cX4_lies 16 = .ok (.bipush 60, 2) := by decide +kernel
theorem dX4_lies_18 : decode cX4_lies 18 = .ok (.if_icmp .le 5, 3) := by decide +kernel
theorem dX4_lies_21 : decode cX4_lies 21 = .ok (.iconst (-1), 1) := by decide +kernel
theorem dX4_lies_22 : decode cX4_lies 22 = .ok (.ireturn, 1) := by decide +kernel
theorem dX4_lies_23 : decode cX4_lies 23 = .ok (.aload_n 0, 1) := by decide +kernel
theorem dX4_lies_24 : decode cX4_lies 24 = .ok (.getfield 42, 3) := by decide +kernel
theorem dX4_lies_27 : decode cX4_lies 27 = .ok (.iload_n 1, 1) := by decide +kernel
theorem dX4_lies_28 : decode cX4_lies 28 = .ok (.invokevirtual 184, 3) := by decide +kernel
theorem dX4_lies_31 : decode cX4_lies 31 = .ok (.ifCond .eq 6, 3) := by decide +kernel
theorem dX4_lies_34 : decode cX4_lies 34 = .ok (.bipush (-4), 2) := by decide +kernel
theorem dX4_lies_36 : decode cX4_lies 36 = .ok (.ireturn, 1) := by decide +kernel
theorem dX4_lies_37 : decode cX4_lies 37 = .ok (.aload_n 0, 1) := by decide +kernel
theorem dX4_lies_38 : decode cX4_lies 38 = .ok (.getfield 42, 3) := by decide +kernel
theorem dX4_lies_41 : decode cX4_lies 41 = .ok (.iload_n 1, 1) := by decide +kernel
theorem dX4_lies_42 : decode cX4_lies 42 = .ok (.aload_n 0, 1) := by decide +kernel
theorem dX4_lies_43 : decode cX4_lies 43 = .ok (.getfield 42, 3) := by decide +kernel
theorem dX4_lies_46 : decode cX4_lies 46 = .ok (.getfield 160, 3) := by decide +kernel
theorem dX4_lies_49 : decode cX4_lies 49 = .ok (.iload_n 1, 1) := by decide +kernel
theorem dX4_lies_50 : decode cX4_lies 50 = .ok (.iaload, 1) := by decide +kernel
theorem dX4_lies_51 : decode cX4_lies 51 = .ok (.iload_n 2, 1) := by decide +kernel
theorem dX4_lies_52 : decode cX4_lies 52 = .ok (.invokevirtual 187, 3) := by decide +kernel
theorem dX4_lies_55 : decode cX4_lies 55 = .ok (.ireturn, 1) := by decide +kernel
theorem dX4_three_0 : decode cX4_three 0 = .ok (.aload_n 0, 1) := by decide +kernel
theorem dX4_three_1 : decode cX4_three 1 = .ok (.getfield 42, 3) := by decide +kernel
theorem dX4_three_4 : decode cX4_three 4 = .ok (.getfield 118, 3) := by decide +kernel
theorem dX4_three_7 : decode cX4_three 7 = .ok (.ifCond .ne 6, 3) := by decide +kernel
theorem dX4_three_10 : decode cX4_three 10 = .ok (.bipush (-4), 2) := by decide +kernel
theorem dX4_three_12 : decode cX4_three 12 = .ok (.ireturn, 1) := by decide +kernel
theorem dX4_three_13 : decode cX4_three 13 = .ok (.iconst 0, 1) := by decide +kernel
theorem dX4_three_14 : decode cX4_three 14 = .ok (.istore_n 1, 1) := by decide +kernel
theorem dX4_three_15 : decode cX4_three 15 = .ok (.iload_n 1, 1) := by decide +kernel
theorem dX4_three_16 : decode cX4_three 16 = .ok (.bipush 60, 2) := by decide +kernel
theorem dX4_three_18 : decode cX4_three 18 = .ok (.if_icmp .gt 32, 3) := by decide +kernel
theorem dX4_three_21 : decode cX4_three 21 = .ok (.aload_n 0, 1) := by decide +kernel
theorem dX4_three_22 : decode cX4_three 22 = .ok (.getfield 42, 3) := by decide +kernel
theorem dX4_three_25 : decode cX4_three 25 = .ok (.iload_n 1, 1) := by decide +kernel
theorem dX4_three_26 : decode cX4_three 26 = .ok (.invokevirtual 191, 3) := by decide +kernel
theorem dX4_three_29 : decode cX4_three 29 = .ok (.istore_n 2, 1) := by decide +kernel
theorem dX4_three_30 : decode cX4_three 30 = .ok (.iload_n 2, 1) := by decide +kernel
theorem dX4_three_31 : decode cX4_three 31 = .ok (.bipush (-9), 2) := by decide +kernel
theorem dX4_three_33 : decode cX4_three 33 = .ok (.if_icmp .eq 11, 3) := by decide +kernel
theorem dX4_three_36 : decode cX4_three 36 = .ok (.aload_n 0, 1) := by decide +kernel
theorem dX4_three_37 : decode cX4_three 37 = .ok (.iload_n 2, 1) := by decide +kernel
theorem dX4_three_38 : decode cX4_three 38 = .ok (.invokevirtual 91, 3) := by decide +kernel
theorem dX4_three_41 : decode cX4_three 41 = .ok (.pop, 1) := by decide +kernel
theorem dX4_three_42 : decode cX4_three 42 = .ok (.iload_n 1, 1) := by decide +kernel
theorem dX4_three_43 : decode cX4_three 43 = .ok (.ireturn, 1) := by decide +kernel
theorem dX4_three_44 : decode cX4_three 44 = .ok (.iinc 1 1, 3) := by decide +kernel
theorem dX4_three_47 : decode cX4_three 47 = .ok (.goto (-32), 3) := by decide +kernel
theorem dX4_three_50 : decode cX4_three 50 = .ok (.bipush (-9), 2) := by decide +kernel
theorem dX4_three_52 : decode cX4_three 52 = .ok (.ireturn, 1) := by decide +kernel
theorem dX4_moves_0 : decode cX4_moves 0 = .ok (.aload_n 0, 1) := by decide +kernel
theorem dX4_moves_1 : decode cX4_moves 1 = .ok (.getfield 42, 3) := by decide +kernel
theorem dX4_moves_4 : decode cX4_moves 4 = .ok (.iload_n 1, 1) := by decide +kernel
theorem dX4_moves_5 : decode cX4_moves 5 = .ok (.invokevirtual 121, 3) := by decide +kernel
theorem dX4_moves_8 : decode cX4_moves 8 = .ok (.ifCond .eq 20, 3) := by decide +kernel
theorem dX4_moves_11 : decode cX4_moves 11 = .ok (.iload_n 2, 1) := by decide +kernel
theorem dX4_moves_12 : decode cX4_moves 12 = .ok (.invokestatic 138, 3) := by decide +kernel
theorem dX4_moves_15 : decode cX4_moves 15 = .ok (.ifCond .eq 13, 3) := by decide +kernel
theorem dX4_moves_18 : decode cX4_moves 18 = .ok (.iload_n 3, 1) := by decide +kernel
theorem dX4_moves_19 : decode cX4_moves 19 = .ok (.ifCond .lt 9, 3) := by decide +kernel
theorem dX4_moves_22 : decode cX4_moves 22 = .ok (.iload_n 3, 1) := by decide +kernel
theorem dX4_moves_23 : decode cX4_moves 23 = .ok (.bipush 20, 2) := by decide +kernel
theorem dX4_moves_25 : decode cX4_moves 25 = .ok (.if_icmp .le 5, 3) := by decide +kernel
theorem dX4_moves_28 : decode cX4_moves 28 = .ok (.iconst (-1), 1) := by decide +kernel
theorem dX4_moves_29 : decode cX4_moves 29 = .ok (.ireturn, 1) := by decide +kernel
theorem dX4_moves_30 : decode cX4_moves 30 = .ok (.aload_n 0, 1) := by decide +kernel
theorem dX4_moves_31 : decode cX4_moves 31 = .ok (.getfield 42, 3) := by decide +kernel
theorem dX4_moves_34 : decode cX4_moves 34 = .ok (.iload_n 1, 1) := by decide +kernel
theorem dX4_moves_35 : decode cX4_moves 35 = .ok (.invokevirtual 184, 3) := by decide +kernel
theorem dX4_moves_38 : decode cX4_moves 38 = .ok (.ifCond .eq 6, 3) := by decide +kernel
theorem dX4_moves_41 : decode cX4_moves 41 = .ok (.bipush (-4), 2) := by decide +kernel
theorem dX4_moves_43 : decode cX4_moves 43 = .ok (.ireturn, 1) := by decide +kernel
theorem dX4_moves_44 : decode cX4_moves 44 = .ok (.aload_n 0, 1) := by decide +kernel
theorem dX4_moves_45 : decode cX4_moves 45 = .ok (.getfield 42, 3) := by decide +kernel
theorem dX4_moves_48 : decode cX4_moves 48 = .ok (.iload_n 1, 1) := by decide +kernel
theorem dX4_moves_49 : decode cX4_moves 49 = .ok (.iload_n 2, 1) := by decide +kernel
theorem dX4_moves_50 : decode cX4_moves 50 = .ok (.iload_n 3, 1) := by decide +kernel
theorem dX4_moves_51 : decode cX4_moves 51 = .ok (.invokevirtual 194, 3) := by decide +kernel
theorem dX4_moves_54 : decode cX4_moves 54 = .ok (.ireturn, 1) := by decide +kernel
theorem dX4_owned_0 : decode cX4_owned 0 = .ok (.iload_n 1, 1) := by decide +kernel
theorem dX4_owned_1 : decode cX4_owned 1 = .ok (.ifCond .lt 9, 3) := by decide +kernel
theorem dX4_owned_4 : decode cX4_owned 4 = .ok (.iload_n 1, 1) := by decide +kernel
theorem dX4_owned_5 : decode cX4_owned 5 = .ok (.bipush 20, 2) := by decide +kernel
theorem dX4_owned_7 : decode cX4_owned 7 = .ok (.if_icmp .le 5, 3) := by decide +kernel
theorem dX4_owned_10 : decode cX4_owned 10 = .ok (.iconst (-1), 1) := by decide +kernel
theorem dX4_owned_11 : decode cX4_owned 11 = .ok (.ireturn, 1) := by decide +kernel
theorem dX4_owned_12 : decode cX4_owned 12 = .ok (.aload_n 0, 1) := by decide +kernel
theorem dX4_owned_13 : decode cX4_owned 13 = .ok (.getfield 42, 3) := by decide +kernel
theorem dX4_owned_16 : decode cX4_owned 16 = .ok (.getfield 118, 3) := by decide +kernel
theorem dX4_owned_19 : decode cX4_owned 19 = .ok (.ifCond .ne 6, 3) := by decide +kernel
theorem dX4_owned_22 : decode cX4_owned 22 = .ok (.bipush (-4), 2) := by decide +kernel
theorem dX4_owned_24 : decode cX4_owned 24 = .ok (.ireturn, 1) := by decide +kernel
theorem dX4_owned_25 : decode cX4_owned 25 = .ok (.iconst 0, 1) := by decide +kernel
theorem dX4_owned_26 : decode cX4_owned 26 = .ok (.istore_n 2, 1) := by decide +kernel
theorem dX4_owned_27 : decode cX4_owned 27 = .ok (.iconst 0, 1) := by decide +kernel
theorem dX4_owned_28 : decode cX4_owned 28 = .ok (.istore_n 3, 1) := by decide +kernel
theorem dX4_owned_29 : decode cX4_owned 29 = .ok (.iload_n 3, 1) := by decide +kernel
theorem dX4_owned_30 : decode cX4_owned 30 = .ok (.aload_n 0, 1) := by decide +kernel
theorem dX4_owned_31 : decode cX4_owned 31 = .ok (.getfield 42, 3) := by decide +kernel
theorem dX4_owned_34 : decode cX4_owned 34 = .ok (.getfield 118, 3) := by decide +kernel
theorem dX4_owned_37 : decode cX4_owned 37 = .ok (.if_icmp .ge 58, 3) := by decide +kernel
theorem dX4_owned_40 : decode cX4_owned 40 = .ok (.aload_n 0, 1) := by decide +kernel
theorem dX4_owned_41 : decode cX4_owned 41 = .ok (.getfield 42, 3) := by decide +kernel
theorem dX4_owned_44 : decode cX4_owned 44 = .ok (.iload_n 3, 1) := by decide +kernel
theorem dX4_owned_45 : decode cX4_owned 45 = .ok (.invokevirtual 184, 3) := by decide +kernel
theorem dX4_owned_48 : decode cX4_owned 48 = .ok (.ifCond .eq 6, 3) := by decide +kernel
theorem dX4_owned_51 : decode cX4_owned 51 = .ok (.goto 38, 3) := by decide +kernel
theorem dX4_owned_54 : decode cX4_owned 54 = .ok (.aload_n 0, 1) := by decide +kernel
theorem dX4_owned_55 : decode cX4_owned 55 = .ok (.getfield 42, 3) := by decide +kernel
theorem dX4_owned_58 : decode cX4_owned 58 = .ok (.iload_n 3, 1) := by decide +kernel
theorem dX4_owned_59 : decode cX4_owned 59 = .ok (.aload_n 0, 1) := by decide +kernel
theorem dX4_owned_60 : decode cX4_owned 60 = .ok (.getfield 42, 3) := by decide +kernel
theorem dX4_owned_63 : decode cX4_owned 63 = .ok (.getfield 166, 3) := by decide +kernel
theorem dX4_owned_66 : decode cX4_owned 66 = .ok (.iload_n 3, 1) := by decide +kernel
theorem dX4_owned_67 : decode cX4_owned 67 = .ok (.iaload, 1) := by decide +kernel
theorem dX4_owned_68 : decode cX4_owned 68 = .ok (.iload_n 1, 1) := by decide +kernel
theorem dX4_owned_69 : decode cX4_owned 69 = .ok (.invokevirtual 194, 3) := by decide +kernel
theorem dX4_owned_72 : decode cX4_owned 72 = .ok (.istore 4, 2) := by decide +kernel
theorem dX4_owned_74 : decode cX4_owned 74 = .ok (.iload 4, 2) := by decide +kernel
theorem dX4_owned_76 : decode cX4_owned 76 = .ok (.bipush (-9), 2) := by decide +kernel
theorem dX4_owned_78 : decode cX4_owned 78 = .ok (.if_icmp .ne 6, 3) := by decide +kernel
theorem dX4_owned_81 : decode cX4_owned 81 = .ok (.bipush (-9), 2) := by decide +kernel
theorem dX4_owned_83 : decode cX4_owned 83 = .ok (.ireturn, 1) := by decide +kernel
theorem dX4_owned_84 : decode cX4_owned 84 = .ok (.iload_n 2, 1) := by decide +kernel
theorem dX4_owned_85 : decode cX4_owned 85 = .ok (.iload 4, 2) := by decide +kernel
theorem dX4_owned_87 : decode cX4_owned 87 = .ok (.iadd, 1) := by decide +kernel
theorem dX4_owned_88 : decode cX4_owned 88 = .ok (.istore_n 2, 1) := by decide +kernel
theorem dX4_owned_89 : decode cX4_owned 89 = .ok (.iinc 3 1, 3) := by decide +kernel
theorem dX4_owned_92 : decode cX4_owned 92 = .ok (.goto (-63), 3) := by decide +kernel
theorem dX4_owned_95 : decode cX4_owned 95 = .ok (.iload_n 2, 1) := by decide +kernel
theorem dX4_owned_96 : decode cX4_owned 96 = .ok (.ireturn, 1) := by decide +kernel
theorem dX4_thrown_0 : decode cX4_thrown 0 = .ok (.aload_n 0, 1) := by decide +kernel
theorem dX4_thrown_1 : decode cX4_thrown 1 = .ok (.getfield 42, 3) := by decide +kernel
theorem dX4_thrown_4 : decode cX4_thrown 4 = .ok (.iload_n 1, 1) := by decide +kernel
theorem dX4_thrown_5 : decode cX4_thrown 5 = .ok (.invokevirtual 121, 3) := by decide +kernel
theorem dX4_thrown_8 : decode cX4_thrown 8 = .ok (.ifCond .eq 20, 3) := by decide +kernel
theorem dX4_thrown_11 : decode cX4_thrown 11 = .ok (.iload_n 2, 1) := by decide +kernel
theorem dX4_thrown_12 : decode cX4_thrown 12 = .ok (.invokestatic 138, 3) := by decide +kernel
theorem dX4_thrown_15 : decode cX4_thrown 15 = .ok (.ifCond .eq 13, 3) := by decide +kernel
theorem dX4_thrown_18 : decode cX4_thrown 18 = .ok (.iload_n 3, 1) := by decide +kernel
theorem dX4_thrown_19 : decode cX4_thrown 19 = .ok (.ifCond .lt 9, 3) := by decide +kernel
theorem dX4_thrown_22 : decode cX4_thrown 22 = .ok (.iload_n 3, 1) := by decide +kernel
theorem dX4_thrown_23 : decode cX4_thrown 23 = .ok (.bipush 20, 2) := by decide +kernel
theorem dX4_thrown_25 : decode cX4_thrown 25 = .ok (.if_icmp .le 5, 3) := by decide +kernel
theorem dX4_thrown_28 : decode cX4_thrown 28 = .ok (.iconst (-1), 1) := by decide +kernel
theorem dX4_thrown_29 : decode cX4_thrown 29 = .ok (.ireturn, 1) := by decide +kernel
theorem dX4_thrown_30 : decode cX4_thrown 30 = .ok (.iconst 0, 1) := by decide +kernel
theorem dX4_thrown_31 : decode cX4_thrown 31 = .ok (.istore 4, 2) := by decide +kernel
theorem dX4_thrown_33 : decode cX4_thrown 33 = .ok (.iconst 0, 1) := by decide +kernel
theorem dX4_thrown_34 : decode cX4_thrown 34 = .ok (.istore 5, 2) := by decide +kernel
theorem dX4_thrown_36 : decode cX4_thrown 36 = .ok (.iload 5, 2) := by decide +kernel
theorem dX4_thrown_38 : decode cX4_thrown 38 = .ok (.bipush 8, 2) := by decide +kernel
theorem dX4_thrown_40 : decode cX4_thrown 40 = .ok (.if_icmp .ge 33, 3) := by decide +kernel
theorem dX4_thrown_43 : decode cX4_thrown 43 = .ok (.aload_n 0, 1) := by decide +kernel
theorem dX4_thrown_44 : decode cX4_thrown 44 = .ok (.getfield 42, 3) := by decide +kernel
theorem dX4_thrown_47 : decode cX4_thrown 47 = .ok (.iload_n 1, 1) := by decide +kernel
theorem dX4_thrown_48 : decode cX4_thrown 48 = .ok (.iload 5, 2) := by decide +kernel
theorem dX4_thrown_50 : decode cX4_thrown 50 = .ok (.iload_n 3, 1) := by decide +kernel
theorem dX4_thrown_51 : decode cX4_thrown 51 = .ok (.invokevirtual 187, 3) := by decide +kernel
theorem dX4_thrown_54 : decode cX4_thrown 54 = .ok (.iload_n 2, 1) := by decide +kernel
theorem dX4_thrown_55 : decode cX4_thrown 55 = .ok (.if_icmp .ne 12, 3) := by decide +kernel
theorem dX4_thrown_58 : decode cX4_thrown 58 = .ok (.iload 4, 2) := by decide +kernel
theorem dX4_thrown_60 : decode cX4_thrown 60 = .ok (.iconst 1, 1) := by decide +kernel
theorem dX4_thrown_61 : decode cX4_thrown 61 = .ok (.iload 5, 2) := by decide +kernel
theorem dX4_thrown_63 : decode cX4_thrown 63 = .ok (.ishl, 1) := by decide +kernel
theorem dX4_thrown_64 : decode cX4_thrown 64 = .ok (.ior, 1) := by decide +kernel
theorem dX4_thrown_65 : decode cX4_thrown 65 = .ok (.istore 4, 2) := by decide +kernel
theorem dX4_thrown_67 : decode cX4_thrown 67 = .ok (.iinc 5 1, 3) := by decide +kernel
theorem dX4_thrown_70 : decode cX4_thrown 70 = .ok (.goto (-34), 3) := by decide +kernel
theorem dX4_thrown_73 : decode cX4_thrown 73 = .ok (.iload 4, 2) := by decide +kernel
theorem dX4_thrown_75 : decode cX4_thrown 75 = .ok (.ireturn, 1) := by decide +kernel
theorem dX4_stand_0 : decode cX4_stand 0 = .ok (.iload_n 1, 1) := by decide +kernel
theorem dX4_stand_1 : decode cX4_stand 1 = .ok (.invokestatic 83, 3) := by decide +kernel
theorem dX4_stand_4 : decode cX4_stand 4 = .ok (.ifCond .ne 5, 3) := by decide +kernel
theorem dX4_stand_7 : decode cX4_stand 7 = .ok (.iconst (-1), 1) := by decide +kernel
theorem dX4_stand_8 : decode cX4_stand 8 = .ok (.ireturn, 1) := by decide +kernel
theorem dX4_stand_9 : decode cX4_stand 9 = .ok (.aload_n 0, 1) := by decide +kernel
theorem dX4_stand_10 : decode cX4_stand 10 = .ok (.getfield 42, 3) := by decide +kernel
theorem dX4_stand_13 : decode cX4_stand 13 = .ok (.getfield 118, 3) := by decide +kernel
theorem dX4_stand_16 : decode cX4_stand 16 = .ok (.ifCond .ne 6, 3) := by decide +kernel
theorem dX4_stand_19 : decode cX4_stand 19 = .ok (.bipush (-4), 2) := by decide +kernel
theorem dX4_stand_21 : decode cX4_stand 21 = .ok (.ireturn, 1) := by decide +kernel
theorem dX4_stand_22 : decode cX4_stand 22 = .ok (.aload_n 0, 1) := by decide +kernel
theorem dX4_stand_23 : decode cX4_stand 23 = .ok (.getfield 49, 3) := by decide +kernel
theorem dX4_stand_26 : decode cX4_stand 26 = .ok (.aload_n 0, 1) := by decide +kernel
theorem dX4_stand_27 : decode cX4_stand 27 = .ok (.getfield 42, 3) := by decide +kernel
theorem dX4_stand_30 : decode cX4_stand 30 = .ok (.invokevirtual 197, 3) := by decide +kernel
theorem dX4_stand_33 : decode cX4_stand 33 = .ok (.istore_n 2, 1) := by decide +kernel
theorem dX4_stand_34 : decode cX4_stand 34 = .ok (.aload_n 0, 1) := by decide +kernel
theorem dX4_stand_35 : decode cX4_stand 35 = .ok (.getfield 11, 3) := by decide +kernel
theorem dX4_stand_38 : decode cX4_stand 38 = .ok (.iload_n 1, 1) := by decide +kernel
theorem dX4_stand_39 : decode cX4_stand 39 = .ok (.aaload, 1) := by decide +kernel
theorem dX4_stand_40 : decode cX4_stand 40 = .ok (.iconst 0, 1) := by decide +kernel
theorem dX4_stand_41 : decode cX4_stand 41 = .ok (.invokestatic 77, 3) := by decide +kernel
theorem dX4_stand_44 : decode cX4_stand 44 = .ok (.aload_n 0, 1) := by decide +kernel
theorem dX4_stand_45 : decode cX4_stand 45 = .ok (.getfield 14, 3) := by decide +kernel
theorem dX4_stand_48 : decode cX4_stand 48 = .ok (.iload_n 1, 1) := by decide +kernel
theorem dX4_stand_49 : decode cX4_stand 49 = .ok (.iconst 0, 1) := by decide +kernel
theorem dX4_stand_50 : decode cX4_stand 50 = .ok (.iastore, 1) := by decide +kernel
theorem dX4_stand_51 : decode cX4_stand 51 = .ok (.iconst 0, 1) := by decide +kernel
theorem dX4_stand_52 : decode cX4_stand 52 = .ok (.istore_n 3, 1) := by decide +kernel
theorem dX4_stand_53 : decode cX4_stand 53 = .ok (.iload_n 3, 1) := by decide +kernel
theorem dX4_stand_54 : decode cX4_stand 54 = .ok (.aload_n 0, 1) := by decide +kernel
theorem dX4_stand_55 : decode cX4_stand 55 = .ok (.getfield 42, 3) := by decide +kernel
theorem dX4_stand_58 : decode cX4_stand 58 = .ok (.getfield 118, 3) := by decide +kernel
theorem dX4_stand_61 : decode cX4_stand 61 = .ok (.if_icmp .ge 55, 3) := by decide +kernel
theorem dX4_stand_64 : decode cX4_stand 64 = .ok (.aload_n 0, 1) := by decide +kernel
theorem dX4_stand_65 : decode cX4_stand 65 = .ok (.getfield 42, 3) := by decide +kernel
theorem dX4_stand_68 : decode cX4_stand 68 = .ok (.iload_n 3, 1) := by decide +kernel
theorem dX4_stand_69 : decode cX4_stand 69 = .ok (.invokevirtual 184, 3) := by decide +kernel
theorem dX4_stand_72 : decode cX4_stand 72 = .ok (.ifCond .eq 6, 3) := by decide +kernel
theorem dX4_stand_75 : decode cX4_stand 75 = .ok (.goto 35, 3) := by decide +kernel
theorem dX4_stand_78 : decode cX4_stand 78 = .ok (.aload_n 0, 1) := by decide +kernel
theorem dX4_stand_79 : decode cX4_stand 79 = .ok (.getfield 11, 3) := by decide +kernel
theorem dX4_stand_82 : decode cX4_stand 82 = .ok (.iload_n 1, 1) := by decide +kernel
theorem dX4_stand_83 : decode cX4_stand 83 = .ok (.aaload, 1) := by decide +kernel
theorem dX4_stand_84 : decode cX4_stand 84 = .ok (.aload_n 0, 1) := by decide +kernel
theorem dX4_stand_85 : decode cX4_stand 85 = .ok (.getfield 14, 3) := by decide +kernel
