theorem dX5_init_0 : decode cX5_init 0 = .ok (.aload_n 0, 1) := by decide +kernel
theorem dX5_init_1 : decode cX5_init 1 = .ok (.invokespecial 1, 3) := by decide +kernel
theorem dX5_init_4 : decode cX5_init 4 = .ok (.aload_n 0, 1) := by decide +kernel
theorem dX5_init_5 : decode cX5_init 5 = .ok (.bipush 120, 2) := by decide +kernel
theorem dX5_init_7 : decode cX5_init 7 = .ok (.newarray .int, 2) := by decide +kernel
theorem dX5_init_9 : decode cX5_init 9 = .ok (.putfield 7, 3) := by decide +kernel
theorem dX5_init_12 : decode cX5_init 12 = .ok (.aload_n 0, 1) := by decide +kernel
theorem dX5_init_13 : decode cX5_init 13 = .ok (.bipush 120, 2) := by decide +kernel
theorem dX5_init_15 : decode cX5_init 15 = .ok (.newarray .int, 2) := by decide +kernel
theorem dX5_init_17 : decode cX5_init 17 = .ok (.putfield 13, 3) := by decide +kernel
theorem dX5_init_20 : decode cX5_init 20 = .ok (.aload_n 0, 1) := by decide +kernel
theorem dX5_init_21 : decode cX5_init 21 = .ok (.sipush 720, 3) := by decide +kernel
theorem dX5_init_24 : decode cX5_init 24 = .ok (.newarray .int, 2) := by decide +kernel
theorem dX5_init_26 : decode cX5_init 26 = .ok (.putfield 16, 3) := by decide +kernel
theorem dX5_init_29 : decode cX5_init 29 = .ok (.aload_n 0, 1) := by decide +kernel
theorem dX5_init_30 : decode cX5_init 30 = .ok (.sipush 240, 3) := by decide +kernel
theorem dX5_init_33 : decode cX5_init 33 = .ok (.newarray .int, 2) := by decide +kernel
theorem dX5_init_35 : decode cX5_init 35 = .ok (.putfield 19, 3) := by decide +kernel
theorem dX5_init_38 : decode cX5_init 38 = .ok (.aload_n 0, 1) := by decide +kernel
theorem dX5_init_39 : decode cX5_init 39 = .ok (.iconst 2, 1) := by decide +kernel
theorem dX5_init_40 : decode cX5_init 40 = .ok (.newarray .int, 2) := by decide +kernel
theorem dX5_init_42 : decode cX5_init 42 = .ok (.putfield 22, 3) := by decide +kernel
theorem dX5_init_45 : decode cX5_init 45 = .ok (.aload_n 0, 1) := by decide +kernel
theorem dX5_init_46 : decode cX5_init 46 = .ok (.bipush 24, 2) := by decide +kernel
theorem dX5_init_48 : decode cX5_init 48 = .ok (.newarray .int, 2) := by decide +kernel
theorem dX5_init_50 : decode cX5_init 50 = .ok (.putfield 25, 3) := by decide +kernel
theorem dX5_init_53 : decode cX5_init 53 = .ok (.aload_n 0, 1) := by decide +kernel
theorem dX5_init_54 : decode cX5_init 54 = .ok (.bipush 24, 2) := by decide +kernel
theorem dX5_init_56 : decode cX5_init 56 = .ok (.newarray .int, 2) := by decide +kernel
theorem dX5_init_58 : decode cX5_init 58 = .ok (.putfield 28, 3) := by decide +kernel
theorem dX5_init_61 : decode cX5_init 61 = .ok (.aload_n 0, 1) := by decide +kernel
theorem dX5_init_62 : decode cX5_init 62 = .ok (.bipush 24, 2) := by decide +kernel
theorem dX5_init_64 : decode cX5_init 64 = .ok (.newarray .int, 2) := by decide +kernel
theorem dX5_init_66 : decode cX5_init 66 = .ok (.putfield 31, 3) := by decide +kernel
theorem dX5_init_69 : decode cX5_init 69 = .ok (.aload_n 0, 1) := by decide +kernel
theorem dX5_init_70 : decode cX5_init 70 = .ok (.bipush 60, 2) := by decide +kernel
theorem dX5_init_72 : decode cX5_init 72 = .ok (.newarray .int, 2) := by decide +kernel
theorem dX5_init_74 : decode cX5_init 74 = .ok (.putfield 34, 3) := by decide +kernel
theorem dX5_init_77 : decode cX5_init 77 = .ok (.aload_n 0, 1) := by decide +kernel
theorem dX5_init_78 : decode cX5_init 78 = .ok (.bipush 30, 2) := by decide +kernel
theorem dX5_init_80 : decode cX5_init 80 = .ok (.newarray .int, 2) := by decide +kernel
theorem dX5_init_82 : decode cX5_init 82 = .ok (.putfield 37, 3) := by decide +kernel
theorem dX5_init_85 : decode cX5_init 85 = .ok (.aload_n 0, 1) := by decide +kernel
theorem dX5_init_86 : decode cX5_init 86 = .ok (.bipush 30, 2) := by decide +kernel
theorem dX5_init_88 : decode cX5_init 88 = .ok (.newarray .int, 2) := by decide +kernel
theorem dX5_init_90 : decode cX5_init 90 = .ok (.putfield 40, 3) := by decide +kernel
theorem dX5_init_93 : decode cX5_init 93 = .ok (.aload_n 0, 1) := by decide +kernel
theorem dX5_init_94 : decode cX5_init 94 = .ok (.getfield 7, 3) := by decide +kernel
theorem dX5_init_97 : decode cX5_init 97 = .ok (.iconst 0, 1) := by decide +kernel
theorem dX5_init_98 : decode cX5_init 98 = .ok (.iconst 3, 1) := by decide +kernel
theorem dX5_init_99 : decode cX5_init 99 = .ok (.iastore, 1) := by decide +kernel
theorem dX5_init_100 : decode cX5_init 100 = .ok (.aload_n 0, 1) := by decide +kernel
theorem dX5_init_101 : decode cX5_init 101 = .ok (.getfield 7, 3) := by decide +kernel
theorem dX5_init_104 : decode cX5_init 104 = .ok (.iconst 1, 1) := by decide +kernel
theorem dX5_init_105 : decode cX5_init 105 = .ok (.iconst 2, 1) := by decide +kernel
theorem dX5_init_106 : decode cX5_init 106 = .ok (.iastore, 1) := by decide +kernel
theorem dX5_init_107 : decode cX5_init 107 = .ok (.aload_n 0, 1) := by decide +kernel
theorem dX5_init_108 : decode cX5_init 108 = .ok (.getfield 7, 3) := by decide +kernel
theorem dX5_init_111 : decode cX5_init 111 = .ok (.iconst 2, 1) := by decide +kernel
theorem dX5_init_112 : decode cX5_init 112 = .ok (.iconst 3, 1) := by decide +kernel
theorem dX5_init_113 : decode cX5_init 113 = .ok (.iastore, 1) := by decide +kernel
theorem dX5_init_114 : decode cX5_init 114 = .ok (.return_, 1) := by decide +kernel
theorem dX5_in_0 : decode cX5_in 0 = .ok (.lload_n 0, 1) := by decide +kernel
theorem dX5_in_1 : decode cX5_in 1 = .ok (.lload_n 2, 1) := by decide +kernel
theorem dX5_in_2 : decode cX5_in 2 = .ok (.lcmp, 1) := by decide +kernel
theorem dX5_in_3 : decode cX5_in 3 = .ok (.ifCond .lt 14, 3) := by decide +kernel
theorem dX5_in_6 : decode cX5_in 6 = .ok (.lload_n 0, 1) := by decide +kernel
theorem dX5_in_7 : decode cX5_in 7 = .ok (.lload 4, 2) := by decide +kernel
theorem dX5_in_9 : decode cX5_in 9 = .ok (.lcmp, 1) := by decide +kernel
theorem dX5_in_10 : decode cX5_in 10 = .ok (.ifCond .gt 7, 3) := by decide +kernel
theorem dX5_in_13 : decode cX5_in 13 = .ok (.iconst 1, 1) := by decide +kernel
theorem dX5_in_14 : decode cX5_in 14 = .ok (.goto 4, 3) := by decide +kernel
theorem dX5_in_17 : decode cX5_in 17 = .ok (.iconst 0, 1) := by decide +kernel
theorem dX5_in_18 : decode cX5_in 18 = .ok (.ireturn, 1) := by decide +kernel
theorem dX5_changes_0 : decode cX5_changes 0 = .ok (.aload_n 0, 1) := by decide +kernel
theorem dX5_changes_1 : decode cX5_changes 1 = .ok (.getfield 43, 3) := by decide +kernel
theorem dX5_changes_4 : decode cX5_changes 4 = .ok (.bipush 6, 2) := by decide +kernel
theorem dX5_changes_6 : decode cX5_changes 6 = .ok (.if_icmp .ne 43, 3) := by decide +kernel
theorem dX5_changes_9 : decode cX5_changes 9 = .ok (.iconst 0, 1) := by decide +kernel
theorem dX5_changes_10 : decode cX5_changes 10 = .ok (.istore_n 1, 1) := by decide +kernel
theorem dX5_changes_11 : decode cX5_changes 11 = .ok (.iload_n 1, 1) := by decide +kernel
theorem dX5_changes_12 : decode cX5_changes 12 = .ok (.sipush 600, 3) := by decide +kernel
theorem dX5_changes_15 : decode cX5_changes 15 = .ok (.if_icmp .ge 24, 3) := by decide +kernel
theorem dX5_changes_18 : decode cX5_changes 18 = .ok (.aload_n 0, 1) := by decide +kernel
theorem dX5_changes_19 : decode cX5_changes 19 = .ok (.getfield 16, 3) := by decide +kernel
theorem dX5_changes_22 : decode cX5_changes 22 = .ok (.iload_n 1, 1) := by decide +kernel
theorem dX5_changes_23 : decode cX5_changes 23 = .ok (.aload_n 0, 1) := by decide +kernel
theorem dX5_changes_24 : decode cX5_changes 24 = .ok (.getfield 16, 3) := by decide +kernel
theorem dX5_changes_27 : decode cX5_changes 27 = .ok (.iload_n 1, 1) := by decide +kernel
theorem dX5_changes_28 : decode cX5_changes 28 = .ok (.bipush 120, 2) := by decide +kernel
theorem dX5_changes_30 : decode cX5_changes 30 = .ok (.iadd, 1) := by decide +kernel
theorem dX5_changes_31 : decode cX5_changes 31 = .ok (.iaload, 1) := by decide +kernel
theorem dX5_changes_32 : decode cX5_changes 32 = .ok (.iastore, 1) := by decide +kernel
theorem dX5_changes_33 : decode cX5_changes 33 = .ok (.iinc 1 1, 3) := by decide +kernel
theorem dX5_changes_36 : decode cX5_changes 36 = .ok (.goto (-25), 3) := by decide +kernel
theorem dX5_changes_39 : decode cX5_changes 39 = .ok (.aload_n 0, 1) := by decide +kernel
theorem dX5_changes_40 : decode cX5_changes 40 = .ok (.dup, 1) := by decide +kernel
theorem dX5_changes_41 : decode cX5_changes 41 = .ok (.getfield 43, 3) := by decide +kernel
theorem dX5_changes_44 : decode cX5_changes 44 = .ok (.iconst 1, 1) := by decide +kernel
theorem dX5_changes_45 : decode cX5_changes 45 = .ok (.isub, 1) := by decide +kernel
theorem dX5_changes_46 : decode cX5_changes 46 = .ok (.putfield 43, 3) := by decide +kernel
theorem dX5_changes_49 : decode cX5_changes 49 = .ok (.iconst 0, 1) := by decide +kernel
theorem dX5_changes_50 : decode cX5_changes 50 = .ok (.istore_n 1, 1) := by decide +kernel
theorem dX5_changes_51 : decode cX5_changes 51 = .ok (.iload_n 1, 1) := by decide +kernel
theorem dX5_changes_52 : decode cX5_changes 52 = .ok (.bipush 120, 2) := by decide +kernel
theorem dX5_changes_54 : decode cX5_changes 54 = .ok (.if_icmp .ge 29, 3) := by decide +kernel
theorem dX5_changes_57 : decode cX5_changes 57 = .ok (.aload_n 0, 1) := by decide +kernel
theorem dX5_changes_58 : decode cX5_changes 58 = .ok (.getfield 16, 3) := by decide +kernel
theorem dX5_changes_61 : decode cX5_changes 61 = .ok (.bipush 120, 2) := by decide +kernel
theorem dX5_changes_63 : decode cX5_changes 63 = .ok (.aload_n 0, 1) := by decide +kernel
theorem dX5_changes_64 : decode cX5_changes 64 = .ok (.getfield 43, 3) := by decide +kernel
theorem dX5_changes_67 : decode cX5_changes 67 = .ok (.imul, 1) := by decide +kernel
theorem dX5_changes_68 : decode cX5_changes 68 = .ok (.iload_n 1, 1) := by decide +kernel
theorem dX5_changes_69 : decode cX5_changes 69 = .ok (.iadd, 1) := by decide +kernel
theorem dX5_changes_70 : decode cX5_changes 70 = .ok (.aload_n 0, 1) := by decide +kernel
theorem dX5_changes_71 : decode cX5_changes 71 = .ok (.getfield 7, 3) := by decide +kernel
theorem dX5_changes_74 : decode cX5_changes 74 = .ok (.iload_n 1, 1) := by decide +kernel
theorem dX5_changes_75 : decode cX5_changes 75 = .ok (.iaload, 1) := by decide +kernel
theorem dX5_changes_76 : decode cX5_changes 76 = .ok (.iastore, 1) := by decide +kernel
theorem dX5_changes_77 : decode cX5_changes 77 = .ok (.iinc 1 1, 3) := by decide +kernel
theorem dX5_changes_80 : decode cX5_changes 80 = .ok (.goto (-29), 3) := by decide +kernel
theorem dX5_changes_83 : decode cX5_changes 83 = .ok (.aload_n 0, 1) := by decide +kernel
theorem dX5_changes_84 : decode cX5_changes 84 = .ok (.dup, 1) := by decide +kernel
theorem dX5_changes_85 : decode cX5_changes 85 = .ok (.getfield 43, 3) := by decide +kernel
theorem dX5_changes_88 : decode cX5_changes 88 = .ok (.iconst 1, 1) := by decide +kernel
theorem dX5_changes_89 : decode cX5_changes 89 = .ok (.iadd, 1) := by decide +kernel
theorem dX5_changes_90 : decode cX5_changes 90 = .ok (.putfield 43, 3) := by decide +kernel
theorem dX5_changes_93 : decode cX5_changes 93 = .ok (.return_, 1) := by decide +kernel
theorem dX5_keeps_0 : decode cX5_keeps 0 = .ok (.iconst 0, 1) := by decide +kernel
theorem dX5_keeps_1 : decode cX5_keeps 1 = .ok (.istore_n 1, 1) := by decide +kernel
theorem dX5_keeps_2 : decode cX5_keeps 2 = .ok (.iload_n 1, 1) := by decide +kernel
theorem dX5_keeps_3 : decode cX5_keeps 3 = .ok (.bipush 120, 2) := by decide +kernel
theorem dX5_keeps_5 : decode cX5_keeps 5 = .ok (.if_icmp .ge 21, 3) := by decide +kernel
theorem dX5_keeps_8 : decode cX5_keeps 8 = .ok (.aload_n 0, 1) := by decide +kernel
theorem dX5_keeps_9 : decode cX5_keeps 9 = .ok (.getfield 13, 3) := by decide +kernel
theorem dX5_keeps_12 : decode cX5_keeps 12 = .ok (.iload_n 1, 1) := by decide +kernel
theorem dX5_keeps_13 : decode cX5_keeps 13 = .ok (.aload_n 0, 1) := by decide +kernel
theorem dX5_keeps_14 : decode cX5_keeps 14 = .ok (.getfield 7, 3) := by decide +kernel
theorem dX5_keeps_17 : decode cX5_keeps 17 = .ok (.iload_n 1, 1) := by decide +kernel
theorem dX5_keeps_18 : decode cX5_keeps 18 = .ok (.iaload, 1) := by decide +kernel
theorem dX5_keeps_19 : decode cX5_keeps 19 = .ok (.iastore, 1) := by decide +kernel
theorem dX5_keeps_20 : decode cX5_keeps 20 = .ok (.iinc 1 1, 3) := by decide +kernel
theorem dX5_keeps_23 : decode cX5_keeps 23 = .ok (.goto (-21), 3) := by decide +kernel
theorem dX5_keeps_26 : decode cX5_keeps 26 = .ok (.return_, 1) := by decide +kernel
theorem dX5_comesBack_0 : decode cX5_comesBack 0 = .ok (.iconst 0, 1) := by decide +kernel
theorem dX5_comesBack_1 : decode cX5_comesBack 1 = .ok (.istore_n 1, 1) := by decide +kernel
theorem dX5_comesBack_2 : decode cX5_comesBack 2 = .ok (.iload_n 1, 1) := by decide +kernel
theorem dX5_comesBack_3 : decode cX5_comesBack 3 = .ok (.bipush 120, 2) := by decide +kernel
theorem dX5_comesBack_5 : decode cX5_comesBack 5 = .ok (.if_icmp .ge 21, 3) := by decide +kernel
theorem dX5_comesBack_8 : decode cX5_comesBack 8 = .ok (.aload_n 0, 1) := by decide +kernel
theorem dX5_comesBack_9 : decode cX5_comesBack 9 = .ok (.getfield 7, 3) := by decide +kernel
theorem dX5_comesBack_12 : decode cX5_comesBack 12 = .ok (.iload_n 1, 1) := by decide +kernel
theorem dX5_comesBack_13 : decode cX5_comesBack 13 = .ok (.aload_n 0, 1) := by decide +kernel
theorem dX5_comesBack_14 : decode cX5_comesBack 14 = .ok (.getfield 13, 3) := by decide +kernel
theorem dX5_comesBack_17 : decode cX5_comesBack 17 = .ok (.iload_n 1, 1) := by decide +kernel
theorem dX5_comesBack_18 : decode cX5_comesBack 18 = .ok (.iaload, 1) := by decide +kernel
theorem dX5_comesBack_19 : decode cX5_comesBack 19 = .ok (.iastore, 1) := by decide +kernel
theorem dX5_comesBack_20 : decode cX5_comesBack 20 = .ok (.iinc 1 1, 3) := by decide +kernel
theorem dX5_comesBack_23 : decode cX5_comesBack 23 = .ok (.goto (-21), 3) := by decide +kernel
theorem dX5_comesBack_26 : decode cX5_comesBack 26 = .ok (.return_, 1) := by decide +kernel
theorem dX5_areEyes_0 : decode cX5_areEyes 0 = .ok (.iload_n 0, 1) := by decide +kernel
theorem dX5_areEyes_1 : decode cX5_areEyes 1 = .ok (.i2l, 1) := by decide +kernel
theorem dX5_areEyes_2 : decode cX5_areEyes 2 = .ok (.lconst 0, 1) := by decide +kernel
theorem dX5_areEyes_3 : decode cX5_areEyes 3 = .ok (.ldc2_w 47, 3) := by decide +kernel
theorem dX5_areEyes_6 : decode cX5_areEyes 6 = .ok (.invokestatic 49, 3) := by decide +kernel
theorem dX5_areEyes_9 : decode cX5_areEyes 9 = .ok (.ireturn, 1) := by decide +kernel
theorem dX5_isCourtier_0 : decode cX5_isCourtier 0 = .ok (.iload_n 0, 1) := by decide +kernel
theorem dX5_isCourtier_1 : decode cX5_isCourtier 1 = .ok (.i2l, 1) := by decide +kernel
theorem dX5_isCourtier_2 : decode cX5_isCourtier 2 = .ok (.lconst 0, 1) := by decide +kernel
theorem dX5_isCourtier_3 : decode cX5_isCourtier 3 = .ok (.ldc2_w 53, 3) := by decide +kernel
theorem dX5_isCourtier_6 : decode cX5_isCourtier 6 = .ok (.invokestatic 49, 3) := by decide +kernel
theorem dX5_isCourtier_9 : decode cX5_isCourtier 9 = .ok (.ireturn, 1) := by decide +kernel
theorem dX5_signSeen_0 : decode cX5_signSeen 0 = .ok (.aload_n 0, 1) := by decide +kernel
theorem dX5_signSeen_1 : decode cX5_signSeen 1 = .ok (.getfield 7, 3) := by decide +kernel
theorem dX5_signSeen_4 : decode cX5_signSeen 4 = .ok (.bipush 48, 2) := by decide +kernel
theorem dX5_signSeen_6 : decode cX5_signSeen 6 = .ok (.iload_n 1, 1) := by decide +kernel
theorem dX5_signSeen_7 : decode cX5_signSeen 7 = .ok (.iadd, 1) := by decide +kernel
theorem dX5_signSeen_8 : decode cX5_signSeen 8 = .ok (.iaload, 1) := by decide +kernel
theorem dX5_signSeen_9 : decode cX5_signSeen 9 = .ok (.istore_n 3, 1) := by decide +kernel
theorem dX5_signSeen_10 : decode cX5_signSeen 10 = .ok (.iload_n 2, 1) := by decide +kernel
theorem dX5_signSeen_11 : decode cX5_signSeen 11 = .ok (.iconst 1, 1) := by decide +kernel
theorem dX5_signSeen_12 : decode cX5_signSeen 12 = .ok (.if_icmp .ne 14, 3) := by decide +kernel
theorem dX5_signSeen_15 : decode cX5_signSeen 15 = .ok (.iload_n 3, 1) := by decide +kernel
theorem dX5_signSeen_16 : decode cX5_signSeen 16 = .ok (.iconst 3, 1) := by decide +kernel
theorem dX5_signSeen_17 : decode cX5_signSeen 17 = .ok (.if_icmp .le 9, 3) := by decide +kernel
theorem dX5_signSeen_20 : decode cX5_signSeen 20 = .ok (.iload_n 3, 1) := by decide +kernel
theorem dX5_signSeen_21 : decode cX5_signSeen 21 = .ok (.iconst 2, 1) := by decide +kernel
theorem dX5_signSeen_22 : decode cX5_signSeen 22 = .ok (.isub, 1) := by decide +kernel
theorem dX5_signSeen_23 : decode cX5_signSeen 23 = .ok (.goto 4, 3) := by decide +kernel
theorem dX5_signSeen_26 : decode cX5_signSeen 26 = .ok (.iload_n 3, 1) := by decide +kernel
theorem dX5_signSeen_27 : decode cX5_signSeen 27 = .ok (.ireturn, 1) := by decide +kernel
theorem dX5_endsSeen_0 : decode cX5_endsSeen 0 = .ok (.aload_n 0, 1) := by decide +kernel
theorem dX5_endsSeen_1 : decode cX5_endsSeen 1 = .ok (.getfield 7, 3) := by decide +kernel
theorem dX5_endsSeen_4 : decode cX5_endsSeen 4 = .ok (.bipush 72, 2) := by decide +kernel
theorem dX5_endsSeen_6 : decode cX5_endsSeen 6 = .ok (.iload_n 1, 1) := by decide +kernel
theorem dX5_endsSeen_7 : decode cX5_endsSeen 7 = .ok (.iadd, 1) := by decide +kernel
theorem dX5_endsSeen_8 : decode cX5_endsSeen 8 = .ok (.iaload, 1) := by decide +kernel
theorem dX5_endsSeen_9 : decode cX5_endsSeen 9 = .ok (.istore_n 3, 1) := by decide +kernel
theorem dX5_endsSeen_10 : decode cX5_endsSeen 10 = .ok (.iload_n 1, 1) := by decide +kernel
theorem dX5_endsSeen_11 : decode cX5_endsSeen 11 = .ok (.aload_n 0, 1) := by decide +kernel
theorem dX5_endsSeen_12 : decode cX5_endsSeen 12 = .ok (.getfield 7, 3) := by decide +kernel
theorem dX5_endsSeen_15 : decode cX5_endsSeen 15 = .ok (.iconst 3, 1) := by decide +kernel
theorem dX5_endsSeen_16 : decode cX5_endsSeen 16 = .ok (.iaload, 1) := by decide +kernel
theorem dX5_endsSeen_17 : decode cX5_endsSeen 17 = .ok (.iconst 1, 1) := by decide +kernel
theorem dX5_endsSeen_18 : decode cX5_endsSeen 18 = .ok (.isub, 1) := by decide +kernel
theorem dX5_endsSeen_19 : decode cX5_endsSeen 19 = .ok (.if_icmp .eq 22, 3) := by decide +kernel
theorem dX5_endsSeen_22 : decode cX5_endsSeen 22 = .ok (.iload_n 3, 1) := by decide +kernel
theorem dX5_endsSeen_23 : decode cX5_endsSeen 23 = .ok (.aload_n 0, 1) := by decide +kernel
theorem dX5_endsSeen_24 : decode cX5_endsSeen 24 = .ok (.getfield 7, 3) := by decide +kernel
theorem dX5_endsSeen_27 : decode cX5_endsSeen 27 = .ok (.iconst 0, 1) := by decide +kernel
theorem dX5_endsSeen_28 : decode cX5_endsSeen 28 = .ok (.iaload, 1) := by decide +kernel
theorem dX5_endsSeen_29 : decode cX5_endsSeen 29 = .ok (.if_icmp .ge 12, 3) := by decide +kernel
theorem dX5_endsSeen_32 : decode cX5_endsSeen 32 = .ok (.iload_n 2, 1) := by decide +kernel
theorem dX5_endsSeen_33 : decode cX5_endsSeen 33 = .ok (.iconst 2, 1) := by decide +kernel
theorem dX5_endsSeen_34 : decode cX5_endsSeen 34 = .ok (.if_icmp .ne 11, 3) := by decide +kernel
theorem dX5_endsSeen_37 : decode cX5_endsSeen 37 = .ok (.iload_n 3, 1) := by decide +kernel
theorem dX5_endsSeen_38 : decode cX5_endsSeen 38 = .ok (.ifCond .le 7, 3) := by decide +kernel
theorem dX5_endsSeen_41 : decode cX5_endsSeen 41 = .ok (.iconst 1, 1) := by decide +kernel
theorem dX5_endsSeen_42 : decode cX5_endsSeen 42 = .ok (.goto 4, 3) := by decide +kernel
theorem dX5_endsSeen_45 : decode cX5_endsSeen 45 = .ok (.iconst 0, 1) := by decide +kernel
theorem dX5_endsSeen_46 : decode cX5_endsSeen 46 = .ok (.ireturn, 1) := by decide +kernel
theorem dX5_isFlourish_0 : decode cX5_isFlourish 0 = .ok (.iload_n 0, 1) := by decide +kernel
theorem dX5_isFlourish_1 : decode cX5_isFlourish 1 = .ok (.bipush 42, 2) := by decide +kernel
theorem dX5_isFlourish_3 : decode cX5_isFlourish 3 = .ok (.if_icmp .lt 7, 3) := by decide +kernel
theorem dX5_isFlourish_6 : decode cX5_isFlourish 6 = .ok (.iconst 1, 1) := by decide +kernel
theorem dX5_isFlourish_7 : decode cX5_isFlourish 7 = .ok (.goto 4, 3) := by decide +kernel
theorem dX5_isFlourish_10 : decode cX5_isFlourish 10 = .ok (.iconst 0, 1) := by decide +kernel
theorem dX5_isFlourish_11 : decode cX5_isFlourish 11 = .ok (.ireturn, 1) := by decide +kernel
theorem dX5_isDeed_0 : decode cX5_isDeed 0 = .ok (.iload_n 0, 1) := by decide +kernel
theorem dX5_isDeed_1 : decode cX5_isDeed 1 = .ok (.i2l, 1) := by decide +kernel
theorem dX5_isDeed_2 : decode cX5_isDeed 2 = .ok (.ldc2_w 55, 3) := by decide +kernel
theorem dX5_isDeed_5 : decode cX5_isDeed 5 = .ok (.ldc2_w 57, 3) := by decide +kernel
theorem dX5_isDeed_8 : decode cX5_isDeed 8 = .ok (.invokestatic 49, 3) := by decide +kernel
theorem dX5_isDeed_11 : decode cX5_isDeed 11 = .ok (.ireturn, 1) := by decide +kernel
theorem dX5_parts_0 : decode cX5_parts 0 = .ok (.aload_n 0, 1) := by decide +kernel
theorem dX5_parts_1 : decode cX5_parts 1 = .ok (.iconst 0, 1) := by decide +kernel
theorem dX5_parts_2 : decode cX5_parts 2 = .ok (.putfield 59, 3) := by decide +kernel
theorem dX5_parts_5 : decode cX5_parts 5 = .ok (.iconst 0, 1) := by decide +kernel
theorem dX5_parts_6 : decode cX5_parts 6 = .ok (.istore_n 2, 1) := by decide +kernel
theorem dX5_parts_7 : decode cX5_parts 7 = .ok (.iconst 0, 1) := by decide +kernel
theorem dX5_parts_8 : decode cX5_parts 8 = .ok (.istore_n 3, 1) := by decide +kernel
theorem dX5_parts_9 : decode cX5_parts 9 = .ok (.iconst 0, 1) := by decide +kernel
theorem dX5_parts_10 : decode cX5_parts 10 = .ok (.istore 4, 2) := by decide +kernel
theorem dX5_parts_12 : decode cX5_parts 12 = .ok (.iload 4, 2) := by decide +kernel
theorem dX5_parts_14 : decode cX5_parts 14 = .ok (.aload_n 0, 1) := by decide +kernel
theorem dX5_parts_15 : decode cX5_parts 15 = .ok (.getfield 7, 3) := by decide +kernel
theorem dX5_parts_18 : decode cX5_parts 18 = .ok (.iconst 3, 1) := by decide +kernel
theorem dX5_parts_19 : decode cX5_parts 19 = .ok (.iaload, 1) := by decide +kernel
theorem dX5_parts_20 : decode cX5_parts 20 = .ok (.if_icmp .ge 102, 3) := by decide +kernel
theorem dX5_parts_23 : decode cX5_parts 23 = .ok (.iinc 2 1, 3) := by decide +kernel
theorem dX5_parts_26 : decode cX5_parts 26 = .ok (.iload_n 2, 1) := by decide +kernel
theorem dX5_parts_27 : decode cX5_parts 27 = .ok (.iconst 3, 1) := by decide +kernel
theorem dX5_parts_28 : decode cX5_parts 28 = .ok (.if_icmp .le 7, 3) := by decide +kernel
theorem dX5_parts_31 : decode cX5_parts 31 = .ok (.iconst 0, 1) := by decide +kernel
theorem dX5_parts_32 : decode cX5_parts 32 = .ok (.goto 15, 3) := by decide +kernel
theorem dX5_parts_35 : decode cX5_parts 35 = .ok (.bipush 6, 2) := by decide +kernel
theorem dX5_parts_37 : decode cX5_parts 37 = .ok (.iload_n 3, 1) := by decide +kernel
theorem dX5_parts_38 : decode cX5_parts 38 = .ok (.imul, 1) := by decide +kernel
theorem dX5_parts_39 : decode cX5_parts 39 = .ok (.aload_n 0, 1) := by decide +kernel
theorem dX5_parts_40 : decode cX5_parts 40 = .ok (.iload 4, 2) := by decide +kernel
theorem dX5_parts_42 : decode cX5_parts 42 = .ok (.iload_n 1, 1) := by decide +kernel
theorem dX5_parts_43 : decode cX5_parts 43 = .ok (.invokevirtual 62, 3) := by decide +kernel
theorem dX5_parts_46 : decode cX5_parts 46 = .ok (.iadd, 1) := by decide +kernel
theorem dX5_parts_47 : decode cX5_parts 47 = .ok (.istore_n 3, 1) := by decide +kernel
theorem dX5_parts_48 : decode cX5_parts 48 = .ok (.aload_n 0, 1) := by decide +kernel
theorem dX5_parts_49 : decode cX5_parts 49 = .ok (.iload 4, 2) := by decide +kernel
theorem dX5_parts_51 : decode cX5_parts 51 = .ok (.iload_n 1, 1) := by decide +kernel
theorem dX5_parts_52 : decode cX5_parts 52 = .ok (.invokevirtual 66, 3) := by decide +kernel
theorem dX5_parts_55 : decode cX5_parts 55 = .ok (.ifCond .eq 61, 3) := by decide +kernel
theorem dX5_parts_58 : decode cX5_parts 58 = .ok (.aload_n 0, 1) := by decide +kernel
theorem dX5_parts_59 : decode cX5_parts 59 = .ok (.getfield 25, 3) := by decide +kernel
theorem dX5_parts_62 : decode cX5_parts 62 = .ok (.aload_n 0, 1) := by decide +kernel
theorem dX5_parts_63 : decode cX5_parts 63 = .ok (.getfield 59, 3) := by decide +kernel
theorem dX5_parts_66 : decode cX5_parts 66 = .ok (.iload_n 2, 1) := by decide +kernel
theorem dX5_parts_67 : decode cX5_parts 67 = .ok (.iconst 1, 1) := by decide +kernel
theorem dX5_parts_68 : decode cX5_parts 68 = .ok (.if_icmp .ne 7, 3) := by decide +kernel
theorem dX5_parts_71 : decode cX5_parts 71 = .ok (.iload_n 3, 1) := by decide +kernel
theorem dX5_parts_72 : decode cX5_parts 72 = .ok (.goto 29, 3) := by decide +kernel
theorem dX5_parts_75 : decode cX5_parts 75 = .ok (.iload_n 2, 1) := by decide +kernel
theorem dX5_parts_76 : decode cX5_parts 76 = .ok (.iconst 2, 1) := by decide +kernel
theorem dX5_parts_77 : decode cX5_parts 77 = .ok (.if_icmp .ne 10, 3) := by decide +kernel
theorem dX5_parts_80 : decode cX5_parts 80 = .ok (.bipush 6, 2) := by decide +kernel
theorem dX5_parts_82 : decode cX5_parts 82 = .ok (.iload_n 3, 1) := by decide +kernel
theorem dX5_parts_83 : decode cX5_parts 83 = .ok (.iadd, 1) := by decide +kernel
theorem dX5_parts_84 : decode cX5_parts 84 = .ok (.goto 17, 3) := by decide +kernel
theorem dX5_parts_87 : decode cX5_parts 87 = .ok (.iload_n 2, 1) := by decide +kernel
theorem dX5_parts_88 : decode cX5_parts 88 = .ok (.iconst 3, 1) := by decide +kernel
theorem dX5_parts_89 : decode cX5_parts 89 = .ok (.if_icmp .ne 10, 3) := by decide +kernel
theorem dX5_parts_92 : decode cX5_parts 92 = .ok (.bipush 42, 2) := by decide +kernel
theorem dX5_parts_94 : decode cX5_parts 94 = .ok (.iload_n 3, 1) := by decide +kernel
theorem dX5_parts_95 : decode cX5_parts 95 = .ok (.iadd, 1) := by decide +kernel
theorem dX5_parts_96 : decode cX5_parts 96 = .ok (.goto 5, 3) := by decide +kernel
theorem dX5_parts_99 : decode cX5_parts 99 = .ok (.ldc 70, 2) := by decide +kernel
theorem dX5_parts_101 : decode cX5_parts 101 = .ok (.iastore, 1) := by decide +kernel
theorem dX5_parts_102 : decode cX5_parts 102 = .ok (.aload_n 0, 1) := by decide +kernel
theorem dX5_parts_103 : decode cX5_parts 103 = .ok (.dup, 1) := by decide +kernel
theorem dX5_parts_104 : decode cX5_parts 104 = .ok (.getfield 59, 3) := by decide +kernel
theorem dX5_parts_107 : decode cX5_parts 107 = .ok (.iconst 1, 1) := by decide +kernel
theorem dX5_parts_108 : decode cX5_parts 108 = .ok (.iadd, 1) := by decide +kernel
theorem dX5_parts_109 : decode cX5_parts 109 = .ok (.putfield 59, 3) := by decide +kernel
theorem dX5_parts_112 : decode cX5_parts 112 = .ok (.iconst 0, 1) := by decide +kernel
theorem dX5_parts_113 : decode cX5_parts 113 = .ok (.istore_n 2, 1) := by decide +kernel
theorem dX5_parts_114 : decode cX5_parts 114 = .ok (.iconst 0, 1) := by decide +kernel
theorem dX5_parts_115 : decode cX5_parts 115 = .ok (.istore_n 3, 1) := by decide +kernel
theorem dX5_parts_116 : decode cX5_parts 116 = .ok (.iinc 4 1, 3) := by decide +kernel
theorem dX5_parts_119 : decode cX5_parts 119 = .ok (.goto (-107), 3) := by decide +kernel
theorem dX5_parts_122 : decode cX5_parts 122 = .ok (.aload_n 0, 1) := by decide +kernel
theorem dX5_parts_123 : decode cX5_parts 123 = .ok (.iconst 0, 1) := by decide +kernel
theorem dX5_parts_124 : decode cX5_parts 124 = .ok (.putfield 71, 3) := by decide +kernel
theorem dX5_parts_127 : decode cX5_parts 127 = .ok (.iconst 0, 1) := by decide +kernel
theorem dX5_parts_128 : decode cX5_parts 128 = .ok (.istore 4, 2) := by decide +kernel
theorem dX5_parts_130 : decode cX5_parts 130 = .ok (.iload 4, 2) := by decide +kernel
theorem dX5_parts_132 : decode cX5_parts 132 = .ok (.aload_n 0, 1) := by decide +kernel
theorem dX5_parts_133 : decode cX5_parts 133 = .ok (.getfield 59, 3) := by decide +kernel
theorem dX5_parts_136 : decode cX5_parts 136 = .ok (.if_icmp .ge 48, 3) := by decide +kernel
theorem dX5_parts_139 : decode cX5_parts 139 = .ok (.aload_n 0, 1) := by decide +kernel
theorem dX5_parts_140 : decode cX5_parts 140 = .ok (.getfield 25, 3) := by decide +kernel
theorem dX5_parts_143 : decode cX5_parts 143 = .ok (.iload 4, 2) := by decide +kernel
theorem dX5_parts_145 : decode cX5_parts 145 = .ok (.iaload, 1) := by decide +kernel
theorem dX5_parts_146 : decode cX5_parts 146 = .ok (.invokestatic 74, 3) := by decide +kernel
theorem dX5_parts_149 : decode cX5_parts 149 = .ok (.ifCond .ne 29, 3) := by decide +kernel
theorem dX5_parts_152 : decode cX5_parts 152 = .ok (.aload_n 0, 1) := by decide +kernel
theorem dX5_parts_153 : decode cX5_parts 153 = .ok (.getfield 28, 3) := by decide +kernel
theorem dX5_parts_156 : decode cX5_parts 156 = .ok (.aload_n 0, 1) := by decide +kernel
theorem dX5_parts_157 : decode cX5_parts 157 = .ok (.getfield 71, 3) := by decide +kernel
theorem dX5_parts_160 : decode cX5_parts 160 = .ok (.aload_n 0, 1) := by decide +kernel
theorem dX5_parts_161 : decode cX5_parts 161 = .ok (.getfield 25, 3) := by decide +kernel
theorem dX5_parts_164 : decode cX5_parts 164 = .ok (.iload 4, 2) := by decide +kernel
theorem dX5_parts_166 : decode cX5_parts 166 = .ok (.iaload, 1) := by decide +kernel
theorem dX5_parts_167 : decode cX5_parts 167 = .ok (.iastore, 1) := by decide +kernel
theorem dX5_parts_168 : decode cX5_parts 168 = .ok (.aload_n 0, 1) := by decide +kernel
theorem dX5_parts_169 : decode cX5_parts 169 = .ok (.dup, 1) := by decide +kernel
theorem dX5_parts_170 : decode cX5_parts 170 = .ok (.getfield 71, 3) := by decide +kernel
theorem dX5_parts_173 : decode cX5_parts 173 = .ok (.iconst 1, 1) := by decide +kernel
theorem dX5_parts_174 : decode cX5_parts 174 = .ok (.iadd, 1) := by decide +kernel
theorem dX5_parts_175 : decode cX5_parts 175 = .ok (.putfield 71, 3) := by decide +kernel
theorem dX5_parts_178 : decode cX5_parts 178 = .ok (.iinc 4 1, 3) := by decide +kernel
theorem dX5_parts_181 : decode cX5_parts 181 = .ok (.goto (-51), 3) := by decide +kernel
theorem dX5_parts_184 : decode cX5_parts 184 = .ok (.return_, 1) := by decide +kernel
theorem dX5_isTooLong_0 : decode cX5_isTooLong 0 = .ok (.iconst 0, 1) := by decide +kernel
theorem dX5_isTooLong_1 : decode cX5_isTooLong 1 = .ok (.istore_n 1, 1) := by decide +kernel
theorem dX5_isTooLong_2 : decode cX5_isTooLong 2 = .ok (.iconst 0, 1) := by decide +kernel
theorem dX5_isTooLong_3 : decode cX5_isTooLong 3 = .ok (.istore_n 2, 1) := by decide +kernel
theorem dX5_isTooLong_4 : decode cX5_isTooLong 4 = .ok (.iload_n 2, 1) := by decide +kernel
theorem dX5_isTooLong_5 : decode cX5_isTooLong 5 = .ok (.aload_n 0, 1) := by decide +kernel
theorem dX5_isTooLong_6 : decode cX5_isTooLong 6 = .ok (.getfield 59, 3) := by decide +kernel
theorem dX5_isTooLong_9 : decode cX5_isTooLong 9 = .ok (.if_icmp .ge 30, 3) := by decide +kernel
theorem dX5_isTooLong_12 : decode cX5_isTooLong 12 = .ok (.iload_n 1, 1) := by decide +kernel
theorem dX5_isTooLong_13 : decode cX5_isTooLong 13 = .ok (.ifCond .ne 14, 3) := by decide +kernel
theorem dX5_isTooLong_16 : decode cX5_isTooLong 16 = .ok (.aload_n 0, 1) := by decide +kernel
theorem dX5_isTooLong_17 : decode cX5_isTooLong 17 = .ok (.getfield 25, 3) := by decide +kernel
theorem dX5_isTooLong_20 : decode cX5_isTooLong 20 = .ok (.iload_n 2, 1) := by decide +kernel
theorem dX5_isTooLong_21 : decode cX5_isTooLong 21 = .ok (.iaload, 1) := by decide +kernel
theorem dX5_isTooLong_22 : decode cX5_isTooLong 22 = .ok (.ldc 70, 2) := by decide +kernel
theorem dX5_isTooLong_24 : decode cX5_isTooLong 24 = .ok (.if_icmp .ne 7, 3) := by decide +kernel
theorem dX5_isTooLong_27 : decode cX5_isTooLong 27 = .ok (.iconst 1, 1) := by decide +kernel
theorem dX5_isTooLong_28 : decode cX5_isTooLong 28 = .ok (.goto 4, 3) := by decide +kernel
theorem dX5_isTooLong_31 : decode cX5_isTooLong 31 = .ok (.iconst 0, 1) := by decide +kernel
theorem dX5_isTooLong_32 : decode cX5_isTooLong 32 = .ok (.istore_n 1, 1) := by decide +kernel
theorem dX5_isTooLong_33 : decode cX5_isTooLong 33 = .ok (.iinc 2 1, 3) := by decide +kernel
theorem dX5_isTooLong_36 : decode cX5_isTooLong 36 = .ok (.goto (-32), 3) := by decide +kernel
theorem dX5_isTooLong_39 : decode cX5_isTooLong 39 = .ok (.iload_n 1, 1) := by decide +kernel
theorem dX5_isTooLong_40 : decode cX5_isTooLong 40 = .ok (.ireturn, 1) := by decide +kernel
theorem dX5_isRightThree_0 : decode cX5_isRightThree 0 = .ok (.aload_n 0, 1) := by decide +kernel
theorem dX5_isRightThree_1 : decode cX5_isRightThree 1 = .ok (.getfield 28, 3) := by decide +kernel
theorem dX5_isRightThree_4 : decode cX5_isRightThree 4 = .ok (.iload_n 1, 1) := by decide +kernel
theorem dX5_isRightThree_5 : decode cX5_isRightThree 5 = .ok (.iaload, 1) := by decide +kernel
theorem dX5_isRightThree_6 : decode cX5_isRightThree 6 = .ok (.invokestatic 78, 3) := by decide +kernel
theorem dX5_isRightThree_9 : decode cX5_isRightThree 9 = .ok (.ifCond .eq 35, 3) := by decide +kernel
theorem dX5_isRightThree_12 : decode cX5_isRightThree 12 = .ok (.aload_n 0, 1) := by decide +kernel
theorem dX5_isRightThree_13 : decode cX5_isRightThree 13 = .ok (.getfield 28, 3) := by decide +kernel
theorem dX5_isRightThree_16 : decode cX5_isRightThree 16 = .ok (.iload_n 1, 1) := by decide +kernel
theorem dX5_isRightThree_17 : decode cX5_isRightThree 17 = .ok (.iconst 1, 1) := by decide +kernel
theorem dX5_isRightThree_18 : decode cX5_isRightThree 18 = .ok (.iadd, 1) := by decide +kernel
theorem dX5_isRightThree_19 : decode cX5_isRightThree 19 = .ok (.iaload, 1) := by decide +kernel
theorem dX5_isRightThree_20 : decode cX5_isRightThree 20 = .ok (.invokestatic 81, 3) := by decide +kernel
theorem dX5_isRightThree_23 : decode cX5_isRightThree 23 = .ok (.ifCond .eq 21, 3) := by decide +kernel
theorem dX5_isRightThree_26 : decode cX5_isRightThree 26 = .ok (.aload_n 0, 1) := by decide +kernel
theorem dX5_isRightThree_27 : decode cX5_isRightThree 27 = .ok (.getfield 28, 3) := by decide +kernel
theorem dX5_isRightThree_30 : decode cX5_isRightThree 30 = .ok (.iload_n 1, 1) := by decide +kernel
theorem dX5_isRightThree_31 : decode cX5_isRightThree 31 = .ok (.iconst 2, 1) := by decide +kernel
theorem dX5_isRightThree_32 : decode cX5_isRightThree 32 = .ok (.iadd, 1) := by decide +kernel
theorem dX5_isRightThree_33 : decode cX5_isRightThree 33 = .ok (.iaload, 1) := by decide +kernel
theorem dX5_isRightThree_34 : decode cX5_isRightThree 34 = .ok (.invokestatic 78, 3) := by decide +kernel
theorem dX5_isRightThree_37 : decode cX5_isRightThree 37 = .ok (.ifCond .eq 7, 3) := by decide +kernel
theorem dX5_isRightThree_40 : decode cX5_isRightThree 40 = .ok (.iconst 1, 1) := by decide +kernel
theorem dX5_isRightThree_41 : decode cX5_isRightThree 41 = .ok (.goto 4, 3) := by decide +kernel
theorem dX5_isRightThree_44 : decode cX5_isRightThree 44 = .ok (.iconst 0, 1) := by decide +kernel
theorem dX5_isRightThree_45 : decode cX5_isRightThree 45 = .ok (.ireturn, 1) := by decide +kernel
theorem dX5_reason_0 : decode cX5_reason 0 = .ok (.aload_n 0, 1) := by decide +kernel
theorem dX5_reason_1 : decode cX5_reason 1 = .ok (.getfield 59, 3) := by decide +kernel
theorem dX5_reason_4 : decode cX5_reason 4 = .ok (.ifCond .ne 5, 3) := by decide +kernel
theorem dX5_reason_7 : decode cX5_reason 7 = .ok (.iconst 1, 1) := by decide +kernel
theorem dX5_reason_8 : decode cX5_reason 8 = .ok (.ireturn, 1) := by decide +kernel
theorem dX5_reason_9 : decode cX5_reason 9 = .ok (.aload_n 0, 1) := by decide +kernel
theorem dX5_reason_10 : decode cX5_reason 10 = .ok (.invokevirtual 84, 3) := by decide +kernel
theorem dX5_reason_13 : decode cX5_reason 13 = .ok (.ifCond .eq 5, 3) := by decide +kernel
theorem dX5_reason_16 : decode cX5_reason 16 = .ok (.iconst 2, 1) := by decide +kernel
theorem dX5_reason_17 : decode cX5_reason 17 = .ok (.ireturn, 1) := by decide +kernel
theorem dX5_reason_18 : decode cX5_reason 18 = .ok (.aload_n 0, 1) := by decide +kernel
theorem dX5_reason_19 : decode cX5_reason 19 = .ok (.getfield 71, 3) := by decide +kernel
theorem dX5_reason_22 : decode cX5_reason 22 = .ok (.ifCond .eq 12, 3) := by decide +kernel
theorem dX5_reason_25 : decode cX5_reason 25 = .ok (.aload_n 0, 1) := by decide +kernel
theorem dX5_reason_26 : decode cX5_reason 26 = .ok (.getfield 71, 3) := by decide +kernel
theorem dX5_reason_29 : decode cX5_reason 29 = .ok (.iconst 3, 1) := by decide +kernel
theorem dX5_reason_30 : decode cX5_reason 30 = .ok (.irem, 1) := by decide +kernel
theorem dX5_reason_31 : decode cX5_reason 31 = .ok (.ifCond .eq 5, 3) := by decide +kernel
theorem dX5_reason_34 : decode cX5_reason 34 = .ok (.iconst 3, 1) := by decide +kernel
theorem dX5_reason_35 : decode cX5_reason 35 = .ok (.ireturn, 1) := by decide +kernel
theorem dX5_reason_36 : decode cX5_reason 36 = .ok (.iconst 0, 1) := by decide +kernel
theorem dX5_reason_37 : decode cX5_reason 37 = .ok (.istore_n 1, 1) := by decide +kernel
theorem dX5_reason_38 : decode cX5_reason 38 = .ok (.iconst 0, 1) := by decide +kernel
theorem dX5_reason_39 : decode cX5_reason 39 = .ok (.istore_n 2, 1) := by decide +kernel
theorem dX5_reason_40 : decode cX5_reason 40 = .ok (.iconst 0, 1) := by decide +kernel
theorem dX5_reason_41 : decode cX5_reason 41 = .ok (.istore_n 3, 1) := by decide +kernel
theorem dX5_reason_42 : decode cX5_reason 42 = .ok (.iload_n 3, 1) := by decide +kernel
theorem dX5_reason_43 : decode cX5_reason 43 = .ok (.aload_n 0, 1) := by decide +kernel
theorem dX5_reason_44 : decode cX5_reason 44 = .ok (.getfield 71, 3) := by decide +kernel
theorem dX5_reason_47 : decode cX5_reason 47 = .ok (.if_icmp .ge 54, 3) := by decide +kernel
theorem dX5_reason_50 : decode cX5_reason 50 = .ok (.iload_n 1, 1) := by decide +kernel
theorem dX5_reason_51 : decode cX5_reason 51 = .ok (.ifCond .ne 11, 3) := by decide +kernel
theorem dX5_reason_54 : decode cX5_reason 54 = .ok (.aload_n 0, 1) := by decide +kernel
theorem dX5_reason_55 : decode cX5_reason 55 = .ok (.iload_n 3, 1) := by decide +kernel
theorem dX5_reason_56 : decode cX5_reason 56 = .ok (.invokevirtual 88, 3) := by decide +kernel
theorem dX5_reason_59 : decode cX5_reason 59 = .ok (.ifCond .ne 7, 3) := by decide +kernel
theorem dX5_reason_62 : decode cX5_reason 62 = .ok (.iconst 1, 1) := by decide +kernel
theorem dX5_reason_63 : decode cX5_reason 63 = .ok (.goto 4, 3) := by decide +kernel
theorem dX5_reason_66 : decode cX5_reason 66 = .ok (.iconst 0, 1) := by decide +kernel
theorem dX5_reason_67 : decode cX5_reason 67 = .ok (.istore_n 1, 1) := by decide +kernel
theorem dX5_reason_68 : decode cX5_reason 68 = .ok (.iload_n 2, 1) := by decide +kernel
theorem dX5_reason_69 : decode cX5_reason 69 = .ok (.ifCond .ne 20, 3) := by decide +kernel
theorem dX5_reason_72 : decode cX5_reason 72 = .ok (.aload_n 0, 1) := by decide +kernel
theorem dX5_reason_73 : decode cX5_reason 73 = .ok (.getfield 28, 3) := by decide +kernel
theorem dX5_reason_76 : decode cX5_reason 76 = .ok (.iload_n 3, 1) := by decide +kernel
theorem dX5_reason_77 : decode cX5_reason 77 = .ok (.iaload, 1) := by decide +kernel
theorem dX5_reason_78 : decode cX5_reason 78 = .ok (.aload_n 0, 1) := by decide +kernel
theorem dX5_reason_79 : decode cX5_reason 79 = .ok (.getfield 28, 3) := by decide +kernel
theorem dX5_reason_82 : decode cX5_reason 82 = .ok (.iload_n 3, 1) := by decide +kernel
theorem dX5_reason_83 : decode cX5_reason 83 = .ok (.iconst 2, 1) := by decide +kernel
theorem dX5_reason_84 : decode cX5_reason 84 = .ok (.iadd, 1) := by decide +kernel
theorem dX5_reason_85 : decode cX5_reason 85 = .ok (.iaload, 1) := by decide +kernel
theorem dX5_reason_86 : decode cX5_reason 86 = .ok (.if_icmp .ne 7, 3) := by decide +kernel
theorem dX5_reason_89 : decode cX5_reason 89 = .ok (.iconst 1, 1) := by decide +kernel
theorem dX5_reason_90 : decode cX5_reason 90 = .ok (.goto 4, 3) := by decide +kernel
theorem dX5_reason_93 : decode cX5_reason 93 = .ok (.iconst 0, 1) := by decide +kernel
theorem dX5_reason_94 : decode cX5_reason 94 = .ok (.istore_n 2, 1) := by decide +kernel
theorem dX5_reason_95 : decode cX5_reason 95 = .ok (.iinc 3 3, 3) := by decide +kernel
theorem dX5_reason_98 : decode cX5_reason 98 = .ok (.goto (-56), 3) := by decide +kernel
theorem dX5_reason_101 : decode cX5_reason 101 = .ok (.iload_n 1, 1) := by decide +kernel
theorem dX5_reason_102 : decode cX5_reason 102 = .ok (.ifCond .eq 7, 3) := by decide +kernel
theorem dX5_reason_105 : decode cX5_reason 105 = .ok (.iconst 4, 1) := by decide +kernel
theorem dX5_reason_106 : decode cX5_reason 106 = .ok (.goto 12, 3) := by decide +kernel
theorem dX5_reason_109 : decode cX5_reason 109 = .ok (.iload_n 2, 1) := by decide +kernel
theorem dX5_reason_110 : decode cX5_reason 110 = .ok (.ifCond .eq 7, 3) := by decide +kernel
theorem dX5_reason_113 : decode cX5_reason 113 = .ok (.iconst 5, 1) := by decide +kernel
theorem dX5_reason_114 : decode cX5_reason 114 = .ok (.goto 4, 3) := by decide +kernel
theorem dX5_reason_117 : decode cX5_reason 117 = .ok (.iconst 0, 1) := by decide +kernel
theorem dX5_reason_118 : decode cX5_reason 118 = .ok (.ireturn, 1) := by decide +kernel
theorem dX5_sentences_0 : decode cX5_sentences 0 = .ok (.aload_n 0, 1) := by decide +kernel
theorem dX5_sentences_1 : decode cX5_sentences 1 = .ok (.iload_n 1, 1) := by decide +kernel
theorem dX5_sentences_2 : decode cX5_sentences 2 = .ok (.invokevirtual 91, 3) := by decide +kernel
theorem dX5_sentences_5 : decode cX5_sentences 5 = .ok (.aload_n 0, 1) := by decide +kernel
theorem dX5_sentences_6 : decode cX5_sentences 6 = .ok (.invokevirtual 95, 3) := by decide +kernel
theorem dX5_sentences_9 : decode cX5_sentences 9 = .ok (.ifCond .ne 12, 3) := by decide +kernel
theorem dX5_sentences_12 : decode cX5_sentences 12 = .ok (.aload_n 0, 1) := by decide +kernel
theorem dX5_sentences_13 : decode cX5_sentences 13 = .ok (.getfield 71, 3) := by decide +kernel
theorem dX5_sentences_16 : decode cX5_sentences 16 = .ok (.iconst 3, 1) := by decide +kernel
theorem dX5_sentences_17 : decode cX5_sentences 17 = .ok (.idiv, 1) := by decide +kernel
theorem dX5_sentences_18 : decode cX5_sentences 18 = .ok (.goto 4, 3) := by decide +kernel
theorem dX5_sentences_21 : decode cX5_sentences 21 = .ok (.iconst 0, 1) := by decide +kernel
theorem dX5_sentences_22 : decode cX5_sentences 22 = .ok (.ireturn, 1) := by decide +kernel
theorem dX5_at_0 : decode cX5_at 0 = .ok (.bipush 12, 2) := by decide +kernel
theorem dX5_at_2 : decode cX5_at 2 = .ok (.bipush 6, 2) := by decide +kernel
theorem dX5_at_4 : decode cX5_at 4 = .ok (.iload_n 0, 1) := by decide +kernel
theorem dX5_at_5 : decode cX5_at 5 = .ok (.imul, 1) := by decide +kernel
theorem dX5_at_6 : decode cX5_at 6 = .ok (.iadd, 1) := by decide +kernel
theorem dX5_at_7 : decode cX5_at 7 = .ok (.iload_n 1, 1) := by decide +kernel
theorem dX5_at_8 : decode cX5_at 8 = .ok (.iadd, 1) := by decide +kernel
theorem dX5_at_9 : decode cX5_at 9 = .ok (.ireturn, 1) := by decide +kernel
theorem dX5_takes_0 : decode cX5_takes 0 = .ok (.iload_n 3, 1) := by decide +kernel
theorem dX5_takes_1 : decode cX5_takes 1 = .ok (.iconst 2, 1) := by decide +kernel
theorem dX5_takes_2 : decode cX5_takes 2 = .ok (.irem, 1) := by decide +kernel
theorem dX5_takes_3 : decode cX5_takes 3 = .ok (.ifCond .ne 12, 3) := by decide +kernel
theorem dX5_takes_6 : decode cX5_takes 6 = .ok (.aload_n 0, 1) := by decide +kernel
theorem dX5_takes_7 : decode cX5_takes 7 = .ok (.getfield 7, 3) := by decide +kernel
theorem dX5_takes_10 : decode cX5_takes 10 = .ok (.iconst 1, 1) := by decide +kernel
theorem dX5_takes_11 : decode cX5_takes 11 = .ok (.iaload, 1) := by decide +kernel
theorem dX5_takes_12 : decode cX5_takes 12 = .ok (.goto 10, 3) := by decide +kernel
theorem dX5_takes_15 : decode cX5_takes 15 = .ok (.aload_n 0, 1) := by decide +kernel
theorem dX5_takes_16 : decode cX5_takes 16 = .ok (.getfield 7, 3) := by decide +kernel
theorem dX5_takes_19 : decode cX5_takes 19 = .ok (.iconst 2, 1) := by decide +kernel
theorem dX5_takes_20 : decode cX5_takes 20 = .ok (.iaload, 1) := by decide +kernel
theorem dX5_takes_21 : decode cX5_takes 21 = .ok (.ineg, 1) := by decide +kernel
theorem dX5_takes_22 : decode cX5_takes 22 = .ok (.istore 5, 2) := by decide +kernel
theorem dX5_takes_24 : decode cX5_takes 24 = .ok (.aload_n 0, 1) := by decide +kernel
theorem dX5_takes_25 : decode cX5_takes 25 = .ok (.getfield 7, 3) := by decide +kernel
theorem dX5_takes_28 : decode cX5_takes 28 = .ok (.iload_n 1, 1) := by decide +kernel
theorem dX5_takes_29 : decode cX5_takes 29 = .ok (.iload_n 2, 1) := by decide +kernel
theorem dX5_takes_30 : decode cX5_takes 30 = .ok (.invokestatic 99, 3) := by decide +kernel
theorem dX5_takes_33 : decode cX5_takes 33 = .ok (.iaload, 1) := by decide +kernel
theorem dX5_takes_34 : decode cX5_takes 34 = .ok (.iload_n 1, 1) := by decide +kernel
theorem dX5_takes_35 : decode cX5_takes 35 = .ok (.iload 4, 2) := by decide +kernel
theorem dX5_takes_37 : decode cX5_takes 37 = .ok (.if_icmp .ne 10, 3) := by decide +kernel
theorem dX5_takes_40 : decode cX5_takes 40 = .ok (.iconst 2, 1) := by decide +kernel
theorem dX5_takes_41 : decode cX5_takes 41 = .ok (.iload 5, 2) := by decide +kernel
theorem dX5_takes_43 : decode cX5_takes 43 = .ok (.imul, 1) := by decide +kernel
theorem dX5_takes_44 : decode cX5_takes 44 = .ok (.goto 5, 3) := by decide +kernel
theorem dX5_takes_47 : decode cX5_takes 47 = .ok (.iload 5, 2) := by decide +kernel
theorem dX5_takes_49 : decode cX5_takes 49 = .ok (.iadd, 1) := by decide +kernel
theorem dX5_takes_50 : decode cX5_takes 50 = .ok (.istore 6, 2) := by decide +kernel
theorem dX5_takes_52 : decode cX5_takes 52 = .ok (.aload_n 0, 1) := by decide +kernel
theorem dX5_takes_53 : decode cX5_takes 53 = .ok (.getfield 7, 3) := by decide +kernel
theorem dX5_takes_56 : decode cX5_takes 56 = .ok (.iload_n 1, 1) := by decide +kernel
theorem dX5_takes_57 : decode cX5_takes 57 = .ok (.iload_n 2, 1) := by decide +kernel
theorem dX5_takes_58 : decode cX5_takes 58 = .ok (.invokestatic 99, 3) := by decide +kernel
theorem dX5_takes_61 : decode cX5_takes 61 = .ok (.iload 6, 2) := by decide +kernel
theorem dX5_takes_63 : decode cX5_takes 63 = .ok (.bipush 99, 2) := by decide +kernel
theorem dX5_takes_65 : decode cX5_takes 65 = .ok (.if_icmp .le 8, 3) := by decide +kernel
theorem dX5_takes_68 : decode cX5_takes 68 = .ok (.bipush 99, 2) := by decide +kernel
theorem dX5_takes_70 : decode cX5_takes 70 = .ok (.goto 17, 3) := by decide +kernel
theorem dX5_takes_73 : decode cX5_takes 73 = .ok (.iload 6, 2) := by decide +kernel
theorem dX5_takes_75 : decode cX5_takes 75 = .ok (.bipush (-99), 2) := by decide +kernel
theorem dX5_takes_77 : decode cX5_takes 77 = .ok (.if_icmp .ge 8, 3) := by decide +kernel
theorem dX5_takes_80 : decode cX5_takes 80 = .ok (.bipush (-99), 2) := by decide +kernel
theorem dX5_takes_82 : decode cX5_takes 82 = .ok (.goto 5, 3) := by decide +kernel
theorem dX5_takes_85 : decode cX5_takes 85 = .ok (.iload 6, 2) := by decide +kernel
theorem dX5_takes_87 : decode cX5_takes 87 = .ok (.iastore, 1) := by decide +kernel
theorem dX5_takes_88 : decode cX5_takes 88 = .ok (.return_, 1) := by decide +kernel
theorem dX5_takesAll_0 : decode cX5_takesAll 0 = .ok (.aload_n 0, 1) := by decide +kernel
theorem dX5_takesAll_1 : decode cX5_takesAll 1 = .ok (.aload_n 0, 1) := by decide +kernel
theorem dX5_takesAll_2 : decode cX5_takesAll 2 = .ok (.getfield 7, 3) := by decide +kernel
theorem dX5_takesAll_5 : decode cX5_takesAll 5 = .ok (.bipush 6, 2) := by decide +kernel
theorem dX5_takesAll_7 : decode cX5_takesAll 7 = .ok (.iload_n 1, 1) := by decide +kernel
theorem dX5_takesAll_8 : decode cX5_takesAll 8 = .ok (.iadd, 1) := by decide +kernel
theorem dX5_takesAll_9 : decode cX5_takesAll 9 = .ok (.iaload, 1) := by decide +kernel
theorem dX5_takesAll_10 : decode cX5_takesAll 10 = .ok (.invokevirtual 102, 3) := by decide +kernel
theorem dX5_takesAll_13 : decode cX5_takesAll 13 = .ok (.istore_n 2, 1) := by decide +kernel
theorem dX5_takesAll_14 : decode cX5_takesAll 14 = .ok (.iconst 0, 1) := by decide +kernel
theorem dX5_takesAll_15 : decode cX5_takesAll 15 = .ok (.istore_n 3, 1) := by decide +kernel
theorem dX5_takesAll_16 : decode cX5_takesAll 16 = .ok (.iconst 0, 1) := by decide +kernel
theorem dX5_takesAll_17 : decode cX5_takesAll 17 = .ok (.istore 4, 2) := by decide +kernel
theorem dX5_takesAll_19 : decode cX5_takesAll 19 = .ok (.iload 4, 2) := by decide +kernel
theorem dX5_takesAll_21 : decode cX5_takesAll 21 = .ok (.iload_n 2, 1) := by decide +kernel
theorem dX5_takesAll_22 : decode cX5_takesAll 22 = .ok (.if_icmp .ge 61, 3) := by decide +kernel
theorem dX5_takesAll_25 : decode cX5_takesAll 25 = .ok (.aload_n 0, 1) := by decide +kernel
theorem dX5_takesAll_26 : decode cX5_takesAll 26 = .ok (.getfield 28, 3) := by decide +kernel
theorem dX5_takesAll_29 : decode cX5_takesAll 29 = .ok (.iconst 3, 1) := by decide +kernel
theorem dX5_takesAll_30 : decode cX5_takesAll 30 = .ok (.iload 4, 2) := by decide +kernel
theorem dX5_takesAll_32 : decode cX5_takesAll 32 = .ok (.imul, 1) := by decide +kernel
theorem dX5_takesAll_33 : decode cX5_takesAll 33 = .ok (.iaload, 1) := by decide +kernel
theorem dX5_takesAll_34 : decode cX5_takesAll 34 = .ok (.iload_n 1, 1) := by decide +kernel
theorem dX5_takesAll_35 : decode cX5_takesAll 35 = .ok (.if_icmp .eq 42, 3) := by decide +kernel
theorem dX5_takesAll_38 : decode cX5_takesAll 38 = .ok (.aload_n 0, 1) := by decide +kernel
theorem dX5_takesAll_39 : decode cX5_takesAll 39 = .ok (.iload_n 1, 1) := by decide +kernel
theorem dX5_takesAll_40 : decode cX5_takesAll 40 = .ok (.aload_n 0, 1) := by decide +kernel
theorem dX5_takesAll_41 : decode cX5_takesAll 41 = .ok (.getfield 28, 3) := by decide +kernel
theorem dX5_takesAll_44 : decode cX5_takesAll 44 = .ok (.iconst 3, 1) := by decide +kernel
theorem dX5_takesAll_45 : decode cX5_takesAll 45 = .ok (.iload 4, 2) := by decide +kernel
theorem dX5_takesAll_47 : decode cX5_takesAll 47 = .ok (.imul, 1) := by decide +kernel
theorem dX5_takesAll_48 : decode cX5_takesAll 48 = .ok (.iaload, 1) := by decide +kernel
theorem dX5_takesAll_49 : decode cX5_takesAll 49 = .ok (.aload_n 0, 1) := by decide +kernel
theorem dX5_takesAll_50 : decode cX5_takesAll 50 = .ok (.getfield 28, 3) := by decide +kernel
theorem dX5_takesAll_53 : decode cX5_takesAll 53 = .ok (.iconst 3, 1) := by decide +kernel
theorem dX5_takesAll_54 : decode cX5_takesAll 54 = .ok (.iload 4, 2) := by decide +kernel
theorem dX5_takesAll_56 : decode cX5_takesAll 56 = .ok (.imul, 1) := by decide +kernel
theorem dX5_takesAll_57 : decode cX5_takesAll 57 = .ok (.iconst 1, 1) := by decide +kernel
theorem dX5_takesAll_58 : decode cX5_takesAll 58 = .ok (.iadd, 1) := by decide +kernel
theorem dX5_takesAll_59 : decode cX5_takesAll 59 = .ok (.iaload, 1) := by decide +kernel
theorem dX5_takesAll_60 : decode cX5_takesAll 60 = .ok (.aload_n 0, 1) := by decide +kernel
theorem dX5_takesAll_61 : decode cX5_takesAll 61 = .ok (.getfield 28, 3) := by decide +kernel
theorem dX5_takesAll_64 : decode cX5_takesAll 64 = .ok (.iconst 3, 1) := by decide +kernel
theorem dX5_takesAll_65 : decode cX5_takesAll 65 = .ok (.iload 4, 2) := by decide +kernel
theorem dX5_takesAll_67 : decode cX5_takesAll 67 = .ok (.imul, 1) := by decide +kernel
theorem dX5_takesAll_68 : decode cX5_takesAll 68 = .ok (.iconst 2, 1) := by decide +kernel
theorem dX5_takesAll_69 : decode cX5_takesAll 69 = .ok (.iadd, 1) := by decide +kernel
theorem dX5_takesAll_70 : decode cX5_takesAll 70 = .ok (.iaload, 1) := by decide +kernel
theorem dX5_takesAll_71 : decode cX5_takesAll 71 = .ok (.invokevirtual 106, 3) := by decide +kernel
theorem dX5_takesAll_74 : decode cX5_takesAll 74 = .ok (.iinc 3 1, 3) := by decide +kernel
theorem dX5_takesAll_77 : decode cX5_takesAll 77 = .ok (.iinc 4 1, 3) := by decide +kernel
theorem dX5_takesAll_80 : decode cX5_takesAll 80 = .ok (.goto (-61), 3) := by decide +kernel
theorem dX5_takesAll_83 : decode cX5_takesAll 83 = .ok (.iload_n 3, 1) := by decide +kernel
theorem dX5_takesAll_84 : decode cX5_takesAll 84 = .ok (.ireturn, 1) := by decide +kernel
theorem dX5_hushes_0 : decode cX5_hushes 0 = .ok (.bipush 48, 2) := by decide +kernel
theorem dX5_hushes_2 : decode cX5_hushes 2 = .ok (.istore_n 1, 1) := by decide +kernel
theorem dX5_hushes_3 : decode cX5_hushes 3 = .ok (.iload_n 1, 1) := by decide +kernel
theorem dX5_hushes_4 : decode cX5_hushes 4 = .ok (.bipush 120, 2) := by decide +kernel
theorem dX5_hushes_6 : decode cX5_hushes 6 = .ok (.if_icmp .ge 16, 3) := by decide +kernel
theorem dX5_hushes_9 : decode cX5_hushes 9 = .ok (.aload_n 0, 1) := by decide +kernel
theorem dX5_hushes_10 : decode cX5_hushes 10 = .ok (.getfield 7, 3) := by decide +kernel
theorem dX5_hushes_13 : decode cX5_hushes 13 = .ok (.iload_n 1, 1) := by decide +kernel
theorem dX5_hushes_14 : decode cX5_hushes 14 = .ok (.iconst 0, 1) := by decide +kernel
theorem dX5_hushes_15 : decode cX5_hushes 15 = .ok (.iastore, 1) := by decide +kernel
theorem dX5_hushes_16 : decode cX5_hushes 16 = .ok (.iinc 1 1, 3) := by decide +kernel
theorem dX5_hushes_19 : decode cX5_hushes 19 = .ok (.goto (-16), 3) := by decide +kernel
theorem dX5_hushes_22 : decode cX5_hushes 22 = .ok (.aload_n 0, 1) := by decide +kernel
theorem dX5_hushes_23 : decode cX5_hushes 23 = .ok (.getfield 7, 3) := by decide +kernel
theorem dX5_hushes_26 : decode cX5_hushes 26 = .ok (.iconst 3, 1) := by decide +kernel
theorem dX5_hushes_27 : decode cX5_hushes 27 = .ok (.iconst 0, 1) := by decide +kernel
theorem dX5_hushes_28 : decode cX5_hushes 28 = .ok (.iastore, 1) := by decide +kernel
theorem dX5_hushes_29 : decode cX5_hushes 29 = .ok (.return_, 1) := by decide +kernel
theorem dX5_gives_0 : decode cX5_gives 0 = .ok (.iconst 0, 1) := by decide +kernel
theorem dX5_gives_1 : decode cX5_gives 1 = .ok (.istore_n 1, 1) := by decide +kernel
theorem dX5_gives_2 : decode cX5_gives 2 = .ok (.iconst 0, 1) := by decide +kernel
theorem dX5_gives_3 : decode cX5_gives 3 = .ok (.istore_n 2, 1) := by decide +kernel
theorem dX5_gives_4 : decode cX5_gives 4 = .ok (.iload_n 2, 1) := by decide +kernel
theorem dX5_gives_5 : decode cX5_gives 5 = .ok (.bipush 6, 2) := by decide +kernel
theorem dX5_gives_7 : decode cX5_gives 7 = .ok (.if_icmp .ge 17, 3) := by decide +kernel
theorem dX5_gives_10 : decode cX5_gives 10 = .ok (.iload_n 1, 1) := by decide +kernel
theorem dX5_gives_11 : decode cX5_gives 11 = .ok (.aload_n 0, 1) := by decide +kernel
theorem dX5_gives_12 : decode cX5_gives 12 = .ok (.iload_n 2, 1) := by decide +kernel
theorem dX5_gives_13 : decode cX5_gives 13 = .ok (.invokevirtual 110, 3) := by decide +kernel
theorem dX5_gives_16 : decode cX5_gives 16 = .ok (.iadd, 1) := by decide +kernel
theorem dX5_gives_17 : decode cX5_gives 17 = .ok (.istore_n 1, 1) := by decide +kernel
theorem dX5_gives_18 : decode cX5_gives 18 = .ok (.iinc 2 1, 3) := by decide +kernel
theorem dX5_gives_21 : decode cX5_gives 21 = .ok (.goto (-17), 3) := by decide +kernel
theorem dX5_gives_24 : decode cX5_gives 24 = .ok (.aload_n 0, 1) := by decide +kernel
theorem dX5_gives_25 : decode cX5_gives 25 = .ok (.getfield 7, 3) := by decide +kernel
theorem dX5_gives_28 : decode cX5_gives 28 = .ok (.iconst 4, 1) := by decide +kernel
theorem dX5_gives_29 : decode cX5_gives 29 = .ok (.dup2, 1) := by decide +kernel
theorem dX5_gives_30 : decode cX5_gives 30 = .ok (.iaload, 1) := by decide +kernel
theorem dX5_gives_31 : decode cX5_gives 31 = .ok (.iconst 1, 1) := by decide +kernel
theorem dX5_gives_32 : decode cX5_gives 32 = .ok (.iadd, 1) := by decide +kernel
theorem dX5_gives_33 : decode cX5_gives 33 = .ok (.iastore, 1) := by decide +kernel
theorem dX5_gives_34 : decode cX5_gives 34 = .ok (.aload_n 0, 1) := by decide +kernel
theorem dX5_gives_35 : decode cX5_gives 35 = .ok (.getfield 7, 3) := by decide +kernel
theorem dX5_gives_38 : decode cX5_gives 38 = .ok (.iconst 5, 1) := by decide +kernel
theorem dX5_gives_39 : decode cX5_gives 39 = .ok (.dup2, 1) := by decide +kernel
theorem dX5_gives_40 : decode cX5_gives 40 = .ok (.iaload, 1) := by decide +kernel
theorem dX5_gives_41 : decode cX5_gives 41 = .ok (.iload_n 1, 1) := by decide +kernel
theorem dX5_gives_42 : decode cX5_gives 42 = .ok (.iadd, 1) := by decide +kernel
theorem dX5_gives_43 : decode cX5_gives 43 = .ok (.iastore, 1) := by decide +kernel
theorem dX5_gives_44 : decode cX5_gives 44 = .ok (.aload_n 0, 1) := by decide +kernel
theorem dX5_gives_45 : decode cX5_gives 45 = .ok (.invokevirtual 113, 3) := by decide +kernel
theorem dX5_gives_48 : decode cX5_gives 48 = .ok (.iload_n 1, 1) := by decide +kernel
theorem dX5_gives_49 : decode cX5_gives 49 = .ok (.ireturn, 1) := by decide +kernel
theorem dX5_canGive_0 : decode cX5_canGive 0 = .ok (.aload_n 0, 1) := by decide +kernel
theorem dX5_canGive_1 : decode cX5_canGive 1 = .ok (.iconst 0, 1) := by decide +kernel
theorem dX5_canGive_2 : decode cX5_canGive 2 = .ok (.invokevirtual 102, 3) := by decide +kernel
theorem dX5_canGive_5 : decode cX5_canGive 5 = .ok (.ifCond .le 7, 3) := by decide +kernel
theorem dX5_canGive_8 : decode cX5_canGive 8 = .ok (.iconst 1, 1) := by decide +kernel
theorem dX5_canGive_9 : decode cX5_canGive 9 = .ok (.goto 4, 3) := by decide +kernel
theorem dX5_canGive_12 : decode cX5_canGive 12 = .ok (.iconst 0, 1) := by decide +kernel
theorem dX5_canGive_13 : decode cX5_canGive 13 = .ok (.ireturn, 1) := by decide +kernel
theorem dX5_isSetting_0 : decode cX5_isSetting 0 = .ok (.iload_n 0, 1) := by decide +kernel
theorem dX5_isSetting_1 : decode cX5_isSetting 1 = .ok (.tableswitch 49 0 2 #[27, 39, 39], 27) := by decide +kernel
theorem dX5_isSetting_28 : decode cX5_isSetting 28 = .ok (.iload_n 1, 1) := by decide +kernel
theorem dX5_isSetting_29 : decode cX5_isSetting 29 = .ok (.i2l, 1) := by decide +kernel
theorem dX5_isSetting_30 : decode cX5_isSetting 30 = .ok (.ldc2_w 47, 3) := by decide +kernel
theorem dX5_isSetting_33 : decode cX5_isSetting 33 = .ok (.ldc2_w 116, 3) := by decide +kernel
theorem dX5_isSetting_36 : decode cX5_isSetting 36 = .ok (.invokestatic 49, 3) := by decide +kernel
theorem dX5_isSetting_39 : decode cX5_isSetting 39 = .ok (.ireturn, 1) := by decide +kernel
theorem dX5_isSetting_40 : decode cX5_isSetting 40 = .ok (.iload_n 1, 1) := by decide +kernel
theorem dX5_isSetting_41 : decode cX5_isSetting 41 = .ok (.i2l, 1) := by decide +kernel
theorem dX5_isSetting_42 : decode cX5_isSetting 42 = .ok (.lconst 1, 1) := by decide +kernel
theorem dX5_isSetting_43 : decode cX5_isSetting 43 = .ok (.ldc2_w 116, 3) := by decide +kernel
theorem dX5_isSetting_46 : decode cX5_isSetting 46 = .ok (.invokestatic 49, 3) := by decide +kernel
theorem dX5_isSetting_49 : decode cX5_isSetting 49 = .ok (.ireturn, 1) := by decide +kernel
theorem dX5_isSetting_50 : decode cX5_isSetting 50 = .ok (.iconst 0, 1) := by decide +kernel
theorem dX5_isSetting_51 : decode cX5_isSetting 51 = .ok (.ireturn, 1) := by decide +kernel
theorem dX5_set_0 : decode cX5_set 0 = .ok (.iload_n 1, 1) := by decide +kernel
theorem dX5_set_1 : decode cX5_set 1 = .ok (.iload_n 2, 1) := by decide +kernel
theorem dX5_set_2 : decode cX5_set 2 = .ok (.invokestatic 118, 3) := by decide +kernel
theorem dX5_set_5 : decode cX5_set 5 = .ok (.ifCond .ne 6, 3) := by decide +kernel
theorem dX5_set_8 : decode cX5_set 8 = .ok (.ldc 121, 2) := by decide +kernel
theorem dX5_set_10 : decode cX5_set 10 = .ok (.ireturn, 1) := by decide +kernel
theorem dX5_set_11 : decode cX5_set 11 = .ok (.aload_n 0, 1) := by decide +kernel
theorem dX5_set_12 : decode cX5_set 12 = .ok (.invokevirtual 122, 3) := by decide +kernel
theorem dX5_set_15 : decode cX5_set 15 = .ok (.aload_n 0, 1) := by decide +kernel
theorem dX5_set_16 : decode cX5_set 16 = .ok (.getfield 7, 3) := by decide +kernel
theorem dX5_set_19 : decode cX5_set 19 = .ok (.iload_n 1, 1) := by decide +kernel
theorem dX5_set_20 : decode cX5_set 20 = .ok (.iaload, 1) := by decide +kernel
theorem dX5_set_21 : decode cX5_set 21 = .ok (.istore_n 3, 1) := by decide +kernel
theorem dX5_set_22 : decode cX5_set 22 = .ok (.aload_n 0, 1) := by decide +kernel
theorem dX5_set_23 : decode cX5_set 23 = .ok (.getfield 7, 3) := by decide +kernel
theorem dX5_set_26 : decode cX5_set 26 = .ok (.iload_n 1, 1) := by decide +kernel
theorem dX5_set_27 : decode cX5_set 27 = .ok (.iload_n 2, 1) := by decide +kernel
theorem dX5_set_28 : decode cX5_set 28 = .ok (.iastore, 1) := by decide +kernel
theorem dX5_set_29 : decode cX5_set 29 = .ok (.iload_n 3, 1) := by decide +kernel
theorem dX5_set_30 : decode cX5_set 30 = .ok (.ireturn, 1) := by decide +kernel
theorem dX5_eyes_0 : decode cX5_eyes 0 = .ok (.iload_n 1, 1) := by decide +kernel
theorem dX5_eyes_1 : decode cX5_eyes 1 = .ok (.invokestatic 78, 3) := by decide +kernel
theorem dX5_eyes_4 : decode cX5_eyes 4 = .ok (.ifCond .ne 6, 3) := by decide +kernel
theorem dX5_eyes_7 : decode cX5_eyes 7 = .ok (.ldc 125, 2) := by decide +kernel
theorem dX5_eyes_9 : decode cX5_eyes 9 = .ok (.ireturn, 1) := by decide +kernel
theorem dX5_eyes_10 : decode cX5_eyes 10 = .ok (.iload_n 2, 1) := by decide +kernel
theorem dX5_eyes_11 : decode cX5_eyes 11 = .ok (.invokestatic 126, 3) := by decide +kernel
theorem dX5_eyes_14 : decode cX5_eyes 14 = .ok (.ifCond .ne 6, 3) := by decide +kernel
theorem dX5_eyes_17 : decode cX5_eyes 17 = .ok (.ldc 121, 2) := by decide +kernel
theorem dX5_eyes_19 : decode cX5_eyes 19 = .ok (.ireturn, 1) := by decide +kernel
theorem dX5_eyes_20 : decode cX5_eyes 20 = .ok (.aload_n 0, 1) := by decide +kernel
theorem dX5_eyes_21 : decode cX5_eyes 21 = .ok (.invokevirtual 122, 3) := by decide +kernel
theorem dX5_eyes_24 : decode cX5_eyes 24 = .ok (.aload_n 0, 1) := by decide +kernel
theorem dX5_eyes_25 : decode cX5_eyes 25 = .ok (.getfield 7, 3) := by decide +kernel
theorem dX5_eyes_28 : decode cX5_eyes 28 = .ok (.bipush 6, 2) := by decide +kernel
theorem dX5_eyes_30 : decode cX5_eyes 30 = .ok (.iload_n 1, 1) := by decide +kernel
theorem dX5_eyes_31 : decode cX5_eyes 31 = .ok (.iadd, 1) := by decide +kernel
theorem dX5_eyes_32 : decode cX5_eyes 32 = .ok (.iaload, 1) := by decide +kernel
theorem dX5_eyes_33 : decode cX5_eyes 33 = .ok (.istore_n 3, 1) := by decide +kernel
theorem dX5_eyes_34 : decode cX5_eyes 34 = .ok (.aload_n 0, 1) := by decide +kernel
theorem dX5_eyes_35 : decode cX5_eyes 35 = .ok (.getfield 7, 3) := by decide +kernel
theorem dX5_eyes_38 : decode cX5_eyes 38 = .ok (.bipush 6, 2) := by decide +kernel
theorem dX5_eyes_40 : decode cX5_eyes 40 = .ok (.iload_n 1, 1) := by decide +kernel
theorem dX5_eyes_41 : decode cX5_eyes 41 = .ok (.iadd, 1) := by decide +kernel
theorem dX5_eyes_42 : decode cX5_eyes 42 = .ok (.iload_n 2, 1) := by decide +kernel
theorem dX5_eyes_43 : decode cX5_eyes 43 = .ok (.iastore, 1) := by decide +kernel
theorem dX5_eyes_44 : decode cX5_eyes 44 = .ok (.iload_n 3, 1) := by decide +kernel
theorem dX5_eyes_45 : decode cX5_eyes 45 = .ok (.ireturn, 1) := by decide +kernel
theorem dX5_adds_0 : decode cX5_adds 0 = .ok (.aload_n 0, 1) := by decide +kernel
theorem dX5_adds_1 : decode cX5_adds 1 = .ok (.getfield 7, 3) := by decide +kernel
theorem dX5_adds_4 : decode cX5_adds 4 = .ok (.bipush 48, 2) := by decide +kernel
theorem dX5_adds_6 : decode cX5_adds 6 = .ok (.aload_n 0, 1) := by decide +kernel
theorem dX5_adds_7 : decode cX5_adds 7 = .ok (.getfield 7, 3) := by decide +kernel
theorem dX5_adds_10 : decode cX5_adds 10 = .ok (.iconst 3, 1) := by decide +kernel
theorem dX5_adds_11 : decode cX5_adds 11 = .ok (.iaload, 1) := by decide +kernel
theorem dX5_adds_12 : decode cX5_adds 12 = .ok (.iadd, 1) := by decide +kernel
theorem dX5_adds_13 : decode cX5_adds 13 = .ok (.iload_n 1, 1) := by decide +kernel
theorem dX5_adds_14 : decode cX5_adds 14 = .ok (.iastore, 1) := by decide +kernel
theorem dX5_adds_15 : decode cX5_adds 15 = .ok (.aload_n 0, 1) := by decide +kernel
theorem dX5_adds_16 : decode cX5_adds 16 = .ok (.getfield 7, 3) := by decide +kernel
theorem dX5_adds_19 : decode cX5_adds 19 = .ok (.bipush 72, 2) := by decide +kernel
theorem dX5_adds_21 : decode cX5_adds 21 = .ok (.aload_n 0, 1) := by decide +kernel
theorem dX5_adds_22 : decode cX5_adds 22 = .ok (.getfield 7, 3) := by decide +kernel
theorem dX5_adds_25 : decode cX5_adds 25 = .ok (.iconst 3, 1) := by decide +kernel
theorem dX5_adds_26 : decode cX5_adds 26 = .ok (.iaload, 1) := by decide +kernel
theorem dX5_adds_27 : decode cX5_adds 27 = .ok (.iadd, 1) := by decide +kernel
theorem dX5_adds_28 : decode cX5_adds 28 = .ok (.iload_n 2, 1) := by decide +kernel
theorem dX5_adds_29 : decode cX5_adds 29 = .ok (.iastore, 1) := by decide +kernel
theorem dX5_adds_30 : decode cX5_adds 30 = .ok (.aload_n 0, 1) := by decide +kernel
theorem dX5_adds_31 : decode cX5_adds 31 = .ok (.getfield 7, 3) := by decide +kernel
theorem dX5_adds_34 : decode cX5_adds 34 = .ok (.iconst 3, 1) := by decide +kernel
theorem dX5_adds_35 : decode cX5_adds 35 = .ok (.dup2, 1) := by decide +kernel
theorem dX5_adds_36 : decode cX5_adds 36 = .ok (.iaload, 1) := by decide +kernel
theorem dX5_adds_37 : decode cX5_adds 37 = .ok (.iconst 1, 1) := by decide +kernel
theorem dX5_adds_38 : decode cX5_adds 38 = .ok (.iadd, 1) := by decide +kernel
theorem dX5_adds_39 : decode cX5_adds 39 = .ok (.iastore, 1) := by decide +kernel
theorem dX5_adds_40 : decode cX5_adds 40 = .ok (.return_, 1) := by decide +kernel
theorem dX5_bow_0 : decode cX5_bow 0 = .ok (.iload_n 1, 1) := by decide +kernel
theorem dX5_bow_1 : decode cX5_bow 1 = .ok (.i2l, 1) := by decide +kernel
theorem dX5_bow_2 : decode cX5_bow 2 = .ok (.lconst 1, 1) := by decide +kernel
theorem dX5_bow_3 : decode cX5_bow 3 = .ok (.ldc2_w 129, 3) := by decide +kernel
theorem dX5_bow_6 : decode cX5_bow 6 = .ok (.invokestatic 49, 3) := by decide +kernel
theorem dX5_bow_9 : decode cX5_bow 9 = .ok (.ifCond .eq 25, 3) := by decide +kernel
theorem dX5_bow_12 : decode cX5_bow 12 = .ok (.iload_n 2, 1) := by decide +kernel
theorem dX5_bow_13 : decode cX5_bow 13 = .ok (.i2l, 1) := by decide +kernel
theorem dX5_bow_14 : decode cX5_bow 14 = .ok (.lconst 0, 1) := by decide +kernel
theorem dX5_bow_15 : decode cX5_bow 15 = .ok (.lconst 1, 1) := by decide +kernel
theorem dX5_bow_16 : decode cX5_bow 16 = .ok (.invokestatic 49, 3) := by decide +kernel
theorem dX5_bow_19 : decode cX5_bow 19 = .ok (.ifCond .eq 15, 3) := by decide +kernel
theorem dX5_bow_22 : decode cX5_bow 22 = .ok (.iload_n 3, 1) := by decide +kernel
theorem dX5_bow_23 : decode cX5_bow 23 = .ok (.i2l, 1) := by decide +kernel
theorem dX5_bow_24 : decode cX5_bow 24 = .ok (.lconst 0, 1) := by decide +kernel
theorem dX5_bow_25 : decode cX5_bow 25 = .ok (.ldc2_w 116, 3) := by decide +kernel
theorem dX5_bow_28 : decode cX5_bow 28 = .ok (.invokestatic 49, 3) := by decide +kernel
theorem dX5_bow_31 : decode cX5_bow 31 = .ok (.ifCond .ne 6, 3) := by decide +kernel
theorem dX5_bow_34 : decode cX5_bow 34 = .ok (.ldc 121, 2) := by decide +kernel
theorem dX5_bow_36 : decode cX5_bow 36 = .ok (.ireturn, 1) := by decide +kernel
theorem dX5_bow_37 : decode cX5_bow 37 = .ok (.aload_n 0, 1) := by decide +kernel
theorem dX5_bow_38 : decode cX5_bow 38 = .ok (.getfield 7, 3) := by decide +kernel
theorem dX5_bow_41 : decode cX5_bow 41 = .ok (.iconst 3, 1) := by decide +kernel
theorem dX5_bow_42 : decode cX5_bow 42 = .ok (.iaload, 1) := by decide +kernel
theorem dX5_bow_43 : decode cX5_bow 43 = .ok (.bipush 24, 2) := by decide +kernel
theorem dX5_bow_45 : decode cX5_bow 45 = .ok (.if_icmp .ne 6, 3) := by decide +kernel
theorem dX5_bow_48 : decode cX5_bow 48 = .ok (.ldc 131, 2) := by decide +kernel
theorem dX5_bow_50 : decode cX5_bow 50 = .ok (.ireturn, 1) := by decide +kernel
theorem dX5_bow_51 : decode cX5_bow 51 = .ok (.aload_n 0, 1) := by decide +kernel
theorem dX5_bow_52 : decode cX5_bow 52 = .ok (.invokevirtual 122, 3) := by decide +kernel
theorem dX5_bow_55 : decode cX5_bow 55 = .ok (.aload_n 0, 1) := by decide +kernel
theorem dX5_bow_56 : decode cX5_bow 56 = .ok (.iconst 2, 1) := by decide +kernel
theorem dX5_bow_57 : decode cX5_bow 57 = .ok (.iload_n 1, 1) := by decide +kernel
theorem dX5_bow_58 : decode cX5_bow 58 = .ok (.iconst 1, 1) := by decide +kernel
theorem dX5_bow_59 : decode cX5_bow 59 = .ok (.isub, 1) := by decide +kernel
theorem dX5_bow_60 : decode cX5_bow 60 = .ok (.imul, 1) := by decide +kernel
theorem dX5_bow_61 : decode cX5_bow 61 = .ok (.iload_n 2, 1) := by decide +kernel
theorem dX5_bow_62 : decode cX5_bow 62 = .ok (.iadd, 1) := by decide +kernel
theorem dX5_bow_63 : decode cX5_bow 63 = .ok (.iload_n 3, 1) := by decide +kernel
theorem dX5_bow_64 : decode cX5_bow 64 = .ok (.invokevirtual 132, 3) := by decide +kernel
theorem dX5_bow_67 : decode cX5_bow 67 = .ok (.aload_n 0, 1) := by decide +kernel
theorem dX5_bow_68 : decode cX5_bow 68 = .ok (.getfield 7, 3) := by decide +kernel
theorem dX5_bow_71 : decode cX5_bow 71 = .ok (.iconst 3, 1) := by decide +kernel
theorem dX5_bow_72 : decode cX5_bow 72 = .ok (.iaload, 1) := by decide +kernel
theorem dX5_bow_73 : decode cX5_bow 73 = .ok (.ireturn, 1) := by decide +kernel
theorem dX5_takeBack_0 : decode cX5_takeBack 0 = .ok (.aload_n 0, 1) := by decide +kernel
theorem dX5_takeBack_1 : decode cX5_takeBack 1 = .ok (.getfield 7, 3) := by decide +kernel
theorem dX5_takeBack_4 : decode cX5_takeBack 4 = .ok (.iconst 3, 1) := by decide +kernel
theorem dX5_takeBack_5 : decode cX5_takeBack 5 = .ok (.iaload, 1) := by decide +kernel
theorem dX5_takeBack_6 : decode cX5_takeBack 6 = .ok (.ifCond .ne 6, 3) := by decide +kernel
theorem dX5_takeBack_9 : decode cX5_takeBack 9 = .ok (.ldc 136, 2) := by decide +kernel
theorem dX5_takeBack_11 : decode cX5_takeBack 11 = .ok (.ireturn, 1) := by decide +kernel
theorem dX5_takeBack_12 : decode cX5_takeBack 12 = .ok (.aload_n 0, 1) := by decide +kernel
theorem dX5_takeBack_13 : decode cX5_takeBack 13 = .ok (.invokevirtual 122, 3) := by decide +kernel
theorem dX5_takeBack_16 : decode cX5_takeBack 16 = .ok (.aload_n 0, 1) := by decide +kernel
theorem dX5_takeBack_17 : decode cX5_takeBack 17 = .ok (.getfield 7, 3) := by decide +kernel
theorem dX5_takeBack_20 : decode cX5_takeBack 20 = .ok (.iconst 3, 1) := by decide +kernel
theorem dX5_takeBack_21 : decode cX5_takeBack 21 = .ok (.dup2, 1) := by decide +kernel
theorem dX5_takeBack_22 : decode cX5_takeBack 22 = .ok (.iaload, 1) := by decide +kernel
theorem dX5_takeBack_23 : decode cX5_takeBack 23 = .ok (.iconst 1, 1) := by decide +kernel
theorem dX5_takeBack_24 : decode cX5_takeBack 24 = .ok (.isub, 1) := by decide +kernel
theorem dX5_takeBack_25 : decode cX5_takeBack 25 = .ok (.iastore, 1) := by decide +kernel
theorem dX5_takeBack_26 : decode cX5_takeBack 26 = .ok (.aload_n 0, 1) := by decide +kernel
theorem dX5_takeBack_27 : decode cX5_takeBack 27 = .ok (.getfield 7, 3) := by decide +kernel
theorem dX5_takeBack_30 : decode cX5_takeBack 30 = .ok (.bipush 48, 2) := by decide +kernel
theorem dX5_takeBack_32 : decode cX5_takeBack 32 = .ok (.aload_n 0, 1) := by decide +kernel
theorem dX5_takeBack_33 : decode cX5_takeBack 33 = .ok (.getfield 7, 3) := by decide +kernel
theorem dX5_takeBack_36 : decode cX5_takeBack 36 = .ok (.iconst 3, 1) := by decide +kernel
theorem dX5_takeBack_37 : decode cX5_takeBack 37 = .ok (.iaload, 1) := by decide +kernel
theorem dX5_takeBack_38 : decode cX5_takeBack 38 = .ok (.iadd, 1) := by decide +kernel
theorem dX5_takeBack_39 : decode cX5_takeBack 39 = .ok (.iaload, 1) := by decide +kernel
theorem dX5_takeBack_40 : decode cX5_takeBack 40 = .ok (.istore_n 1, 1) := by decide +kernel
theorem dX5_takeBack_41 : decode cX5_takeBack 41 = .ok (.aload_n 0, 1) := by decide +kernel
theorem dX5_takeBack_42 : decode cX5_takeBack 42 = .ok (.getfield 7, 3) := by decide +kernel
theorem dX5_takeBack_45 : decode cX5_takeBack 45 = .ok (.bipush 48, 2) := by decide +kernel
theorem dX5_takeBack_47 : decode cX5_takeBack 47 = .ok (.aload_n 0, 1) := by decide +kernel
theorem dX5_takeBack_48 : decode cX5_takeBack 48 = .ok (.getfield 7, 3) := by decide +kernel
theorem dX5_takeBack_51 : decode cX5_takeBack 51 = .ok (.iconst 3, 1) := by decide +kernel
theorem dX5_takeBack_52 : decode cX5_takeBack 52 = .ok (.iaload, 1) := by decide +kernel
theorem dX5_takeBack_53 : decode cX5_takeBack 53 = .ok (.iadd, 1) := by decide +kernel
theorem dX5_takeBack_54 : decode cX5_takeBack 54 = .ok (.iconst 0, 1) := by decide +kernel
theorem dX5_takeBack_55 : decode cX5_takeBack 55 = .ok (.iastore, 1) := by decide +kernel
theorem dX5_takeBack_56 : decode cX5_takeBack 56 = .ok (.aload_n 0, 1) := by decide +kernel
theorem dX5_takeBack_57 : decode cX5_takeBack 57 = .ok (.getfield 7, 3) := by decide +kernel
theorem dX5_takeBack_60 : decode cX5_takeBack 60 = .ok (.bipush 72, 2) := by decide +kernel
theorem dX5_takeBack_62 : decode cX5_takeBack 62 = .ok (.aload_n 0, 1) := by decide +kernel
theorem dX5_takeBack_63 : decode cX5_takeBack 63 = .ok (.getfield 7, 3) := by decide +kernel
theorem dX5_takeBack_66 : decode cX5_takeBack 66 = .ok (.iconst 3, 1) := by decide +kernel
theorem dX5_takeBack_67 : decode cX5_takeBack 67 = .ok (.iaload, 1) := by decide +kernel
theorem dX5_takeBack_68 : decode cX5_takeBack 68 = .ok (.iadd, 1) := by decide +kernel
theorem dX5_takeBack_69 : decode cX5_takeBack 69 = .ok (.iconst 0, 1) := by decide +kernel
theorem dX5_takeBack_70 : decode cX5_takeBack 70 = .ok (.iastore, 1) := by decide +kernel
theorem dX5_takeBack_71 : decode cX5_takeBack 71 = .ok (.iload_n 1, 1) := by decide +kernel
theorem dX5_takeBack_72 : decode cX5_takeBack 72 = .ok (.ireturn, 1) := by decide +kernel
theorem dX5_read_0 : decode cX5_read 0 = .ok (.aload_n 0, 1) := by decide +kernel
theorem dX5_read_1 : decode cX5_read 1 = .ok (.invokevirtual 137, 3) := by decide +kernel
theorem dX5_read_4 : decode cX5_read 4 = .ok (.ldc 70, 2) := by decide +kernel
theorem dX5_read_6 : decode cX5_read 6 = .ok (.if_icmp .eq 6, 3) := by decide +kernel
theorem dX5_read_9 : decode cX5_read 9 = .ok (.ldc 140, 2) := by decide +kernel
theorem dX5_read_11 : decode cX5_read 11 = .ok (.ireturn, 1) := by decide +kernel
theorem dX5_read_12 : decode cX5_read 12 = .ok (.aload_n 0, 1) := by decide +kernel
theorem dX5_read_13 : decode cX5_read 13 = .ok (.getfield 7, 3) := by decide +kernel
theorem dX5_read_16 : decode cX5_read 16 = .ok (.iconst 3, 1) := by decide +kernel
theorem dX5_read_17 : decode cX5_read 17 = .ok (.iaload, 1) := by decide +kernel
theorem dX5_read_18 : decode cX5_read 18 = .ok (.aload_n 0, 1) := by decide +kernel
theorem dX5_read_19 : decode cX5_read 19 = .ok (.getfield 141, 3) := by decide +kernel
theorem dX5_read_22 : decode cX5_read 22 = .ok (.iadd, 1) := by decide +kernel
theorem dX5_read_23 : decode cX5_read 23 = .ok (.bipush 24, 2) := by decide +kernel
theorem dX5_read_25 : decode cX5_read 25 = .ok (.if_icmp .le 6, 3) := by decide +kernel
theorem dX5_read_28 : decode cX5_read 28 = .ok (.ldc 131, 2) := by decide +kernel
theorem dX5_read_30 : decode cX5_read 30 = .ok (.ireturn, 1) := by decide +kernel
theorem dX5_read_31 : decode cX5_read 31 = .ok (.aload_n 0, 1) := by decide +kernel
theorem dX5_read_32 : decode cX5_read 32 = .ok (.invokevirtual 122, 3) := by decide +kernel
theorem dX5_read_35 : decode cX5_read 35 = .ok (.iconst 0, 1) := by decide +kernel
theorem dX5_read_36 : decode cX5_read 36 = .ok (.istore_n 1, 1) := by decide +kernel
theorem dX5_read_37 : decode cX5_read 37 = .ok (.iload_n 1, 1) := by decide +kernel
theorem dX5_read_38 : decode cX5_read 38 = .ok (.aload_n 0, 1) := by decide +kernel
theorem dX5_read_39 : decode cX5_read 39 = .ok (.getfield 141, 3) := by decide +kernel
theorem dX5_read_42 : decode cX5_read 42 = .ok (.if_icmp .ge 25, 3) := by decide +kernel
theorem dX5_read_45 : decode cX5_read 45 = .ok (.aload_n 0, 1) := by decide +kernel
theorem dX5_read_46 : decode cX5_read 46 = .ok (.aload_n 0, 1) := by decide +kernel
theorem dX5_read_47 : decode cX5_read 47 = .ok (.getfield 37, 3) := by decide +kernel
theorem dX5_read_50 : decode cX5_read 50 = .ok (.iload_n 1, 1) := by decide +kernel
theorem dX5_read_51 : decode cX5_read 51 = .ok (.iaload, 1) := by decide +kernel
theorem dX5_read_52 : decode cX5_read 52 = .ok (.aload_n 0, 1) := by decide +kernel
theorem dX5_read_53 : decode cX5_read 53 = .ok (.getfield 40, 3) := by decide +kernel
theorem dX5_read_56 : decode cX5_read 56 = .ok (.iload_n 1, 1) := by decide +kernel
theorem dX5_read_57 : decode cX5_read 57 = .ok (.iaload, 1) := by decide +kernel
theorem dX5_read_58 : decode cX5_read 58 = .ok (.invokevirtual 132, 3) := by decide +kernel
theorem dX5_read_61 : decode cX5_read 61 = .ok (.iinc 1 1, 3) := by decide +kernel
theorem dX5_read_64 : decode cX5_read 64 = .ok (.goto (-27), 3) := by decide +kernel
theorem dX5_read_67 : decode cX5_read 67 = .ok (.aload_n 0, 1) := by decide +kernel
theorem dX5_read_68 : decode cX5_read 68 = .ok (.iconst 0, 1) := by decide +kernel
theorem dX5_read_69 : decode cX5_read 69 = .ok (.putfield 144, 3) := by decide +kernel
theorem dX5_read_72 : decode cX5_read 72 = .ok (.aload_n 0, 1) := by decide +kernel
theorem dX5_read_73 : decode cX5_read 73 = .ok (.getfield 7, 3) := by decide +kernel
theorem dX5_read_76 : decode cX5_read 76 = .ok (.iconst 3, 1) := by decide +kernel
theorem dX5_read_77 : decode cX5_read 77 = .ok (.iaload, 1) := by decide +kernel
theorem dX5_read_78 : decode cX5_read 78 = .ok (.ireturn, 1) := by decide +kernel
theorem dX5_hush_0 : decode cX5_hush 0 = .ok (.aload_n 0, 1) := by decide +kernel
theorem dX5_hush_1 : decode cX5_hush 1 = .ok (.invokevirtual 122, 3) := by decide +kernel
theorem dX5_hush_4 : decode cX5_hush 4 = .ok (.aload_n 0, 1) := by decide +kernel
theorem dX5_hush_5 : decode cX5_hush 5 = .ok (.getfield 7, 3) := by decide +kernel
theorem dX5_hush_8 : decode cX5_hush 8 = .ok (.iconst 3, 1) := by decide +kernel
theorem dX5_hush_9 : decode cX5_hush 9 = .ok (.iaload, 1) := by decide +kernel
theorem dX5_hush_10 : decode cX5_hush 10 = .ok (.istore_n 1, 1) := by decide +kernel
theorem dX5_hush_11 : decode cX5_hush 11 = .ok (.aload_n 0, 1) := by decide +kernel
theorem dX5_hush_12 : decode cX5_hush 12 = .ok (.invokevirtual 113, 3) := by decide +kernel
theorem dX5_hush_15 : decode cX5_hush 15 = .ok (.iload_n 1, 1) := by decide +kernel
theorem dX5_hush_16 : decode cX5_hush 16 = .ok (.ireturn, 1) := by decide +kernel
theorem dX5_give_0 : decode cX5_give 0 = .ok (.aload_n 0, 1) := by decide +kernel
theorem dX5_give_1 : decode cX5_give 1 = .ok (.invokevirtual 147, 3) := by decide +kernel
theorem dX5_give_4 : decode cX5_give 4 = .ok (.ifCond .ne 6, 3) := by decide +kernel
theorem dX5_give_7 : decode cX5_give 7 = .ok (.ldc 136, 2) := by decide +kernel
theorem dX5_give_9 : decode cX5_give 9 = .ok (.ireturn, 1) := by decide +kernel
theorem dX5_give_10 : decode cX5_give 10 = .ok (.aload_n 0, 1) := by decide +kernel
theorem dX5_give_11 : decode cX5_give 11 = .ok (.invokevirtual 122, 3) := by decide +kernel
theorem dX5_give_14 : decode cX5_give 14 = .ok (.aload_n 0, 1) := by decide +kernel
theorem dX5_give_15 : decode cX5_give 15 = .ok (.invokevirtual 150, 3) := by decide +kernel
theorem dX5_give_18 : decode cX5_give 18 = .ok (.ireturn, 1) := by decide +kernel
theorem dX5_flourishes_0 : decode cX5_flourishes 0 = .ok (.iconst 0, 1) := by decide +kernel
theorem dX5_flourishes_1 : decode cX5_flourishes 1 = .ok (.istore_n 1, 1) := by decide +kernel
theorem dX5_flourishes_2 : decode cX5_flourishes 2 = .ok (.iconst 0, 1) := by decide +kernel
theorem dX5_flourishes_3 : decode cX5_flourishes 3 = .ok (.istore_n 2, 1) := by decide +kernel
theorem dX5_flourishes_4 : decode cX5_flourishes 4 = .ok (.iload_n 2, 1) := by decide +kernel
theorem dX5_flourishes_5 : decode cX5_flourishes 5 = .ok (.aload_n 0, 1) := by decide +kernel
theorem dX5_flourishes_6 : decode cX5_flourishes 6 = .ok (.getfield 59, 3) := by decide +kernel
theorem dX5_flourishes_9 : decode cX5_flourishes 9 = .ok (.if_icmp .ge 29, 3) := by decide +kernel
theorem dX5_flourishes_12 : decode cX5_flourishes 12 = .ok (.iload_n 1, 1) := by decide +kernel
theorem dX5_flourishes_13 : decode cX5_flourishes 13 = .ok (.aload_n 0, 1) := by decide +kernel
theorem dX5_flourishes_14 : decode cX5_flourishes 14 = .ok (.getfield 25, 3) := by decide +kernel
theorem dX5_flourishes_17 : decode cX5_flourishes 17 = .ok (.iload_n 2, 1) := by decide +kernel
theorem dX5_flourishes_18 : decode cX5_flourishes 18 = .ok (.iaload, 1) := by decide +kernel
theorem dX5_flourishes_19 : decode cX5_flourishes 19 = .ok (.invokestatic 74, 3) := by decide +kernel
theorem dX5_flourishes_22 : decode cX5_flourishes 22 = .ok (.ifCond .eq 7, 3) := by decide +kernel
theorem dX5_flourishes_25 : decode cX5_flourishes 25 = .ok (.iconst 1, 1) := by decide +kernel
theorem dX5_flourishes_26 : decode cX5_flourishes 26 = .ok (.goto 4, 3) := by decide +kernel
theorem dX5_flourishes_29 : decode cX5_flourishes 29 = .ok (.iconst 0, 1) := by decide +kernel
theorem dX5_flourishes_30 : decode cX5_flourishes 30 = .ok (.iadd, 1) := by decide +kernel
theorem dX5_flourishes_31 : decode cX5_flourishes 31 = .ok (.istore_n 1, 1) := by decide +kernel
theorem dX5_flourishes_32 : decode cX5_flourishes 32 = .ok (.iinc 2 1, 3) := by decide +kernel
theorem dX5_flourishes_35 : decode cX5_flourishes 35 = .ok (.goto (-31), 3) := by decide +kernel
theorem dX5_flourishes_38 : decode cX5_flourishes 38 = .ok (.iload_n 1, 1) := by decide +kernel
theorem dX5_flourishes_39 : decode cX5_flourishes 39 = .ok (.ireturn, 1) := by decide +kernel
theorem dX5_speech_0 : decode cX5_speech 0 = .ok (.iload_n 1, 1) := by decide +kernel
theorem dX5_speech_1 : decode cX5_speech 1 = .ok (.invokestatic 126, 3) := by decide +kernel
theorem dX5_speech_4 : decode cX5_speech 4 = .ok (.ifCond .eq 15, 3) := by decide +kernel
theorem dX5_speech_7 : decode cX5_speech 7 = .ok (.iload_n 2, 1) := by decide +kernel
theorem dX5_speech_8 : decode cX5_speech 8 = .ok (.i2l, 1) := by decide +kernel
theorem dX5_speech_9 : decode cX5_speech 9 = .ok (.lconst 0, 1) := by decide +kernel
theorem dX5_speech_10 : decode cX5_speech 10 = .ok (.ldc2_w 129, 3) := by decide +kernel
theorem dX5_speech_13 : decode cX5_speech 13 = .ok (.invokestatic 49, 3) := by decide +kernel
theorem dX5_speech_16 : decode cX5_speech 16 = .ok (.ifCond .ne 6, 3) := by decide +kernel
theorem dX5_speech_19 : decode cX5_speech 19 = .ok (.ldc 121, 2) := by decide +kernel
theorem dX5_speech_21 : decode cX5_speech 21 = .ok (.ireturn, 1) := by decide +kernel
theorem dX5_speech_22 : decode cX5_speech 22 = .ok (.aload_n 0, 1) := by decide +kernel
theorem dX5_speech_23 : decode cX5_speech 23 = .ok (.iload_n 1, 1) := by decide +kernel
theorem dX5_speech_24 : decode cX5_speech 24 = .ok (.invokevirtual 102, 3) := by decide +kernel
theorem dX5_speech_27 : decode cX5_speech 27 = .ok (.istore_n 3, 1) := by decide +kernel
theorem dX5_speech_28 : decode cX5_speech 28 = .ok (.iload_n 2, 1) := by decide +kernel
theorem dX5_speech_29 : decode cX5_speech 29 = .ok (.ifCond .ne 10, 3) := by decide +kernel
theorem dX5_speech_32 : decode cX5_speech 32 = .ok (.aload_n 0, 1) := by decide +kernel
theorem dX5_speech_33 : decode cX5_speech 33 = .ok (.getfield 59, 3) := by decide +kernel
theorem dX5_speech_36 : decode cX5_speech 36 = .ok (.goto 28, 3) := by decide +kernel
theorem dX5_speech_39 : decode cX5_speech 39 = .ok (.iload_n 2, 1) := by decide +kernel
theorem dX5_speech_40 : decode cX5_speech 40 = .ok (.iconst 1, 1) := by decide +kernel
theorem dX5_speech_41 : decode cX5_speech 41 = .ok (.if_icmp .ne 10, 3) := by decide +kernel
theorem dX5_speech_44 : decode cX5_speech 44 = .ok (.aload_n 0, 1) := by decide +kernel
theorem dX5_speech_45 : decode cX5_speech 45 = .ok (.invokevirtual 95, 3) := by decide +kernel
theorem dX5_speech_48 : decode cX5_speech 48 = .ok (.goto 16, 3) := by decide +kernel
theorem dX5_speech_51 : decode cX5_speech 51 = .ok (.iload_n 2, 1) := by decide +kernel
theorem dX5_speech_52 : decode cX5_speech 52 = .ok (.iconst 2, 1) := by decide +kernel
theorem dX5_speech_53 : decode cX5_speech 53 = .ok (.if_icmp .ne 7, 3) := by decide +kernel
theorem dX5_speech_56 : decode cX5_speech 56 = .ok (.iload_n 3, 1) := by decide +kernel
theorem dX5_speech_57 : decode cX5_speech 57 = .ok (.goto 7, 3) := by decide +kernel
theorem dX5_speech_60 : decode cX5_speech 60 = .ok (.aload_n 0, 1) := by decide +kernel
theorem dX5_speech_61 : decode cX5_speech 61 = .ok (.invokevirtual 153, 3) := by decide +kernel
theorem dX5_speech_64 : decode cX5_speech 64 = .ok (.ireturn, 1) := by decide +kernel
theorem dX5_word_0 : decode cX5_word 0 = .ok (.iload_n 1, 1) := by decide +kernel
theorem dX5_word_1 : decode cX5_word 1 = .ok (.invokestatic 126, 3) := by decide +kernel
theorem dX5_word_4 : decode cX5_word 4 = .ok (.ifCond .ne 6, 3) := by decide +kernel
theorem dX5_word_7 : decode cX5_word 7 = .ok (.ldc 121, 2) := by decide +kernel
theorem dX5_word_9 : decode cX5_word 9 = .ok (.ireturn, 1) := by decide +kernel
theorem dX5_word_10 : decode cX5_word 10 = .ok (.aload_n 0, 1) := by decide +kernel
theorem dX5_word_11 : decode cX5_word 11 = .ok (.iload_n 1, 1) := by decide +kernel
theorem dX5_word_12 : decode cX5_word 12 = .ok (.invokevirtual 91, 3) := by decide +kernel
theorem dX5_word_15 : decode cX5_word 15 = .ok (.iload_n 2, 1) := by decide +kernel
theorem dX5_word_16 : decode cX5_word 16 = .ok (.i2l, 1) := by decide +kernel
theorem dX5_word_17 : decode cX5_word 17 = .ok (.lconst 0, 1) := by decide +kernel
theorem dX5_word_18 : decode cX5_word 18 = .ok (.aload_n 0, 1) := by decide +kernel
theorem dX5_word_19 : decode cX5_word 19 = .ok (.getfield 59, 3) := by decide +kernel
theorem dX5_word_22 : decode cX5_word 22 = .ok (.i2l, 1) := by decide +kernel
theorem dX5_word_23 : decode cX5_word 23 = .ok (.lconst 1, 1) := by decide +kernel
theorem dX5_word_24 : decode cX5_word 24 = .ok (.lsub, 1) := by decide +kernel
theorem dX5_word_25 : decode cX5_word 25 = .ok (.invokestatic 49, 3) := by decide +kernel
theorem dX5_word_28 : decode cX5_word 28 = .ok (.ifCond .eq 12, 3) := by decide +kernel
theorem dX5_word_31 : decode cX5_word 31 = .ok (.aload_n 0, 1) := by decide +kernel
theorem dX5_word_32 : decode cX5_word 32 = .ok (.getfield 25, 3) := by decide +kernel
theorem dX5_word_35 : decode cX5_word 35 = .ok (.iload_n 2, 1) := by decide +kernel
theorem dX5_word_36 : decode cX5_word 36 = .ok (.iaload, 1) := by decide +kernel
theorem dX5_word_37 : decode cX5_word 37 = .ok (.goto 5, 3) := by decide +kernel
theorem dX5_word_40 : decode cX5_word 40 = .ok (.ldc 125, 2) := by decide +kernel
theorem dX5_word_42 : decode cX5_word 42 = .ok (.ireturn, 1) := by decide +kernel
theorem dX5_sentence_0 : decode cX5_sentence 0 = .ok (.iload_n 1, 1) := by decide +kernel
theorem dX5_sentence_1 : decode cX5_sentence 1 = .ok (.invokestatic 126, 3) := by decide +kernel
theorem dX5_sentence_4 : decode cX5_sentence 4 = .ok (.ifCond .eq 15, 3) := by decide +kernel
theorem dX5_sentence_7 : decode cX5_sentence 7 = .ok (.iload_n 3, 1) := by decide +kernel
theorem dX5_sentence_8 : decode cX5_sentence 8 = .ok (.i2l, 1) := by decide +kernel
theorem dX5_sentence_9 : decode cX5_sentence 9 = .ok (.lconst 0, 1) := by decide +kernel
theorem dX5_sentence_10 : decode cX5_sentence 10 = .ok (.ldc2_w 129, 3) := by decide +kernel
theorem dX5_sentence_13 : decode cX5_sentence 13 = .ok (.invokestatic 49, 3) := by decide +kernel
theorem dX5_sentence_16 : decode cX5_sentence 16 = .ok (.ifCond .ne 6, 3) := by decide +kernel
theorem dX5_sentence_19 : decode cX5_sentence 19 = .ok (.ldc 121, 2) := by decide +kernel
theorem dX5_sentence_21 : decode cX5_sentence 21 = .ok (.ireturn, 1) := by decide +kernel
theorem dX5_sentence_22 : decode cX5_sentence 22 = .ok (.aload_n 0, 1) := by decide +kernel
theorem dX5_sentence_23 : decode cX5_sentence 23 = .ok (.iload_n 1, 1) := by decide +kernel
theorem dX5_sentence_24 : decode cX5_sentence 24 = .ok (.invokevirtual 102, 3) := by decide +kernel
theorem dX5_sentence_27 : decode cX5_sentence 27 = .ok (.istore 4, 2) := by decide +kernel
theorem dX5_sentence_29 : decode cX5_sentence 29 = .ok (.iload_n 2, 1) := by decide +kernel
theorem dX5_sentence_30 : decode cX5_sentence 30 = .ok (.i2l, 1) := by decide +kernel
theorem dX5_sentence_31 : decode cX5_sentence 31 = .ok (.lconst 0, 1) := by decide +kernel
theorem dX5_sentence_32 : decode cX5_sentence 32 = .ok (.iload 4, 2) := by decide +kernel
theorem dX5_sentence_34 : decode cX5_sentence 34 = .ok (.i2l, 1) := by decide +kernel
theorem dX5_sentence_35 : decode cX5_sentence 35 = .ok (.lconst 1, 1) := by decide +kernel
theorem dX5_sentence_36 : decode cX5_sentence 36 = .ok (.lsub, 1) := by decide +kernel
theorem dX5_sentence_37 : decode cX5_sentence 37 = .ok (.invokestatic 49, 3) := by decide +kernel
theorem dX5_sentence_40 : decode cX5_sentence 40 = .ok (.ifCond .ne 6, 3) := by decide +kernel
theorem dX5_sentence_43 : decode cX5_sentence 43 = .ok (.ldc 125, 2) := by decide +kernel
theorem dX5_sentence_45 : decode cX5_sentence 45 = .ok (.ireturn, 1) := by decide +kernel
theorem dX5_sentence_46 : decode cX5_sentence 46 = .ok (.iload_n 3, 1) := by decide +kernel
theorem dX5_sentence_47 : decode cX5_sentence 47 = .ok (.iconst 3, 1) := by decide +kernel
theorem dX5_sentence_48 : decode cX5_sentence 48 = .ok (.if_icmp .ne 20, 3) := by decide +kernel
theorem dX5_sentence_51 : decode cX5_sentence 51 = .ok (.iconst 1, 1) := by decide +kernel
theorem dX5_sentence_52 : decode cX5_sentence 52 = .ok (.aload_n 0, 1) := by decide +kernel
theorem dX5_sentence_53 : decode cX5_sentence 53 = .ok (.getfield 28, 3) := by decide +kernel
theorem dX5_sentence_56 : decode cX5_sentence 56 = .ok (.iconst 3, 1) := by decide +kernel
theorem dX5_sentence_57 : decode cX5_sentence 57 = .ok (.iload_n 2, 1) := by decide +kernel
theorem dX5_sentence_58 : decode cX5_sentence 58 = .ok (.imul, 1) := by decide +kernel
theorem dX5_sentence_59 : decode cX5_sentence 59 = .ok (.iconst 1, 1) := by decide +kernel
theorem dX5_sentence_60 : decode cX5_sentence 60 = .ok (.iadd, 1) := by decide +kernel
theorem dX5_sentence_61 : decode cX5_sentence 61 = .ok (.iaload, 1) := by decide +kernel
theorem dX5_sentence_62 : decode cX5_sentence 62 = .ok (.iconst 2, 1) := by decide +kernel
theorem dX5_sentence_63 : decode cX5_sentence 63 = .ok (.irem, 1) := by decide +kernel
theorem dX5_sentence_64 : decode cX5_sentence 64 = .ok (.isub, 1) := by decide +kernel
theorem dX5_sentence_65 : decode cX5_sentence 65 = .ok (.goto 13, 3) := by decide +kernel
theorem dX5_sentence_68 : decode cX5_sentence 68 = .ok (.aload_n 0, 1) := by decide +kernel
theorem dX5_sentence_69 : decode cX5_sentence 69 = .ok (.getfield 28, 3) := by decide +kernel
theorem dX5_sentence_72 : decode cX5_sentence 72 = .ok (.iconst 3, 1) := by decide +kernel
theorem dX5_sentence_73 : decode cX5_sentence 73 = .ok (.iload_n 2, 1) := by decide +kernel
theorem dX5_sentence_74 : decode cX5_sentence 74 = .ok (.imul, 1) := by decide +kernel
theorem dX5_sentence_75 : decode cX5_sentence 75 = .ok (.iload_n 3, 1) := by decide +kernel
theorem dX5_sentence_76 : decode cX5_sentence 76 = .ok (.iadd, 1) := by decide +kernel
theorem dX5_sentence_77 : decode cX5_sentence 77 = .ok (.iaload, 1) := by decide +kernel
theorem dX5_sentence_78 : decode cX5_sentence 78 = .ok (.ireturn, 1) := by decide +kernel
theorem dX5_favour_0 : decode cX5_favour 0 = .ok (.iload_n 1, 1) := by decide +kernel
theorem dX5_favour_1 : decode cX5_favour 1 = .ok (.invokestatic 78, 3) := by decide +kernel
theorem dX5_favour_4 : decode cX5_favour 4 = .ok (.ifCond .eq 23, 3) := by decide +kernel
theorem dX5_favour_7 : decode cX5_favour 7 = .ok (.iload_n 2, 1) := by decide +kernel
theorem dX5_favour_8 : decode cX5_favour 8 = .ok (.invokestatic 78, 3) := by decide +kernel
theorem dX5_favour_11 : decode cX5_favour 11 = .ok (.ifCond .eq 16, 3) := by decide +kernel
theorem dX5_favour_14 : decode cX5_favour 14 = .ok (.aload_n 0, 1) := by decide +kernel
theorem dX5_favour_15 : decode cX5_favour 15 = .ok (.getfield 7, 3) := by decide +kernel
theorem dX5_favour_18 : decode cX5_favour 18 = .ok (.iload_n 1, 1) := by decide +kernel
theorem dX5_favour_19 : decode cX5_favour 19 = .ok (.iload_n 2, 1) := by decide +kernel
theorem dX5_favour_20 : decode cX5_favour 20 = .ok (.invokestatic 99, 3) := by decide +kernel
theorem dX5_favour_23 : decode cX5_favour 23 = .ok (.iaload, 1) := by decide +kernel
theorem dX5_favour_24 : decode cX5_favour 24 = .ok (.goto 5, 3) := by decide +kernel
theorem dX5_favour_27 : decode cX5_favour 27 = .ok (.ldc 125, 2) := by decide +kernel
theorem dX5_favour_29 : decode cX5_favour 29 = .ok (.ireturn, 1) := by decide +kernel
theorem dX5_seesOthers_0 : decode cX5_seesOthers 0 = .ok (.aload_n 0, 1) := by decide +kernel
theorem dX5_seesOthers_1 : decode cX5_seesOthers 1 = .ok (.iconst 0, 1) := by decide +kernel
theorem dX5_seesOthers_2 : decode cX5_seesOthers 2 = .ok (.invokevirtual 102, 3) := by decide +kernel
theorem dX5_seesOthers_5 : decode cX5_seesOthers 5 = .ok (.istore_n 2, 1) := by decide +kernel
theorem dX5_seesOthers_6 : decode cX5_seesOthers 6 = .ok (.iconst 0, 1) := by decide +kernel
theorem dX5_seesOthers_7 : decode cX5_seesOthers 7 = .ok (.istore_n 3, 1) := by decide +kernel
theorem dX5_seesOthers_8 : decode cX5_seesOthers 8 = .ok (.iload_n 3, 1) := by decide +kernel
theorem dX5_seesOthers_9 : decode cX5_seesOthers 9 = .ok (.iconst 3, 1) := by decide +kernel
theorem dX5_seesOthers_10 : decode cX5_seesOthers 10 = .ok (.iload_n 2, 1) := by decide +kernel
theorem dX5_seesOthers_11 : decode cX5_seesOthers 11 = .ok (.imul, 1) := by decide +kernel
theorem dX5_seesOthers_12 : decode cX5_seesOthers 12 = .ok (.if_icmp .ge 21, 3) := by decide +kernel
theorem dX5_seesOthers_15 : decode cX5_seesOthers 15 = .ok (.aload_n 0, 1) := by decide +kernel
theorem dX5_seesOthers_16 : decode cX5_seesOthers 16 = .ok (.getfield 31, 3) := by decide +kernel
theorem dX5_seesOthers_19 : decode cX5_seesOthers 19 = .ok (.iload_n 3, 1) := by decide +kernel
theorem dX5_seesOthers_20 : decode cX5_seesOthers 20 = .ok (.aload_n 0, 1) := by decide +kernel
theorem dX5_seesOthers_21 : decode cX5_seesOthers 21 = .ok (.getfield 28, 3) := by decide +kernel
theorem dX5_seesOthers_24 : decode cX5_seesOthers 24 = .ok (.iload_n 3, 1) := by decide +kernel
theorem dX5_seesOthers_25 : decode cX5_seesOthers 25 = .ok (.iaload, 1) := by decide +kernel
theorem dX5_seesOthers_26 : decode cX5_seesOthers 26 = .ok (.iastore, 1) := by decide +kernel
theorem dX5_seesOthers_27 : decode cX5_seesOthers 27 = .ok (.iinc 3 1, 3) := by decide +kernel
theorem dX5_seesOthers_30 : decode cX5_seesOthers 30 = .ok (.goto (-22), 3) := by decide +kernel
theorem dX5_seesOthers_33 : decode cX5_seesOthers 33 = .ok (.aload_n 0, 1) := by decide +kernel
theorem dX5_seesOthers_34 : decode cX5_seesOthers 34 = .ok (.iload_n 1, 1) := by decide +kernel
theorem dX5_seesOthers_35 : decode cX5_seesOthers 35 = .ok (.invokevirtual 102, 3) := by decide +kernel
theorem dX5_seesOthers_38 : decode cX5_seesOthers 38 = .ok (.iload_n 2, 1) := by decide +kernel
theorem dX5_seesOthers_39 : decode cX5_seesOthers 39 = .ok (.if_icmp .eq 7, 3) := by decide +kernel
theorem dX5_seesOthers_42 : decode cX5_seesOthers 42 = .ok (.iconst 1, 1) := by decide +kernel
theorem dX5_seesOthers_43 : decode cX5_seesOthers 43 = .ok (.goto 4, 3) := by decide +kernel
theorem dX5_seesOthers_46 : decode cX5_seesOthers 46 = .ok (.iconst 0, 1) := by decide +kernel
theorem dX5_seesOthers_47 : decode cX5_seesOthers 47 = .ok (.istore_n 3, 1) := by decide +kernel
theorem dX5_seesOthers_48 : decode cX5_seesOthers 48 = .ok (.iconst 0, 1) := by decide +kernel
theorem dX5_seesOthers_49 : decode cX5_seesOthers 49 = .ok (.istore 4, 2) := by decide +kernel
theorem dX5_seesOthers_51 : decode cX5_seesOthers 51 = .ok (.iload 4, 2) := by decide +kernel
theorem dX5_seesOthers_53 : decode cX5_seesOthers 53 = .ok (.iconst 3, 1) := by decide +kernel
theorem dX5_seesOthers_54 : decode cX5_seesOthers 54 = .ok (.iload_n 2, 1) := by decide +kernel
theorem dX5_seesOthers_55 : decode cX5_seesOthers 55 = .ok (.imul, 1) := by decide +kernel
theorem dX5_seesOthers_56 : decode cX5_seesOthers 56 = .ok (.if_icmp .ge 36, 3) := by decide +kernel
theorem dX5_seesOthers_59 : decode cX5_seesOthers 59 = .ok (.iload_n 3, 1) := by decide +kernel
theorem dX5_seesOthers_60 : decode cX5_seesOthers 60 = .ok (.ifCond .ne 32, 3) := by decide +kernel
theorem dX5_seesOthers_63 : decode cX5_seesOthers 63 = .ok (.aload_n 0, 1) := by decide +kernel
theorem dX5_seesOthers_64 : decode cX5_seesOthers 64 = .ok (.getfield 31, 3) := by decide +kernel
theorem dX5_seesOthers_67 : decode cX5_seesOthers 67 = .ok (.iload 4, 2) := by decide +kernel
theorem dX5_seesOthers_69 : decode cX5_seesOthers 69 = .ok (.iaload, 1) := by decide +kernel
theorem dX5_seesOthers_70 : decode cX5_seesOthers 70 = .ok (.aload_n 0, 1) := by decide +kernel
theorem dX5_seesOthers_71 : decode cX5_seesOthers 71 = .ok (.getfield 28, 3) := by decide +kernel
theorem dX5_seesOthers_74 : decode cX5_seesOthers 74 = .ok (.iload 4, 2) := by decide +kernel
theorem dX5_seesOthers_76 : decode cX5_seesOthers 76 = .ok (.iaload, 1) := by decide +kernel
theorem dX5_seesOthers_77 : decode cX5_seesOthers 77 = .ok (.if_icmp .eq 7, 3) := by decide +kernel
theorem dX5_seesOthers_80 : decode cX5_seesOthers 80 = .ok (.iconst 1, 1) := by decide +kernel
theorem dX5_seesOthers_81 : decode cX5_seesOthers 81 = .ok (.goto 4, 3) := by decide +kernel
theorem dX5_seesOthers_84 : decode cX5_seesOthers 84 = .ok (.iconst 0, 1) := by decide +kernel
theorem dX5_seesOthers_85 : decode cX5_seesOthers 85 = .ok (.istore_n 3, 1) := by decide +kernel
theorem dX5_seesOthers_86 : decode cX5_seesOthers 86 = .ok (.iinc 4 1, 3) := by decide +kernel
theorem dX5_seesOthers_89 : decode cX5_seesOthers 89 = .ok (.goto (-38), 3) := by decide +kernel
theorem dX5_seesOthers_92 : decode cX5_seesOthers 92 = .ok (.iload_n 3, 1) := by decide +kernel
theorem dX5_seesOthers_93 : decode cX5_seesOthers 93 = .ok (.ireturn, 1) := by decide +kernel
theorem dX5_favours_0 : decode cX5_favours 0 = .ok (.iconst 0, 1) := by decide +kernel
theorem dX5_favours_1 : decode cX5_favours 1 = .ok (.istore_n 3, 1) := by decide +kernel
theorem dX5_favours_2 : decode cX5_favours 2 = .ok (.iconst 0, 1) := by decide +kernel
theorem dX5_favours_3 : decode cX5_favours 3 = .ok (.istore 4, 2) := by decide +kernel
theorem dX5_favours_5 : decode cX5_favours 5 = .ok (.iload 4, 2) := by decide +kernel
theorem dX5_favours_7 : decode cX5_favours 7 = .ok (.bipush 36, 2) := by decide +kernel
theorem dX5_favours_9 : decode cX5_favours 9 = .ok (.if_icmp .ge 52, 3) := by decide +kernel
theorem dX5_favours_12 : decode cX5_favours 12 = .ok (.iload_n 3, 1) := by decide +kernel
theorem dX5_favours_13 : decode cX5_favours 13 = .ok (.iload_n 1, 1) := by decide +kernel
theorem dX5_favours_14 : decode cX5_favours 14 = .ok (.ifCond .lt 12, 3) := by decide +kernel
theorem dX5_favours_17 : decode cX5_favours 17 = .ok (.iload 4, 2) := by decide +kernel
theorem dX5_favours_19 : decode cX5_favours 19 = .ok (.bipush 6, 2) := by decide +kernel
theorem dX5_favours_21 : decode cX5_favours 21 = .ok (.irem, 1) := by decide +kernel
theorem dX5_favours_22 : decode cX5_favours 22 = .ok (.iload_n 1, 1) := by decide +kernel
theorem dX5_favours_23 : decode cX5_favours 23 = .ok (.if_icmp .ne 29, 3) := by decide +kernel
theorem dX5_favours_26 : decode cX5_favours 26 = .ok (.iload_n 2, 1) := by decide +kernel
theorem dX5_favours_27 : decode cX5_favours 27 = .ok (.ifCond .lt 12, 3) := by decide +kernel
theorem dX5_favours_30 : decode cX5_favours 30 = .ok (.iload 4, 2) := by decide +kernel
theorem dX5_favours_32 : decode cX5_favours 32 = .ok (.bipush 6, 2) := by decide +kernel
theorem dX5_favours_34 : decode cX5_favours 34 = .ok (.idiv, 1) := by decide +kernel
theorem dX5_favours_35 : decode cX5_favours 35 = .ok (.iload_n 2, 1) := by decide +kernel
theorem dX5_favours_36 : decode cX5_favours 36 = .ok (.if_icmp .ne 16, 3) := by decide +kernel
theorem dX5_favours_39 : decode cX5_favours 39 = .ok (.aload_n 0, 1) := by decide +kernel
theorem dX5_favours_40 : decode cX5_favours 40 = .ok (.getfield 7, 3) := by decide +kernel
theorem dX5_favours_43 : decode cX5_favours 43 = .ok (.bipush 12, 2) := by decide +kernel
theorem dX5_favours_45 : decode cX5_favours 45 = .ok (.iload 4, 2) := by decide +kernel
theorem dX5_favours_47 : decode cX5_favours 47 = .ok (.iadd, 1) := by decide +kernel
theorem dX5_favours_48 : decode cX5_favours 48 = .ok (.iaload, 1) := by decide +kernel
theorem dX5_favours_49 : decode cX5_favours 49 = .ok (.goto 4, 3) := by decide +kernel
theorem dX5_favours_52 : decode cX5_favours 52 = .ok (.iconst 0, 1) := by decide +kernel
theorem dX5_favours_53 : decode cX5_favours 53 = .ok (.iadd, 1) := by decide +kernel
theorem dX5_favours_54 : decode cX5_favours 54 = .ok (.istore_n 3, 1) := by decide +kernel
theorem dX5_favours_55 : decode cX5_favours 55 = .ok (.iinc 4 1, 3) := by decide +kernel
theorem dX5_favours_58 : decode cX5_favours 58 = .ok (.goto (-53), 3) := by decide +kernel
theorem dX5_favours_61 : decode cX5_favours 61 = .ok (.iload_n 3, 1) := by decide +kernel
theorem dX5_favours_62 : decode cX5_favours 62 = .ok (.ireturn, 1) := by decide +kernel
theorem dX5_othersSeen_0 : decode cX5_othersSeen 0 = .ok (.iconst 0, 1) := by decide +kernel
theorem dX5_othersSeen_1 : decode cX5_othersSeen 1 = .ok (.istore_n 1, 1) := by decide +kernel
theorem dX5_othersSeen_2 : decode cX5_othersSeen 2 = .ok (.iconst 0, 1) := by decide +kernel
theorem dX5_othersSeen_3 : decode cX5_othersSeen 3 = .ok (.istore_n 2, 1) := by decide +kernel
theorem dX5_othersSeen_4 : decode cX5_othersSeen 4 = .ok (.iload_n 2, 1) := by decide +kernel
theorem dX5_othersSeen_5 : decode cX5_othersSeen 5 = .ok (.bipush 6, 2) := by decide +kernel
theorem dX5_othersSeen_7 : decode cX5_othersSeen 7 = .ok (.if_icmp .ge 33, 3) := by decide +kernel
theorem dX5_othersSeen_10 : decode cX5_othersSeen 10 = .ok (.iload_n 1, 1) := by decide +kernel
theorem dX5_othersSeen_11 : decode cX5_othersSeen 11 = .ok (.aload_n 0, 1) := by decide +kernel
theorem dX5_othersSeen_12 : decode cX5_othersSeen 12 = .ok (.aload_n 0, 1) := by decide +kernel
theorem dX5_othersSeen_13 : decode cX5_othersSeen 13 = .ok (.getfield 7, 3) := by decide +kernel
theorem dX5_othersSeen_16 : decode cX5_othersSeen 16 = .ok (.bipush 6, 2) := by decide +kernel
theorem dX5_othersSeen_18 : decode cX5_othersSeen 18 = .ok (.iload_n 2, 1) := by decide +kernel
theorem dX5_othersSeen_19 : decode cX5_othersSeen 19 = .ok (.iadd, 1) := by decide +kernel
theorem dX5_othersSeen_20 : decode cX5_othersSeen 20 = .ok (.iaload, 1) := by decide +kernel
theorem dX5_othersSeen_21 : decode cX5_othersSeen 21 = .ok (.invokevirtual 156, 3) := by decide +kernel
theorem dX5_othersSeen_24 : decode cX5_othersSeen 24 = .ok (.ifCond .eq 7, 3) := by decide +kernel
theorem dX5_othersSeen_27 : decode cX5_othersSeen 27 = .ok (.iconst 1, 1) := by decide +kernel
theorem dX5_othersSeen_28 : decode cX5_othersSeen 28 = .ok (.goto 4, 3) := by decide +kernel
theorem dX5_othersSeen_31 : decode cX5_othersSeen 31 = .ok (.iconst 0, 1) := by decide +kernel
theorem dX5_othersSeen_32 : decode cX5_othersSeen 32 = .ok (.iadd, 1) := by decide +kernel
theorem dX5_othersSeen_33 : decode cX5_othersSeen 33 = .ok (.istore_n 1, 1) := by decide +kernel
theorem dX5_othersSeen_34 : decode cX5_othersSeen 34 = .ok (.iinc 2 1, 3) := by decide +kernel
theorem dX5_othersSeen_37 : decode cX5_othersSeen 37 = .ok (.goto (-33), 3) := by decide +kernel
theorem dX5_othersSeen_40 : decode cX5_othersSeen 40 = .ok (.iload_n 1, 1) := by decide +kernel
theorem dX5_othersSeen_41 : decode cX5_othersSeen 41 = .ok (.ireturn, 1) := by decide +kernel
theorem dX5_count_0 : decode cX5_count 0 = .ok (.iload_n 1, 1) := by decide +kernel
theorem dX5_count_1 : decode cX5_count 1 = .ok (.tableswitch 53 6 9 #[31, 36, 43, 48], 31) := by decide +kernel
theorem dX5_count_32 : decode cX5_count 32 = .ok (.aload_n 0, 1) := by decide +kernel
theorem dX5_count_33 : decode cX5_count 33 = .ok (.invokevirtual 159, 3) := by decide +kernel
theorem dX5_count_36 : decode cX5_count 36 = .ok (.ireturn, 1) := by decide +kernel
theorem dX5_count_37 : decode cX5_count 37 = .ok (.aload_n 0, 1) := by decide +kernel
theorem dX5_count_38 : decode cX5_count 38 = .ok (.iconst (-1), 1) := by decide +kernel
theorem dX5_count_39 : decode cX5_count 39 = .ok (.iconst (-1), 1) := by decide +kernel
theorem dX5_count_40 : decode cX5_count 40 = .ok (.invokevirtual 162, 3) := by decide +kernel
theorem dX5_count_43 : decode cX5_count 43 = .ok (.ireturn, 1) := by decide +kernel
theorem dX5_count_44 : decode cX5_count 44 = .ok (.aload_n 0, 1) := by decide +kernel
theorem dX5_count_45 : decode cX5_count 45 = .ok (.getfield 144, 3) := by decide +kernel
theorem dX5_count_48 : decode cX5_count 48 = .ok (.ireturn, 1) := by decide +kernel
theorem dX5_count_49 : decode cX5_count 49 = .ok (.aload_n 0, 1) := by decide +kernel
theorem dX5_count_50 : decode cX5_count 50 = .ok (.getfield 43, 3) := by decide +kernel
theorem dX5_count_53 : decode cX5_count 53 = .ok (.ireturn, 1) := by decide +kernel
theorem dX5_count_54 : decode cX5_count 54 = .ok (.iload_n 1, 1) := by decide +kernel
theorem dX5_count_55 : decode cX5_count 55 = .ok (.i2l, 1) := by decide +kernel
theorem dX5_count_56 : decode cX5_count 56 = .ok (.lconst 0, 1) := by decide +kernel
theorem dX5_count_57 : decode cX5_count 57 = .ok (.ldc2_w 53, 3) := by decide +kernel
theorem dX5_count_60 : decode cX5_count 60 = .ok (.invokestatic 49, 3) := by decide +kernel
theorem dX5_count_63 : decode cX5_count 63 = .ok (.ifCond .eq 12, 3) := by decide +kernel
theorem dX5_count_66 : decode cX5_count 66 = .ok (.aload_n 0, 1) := by decide +kernel
theorem dX5_count_67 : decode cX5_count 67 = .ok (.getfield 7, 3) := by decide +kernel
theorem dX5_count_70 : decode cX5_count 70 = .ok (.iload_n 1, 1) := by decide +kernel
theorem dX5_count_71 : decode cX5_count 71 = .ok (.iaload, 1) := by decide +kernel
theorem dX5_count_72 : decode cX5_count 72 = .ok (.goto 5, 3) := by decide +kernel
theorem dX5_count_75 : decode cX5_count 75 = .ok (.ldc 121, 2) := by decide +kernel
theorem dX5_count_77 : decode cX5_count 77 = .ok (.ireturn, 1) := by decide +kernel
theorem dX5_wouldTake_0 : decode cX5_wouldTake 0 = .ok (.aload_n 0, 1) := by decide +kernel
theorem dX5_wouldTake_1 : decode cX5_wouldTake 1 = .ok (.invokevirtual 147, 3) := by decide +kernel
theorem dX5_wouldTake_4 : decode cX5_wouldTake 4 = .ok (.ifCond .ne 5, 3) := by decide +kernel
theorem dX5_wouldTake_7 : decode cX5_wouldTake 7 = .ok (.iconst 0, 1) := by decide +kernel
theorem dX5_wouldTake_8 : decode cX5_wouldTake 8 = .ok (.ireturn, 1) := by decide +kernel
theorem dX5_wouldTake_9 : decode cX5_wouldTake 9 = .ok (.aload_n 0, 1) := by decide +kernel
theorem dX5_wouldTake_10 : decode cX5_wouldTake 10 = .ok (.aload_n 0, 1) := by decide +kernel
theorem dX5_wouldTake_11 : decode cX5_wouldTake 11 = .ok (.getfield 7, 3) := by decide +kernel
theorem dX5_wouldTake_14 : decode cX5_wouldTake 14 = .ok (.bipush 6, 2) := by decide +kernel
theorem dX5_wouldTake_16 : decode cX5_wouldTake 16 = .ok (.iload_n 1, 1) := by decide +kernel
theorem dX5_wouldTake_17 : decode cX5_wouldTake 17 = .ok (.iadd, 1) := by decide +kernel
theorem dX5_wouldTake_18 : decode cX5_wouldTake 18 = .ok (.iaload, 1) := by decide +kernel
theorem dX5_wouldTake_19 : decode cX5_wouldTake 19 = .ok (.invokevirtual 102, 3) := by decide +kernel
theorem dX5_wouldTake_22 : decode cX5_wouldTake 22 = .ok (.istore_n 2, 1) := by decide +kernel
theorem dX5_wouldTake_23 : decode cX5_wouldTake 23 = .ok (.iconst 0, 1) := by decide +kernel
theorem dX5_wouldTake_24 : decode cX5_wouldTake 24 = .ok (.istore_n 3, 1) := by decide +kernel
theorem dX5_wouldTake_25 : decode cX5_wouldTake 25 = .ok (.iconst 0, 1) := by decide +kernel
theorem dX5_wouldTake_26 : decode cX5_wouldTake 26 = .ok (.istore 4, 2) := by decide +kernel
theorem dX5_wouldTake_28 : decode cX5_wouldTake 28 = .ok (.iload 4, 2) := by decide +kernel
theorem dX5_wouldTake_30 : decode cX5_wouldTake 30 = .ok (.iload_n 2, 1) := by decide +kernel
theorem dX5_wouldTake_31 : decode cX5_wouldTake 31 = .ok (.if_icmp .ge 30, 3) := by decide +kernel
theorem dX5_wouldTake_34 : decode cX5_wouldTake 34 = .ok (.iload_n 3, 1) := by decide +kernel
theorem dX5_wouldTake_35 : decode cX5_wouldTake 35 = .ok (.aload_n 0, 1) := by decide +kernel
theorem dX5_wouldTake_36 : decode cX5_wouldTake 36 = .ok (.getfield 28, 3) := by decide +kernel
theorem dX5_wouldTake_39 : decode cX5_wouldTake 39 = .ok (.iconst 3, 1) := by decide +kernel
theorem dX5_wouldTake_40 : decode cX5_wouldTake 40 = .ok (.iload 4, 2) := by decide +kernel
theorem dX5_wouldTake_42 : decode cX5_wouldTake 42 = .ok (.imul, 1) := by decide +kernel
theorem dX5_wouldTake_43 : decode cX5_wouldTake 43 = .ok (.iaload, 1) := by decide +kernel
theorem dX5_wouldTake_44 : decode cX5_wouldTake 44 = .ok (.iload_n 1, 1) := by decide +kernel
theorem dX5_wouldTake_45 : decode cX5_wouldTake 45 = .ok (.if_icmp .ne 7, 3) := by decide +kernel
theorem dX5_wouldTake_48 : decode cX5_wouldTake 48 = .ok (.iconst 0, 1) := by decide +kernel
theorem dX5_wouldTake_49 : decode cX5_wouldTake 49 = .ok (.goto 4, 3) := by decide +kernel
theorem dX5_wouldTake_52 : decode cX5_wouldTake 52 = .ok (.iconst 1, 1) := by decide +kernel
theorem dX5_wouldTake_53 : decode cX5_wouldTake 53 = .ok (.iadd, 1) := by decide +kernel
theorem dX5_wouldTake_54 : decode cX5_wouldTake 54 = .ok (.istore_n 3, 1) := by decide +kernel
theorem dX5_wouldTake_55 : decode cX5_wouldTake 55 = .ok (.iinc 4 1, 3) := by decide +kernel
theorem dX5_wouldTake_58 : decode cX5_wouldTake 58 = .ok (.goto (-30), 3) := by decide +kernel
theorem dX5_wouldTake_61 : decode cX5_wouldTake 61 = .ok (.iload_n 3, 1) := by decide +kernel
theorem dX5_wouldTake_62 : decode cX5_wouldTake 62 = .ok (.ireturn, 1) := by decide +kernel
theorem dX5_courtier_0 : decode cX5_courtier 0 = .ok (.iload_n 1, 1) := by decide +kernel
theorem dX5_courtier_1 : decode cX5_courtier 1 = .ok (.invokestatic 78, 3) := by decide +kernel
theorem dX5_courtier_4 : decode cX5_courtier 4 = .ok (.ifCond .ne 6, 3) := by decide +kernel
theorem dX5_courtier_7 : decode cX5_courtier 7 = .ok (.ldc 125, 2) := by decide +kernel
theorem dX5_courtier_9 : decode cX5_courtier 9 = .ok (.ireturn, 1) := by decide +kernel
theorem dX5_courtier_10 : decode cX5_courtier 10 = .ok (.iload_n 2, 1) := by decide +kernel
theorem dX5_courtier_11 : decode cX5_courtier 11 = .ok (.tableswitch 59 0 3 #[29, 39, 46, 53], 29) := by decide +kernel
theorem dX5_courtier_40 : decode cX5_courtier 40 = .ok (.aload_n 0, 1) := by decide +kernel
theorem dX5_courtier_41 : decode cX5_courtier 41 = .ok (.getfield 7, 3) := by decide +kernel
theorem dX5_courtier_44 : decode cX5_courtier 44 = .ok (.bipush 6, 2) := by decide +kernel
theorem dX5_courtier_46 : decode cX5_courtier 46 = .ok (.iload_n 1, 1) := by decide +kernel
theorem dX5_courtier_47 : decode cX5_courtier 47 = .ok (.iadd, 1) := by decide +kernel
theorem dX5_courtier_48 : decode cX5_courtier 48 = .ok (.iaload, 1) := by decide +kernel
theorem dX5_courtier_49 : decode cX5_courtier 49 = .ok (.ireturn, 1) := by decide +kernel
theorem dX5_courtier_50 : decode cX5_courtier 50 = .ok (.aload_n 0, 1) := by decide +kernel
theorem dX5_courtier_51 : decode cX5_courtier 51 = .ok (.iload_n 1, 1) := by decide +kernel
theorem dX5_courtier_52 : decode cX5_courtier 52 = .ok (.iconst (-1), 1) := by decide +kernel
theorem dX5_courtier_53 : decode cX5_courtier 53 = .ok (.invokevirtual 162, 3) := by decide +kernel
theorem dX5_courtier_56 : decode cX5_courtier 56 = .ok (.ireturn, 1) := by decide +kernel
theorem dX5_courtier_57 : decode cX5_courtier 57 = .ok (.aload_n 0, 1) := by decide +kernel
theorem dX5_courtier_58 : decode cX5_courtier 58 = .ok (.iconst (-1), 1) := by decide +kernel
theorem dX5_courtier_59 : decode cX5_courtier 59 = .ok (.iload_n 1, 1) := by decide +kernel
theorem dX5_courtier_60 : decode cX5_courtier 60 = .ok (.invokevirtual 162, 3) := by decide +kernel
theorem dX5_courtier_63 : decode cX5_courtier 63 = .ok (.ireturn, 1) := by decide +kernel
theorem dX5_courtier_64 : decode cX5_courtier 64 = .ok (.aload_n 0, 1) := by decide +kernel
theorem dX5_courtier_65 : decode cX5_courtier 65 = .ok (.iload_n 1, 1) := by decide +kernel
theorem dX5_courtier_66 : decode cX5_courtier 66 = .ok (.invokevirtual 165, 3) := by decide +kernel
theorem dX5_courtier_69 : decode cX5_courtier 69 = .ok (.ireturn, 1) := by decide +kernel
theorem dX5_courtier_70 : decode cX5_courtier 70 = .ok (.ldc 121, 2) := by decide +kernel
theorem dX5_courtier_72 : decode cX5_courtier 72 = .ok (.ireturn, 1) := by decide +kernel
theorem dX5_ifGiven_0 : decode cX5_ifGiven 0 = .ok (.iload_n 1, 1) := by decide +kernel
theorem dX5_ifGiven_1 : decode cX5_ifGiven 1 = .ok (.invokestatic 78, 3) := by decide +kernel
theorem dX5_ifGiven_4 : decode cX5_ifGiven 4 = .ok (.ifCond .eq 10, 3) := by decide +kernel
theorem dX5_ifGiven_7 : decode cX5_ifGiven 7 = .ok (.iload_n 2, 1) := by decide +kernel
theorem dX5_ifGiven_8 : decode cX5_ifGiven 8 = .ok (.invokestatic 78, 3) := by decide +kernel
theorem dX5_ifGiven_11 : decode cX5_ifGiven 11 = .ok (.ifCond .ne 6, 3) := by decide +kernel
theorem dX5_ifGiven_14 : decode cX5_ifGiven 14 = .ok (.ldc 125, 2) := by decide +kernel
theorem dX5_ifGiven_16 : decode cX5_ifGiven 16 = .ok (.ireturn, 1) := by decide +kernel
theorem dX5_ifGiven_17 : decode cX5_ifGiven 17 = .ok (.aload_n 0, 1) := by decide +kernel
theorem dX5_ifGiven_18 : decode cX5_ifGiven 18 = .ok (.invokevirtual 147, 3) := by decide +kernel
theorem dX5_ifGiven_21 : decode cX5_ifGiven 21 = .ok (.ifCond .ne 6, 3) := by decide +kernel
theorem dX5_ifGiven_24 : decode cX5_ifGiven 24 = .ok (.ldc 136, 2) := by decide +kernel
theorem dX5_ifGiven_26 : decode cX5_ifGiven 26 = .ok (.ireturn, 1) := by decide +kernel
theorem dX5_ifGiven_27 : decode cX5_ifGiven 27 = .ok (.aload_n 0, 1) := by decide +kernel
theorem dX5_ifGiven_28 : decode cX5_ifGiven 28 = .ok (.invokevirtual 168, 3) := by decide +kernel
theorem dX5_ifGiven_31 : decode cX5_ifGiven 31 = .ok (.aload_n 0, 1) := by decide +kernel
theorem dX5_ifGiven_32 : decode cX5_ifGiven 32 = .ok (.invokevirtual 150, 3) := by decide +kernel
theorem dX5_ifGiven_35 : decode cX5_ifGiven 35 = .ok (.istore_n 3, 1) := by decide +kernel
theorem dX5_ifGiven_36 : decode cX5_ifGiven 36 = .ok (.aload_n 0, 1) := by decide +kernel
theorem dX5_ifGiven_37 : decode cX5_ifGiven 37 = .ok (.getfield 7, 3) := by decide +kernel
theorem dX5_ifGiven_40 : decode cX5_ifGiven 40 = .ok (.iload_n 1, 1) := by decide +kernel
theorem dX5_ifGiven_41 : decode cX5_ifGiven 41 = .ok (.iload_n 2, 1) := by decide +kernel
theorem dX5_ifGiven_42 : decode cX5_ifGiven 42 = .ok (.invokestatic 99, 3) := by decide +kernel
theorem dX5_ifGiven_45 : decode cX5_ifGiven 45 = .ok (.iaload, 1) := by decide +kernel
theorem dX5_ifGiven_46 : decode cX5_ifGiven 46 = .ok (.istore 4, 2) := by decide +kernel
theorem dX5_ifGiven_48 : decode cX5_ifGiven 48 = .ok (.aload_n 0, 1) := by decide +kernel
theorem dX5_ifGiven_49 : decode cX5_ifGiven 49 = .ok (.invokevirtual 171, 3) := by decide +kernel
theorem dX5_ifGiven_52 : decode cX5_ifGiven 52 = .ok (.iload 4, 2) := by decide +kernel
theorem dX5_ifGiven_54 : decode cX5_ifGiven 54 = .ok (.ireturn, 1) := by decide +kernel
theorem dX5_bestBow_0 : decode cX5_bestBow 0 = .ok (.aload_n 0, 1) := by decide +kernel
theorem dX5_bestBow_1 : decode cX5_bestBow 1 = .ok (.getfield 7, 3) := by decide +kernel
theorem dX5_bestBow_4 : decode cX5_bestBow 4 = .ok (.iconst 3, 1) := by decide +kernel
theorem dX5_bestBow_5 : decode cX5_bestBow 5 = .ok (.iaload, 1) := by decide +kernel
theorem dX5_bestBow_6 : decode cX5_bestBow 6 = .ok (.bipush 24, 2) := by decide +kernel
theorem dX5_bestBow_8 : decode cX5_bestBow 8 = .ok (.if_icmp .ne 6, 3) := by decide +kernel
theorem dX5_bestBow_11 : decode cX5_bestBow 11 = .ok (.ldc 70, 2) := by decide +kernel
theorem dX5_bestBow_13 : decode cX5_bestBow 13 = .ok (.ireturn, 1) := by decide +kernel
theorem dX5_bestBow_14 : decode cX5_bestBow 14 = .ok (.ldc 70, 2) := by decide +kernel
theorem dX5_bestBow_16 : decode cX5_bestBow 16 = .ok (.istore_n 1, 1) := by decide +kernel
theorem dX5_bestBow_17 : decode cX5_bestBow 17 = .ok (.aload_n 0, 1) := by decide +kernel
theorem dX5_bestBow_18 : decode cX5_bestBow 18 = .ok (.iconst 0, 1) := by decide +kernel
theorem dX5_bestBow_19 : decode cX5_bestBow 19 = .ok (.invokevirtual 102, 3) := by decide +kernel
theorem dX5_bestBow_22 : decode cX5_bestBow 22 = .ok (.istore_n 2, 1) := by decide +kernel
theorem dX5_bestBow_23 : decode cX5_bestBow 23 = .ok (.iconst 0, 1) := by decide +kernel
theorem dX5_bestBow_24 : decode cX5_bestBow 24 = .ok (.istore_n 3, 1) := by decide +kernel
theorem dX5_bestBow_25 : decode cX5_bestBow 25 = .ok (.iload_n 3, 1) := by decide +kernel
theorem dX5_bestBow_26 : decode cX5_bestBow 26 = .ok (.bipush 6, 2) := by decide +kernel
theorem dX5_bestBow_28 : decode cX5_bestBow 28 = .ok (.if_icmp .ge 57, 3) := by decide +kernel
theorem dX5_bestBow_31 : decode cX5_bestBow 31 = .ok (.aload_n 0, 1) := by decide +kernel
theorem dX5_bestBow_32 : decode cX5_bestBow 32 = .ok (.iload_n 3, 1) := by decide +kernel
theorem dX5_bestBow_33 : decode cX5_bestBow 33 = .ok (.iconst 0, 1) := by decide +kernel
theorem dX5_bestBow_34 : decode cX5_bestBow 34 = .ok (.invokevirtual 132, 3) := by decide +kernel
theorem dX5_bestBow_37 : decode cX5_bestBow 37 = .ok (.aload_n 0, 1) := by decide +kernel
theorem dX5_bestBow_38 : decode cX5_bestBow 38 = .ok (.iconst 0, 1) := by decide +kernel
theorem dX5_bestBow_39 : decode cX5_bestBow 39 = .ok (.invokevirtual 102, 3) := by decide +kernel
theorem dX5_bestBow_42 : decode cX5_bestBow 42 = .ok (.istore 4, 2) := by decide +kernel
theorem dX5_bestBow_44 : decode cX5_bestBow 44 = .ok (.aload_n 0, 1) := by decide +kernel
theorem dX5_bestBow_45 : decode cX5_bestBow 45 = .ok (.getfield 7, 3) := by decide +kernel
theorem dX5_bestBow_48 : decode cX5_bestBow 48 = .ok (.iconst 3, 1) := by decide +kernel
theorem dX5_bestBow_49 : decode cX5_bestBow 49 = .ok (.dup2, 1) := by decide +kernel
theorem dX5_bestBow_50 : decode cX5_bestBow 50 = .ok (.iaload, 1) := by decide +kernel
theorem dX5_bestBow_51 : decode cX5_bestBow 51 = .ok (.iconst 1, 1) := by decide +kernel
theorem dX5_bestBow_52 : decode cX5_bestBow 52 = .ok (.isub, 1) := by decide +kernel
theorem dX5_bestBow_53 : decode cX5_bestBow 53 = .ok (.iastore, 1) := by decide +kernel
theorem dX5_bestBow_54 : decode cX5_bestBow 54 = .ok (.iload 4, 2) := by decide +kernel
theorem dX5_bestBow_56 : decode cX5_bestBow 56 = .ok (.iload_n 2, 1) := by decide +kernel
theorem dX5_bestBow_57 : decode cX5_bestBow 57 = .ok (.if_icmp .le 7, 3) := by decide +kernel
theorem dX5_bestBow_60 : decode cX5_bestBow 60 = .ok (.iload_n 3, 1) := by decide +kernel
theorem dX5_bestBow_61 : decode cX5_bestBow 61 = .ok (.goto 4, 3) := by decide +kernel
theorem dX5_bestBow_64 : decode cX5_bestBow 64 = .ok (.iload_n 1, 1) := by decide +kernel
theorem dX5_bestBow_65 : decode cX5_bestBow 65 = .ok (.istore_n 1, 1) := by decide +kernel
theorem dX5_bestBow_66 : decode cX5_bestBow 66 = .ok (.iload 4, 2) := by decide +kernel
theorem dX5_bestBow_68 : decode cX5_bestBow 68 = .ok (.iload_n 2, 1) := by decide +kernel
theorem dX5_bestBow_69 : decode cX5_bestBow 69 = .ok (.if_icmp .le 8, 3) := by decide +kernel
theorem dX5_bestBow_72 : decode cX5_bestBow 72 = .ok (.iload 4, 2) := by decide +kernel
theorem dX5_bestBow_74 : decode cX5_bestBow 74 = .ok (.goto 4, 3) := by decide +kernel
theorem dX5_bestBow_77 : decode cX5_bestBow 77 = .ok (.iload_n 2, 1) := by decide +kernel
theorem dX5_bestBow_78 : decode cX5_bestBow 78 = .ok (.istore_n 2, 1) := by decide +kernel
theorem dX5_bestBow_79 : decode cX5_bestBow 79 = .ok (.iinc 3 1, 3) := by decide +kernel
theorem dX5_bestBow_82 : decode cX5_bestBow 82 = .ok (.goto (-57), 3) := by decide +kernel
theorem dX5_bestBow_85 : decode cX5_bestBow 85 = .ok (.aload_n 0, 1) := by decide +kernel
theorem dX5_bestBow_86 : decode cX5_bestBow 86 = .ok (.getfield 7, 3) := by decide +kernel
theorem dX5_bestBow_89 : decode cX5_bestBow 89 = .ok (.bipush 48, 2) := by decide +kernel
theorem dX5_bestBow_91 : decode cX5_bestBow 91 = .ok (.aload_n 0, 1) := by decide +kernel
theorem dX5_bestBow_92 : decode cX5_bestBow 92 = .ok (.getfield 7, 3) := by decide +kernel
theorem dX5_bestBow_95 : decode cX5_bestBow 95 = .ok (.iconst 3, 1) := by decide +kernel
theorem dX5_bestBow_96 : decode cX5_bestBow 96 = .ok (.iaload, 1) := by decide +kernel
theorem dX5_bestBow_97 : decode cX5_bestBow 97 = .ok (.iadd, 1) := by decide +kernel
theorem dX5_bestBow_98 : decode cX5_bestBow 98 = .ok (.iconst 0, 1) := by decide +kernel
theorem dX5_bestBow_99 : decode cX5_bestBow 99 = .ok (.iastore, 1) := by decide +kernel
theorem dX5_bestBow_100 : decode cX5_bestBow 100 = .ok (.iload_n 1, 1) := by decide +kernel
theorem dX5_bestBow_101 : decode cX5_bestBow 101 = .ok (.ireturn, 1) := by decide +kernel
theorem dX5_darling_0 : decode cX5_darling 0 = .ok (.iconst 0, 1) := by decide +kernel
theorem dX5_darling_1 : decode cX5_darling 1 = .ok (.istore_n 1, 1) := by decide +kernel
theorem dX5_darling_2 : decode cX5_darling 2 = .ok (.iconst 1, 1) := by decide +kernel
theorem dX5_darling_3 : decode cX5_darling 3 = .ok (.istore_n 2, 1) := by decide +kernel
theorem dX5_darling_4 : decode cX5_darling 4 = .ok (.iload_n 2, 1) := by decide +kernel
theorem dX5_darling_5 : decode cX5_darling 5 = .ok (.bipush 6, 2) := by decide +kernel
theorem dX5_darling_7 : decode cX5_darling 7 = .ok (.if_icmp .ge 30, 3) := by decide +kernel
theorem dX5_darling_10 : decode cX5_darling 10 = .ok (.aload_n 0, 1) := by decide +kernel
theorem dX5_darling_11 : decode cX5_darling 11 = .ok (.iload_n 2, 1) := by decide +kernel
theorem dX5_darling_12 : decode cX5_darling 12 = .ok (.iconst (-1), 1) := by decide +kernel
theorem dX5_darling_13 : decode cX5_darling 13 = .ok (.invokevirtual 162, 3) := by decide +kernel
theorem dX5_darling_16 : decode cX5_darling 16 = .ok (.aload_n 0, 1) := by decide +kernel
theorem dX5_darling_17 : decode cX5_darling 17 = .ok (.iload_n 1, 1) := by decide +kernel
theorem dX5_darling_18 : decode cX5_darling 18 = .ok (.iconst (-1), 1) := by decide +kernel
theorem dX5_darling_19 : decode cX5_darling 19 = .ok (.invokevirtual 162, 3) := by decide +kernel
theorem dX5_darling_22 : decode cX5_darling 22 = .ok (.if_icmp .le 7, 3) := by decide +kernel
theorem dX5_darling_25 : decode cX5_darling 25 = .ok (.iload_n 2, 1) := by decide +kernel
theorem dX5_darling_26 : decode cX5_darling 26 = .ok (.goto 4, 3) := by decide +kernel
theorem dX5_darling_29 : decode cX5_darling 29 = .ok (.iload_n 1, 1) := by decide +kernel
theorem dX5_darling_30 : decode cX5_darling 30 = .ok (.istore_n 1, 1) := by decide +kernel
theorem dX5_darling_31 : decode cX5_darling 31 = .ok (.iinc 2 1, 3) := by decide +kernel
theorem dX5_darling_34 : decode cX5_darling 34 = .ok (.goto (-30), 3) := by decide +kernel
theorem dX5_darling_37 : decode cX5_darling 37 = .ok (.iload_n 1, 1) := by decide +kernel
theorem dX5_darling_38 : decode cX5_darling 38 = .ok (.ireturn, 1) := by decide +kernel
theorem dX5_charactersOf_0 : decode cX5_charactersOf 0 = .ok (.lload_n 0, 1) := by decide +kernel
theorem dX5_charactersOf_1 : decode cX5_charactersOf 1 = .ok (.lstore_n 2, 1) := by decide +kernel
theorem dX5_charactersOf_2 : decode cX5_charactersOf 2 = .ok (.iconst 0, 1) := by decide +kernel
theorem dX5_charactersOf_3 : decode cX5_charactersOf 3 = .ok (.istore 4, 2) := by decide +kernel
theorem dX5_charactersOf_5 : decode cX5_charactersOf 5 = .ok (.iload 4, 2) := by decide +kernel
theorem dX5_charactersOf_7 : decode cX5_charactersOf 7 = .ok (.bipush 8, 2) := by decide +kernel
theorem dX5_charactersOf_9 : decode cX5_charactersOf 9 = .ok (.if_icmp .ge 31, 3) := by decide +kernel
theorem dX5_charactersOf_12 : decode cX5_charactersOf 12 = .ok (.lload_n 2, 1) := by decide +kernel
theorem dX5_charactersOf_13 : decode cX5_charactersOf 13 = .ok (.ldc2_w 174, 3) := by decide +kernel
theorem dX5_charactersOf_16 : decode cX5_charactersOf 16 = .ok (.land, 1) := by decide +kernel
theorem dX5_charactersOf_17 : decode cX5_charactersOf 17 = .ok (.ldc2_w 176, 3) := by decide +kernel
theorem dX5_charactersOf_20 : decode cX5_charactersOf 20 = .ok (.ldc2_w 178, 3) := by decide +kernel
theorem dX5_charactersOf_23 : decode cX5_charactersOf 23 = .ok (.invokestatic 49, 3) := by decide +kernel
theorem dX5_charactersOf_26 : decode cX5_charactersOf 26 = .ok (.ifCond .eq 14, 3) := by decide +kernel
theorem dX5_charactersOf_29 : decode cX5_charactersOf 29 = .ok (.lload_n 2, 1) := by decide +kernel
theorem dX5_charactersOf_30 : decode cX5_charactersOf 30 = .ok (.bipush 8, 2) := by decide +kernel
theorem dX5_charactersOf_32 : decode cX5_charactersOf 32 = .ok (.lushr, 1) := by decide +kernel
theorem dX5_charactersOf_33 : decode cX5_charactersOf 33 = .ok (.lstore_n 2, 1) := by decide +kernel
theorem dX5_charactersOf_34 : decode cX5_charactersOf 34 = .ok (.iinc 4 1, 3) := by decide +kernel
theorem dX5_charactersOf_37 : decode cX5_charactersOf 37 = .ok (.goto (-32), 3) := by decide +kernel
theorem dX5_charactersOf_40 : decode cX5_charactersOf 40 = .ok (.lload_n 2, 1) := by decide +kernel
theorem dX5_charactersOf_41 : decode cX5_charactersOf 41 = .ok (.lconst 0, 1) := by decide +kernel
theorem dX5_charactersOf_42 : decode cX5_charactersOf 42 = .ok (.lcmp, 1) := by decide +kernel
theorem dX5_charactersOf_43 : decode cX5_charactersOf 43 = .ok (.ifCond .ne 8, 3) := by decide +kernel
theorem dX5_charactersOf_46 : decode cX5_charactersOf 46 = .ok (.iload 4, 2) := by decide +kernel
theorem dX5_charactersOf_48 : decode cX5_charactersOf 48 = .ok (.goto 4, 3) := by decide +kernel
theorem dX5_charactersOf_51 : decode cX5_charactersOf 51 = .ok (.iconst 0, 1) := by decide +kernel
theorem dX5_charactersOf_52 : decode cX5_charactersOf 52 = .ok (.ireturn, 1) := by decide +kernel
theorem dX5_put_0 : decode cX5_put 0 = .ok (.lload_n 1, 1) := by decide +kernel
theorem dX5_put_1 : decode cX5_put 1 = .ok (.invokestatic 180, 3) := by decide +kernel
theorem dX5_put_4 : decode cX5_put 4 = .ok (.istore_n 3, 1) := by decide +kernel
theorem dX5_put_5 : decode cX5_put 5 = .ok (.iload_n 3, 1) := by decide +kernel
theorem dX5_put_6 : decode cX5_put 6 = .ok (.ifCond .ne 6, 3) := by decide +kernel
theorem dX5_put_9 : decode cX5_put 9 = .ok (.ldc 121, 2) := by decide +kernel
theorem dX5_put_11 : decode cX5_put 11 = .ok (.ireturn, 1) := by decide +kernel
theorem dX5_put_12 : decode cX5_put 12 = .ok (.aload_n 0, 1) := by decide +kernel
theorem dX5_put_13 : decode cX5_put 13 = .ok (.getfield 144, 3) := by decide +kernel
theorem dX5_put_16 : decode cX5_put 16 = .ok (.iload_n 3, 1) := by decide +kernel
theorem dX5_put_17 : decode cX5_put 17 = .ok (.iadd, 1) := by decide +kernel
theorem dX5_put_18 : decode cX5_put 18 = .ok (.bipush 60, 2) := by decide +kernel
theorem dX5_put_20 : decode cX5_put 20 = .ok (.if_icmp .le 6, 3) := by decide +kernel
theorem dX5_put_23 : decode cX5_put 23 = .ok (.ldc 131, 2) := by decide +kernel
theorem dX5_put_25 : decode cX5_put 25 = .ok (.ireturn, 1) := by decide +kernel
theorem dX5_put_26 : decode cX5_put 26 = .ok (.iconst 0, 1) := by decide +kernel
theorem dX5_put_27 : decode cX5_put 27 = .ok (.istore 4, 2) := by decide +kernel
theorem dX5_put_29 : decode cX5_put 29 = .ok (.iload 4, 2) := by decide +kernel
theorem dX5_put_31 : decode cX5_put 31 = .ok (.iload_n 3, 1) := by decide +kernel
theorem dX5_put_32 : decode cX5_put 32 = .ok (.if_icmp .ge 37, 3) := by decide +kernel
theorem dX5_put_35 : decode cX5_put 35 = .ok (.aload_n 0, 1) := by decide +kernel
theorem dX5_put_36 : decode cX5_put 36 = .ok (.getfield 34, 3) := by decide +kernel
theorem dX5_put_39 : decode cX5_put 39 = .ok (.aload_n 0, 1) := by decide +kernel
theorem dX5_put_40 : decode cX5_put 40 = .ok (.getfield 144, 3) := by decide +kernel
theorem dX5_put_43 : decode cX5_put 43 = .ok (.iload 4, 2) := by decide +kernel
theorem dX5_put_45 : decode cX5_put 45 = .ok (.iadd, 1) := by decide +kernel
theorem dX5_put_46 : decode cX5_put 46 = .ok (.lload_n 1, 1) := by decide +kernel
theorem dX5_put_47 : decode cX5_put 47 = .ok (.bipush 8, 2) := by decide +kernel
theorem dX5_put_49 : decode cX5_put 49 = .ok (.iload_n 3, 1) := by decide +kernel
theorem dX5_put_50 : decode cX5_put 50 = .ok (.iconst 1, 1) := by decide +kernel
theorem dX5_put_51 : decode cX5_put 51 = .ok (.isub, 1) := by decide +kernel
theorem dX5_put_52 : decode cX5_put 52 = .ok (.iload 4, 2) := by decide +kernel
theorem dX5_put_54 : decode cX5_put 54 = .ok (.isub, 1) := by decide +kernel
theorem dX5_put_55 : decode cX5_put 55 = .ok (.imul, 1) := by decide +kernel
theorem dX5_put_56 : decode cX5_put 56 = .ok (.lushr, 1) := by decide +kernel
theorem dX5_put_57 : decode cX5_put 57 = .ok (.ldc2_w 174, 3) := by decide +kernel
theorem dX5_put_60 : decode cX5_put 60 = .ok (.land, 1) := by decide +kernel
theorem dX5_put_61 : decode cX5_put 61 = .ok (.l2i, 1) := by decide +kernel
theorem dX5_put_62 : decode cX5_put 62 = .ok (.iastore, 1) := by decide +kernel
theorem dX5_put_63 : decode cX5_put 63 = .ok (.iinc 4 1, 3) := by decide +kernel
theorem dX5_put_66 : decode cX5_put 66 = .ok (.goto (-37), 3) := by decide +kernel
theorem dX5_put_69 : decode cX5_put 69 = .ok (.aload_n 0, 1) := by decide +kernel
theorem dX5_put_70 : decode cX5_put 70 = .ok (.dup, 1) := by decide +kernel
theorem dX5_put_71 : decode cX5_put 71 = .ok (.getfield 144, 3) := by decide +kernel
theorem dX5_put_74 : decode cX5_put 74 = .ok (.iload_n 3, 1) := by decide +kernel
theorem dX5_put_75 : decode cX5_put 75 = .ok (.iadd, 1) := by decide +kernel
theorem dX5_put_76 : decode cX5_put 76 = .ok (.putfield 144, 3) := by decide +kernel
theorem dX5_put_79 : decode cX5_put 79 = .ok (.aload_n 0, 1) := by decide +kernel
theorem dX5_put_80 : decode cX5_put 80 = .ok (.getfield 144, 3) := by decide +kernel
theorem dX5_put_83 : decode cX5_put 83 = .ok (.ireturn, 1) := by decide +kernel
theorem dX5_wipe_0 : decode cX5_wipe 0 = .ok (.aload_n 0, 1) := by decide +kernel
theorem dX5_wipe_1 : decode cX5_wipe 1 = .ok (.getfield 144, 3) := by decide +kernel
theorem dX5_wipe_4 : decode cX5_wipe 4 = .ok (.istore_n 1, 1) := by decide +kernel
theorem dX5_wipe_5 : decode cX5_wipe 5 = .ok (.aload_n 0, 1) := by decide +kernel
theorem dX5_wipe_6 : decode cX5_wipe 6 = .ok (.iconst 0, 1) := by decide +kernel
theorem dX5_wipe_7 : decode cX5_wipe 7 = .ok (.putfield 144, 3) := by decide +kernel
theorem dX5_wipe_10 : decode cX5_wipe 10 = .ok (.iload_n 1, 1) := by decide +kernel
theorem dX5_wipe_11 : decode cX5_wipe 11 = .ok (.ireturn, 1) := by decide +kernel
theorem dX5_isHere_0 : decode cX5_isHere 0 = .ok (.aload_n 0, 1) := by decide +kernel
theorem dX5_isHere_1 : decode cX5_isHere 1 = .ok (.getfield 184, 3) := by decide +kernel
theorem dX5_isHere_4 : decode cX5_isHere 4 = .ok (.aload_n 0, 1) := by decide +kernel
theorem dX5_isHere_5 : decode cX5_isHere 5 = .ok (.getfield 144, 3) := by decide +kernel
theorem dX5_isHere_8 : decode cX5_isHere 8 = .ok (.if_icmp .ge 27, 3) := by decide +kernel
theorem dX5_isHere_11 : decode cX5_isHere 11 = .ok (.aload_n 0, 1) := by decide +kernel
theorem dX5_isHere_12 : decode cX5_isHere 12 = .ok (.getfield 34, 3) := by decide +kernel
theorem dX5_isHere_15 : decode cX5_isHere 15 = .ok (.aload_n 0, 1) := by decide +kernel
theorem dX5_isHere_16 : decode cX5_isHere 16 = .ok (.getfield 184, 3) := by decide +kernel
theorem dX5_isHere_19 : decode cX5_isHere 19 = .ok (.iaload, 1) := by decide +kernel
theorem dX5_isHere_20 : decode cX5_isHere 20 = .ok (.i2l, 1) := by decide +kernel
theorem dX5_isHere_21 : decode cX5_isHere 21 = .ok (.iload_n 1, 1) := by decide +kernel
theorem dX5_isHere_22 : decode cX5_isHere 22 = .ok (.i2l, 1) := by decide +kernel
theorem dX5_isHere_23 : decode cX5_isHere 23 = .ok (.iload_n 2, 1) := by decide +kernel
theorem dX5_isHere_24 : decode cX5_isHere 24 = .ok (.i2l, 1) := by decide +kernel
theorem dX5_isHere_25 : decode cX5_isHere 25 = .ok (.invokestatic 49, 3) := by decide +kernel
theorem dX5_isHere_28 : decode cX5_isHere 28 = .ok (.ifCond .eq 7, 3) := by decide +kernel
theorem dX5_isHere_31 : decode cX5_isHere 31 = .ok (.iconst 1, 1) := by decide +kernel
theorem dX5_isHere_32 : decode cX5_isHere 32 = .ok (.goto 4, 3) := by decide +kernel
theorem dX5_isHere_35 : decode cX5_isHere 35 = .ok (.iconst 0, 1) := by decide +kernel
theorem dX5_isHere_36 : decode cX5_isHere 36 = .ok (.ireturn, 1) := by decide +kernel
theorem dX5_takesOne_0 : decode cX5_takesOne 0 = .ok (.aload_n 0, 1) := by decide +kernel
theorem dX5_takesOne_1 : decode cX5_takesOne 1 = .ok (.iload_n 1, 1) := by decide +kernel
theorem dX5_takesOne_2 : decode cX5_takesOne 2 = .ok (.iload_n 1, 1) := by decide +kernel
theorem dX5_takesOne_3 : decode cX5_takesOne 3 = .ok (.invokevirtual 187, 3) := by decide +kernel
theorem dX5_takesOne_6 : decode cX5_takesOne 6 = .ok (.istore_n 2, 1) := by decide +kernel
theorem dX5_takesOne_7 : decode cX5_takesOne 7 = .ok (.aload_n 0, 1) := by decide +kernel
theorem dX5_takesOne_8 : decode cX5_takesOne 8 = .ok (.dup, 1) := by decide +kernel
theorem dX5_takesOne_9 : decode cX5_takesOne 9 = .ok (.getfield 184, 3) := by decide +kernel
theorem dX5_takesOne_12 : decode cX5_takesOne 12 = .ok (.iload_n 2, 1) := by decide +kernel
theorem dX5_takesOne_13 : decode cX5_takesOne 13 = .ok (.ifCond .eq 7, 3) := by decide +kernel
theorem dX5_takesOne_16 : decode cX5_takesOne 16 = .ok (.iconst 1, 1) := by decide +kernel
theorem dX5_takesOne_17 : decode cX5_takesOne 17 = .ok (.goto 4, 3) := by decide +kernel
theorem dX5_takesOne_20 : decode cX5_takesOne 20 = .ok (.iconst 0, 1) := by decide +kernel
theorem dX5_takesOne_21 : decode cX5_takesOne 21 = .ok (.iadd, 1) := by decide +kernel
theorem dX5_takesOne_22 : decode cX5_takesOne 22 = .ok (.putfield 184, 3) := by decide +kernel
theorem dX5_takesOne_25 : decode cX5_takesOne 25 = .ok (.iload_n 2, 1) := by decide +kernel
theorem dX5_takesOne_26 : decode cX5_takesOne 26 = .ok (.ireturn, 1) := by decide +kernel
theorem dX5_readsBow_0 : decode cX5_readsBow 0 = .ok (.aload_n 0, 1) := by decide +kernel
theorem dX5_readsBow_1 : decode cX5_readsBow 1 = .ok (.bipush 49, 2) := by decide +kernel
theorem dX5_readsBow_3 : decode cX5_readsBow 3 = .ok (.bipush 51, 2) := by decide +kernel
theorem dX5_readsBow_5 : decode cX5_readsBow 5 = .ok (.invokevirtual 187, 3) := by decide +kernel
theorem dX5_readsBow_8 : decode cX5_readsBow 8 = .ok (.ifCond .ne 5, 3) := by decide +kernel
theorem dX5_readsBow_11 : decode cX5_readsBow 11 = .ok (.iconst 0, 1) := by decide +kernel
theorem dX5_readsBow_12 : decode cX5_readsBow 12 = .ok (.ireturn, 1) := by decide +kernel
theorem dX5_readsBow_13 : decode cX5_readsBow 13 = .ok (.aload_n 0, 1) := by decide +kernel
theorem dX5_readsBow_14 : decode cX5_readsBow 14 = .ok (.getfield 37, 3) := by decide +kernel
theorem dX5_readsBow_17 : decode cX5_readsBow 17 = .ok (.aload_n 0, 1) := by decide +kernel
theorem dX5_readsBow_18 : decode cX5_readsBow 18 = .ok (.getfield 141, 3) := by decide +kernel
theorem dX5_readsBow_21 : decode cX5_readsBow 21 = .ok (.iconst 2, 1) := by decide +kernel
theorem dX5_readsBow_22 : decode cX5_readsBow 22 = .ok (.aload_n 0, 1) := by decide +kernel
theorem dX5_readsBow_23 : decode cX5_readsBow 23 = .ok (.getfield 34, 3) := by decide +kernel
theorem dX5_readsBow_26 : decode cX5_readsBow 26 = .ok (.aload_n 0, 1) := by decide +kernel
theorem dX5_readsBow_27 : decode cX5_readsBow 27 = .ok (.getfield 184, 3) := by decide +kernel
theorem dX5_readsBow_30 : decode cX5_readsBow 30 = .ok (.iaload, 1) := by decide +kernel
theorem dX5_readsBow_31 : decode cX5_readsBow 31 = .ok (.bipush 49, 2) := by decide +kernel
theorem dX5_readsBow_33 : decode cX5_readsBow 33 = .ok (.isub, 1) := by decide +kernel
theorem dX5_readsBow_34 : decode cX5_readsBow 34 = .ok (.imul, 1) := by decide +kernel
theorem dX5_readsBow_35 : decode cX5_readsBow 35 = .ok (.iastore, 1) := by decide +kernel
theorem dX5_readsBow_36 : decode cX5_readsBow 36 = .ok (.aload_n 0, 1) := by decide +kernel
theorem dX5_readsBow_37 : decode cX5_readsBow 37 = .ok (.getfield 40, 3) := by decide +kernel
theorem dX5_readsBow_40 : decode cX5_readsBow 40 = .ok (.aload_n 0, 1) := by decide +kernel
theorem dX5_readsBow_41 : decode cX5_readsBow 41 = .ok (.getfield 141, 3) := by decide +kernel
theorem dX5_readsBow_44 : decode cX5_readsBow 44 = .ok (.iconst 0, 1) := by decide +kernel
theorem dX5_readsBow_45 : decode cX5_readsBow 45 = .ok (.iastore, 1) := by decide +kernel
theorem dX5_readsBow_46 : decode cX5_readsBow 46 = .ok (.aload_n 0, 1) := by decide +kernel
theorem dX5_readsBow_47 : decode cX5_readsBow 47 = .ok (.dup, 1) := by decide +kernel
theorem dX5_readsBow_48 : decode cX5_readsBow 48 = .ok (.getfield 184, 3) := by decide +kernel
theorem dX5_readsBow_51 : decode cX5_readsBow 51 = .ok (.iconst 1, 1) := by decide +kernel
theorem dX5_readsBow_52 : decode cX5_readsBow 52 = .ok (.iadd, 1) := by decide +kernel
theorem dX5_readsBow_53 : decode cX5_readsBow 53 = .ok (.putfield 184, 3) := by decide +kernel
theorem dX5_readsBow_56 : decode cX5_readsBow 56 = .ok (.aload_n 0, 1) := by decide +kernel
theorem dX5_readsBow_57 : decode cX5_readsBow 57 = .ok (.bipush 114, 2) := by decide +kernel
theorem dX5_readsBow_59 : decode cX5_readsBow 59 = .ok (.invokevirtual 190, 3) := by decide +kernel
theorem dX5_readsBow_62 : decode cX5_readsBow 62 = .ok (.ifCond .eq 19, 3) := by decide +kernel
theorem dX5_readsBow_65 : decode cX5_readsBow 65 = .ok (.aload_n 0, 1) := by decide +kernel
theorem dX5_readsBow_66 : decode cX5_readsBow 66 = .ok (.getfield 37, 3) := by decide +kernel
theorem dX5_readsBow_69 : decode cX5_readsBow 69 = .ok (.aload_n 0, 1) := by decide +kernel
theorem dX5_readsBow_70 : decode cX5_readsBow 70 = .ok (.getfield 141, 3) := by decide +kernel
theorem dX5_readsBow_73 : decode cX5_readsBow 73 = .ok (.dup2, 1) := by decide +kernel
theorem dX5_readsBow_74 : decode cX5_readsBow 74 = .ok (.iaload, 1) := by decide +kernel
theorem dX5_readsBow_75 : decode cX5_readsBow 75 = .ok (.iconst 1, 1) := by decide +kernel
theorem dX5_readsBow_76 : decode cX5_readsBow 76 = .ok (.iadd, 1) := by decide +kernel
theorem dX5_readsBow_77 : decode cX5_readsBow 77 = .ok (.iastore, 1) := by decide +kernel
theorem dX5_readsBow_78 : decode cX5_readsBow 78 = .ok (.goto 14, 3) := by decide +kernel
theorem dX5_readsBow_81 : decode cX5_readsBow 81 = .ok (.aload_n 0, 1) := by decide +kernel
theorem dX5_readsBow_82 : decode cX5_readsBow 82 = .ok (.bipush 108, 2) := by decide +kernel
theorem dX5_readsBow_84 : decode cX5_readsBow 84 = .ok (.invokevirtual 190, 3) := by decide +kernel
theorem dX5_readsBow_87 : decode cX5_readsBow 87 = .ok (.ifCond .ne 5, 3) := by decide +kernel
theorem dX5_readsBow_90 : decode cX5_readsBow 90 = .ok (.iconst 0, 1) := by decide +kernel
theorem dX5_readsBow_91 : decode cX5_readsBow 91 = .ok (.ireturn, 1) := by decide +kernel
theorem dX5_readsBow_92 : decode cX5_readsBow 92 = .ok (.aload_n 0, 1) := by decide +kernel
theorem dX5_readsBow_93 : decode cX5_readsBow 93 = .ok (.bipush 46, 2) := by decide +kernel
theorem dX5_readsBow_95 : decode cX5_readsBow 95 = .ok (.invokevirtual 190, 3) := by decide +kernel
theorem dX5_readsBow_98 : decode cX5_readsBow 98 = .ok (.ifCond .eq 47, 3) := by decide +kernel
theorem dX5_readsBow_101 : decode cX5_readsBow 101 = .ok (.aload_n 0, 1) := by decide +kernel
theorem dX5_readsBow_102 : decode cX5_readsBow 102 = .ok (.bipush 48, 2) := by decide +kernel
theorem dX5_readsBow_104 : decode cX5_readsBow 104 = .ok (.bipush 57, 2) := by decide +kernel
theorem dX5_readsBow_106 : decode cX5_readsBow 106 = .ok (.invokevirtual 187, 3) := by decide +kernel
theorem dX5_readsBow_109 : decode cX5_readsBow 109 = .ok (.ifCond .ne 5, 3) := by decide +kernel
theorem dX5_readsBow_112 : decode cX5_readsBow 112 = .ok (.iconst 0, 1) := by decide +kernel
theorem dX5_readsBow_113 : decode cX5_readsBow 113 = .ok (.ireturn, 1) := by decide +kernel
theorem dX5_readsBow_114 : decode cX5_readsBow 114 = .ok (.aload_n 0, 1) := by decide +kernel
theorem dX5_readsBow_115 : decode cX5_readsBow 115 = .ok (.getfield 40, 3) := by decide +kernel
theorem dX5_readsBow_118 : decode cX5_readsBow 118 = .ok (.aload_n 0, 1) := by decide +kernel
theorem dX5_readsBow_119 : decode cX5_readsBow 119 = .ok (.getfield 141, 3) := by decide +kernel
theorem dX5_readsBow_122 : decode cX5_readsBow 122 = .ok (.aload_n 0, 1) := by decide +kernel
theorem dX5_readsBow_123 : decode cX5_readsBow 123 = .ok (.getfield 34, 3) := by decide +kernel
theorem dX5_readsBow_126 : decode cX5_readsBow 126 = .ok (.aload_n 0, 1) := by decide +kernel
theorem dX5_readsBow_127 : decode cX5_readsBow 127 = .ok (.getfield 184, 3) := by decide +kernel
theorem dX5_readsBow_130 : decode cX5_readsBow 130 = .ok (.iaload, 1) := by decide +kernel
theorem dX5_readsBow_131 : decode cX5_readsBow 131 = .ok (.bipush 48, 2) := by decide +kernel
theorem dX5_readsBow_133 : decode cX5_readsBow 133 = .ok (.isub, 1) := by decide +kernel
theorem dX5_readsBow_134 : decode cX5_readsBow 134 = .ok (.iastore, 1) := by decide +kernel
theorem dX5_readsBow_135 : decode cX5_readsBow 135 = .ok (.aload_n 0, 1) := by decide +kernel
theorem dX5_readsBow_136 : decode cX5_readsBow 136 = .ok (.dup, 1) := by decide +kernel
theorem dX5_readsBow_137 : decode cX5_readsBow 137 = .ok (.getfield 184, 3) := by decide +kernel
theorem dX5_readsBow_140 : decode cX5_readsBow 140 = .ok (.iconst 1, 1) := by decide +kernel
theorem dX5_readsBow_141 : decode cX5_readsBow 141 = .ok (.iadd, 1) := by decide +kernel
theorem dX5_readsBow_142 : decode cX5_readsBow 142 = .ok (.putfield 184, 3) := by decide +kernel
theorem dX5_readsBow_145 : decode cX5_readsBow 145 = .ok (.aload_n 0, 1) := by decide +kernel
theorem dX5_readsBow_146 : decode cX5_readsBow 146 = .ok (.dup, 1) := by decide +kernel
theorem dX5_readsBow_147 : decode cX5_readsBow 147 = .ok (.getfield 141, 3) := by decide +kernel
theorem dX5_readsBow_150 : decode cX5_readsBow 150 = .ok (.iconst 1, 1) := by decide +kernel
theorem dX5_readsBow_151 : decode cX5_readsBow 151 = .ok (.iadd, 1) := by decide +kernel
theorem dX5_readsBow_152 : decode cX5_readsBow 152 = .ok (.putfield 141, 3) := by decide +kernel
theorem dX5_readsBow_155 : decode cX5_readsBow 155 = .ok (.iconst 1, 1) := by decide +kernel
theorem dX5_readsBow_156 : decode cX5_readsBow 156 = .ok (.ireturn, 1) := by decide +kernel
theorem dX5_fault_0 : decode cX5_fault 0 = .ok (.aload_n 0, 1) := by decide +kernel
theorem dX5_fault_1 : decode cX5_fault 1 = .ok (.iconst 0, 1) := by decide +kernel
theorem dX5_fault_2 : decode cX5_fault 2 = .ok (.putfield 184, 3) := by decide +kernel
theorem dX5_fault_5 : decode cX5_fault 5 = .ok (.aload_n 0, 1) := by decide +kernel
theorem dX5_fault_6 : decode cX5_fault 6 = .ok (.iconst 0, 1) := by decide +kernel
theorem dX5_fault_7 : decode cX5_fault 7 = .ok (.putfield 141, 3) := by decide +kernel
theorem dX5_fault_10 : decode cX5_fault 10 = .ok (.iconst 1, 1) := by decide +kernel
theorem dX5_fault_11 : decode cX5_fault 11 = .ok (.istore_n 1, 1) := by decide +kernel
theorem dX5_fault_12 : decode cX5_fault 12 = .ok (.iload_n 1, 1) := by decide +kernel
theorem dX5_fault_13 : decode cX5_fault 13 = .ok (.ifCond .eq 35, 3) := by decide +kernel
theorem dX5_fault_16 : decode cX5_fault 16 = .ok (.aload_n 0, 1) := by decide +kernel
theorem dX5_fault_17 : decode cX5_fault 17 = .ok (.invokevirtual 193, 3) := by decide +kernel
theorem dX5_fault_20 : decode cX5_fault 20 = .ok (.ifCond .ne 8, 3) := by decide +kernel
theorem dX5_fault_23 : decode cX5_fault 23 = .ok (.aload_n 0, 1) := by decide +kernel
theorem dX5_fault_24 : decode cX5_fault 24 = .ok (.getfield 184, 3) := by decide +kernel
theorem dX5_fault_27 : decode cX5_fault 27 = .ok (.ireturn, 1) := by decide +kernel
theorem dX5_fault_28 : decode cX5_fault 28 = .ok (.aload_n 0, 1) := by decide +kernel
theorem dX5_fault_29 : decode cX5_fault 29 = .ok (.getfield 184, 3) := by decide +kernel
theorem dX5_fault_32 : decode cX5_fault 32 = .ok (.aload_n 0, 1) := by decide +kernel
theorem dX5_fault_33 : decode cX5_fault 33 = .ok (.getfield 144, 3) := by decide +kernel
theorem dX5_fault_36 : decode cX5_fault 36 = .ok (.if_icmp .ge 7, 3) := by decide +kernel
theorem dX5_fault_39 : decode cX5_fault 39 = .ok (.iconst 1, 1) := by decide +kernel
theorem dX5_fault_40 : decode cX5_fault 40 = .ok (.goto 4, 3) := by decide +kernel
theorem dX5_fault_43 : decode cX5_fault 43 = .ok (.iconst 0, 1) := by decide +kernel
theorem dX5_fault_44 : decode cX5_fault 44 = .ok (.istore_n 1, 1) := by decide +kernel
theorem dX5_fault_45 : decode cX5_fault 45 = .ok (.goto (-33), 3) := by decide +kernel
theorem dX5_fault_48 : decode cX5_fault 48 = .ok (.ldc 70, 2) := by decide +kernel
theorem dX5_fault_50 : decode cX5_fault 50 = .ok (.ireturn, 1) := by decide +kernel
theorem dX5_undo_0 : decode cX5_undo 0 = .ok (.aload_n 0, 1) := by decide +kernel
theorem dX5_undo_1 : decode cX5_undo 1 = .ok (.getfield 43, 3) := by decide +kernel
theorem dX5_undo_4 : decode cX5_undo 4 = .ok (.ifCond .ne 6, 3) := by decide +kernel
theorem dX5_undo_7 : decode cX5_undo 7 = .ok (.ldc 136, 2) := by decide +kernel
theorem dX5_undo_9 : decode cX5_undo 9 = .ok (.ireturn, 1) := by decide +kernel
theorem dX5_undo_10 : decode cX5_undo 10 = .ok (.aload_n 0, 1) := by decide +kernel
theorem dX5_undo_11 : decode cX5_undo 11 = .ok (.dup, 1) := by decide +kernel
theorem dX5_undo_12 : decode cX5_undo 12 = .ok (.getfield 43, 3) := by decide +kernel
theorem dX5_undo_15 : decode cX5_undo 15 = .ok (.iconst 1, 1) := by decide +kernel
theorem dX5_undo_16 : decode cX5_undo 16 = .ok (.isub, 1) := by decide +kernel
theorem dX5_undo_17 : decode cX5_undo 17 = .ok (.putfield 43, 3) := by decide +kernel
theorem dX5_undo_20 : decode cX5_undo 20 = .ok (.iconst 0, 1) := by decide +kernel
theorem dX5_undo_21 : decode cX5_undo 21 = .ok (.istore_n 1, 1) := by decide +kernel
theorem dX5_undo_22 : decode cX5_undo 22 = .ok (.iload_n 1, 1) := by decide +kernel
theorem dX5_undo_23 : decode cX5_undo 23 = .ok (.bipush 120, 2) := by decide +kernel
theorem dX5_undo_25 : decode cX5_undo 25 = .ok (.if_icmp .ge 29, 3) := by decide +kernel
theorem dX5_undo_28 : decode cX5_undo 28 = .ok (.aload_n 0, 1) := by decide +kernel
theorem dX5_undo_29 : decode cX5_undo 29 = .ok (.getfield 7, 3) := by decide +kernel
theorem dX5_undo_32 : decode cX5_undo 32 = .ok (.iload_n 1, 1) := by decide +kernel
theorem dX5_undo_33 : decode cX5_undo 33 = .ok (.aload_n 0, 1) := by decide +kernel
theorem dX5_undo_34 : decode cX5_undo 34 = .ok (.getfield 16, 3) := by decide +kernel
theorem dX5_undo_37 : decode cX5_undo 37 = .ok (.bipush 120, 2) := by decide +kernel
theorem dX5_undo_39 : decode cX5_undo 39 = .ok (.aload_n 0, 1) := by decide +kernel
theorem dX5_undo_40 : decode cX5_undo 40 = .ok (.getfield 43, 3) := by decide +kernel
theorem dX5_undo_43 : decode cX5_undo 43 = .ok (.imul, 1) := by decide +kernel
theorem dX5_undo_44 : decode cX5_undo 44 = .ok (.iload_n 1, 1) := by decide +kernel
theorem dX5_undo_45 : decode cX5_undo 45 = .ok (.iadd, 1) := by decide +kernel
theorem dX5_undo_46 : decode cX5_undo 46 = .ok (.iaload, 1) := by decide +kernel
theorem dX5_undo_47 : decode cX5_undo 47 = .ok (.iastore, 1) := by decide +kernel
theorem dX5_undo_48 : decode cX5_undo 48 = .ok (.iinc 1 1, 3) := by decide +kernel
theorem dX5_undo_51 : decode cX5_undo 51 = .ok (.goto (-29), 3) := by decide +kernel
theorem dX5_undo_54 : decode cX5_undo 54 = .ok (.aload_n 0, 1) := by decide +kernel
theorem dX5_undo_55 : decode cX5_undo 55 = .ok (.getfield 43, 3) := by decide +kernel
theorem dX5_undo_58 : decode cX5_undo 58 = .ok (.ireturn, 1) := by decide +kernel
theorem dX5_isSlot_0 : decode cX5_isSlot 0 = .ok (.iload_n 0, 1) := by decide +kernel
theorem dX5_isSlot_1 : decode cX5_isSlot 1 = .ok (.ifCond .eq 8, 3) := by decide +kernel
theorem dX5_isSlot_4 : decode cX5_isSlot 4 = .ok (.iload_n 0, 1) := by decide +kernel
theorem dX5_isSlot_5 : decode cX5_isSlot 5 = .ok (.iconst 1, 1) := by decide +kernel
theorem dX5_isSlot_6 : decode cX5_isSlot 6 = .ok (.if_icmp .ne 7, 3) := by decide +kernel
theorem dX5_isSlot_9 : decode cX5_isSlot 9 = .ok (.iconst 1, 1) := by decide +kernel
theorem dX5_isSlot_10 : decode cX5_isSlot 10 = .ok (.goto 4, 3) := by decide +kernel
theorem dX5_isSlot_13 : decode cX5_isSlot 13 = .ok (.iconst 0, 1) := by decide +kernel
theorem dX5_isSlot_14 : decode cX5_isSlot 14 = .ok (.ireturn, 1) := by decide +kernel
theorem dX5_save_0 : decode cX5_save 0 = .ok (.iload_n 1, 1) := by decide +kernel
theorem dX5_save_1 : decode cX5_save 1 = .ok (.invokestatic 196, 3) := by decide +kernel
theorem dX5_save_4 : decode cX5_save 4 = .ok (.ifCond .ne 6, 3) := by decide +kernel
theorem dX5_save_7 : decode cX5_save 7 = .ok (.ldc 121, 2) := by decide +kernel
theorem dX5_save_9 : decode cX5_save 9 = .ok (.ireturn, 1) := by decide +kernel
theorem dX5_save_10 : decode cX5_save 10 = .ok (.iconst 0, 1) := by decide +kernel
theorem dX5_save_11 : decode cX5_save 11 = .ok (.istore_n 2, 1) := by decide +kernel
theorem dX5_save_12 : decode cX5_save 12 = .ok (.iload_n 2, 1) := by decide +kernel
theorem dX5_save_13 : decode cX5_save 13 = .ok (.bipush 120, 2) := by decide +kernel
theorem dX5_save_15 : decode cX5_save 15 = .ok (.if_icmp .ge 26, 3) := by decide +kernel
theorem dX5_save_18 : decode cX5_save 18 = .ok (.aload_n 0, 1) := by decide +kernel
theorem dX5_save_19 : decode cX5_save 19 = .ok (.getfield 19, 3) := by decide +kernel
theorem dX5_save_22 : decode cX5_save 22 = .ok (.bipush 120, 2) := by decide +kernel
theorem dX5_save_24 : decode cX5_save 24 = .ok (.iload_n 1, 1) := by decide +kernel
theorem dX5_save_25 : decode cX5_save 25 = .ok (.imul, 1) := by decide +kernel
theorem dX5_save_26 : decode cX5_save 26 = .ok (.iload_n 2, 1) := by decide +kernel
theorem dX5_save_27 : decode cX5_save 27 = .ok (.iadd, 1) := by decide +kernel
theorem dX5_save_28 : decode cX5_save 28 = .ok (.aload_n 0, 1) := by decide +kernel
theorem dX5_save_29 : decode cX5_save 29 = .ok (.getfield 7, 3) := by decide +kernel
theorem dX5_save_32 : decode cX5_save 32 = .ok (.iload_n 2, 1) := by decide +kernel
theorem dX5_save_33 : decode cX5_save 33 = .ok (.iaload, 1) := by decide +kernel
theorem dX5_save_34 : decode cX5_save 34 = .ok (.iastore, 1) := by decide +kernel
theorem dX5_save_35 : decode cX5_save 35 = .ok (.iinc 2 1, 3) := by decide +kernel
theorem dX5_save_38 : decode cX5_save 38 = .ok (.goto (-26), 3) := by decide +kernel
theorem dX5_save_41 : decode cX5_save 41 = .ok (.aload_n 0, 1) := by decide +kernel
theorem dX5_save_42 : decode cX5_save 42 = .ok (.getfield 22, 3) := by decide +kernel
theorem dX5_save_45 : decode cX5_save 45 = .ok (.iload_n 1, 1) := by decide +kernel
theorem dX5_save_46 : decode cX5_save 46 = .ok (.iconst 1, 1) := by decide +kernel
theorem dX5_save_47 : decode cX5_save 47 = .ok (.iastore, 1) := by decide +kernel
theorem dX5_save_48 : decode cX5_save 48 = .ok (.aload_n 0, 1) := by decide +kernel
theorem dX5_save_49 : decode cX5_save 49 = .ok (.getfield 7, 3) := by decide +kernel
theorem dX5_save_52 : decode cX5_save 52 = .ok (.iconst 3, 1) := by decide +kernel
theorem dX5_save_53 : decode cX5_save 53 = .ok (.iaload, 1) := by decide +kernel
theorem dX5_save_54 : decode cX5_save 54 = .ok (.ireturn, 1) := by decide +kernel
theorem dX5_restore_0 : decode cX5_restore 0 = .ok (.iload_n 1, 1) := by decide +kernel
theorem dX5_restore_1 : decode cX5_restore 1 = .ok (.invokestatic 196, 3) := by decide +kernel
theorem dX5_restore_4 : decode cX5_restore 4 = .ok (.ifCond .ne 6, 3) := by decide +kernel
theorem dX5_restore_7 : decode cX5_restore 7 = .ok (.ldc 121, 2) := by decide +kernel
theorem dX5_restore_9 : decode cX5_restore 9 = .ok (.ireturn, 1) := by decide +kernel
theorem dX5_restore_10 : decode cX5_restore 10 = .ok (.aload_n 0, 1) := by decide +kernel
theorem dX5_restore_11 : decode cX5_restore 11 = .ok (.getfield 22, 3) := by decide +kernel
theorem dX5_restore_14 : decode cX5_restore 14 = .ok (.iload_n 1, 1) := by decide +kernel
theorem dX5_restore_15 : decode cX5_restore 15 = .ok (.iaload, 1) := by decide +kernel
theorem dX5_restore_16 : decode cX5_restore 16 = .ok (.ifCond .ne 6, 3) := by decide +kernel
theorem dX5_restore_19 : decode cX5_restore 19 = .ok (.ldc 136, 2) := by decide +kernel
theorem dX5_restore_21 : decode cX5_restore 21 = .ok (.ireturn, 1) := by decide +kernel
theorem dX5_restore_22 : decode cX5_restore 22 = .ok (.aload_n 0, 1) := by decide +kernel
theorem dX5_restore_23 : decode cX5_restore 23 = .ok (.invokevirtual 122, 3) := by decide +kernel
theorem dX5_restore_26 : decode cX5_restore 26 = .ok (.iconst 0, 1) := by decide +kernel
theorem dX5_restore_27 : decode cX5_restore 27 = .ok (.istore_n 2, 1) := by decide +kernel
theorem dX5_restore_28 : decode cX5_restore 28 = .ok (.iload_n 2, 1) := by decide +kernel
theorem dX5_restore_29 : decode cX5_restore 29 = .ok (.bipush 120, 2) := by decide +kernel
theorem dX5_restore_31 : decode cX5_restore 31 = .ok (.if_icmp .ge 26, 3) := by decide +kernel
theorem dX5_restore_34 : decode cX5_restore 34 = .ok (.aload_n 0, 1) := by decide +kernel
theorem dX5_restore_35 : decode cX5_restore 35 = .ok (.getfield 7, 3) := by decide +kernel
theorem dX5_restore_38 : decode cX5_restore 38 = .ok (.iload_n 2, 1) := by decide +kernel
theorem dX5_restore_39 : decode cX5_restore 39 = .ok (.aload_n 0, 1) := by decide +kernel
theorem dX5_restore_40 : decode cX5_restore 40 = .ok (.getfield 19, 3) := by decide +kernel
theorem dX5_restore_43 : decode cX5_restore 43 = .ok (.bipush 120, 2) := by decide +kernel
theorem dX5_restore_45 : decode cX5_restore 45 = .ok (.iload_n 1, 1) := by decide +kernel
theorem dX5_restore_46 : decode cX5_restore 46 = .ok (.imul, 1) := by decide +kernel
theorem dX5_restore_47 : decode cX5_restore 47 = .ok (.iload_n 2, 1) := by decide +kernel
theorem dX5_restore_48 : decode cX5_restore 48 = .ok (.iadd, 1) := by decide +kernel
theorem dX5_restore_49 : decode cX5_restore 49 = .ok (.iaload, 1) := by decide +kernel
theorem dX5_restore_50 : decode cX5_restore 50 = .ok (.iastore, 1) := by decide +kernel
theorem dX5_restore_51 : decode cX5_restore 51 = .ok (.iinc 2 1, 3) := by decide +kernel
theorem dX5_restore_54 : decode cX5_restore 54 = .ok (.goto (-26), 3) := by decide +kernel
theorem dX5_restore_57 : decode cX5_restore 57 = .ok (.aload_n 0, 1) := by decide +kernel
theorem dX5_restore_58 : decode cX5_restore 58 = .ok (.getfield 7, 3) := by decide +kernel
theorem dX5_restore_61 : decode cX5_restore 61 = .ok (.iconst 3, 1) := by decide +kernel
theorem dX5_restore_62 : decode cX5_restore 62 = .ok (.iaload, 1) := by decide +kernel
theorem dX5_restore_63 : decode cX5_restore 63 = .ok (.ireturn, 1) := by decide +kernel
