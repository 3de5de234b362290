theorem dX0_init_0 : decode cX0_init 0 = .ok (.aload_n 0, 1) := by decide +kernel
theorem dX0_init_1 : decode cX0_init 1 = .ok (.invokespecial 3, 3) := by decide +kernel
theorem dX0_init_4 : decode cX0_init 4 = .ok (.aload_n 0, 1) := by decide +kernel
theorem dX0_init_5 : decode cX0_init 5 = .ok (.iconst 3, 1) := by decide +kernel
theorem dX0_init_6 : decode cX0_init 6 = .ok (.newarray .int, 2) := by decide +kernel
theorem dX0_init_8 : decode cX0_init 8 = .ok (.dup, 1) := by decide +kernel
theorem dX0_init_9 : decode cX0_init 9 = .ok (.iconst 0, 1) := by decide +kernel
theorem dX0_init_10 : decode cX0_init 10 = .ok (.iconst 3, 1) := by decide +kernel
theorem dX0_init_11 : decode cX0_init 11 = .ok (.iastore, 1) := by decide +kernel
theorem dX0_init_12 : decode cX0_init 12 = .ok (.dup, 1) := by decide +kernel
theorem dX0_init_13 : decode cX0_init 13 = .ok (.iconst 1, 1) := by decide +kernel
theorem dX0_init_14 : decode cX0_init 14 = .ok (.iconst 2, 1) := by decide +kernel
theorem dX0_init_15 : decode cX0_init 15 = .ok (.iastore, 1) := by decide +kernel
theorem dX0_init_16 : decode cX0_init 16 = .ok (.dup, 1) := by decide +kernel
theorem dX0_init_17 : decode cX0_init 17 = .ok (.iconst 2, 1) := by decide +kernel
theorem dX0_init_18 : decode cX0_init 18 = .ok (.iconst 3, 1) := by decide +kernel
theorem dX0_init_19 : decode cX0_init 19 = .ok (.iastore, 1) := by decide +kernel
theorem dX0_init_20 : decode cX0_init 20 = .ok (.putfield 9, 3) := by decide +kernel
theorem dX0_init_23 : decode cX0_init 23 = .ok (.aload_n 0, 1) := by decide +kernel
theorem dX0_init_24 : decode cX0_init 24 = .ok (.bipush 6, 2) := by decide +kernel
theorem dX0_init_26 : decode cX0_init 26 = .ok (.newarray .int, 2) := by decide +kernel
theorem dX0_init_28 : decode cX0_init 28 = .ok (.putfield 15, 3) := by decide +kernel
theorem dX0_init_31 : decode cX0_init 31 = .ok (.aload_n 0, 1) := by decide +kernel
theorem dX0_init_32 : decode cX0_init 32 = .ok (.bipush 36, 2) := by decide +kernel
theorem dX0_init_34 : decode cX0_init 34 = .ok (.newarray .int, 2) := by decide +kernel
theorem dX0_init_36 : decode cX0_init 36 = .ok (.putfield 18, 3) := by decide +kernel
theorem dX0_init_39 : decode cX0_init 39 = .ok (.aload_n 0, 1) := by decide +kernel
theorem dX0_init_40 : decode cX0_init 40 = .ok (.bipush 24, 2) := by decide +kernel
theorem dX0_init_42 : decode cX0_init 42 = .ok (.newarray .int, 2) := by decide +kernel
theorem dX0_init_44 : decode cX0_init 44 = .ok (.putfield 21, 3) := by decide +kernel
theorem dX0_init_47 : decode cX0_init 47 = .ok (.aload_n 0, 1) := by decide +kernel
theorem dX0_init_48 : decode cX0_init 48 = .ok (.bipush 24, 2) := by decide +kernel
theorem dX0_init_50 : decode cX0_init 50 = .ok (.newarray .int, 2) := by decide +kernel
theorem dX0_init_52 : decode cX0_init 52 = .ok (.putfield 24, 3) := by decide +kernel
theorem dX0_init_55 : decode cX0_init 55 = .ok (.aload_n 0, 1) := by decide +kernel
theorem dX0_init_56 : decode cX0_init 56 = .ok (.iconst 0, 1) := by decide +kernel
theorem dX0_init_57 : decode cX0_init 57 = .ok (.putfield 27, 3) := by decide +kernel
theorem dX0_init_60 : decode cX0_init 60 = .ok (.aload_n 0, 1) := by decide +kernel
theorem dX0_init_61 : decode cX0_init 61 = .ok (.iconst 0, 1) := by decide +kernel
theorem dX0_init_62 : decode cX0_init 62 = .ok (.putfield 31, 3) := by decide +kernel
theorem dX0_init_65 : decode cX0_init 65 = .ok (.aload_n 0, 1) := by decide +kernel
theorem dX0_init_66 : decode cX0_init 66 = .ok (.iconst 0, 1) := by decide +kernel
theorem dX0_init_67 : decode cX0_init 67 = .ok (.putfield 34, 3) := by decide +kernel
theorem dX0_init_70 : decode cX0_init 70 = .ok (.return_, 1) := by decide +kernel
theorem dX0_become_0 : decode cX0_become 0 = .ok (.aload_n 1, 1) := by decide +kernel
theorem dX0_become_1 : decode cX0_become 1 = .ok (.getfield 9, 3) := by decide +kernel
theorem dX0_become_4 : decode cX0_become 4 = .ok (.aload_n 0, 1) := by decide +kernel
theorem dX0_become_5 : decode cX0_become 5 = .ok (.getfield 9, 3) := by decide +kernel
theorem dX0_become_8 : decode cX0_become 8 = .ok (.invokestatic 37, 3) := by decide +kernel
theorem dX0_become_11 : decode cX0_become 11 = .ok (.aload_n 1, 1) := by decide +kernel
theorem dX0_become_12 : decode cX0_become 12 = .ok (.getfield 15, 3) := by decide +kernel
theorem dX0_become_15 : decode cX0_become 15 = .ok (.aload_n 0, 1) := by decide +kernel
theorem dX0_become_16 : decode cX0_become 16 = .ok (.getfield 15, 3) := by decide +kernel
theorem dX0_become_19 : decode cX0_become 19 = .ok (.invokestatic 37, 3) := by decide +kernel
theorem dX0_become_22 : decode cX0_become 22 = .ok (.aload_n 1, 1) := by decide +kernel
theorem dX0_become_23 : decode cX0_become 23 = .ok (.getfield 18, 3) := by decide +kernel
theorem dX0_become_26 : decode cX0_become 26 = .ok (.aload_n 0, 1) := by decide +kernel
theorem dX0_become_27 : decode cX0_become 27 = .ok (.getfield 18, 3) := by decide +kernel
theorem dX0_become_30 : decode cX0_become 30 = .ok (.invokestatic 37, 3) := by decide +kernel
theorem dX0_become_33 : decode cX0_become 33 = .ok (.aload_n 1, 1) := by decide +kernel
theorem dX0_become_34 : decode cX0_become 34 = .ok (.getfield 21, 3) := by decide +kernel
theorem dX0_become_37 : decode cX0_become 37 = .ok (.aload_n 0, 1) := by decide +kernel
theorem dX0_become_38 : decode cX0_become 38 = .ok (.getfield 21, 3) := by decide +kernel
theorem dX0_become_41 : decode cX0_become 41 = .ok (.invokestatic 37, 3) := by decide +kernel
theorem dX0_become_44 : decode cX0_become 44 = .ok (.aload_n 1, 1) := by decide +kernel
theorem dX0_become_45 : decode cX0_become 45 = .ok (.getfield 24, 3) := by decide +kernel
theorem dX0_become_48 : decode cX0_become 48 = .ok (.aload_n 0, 1) := by decide +kernel
theorem dX0_become_49 : decode cX0_become 49 = .ok (.getfield 24, 3) := by decide +kernel
theorem dX0_become_52 : decode cX0_become 52 = .ok (.invokestatic 37, 3) := by decide +kernel
theorem dX0_become_55 : decode cX0_become 55 = .ok (.aload_n 0, 1) := by decide +kernel
theorem dX0_become_56 : decode cX0_become 56 = .ok (.aload_n 1, 1) := by decide +kernel
theorem dX0_become_57 : decode cX0_become 57 = .ok (.getfield 27, 3) := by decide +kernel
theorem dX0_become_60 : decode cX0_become 60 = .ok (.putfield 27, 3) := by decide +kernel
theorem dX0_become_63 : decode cX0_become 63 = .ok (.aload_n 0, 1) := by decide +kernel
theorem dX0_become_64 : decode cX0_become 64 = .ok (.aload_n 1, 1) := by decide +kernel
theorem dX0_become_65 : decode cX0_become 65 = .ok (.getfield 31, 3) := by decide +kernel
theorem dX0_become_68 : decode cX0_become 68 = .ok (.putfield 31, 3) := by decide +kernel
theorem dX0_become_71 : decode cX0_become 71 = .ok (.aload_n 0, 1) := by decide +kernel
theorem dX0_become_72 : decode cX0_become 72 = .ok (.aload_n 1, 1) := by decide +kernel
theorem dX0_become_73 : decode cX0_become 73 = .ok (.getfield 34, 3) := by decide +kernel
theorem dX0_become_76 : decode cX0_become 76 = .ok (.putfield 34, 3) := by decide +kernel
theorem dX0_become_79 : decode cX0_become 79 = .ok (.return_, 1) := by decide +kernel
theorem dX0_addBow_0 : decode cX0_addBow 0 = .ok (.aload_n 0, 1) := by decide +kernel
theorem dX0_addBow_1 : decode cX0_addBow 1 = .ok (.getfield 27, 3) := by decide +kernel
theorem dX0_addBow_4 : decode cX0_addBow 4 = .ok (.ifCond .lt 42, 3) := by decide +kernel
theorem dX0_addBow_7 : decode cX0_addBow 7 = .ok (.aload_n 0, 1) := by decide +kernel
theorem dX0_addBow_8 : decode cX0_addBow 8 = .ok (.getfield 27, 3) := by decide +kernel
theorem dX0_addBow_11 : decode cX0_addBow 11 = .ok (.bipush 24, 2) := by decide +kernel
theorem dX0_addBow_13 : decode cX0_addBow 13 = .ok (.if_icmp .ge 33, 3) := by decide +kernel
theorem dX0_addBow_16 : decode cX0_addBow 16 = .ok (.aload_n 0, 1) := by decide +kernel
theorem dX0_addBow_17 : decode cX0_addBow 17 = .ok (.getfield 21, 3) := by decide +kernel
theorem dX0_addBow_20 : decode cX0_addBow 20 = .ok (.aload_n 0, 1) := by decide +kernel
theorem dX0_addBow_21 : decode cX0_addBow 21 = .ok (.getfield 27, 3) := by decide +kernel
theorem dX0_addBow_24 : decode cX0_addBow 24 = .ok (.iload_n 1, 1) := by decide +kernel
theorem dX0_addBow_25 : decode cX0_addBow 25 = .ok (.iastore, 1) := by decide +kernel
theorem dX0_addBow_26 : decode cX0_addBow 26 = .ok (.aload_n 0, 1) := by decide +kernel
theorem dX0_addBow_27 : decode cX0_addBow 27 = .ok (.getfield 24, 3) := by decide +kernel
theorem dX0_addBow_30 : decode cX0_addBow 30 = .ok (.aload_n 0, 1) := by decide +kernel
theorem dX0_addBow_31 : decode cX0_addBow 31 = .ok (.getfield 27, 3) := by decide +kernel
theorem dX0_addBow_34 : decode cX0_addBow 34 = .ok (.iload_n 2, 1) := by decide +kernel
theorem dX0_addBow_35 : decode cX0_addBow 35 = .ok (.iastore, 1) := by decide +kernel
theorem dX0_addBow_36 : decode cX0_addBow 36 = .ok (.aload_n 0, 1) := by decide +kernel
theorem dX0_addBow_37 : decode cX0_addBow 37 = .ok (.dup, 1) := by decide +kernel
theorem dX0_addBow_38 : decode cX0_addBow 38 = .ok (.getfield 27, 3) := by decide +kernel
theorem dX0_addBow_41 : decode cX0_addBow 41 = .ok (.iconst 1, 1) := by decide +kernel
theorem dX0_addBow_42 : decode cX0_addBow 42 = .ok (.iadd, 1) := by decide +kernel
theorem dX0_addBow_43 : decode cX0_addBow 43 = .ok (.putfield 27, 3) := by decide +kernel
theorem dX0_addBow_46 : decode cX0_addBow 46 = .ok (.return_, 1) := by decide +kernel
theorem dX0_bowAt_0 : decode cX0_bowAt 0 = .ok (.aload_n 0, 1) := by decide +kernel
theorem dX0_bowAt_1 : decode cX0_bowAt 1 = .ok (.getfield 21, 3) := by decide +kernel
theorem dX0_bowAt_4 : decode cX0_bowAt 4 = .ok (.iload_n 1, 1) := by decide +kernel
theorem dX0_bowAt_5 : decode cX0_bowAt 5 = .ok (.invokestatic 41, 3) := by decide +kernel
theorem dX0_bowAt_8 : decode cX0_bowAt 8 = .ok (.ireturn, 1) := by decide +kernel
theorem dX1_init_0 : decode cX1_init 0 = .ok (.aload_n 0, 1) := by decide +kernel
theorem dX1_init_1 : decode cX1_init 1 = .ok (.invokespecial 3, 3) := by decide +kernel
theorem dX1_init_4 : decode cX1_init 4 = .ok (.aload_n 0, 1) := by decide +kernel
theorem dX1_init_5 : decode cX1_init 5 = .ok (.bipush 6, 2) := by decide +kernel
theorem dX1_init_7 : decode cX1_init 7 = .ok (.anewarray 9, 3) := by decide +kernel
theorem dX1_init_10 : decode cX1_init 10 = .ok (.putfield 11, 3) := by decide +kernel
theorem dX1_init_13 : decode cX1_init 13 = .ok (.aload_n 0, 1) := by decide +kernel
theorem dX1_init_14 : decode cX1_init 14 = .ok (.iconst 0, 1) := by decide +kernel
theorem dX1_init_15 : decode cX1_init 15 = .ok (.putfield 17, 3) := by decide +kernel
theorem dX1_init_18 : decode cX1_init 18 = .ok (.aload_n 0, 1) := by decide +kernel
theorem dX1_init_19 : decode cX1_init 19 = .ok (.iconst 0, 1) := by decide +kernel
theorem dX1_init_20 : decode cX1_init 20 = .ok (.putfield 21, 3) := by decide +kernel
theorem dX1_init_23 : decode cX1_init 23 = .ok (.return_, 1) := by decide +kernel
theorem dX1_remember_0 : decode cX1_remember 0 = .ok (.aload_n 0, 1) := by decide +kernel
theorem dX1_remember_1 : decode cX1_remember 1 = .ok (.getfield 17, 3) := by decide +kernel
theorem dX1_remember_4 : decode cX1_remember 4 = .ok (.ifCond .lt 12, 3) := by decide +kernel
theorem dX1_remember_7 : decode cX1_remember 7 = .ok (.aload_n 0, 1) := by decide +kernel
theorem dX1_remember_8 : decode cX1_remember 8 = .ok (.getfield 17, 3) := by decide +kernel
theorem dX1_remember_11 : decode cX1_remember 11 = .ok (.bipush 6, 2) := by decide +kernel
theorem dX1_remember_13 : decode cX1_remember 13 = .ok (.if_icmp .lt 4, 3) := by decide +kernel
theorem dX1_remember_16 : decode cX1_remember 16 = .ok (.return_, 1) := by decide +kernel
theorem dX1_remember_17 : decode cX1_remember 17 = .ok (.aload_n 0, 1) := by decide +kernel
theorem dX1_remember_18 : decode cX1_remember 18 = .ok (.getfield 11, 3) := by decide +kernel
theorem dX1_remember_21 : decode cX1_remember 21 = .ok (.aload_n 0, 1) := by decide +kernel
theorem dX1_remember_22 : decode cX1_remember 22 = .ok (.getfield 17, 3) := by decide +kernel
theorem dX1_remember_25 : decode cX1_remember 25 = .ok (.aload_n 1, 1) := by decide +kernel
theorem dX1_remember_26 : decode cX1_remember 26 = .ok (.aload_n 0, 1) := by decide +kernel
theorem dX1_remember_27 : decode cX1_remember 27 = .ok (.getfield 11, 3) := by decide +kernel
theorem dX1_remember_30 : decode cX1_remember 30 = .ok (.aload_n 0, 1) := by decide +kernel
theorem dX1_remember_31 : decode cX1_remember 31 = .ok (.getfield 17, 3) := by decide +kernel
theorem dX1_remember_34 : decode cX1_remember 34 = .ok (.aaload, 1) := by decide +kernel
theorem dX1_remember_35 : decode cX1_remember 35 = .ok (.invokestatic 24, 3) := by decide +kernel
theorem dX1_remember_38 : decode cX1_remember 38 = .ok (.aastore, 1) := by decide +kernel
theorem dX1_remember_39 : decode cX1_remember 39 = .ok (.aload_n 0, 1) := by decide +kernel
theorem dX1_remember_40 : decode cX1_remember 40 = .ok (.aload_n 0, 1) := by decide +kernel
theorem dX1_remember_41 : decode cX1_remember 41 = .ok (.getfield 17, 3) := by decide +kernel
theorem dX1_remember_44 : decode cX1_remember 44 = .ok (.iconst 1, 1) := by decide +kernel
theorem dX1_remember_45 : decode cX1_remember 45 = .ok (.iadd, 1) := by decide +kernel
theorem dX1_remember_46 : decode cX1_remember 46 = .ok (.bipush 6, 2) := by decide +kernel
theorem dX1_remember_48 : decode cX1_remember 48 = .ok (.irem, 1) := by decide +kernel
theorem dX1_remember_49 : decode cX1_remember 49 = .ok (.putfield 17, 3) := by decide +kernel
theorem dX1_remember_52 : decode cX1_remember 52 = .ok (.aload_n 0, 1) := by decide +kernel
theorem dX1_remember_53 : decode cX1_remember 53 = .ok (.aload_n 0, 1) := by decide +kernel
theorem dX1_remember_54 : decode cX1_remember 54 = .ok (.getfield 21, 3) := by decide +kernel
theorem dX1_remember_57 : decode cX1_remember 57 = .ok (.iconst 1, 1) := by decide +kernel
theorem dX1_remember_58 : decode cX1_remember 58 = .ok (.iadd, 1) := by decide +kernel
theorem dX1_remember_59 : decode cX1_remember 59 = .ok (.bipush 6, 2) := by decide +kernel
theorem dX1_remember_61 : decode cX1_remember 61 = .ok (.invokestatic 28, 3) := by decide +kernel
theorem dX1_remember_64 : decode cX1_remember 64 = .ok (.putfield 21, 3) := by decide +kernel
theorem dX1_remember_67 : decode cX1_remember 67 = .ok (.return_, 1) := by decide +kernel
theorem dX1_stepBack_0 : decode cX1_stepBack 0 = .ok (.aload_n 0, 1) := by decide +kernel
theorem dX1_stepBack_1 : decode cX1_stepBack 1 = .ok (.getfield 17, 3) := by decide +kernel
theorem dX1_stepBack_4 : decode cX1_stepBack 4 = .ok (.bipush 6, 2) := by decide +kernel
theorem dX1_stepBack_6 : decode cX1_stepBack 6 = .ok (.iadd, 1) := by decide +kernel
theorem dX1_stepBack_7 : decode cX1_stepBack 7 = .ok (.iconst 1, 1) := by decide +kernel
theorem dX1_stepBack_8 : decode cX1_stepBack 8 = .ok (.isub, 1) := by decide +kernel
theorem dX1_stepBack_9 : decode cX1_stepBack 9 = .ok (.bipush 6, 2) := by decide +kernel
theorem dX1_stepBack_11 : decode cX1_stepBack 11 = .ok (.irem, 1) := by decide +kernel
theorem dX1_stepBack_12 : decode cX1_stepBack 12 = .ok (.istore_n 2, 1) := by decide +kernel
theorem dX1_stepBack_13 : decode cX1_stepBack 13 = .ok (.aload_n 0, 1) := by decide +kernel
theorem dX1_stepBack_14 : decode cX1_stepBack 14 = .ok (.getfield 21, 3) := by decide +kernel
theorem dX1_stepBack_17 : decode cX1_stepBack 17 = .ok (.ifCond .le 16, 3) := by decide +kernel
theorem dX1_stepBack_20 : decode cX1_stepBack 20 = .ok (.iload_n 2, 1) := by decide +kernel
theorem dX1_stepBack_21 : decode cX1_stepBack 21 = .ok (.ifCond .lt 12, 3) := by decide +kernel
theorem dX1_stepBack_24 : decode cX1_stepBack 24 = .ok (.aload_n 0, 1) := by decide +kernel
theorem dX1_stepBack_25 : decode cX1_stepBack 25 = .ok (.getfield 11, 3) := by decide +kernel
theorem dX1_stepBack_28 : decode cX1_stepBack 28 = .ok (.iload_n 2, 1) := by decide +kernel
theorem dX1_stepBack_29 : decode cX1_stepBack 29 = .ok (.aaload, 1) := by decide +kernel
theorem dX1_stepBack_30 : decode cX1_stepBack 30 = .ok (.ifnonnull 5, 3) := by decide +kernel
theorem dX1_stepBack_33 : decode cX1_stepBack 33 = .ok (.iconst 0, 1) := by decide +kernel
theorem dX1_stepBack_34 : decode cX1_stepBack 34 = .ok (.ireturn, 1) := by decide +kernel
theorem dX1_stepBack_35 : decode cX1_stepBack 35 = .ok (.aload_n 1, 1) := by decide +kernel
theorem dX1_stepBack_36 : decode cX1_stepBack 36 = .ok (.aload_n 0, 1) := by decide +kernel
theorem dX1_stepBack_37 : decode cX1_stepBack 37 = .ok (.getfield 11, 3) := by decide +kernel
theorem dX1_stepBack_40 : decode cX1_stepBack 40 = .ok (.iload_n 2, 1) := by decide +kernel
theorem dX1_stepBack_41 : decode cX1_stepBack 41 = .ok (.aaload, 1) := by decide +kernel
theorem dX1_stepBack_42 : decode cX1_stepBack 42 = .ok (.invokevirtual 34, 3) := by decide +kernel
theorem dX1_stepBack_45 : decode cX1_stepBack 45 = .ok (.aload_n 0, 1) := by decide +kernel
theorem dX1_stepBack_46 : decode cX1_stepBack 46 = .ok (.iload_n 2, 1) := by decide +kernel
theorem dX1_stepBack_47 : decode cX1_stepBack 47 = .ok (.putfield 17, 3) := by decide +kernel
theorem dX1_stepBack_50 : decode cX1_stepBack 50 = .ok (.aload_n 0, 1) := by decide +kernel
theorem dX1_stepBack_51 : decode cX1_stepBack 51 = .ok (.dup, 1) := by decide +kernel
theorem dX1_stepBack_52 : decode cX1_stepBack 52 = .ok (.getfield 21, 3) := by decide +kernel
theorem dX1_stepBack_55 : decode cX1_stepBack 55 = .ok (.iconst 1, 1) := by decide +kernel
theorem dX1_stepBack_56 : decode cX1_stepBack 56 = .ok (.isub, 1) := by decide +kernel
theorem dX1_stepBack_57 : decode cX1_stepBack 57 = .ok (.putfield 21, 3) := by decide +kernel
theorem dX1_stepBack_60 : decode cX1_stepBack 60 = .ok (.iconst 1, 1) := by decide +kernel
theorem dX1_stepBack_61 : decode cX1_stepBack 61 = .ok (.ireturn, 1) := by decide +kernel
theorem dX2_init_0 : decode cX2_init 0 = .ok (.aload_n 0, 1) := by decide +kernel
theorem dX2_init_1 : decode cX2_init 1 = .ok (.invokespecial 3, 3) := by decide +kernel
theorem dX2_init_4 : decode cX2_init 4 = .ok (.aload_n 0, 1) := by decide +kernel
theorem dX2_init_5 : decode cX2_init 5 = .ok (.bipush 60, 2) := by decide +kernel
theorem dX2_init_7 : decode cX2_init 7 = .ok (.newarray .char, 2) := by decide +kernel
theorem dX2_init_9 : decode cX2_init 9 = .ok (.putfield 9, 3) := by decide +kernel
theorem dX2_init_12 : decode cX2_init 12 = .ok (.aload_n 0, 1) := by decide +kernel
theorem dX2_init_13 : decode cX2_init 13 = .ok (.iconst 0, 1) := by decide +kernel
theorem dX2_init_14 : decode cX2_init 14 = .ok (.putfield 15, 3) := by decide +kernel
theorem dX2_init_17 : decode cX2_init 17 = .ok (.return_, 1) := by decide +kernel
theorem dX2_append_0 : decode cX2_append 0 = .ok (.aload_n 0, 1) := by decide +kernel
theorem dX2_append_1 : decode cX2_append 1 = .ok (.getfield 15, 3) := by decide +kernel
theorem dX2_append_4 : decode cX2_append 4 = .ok (.ifCond .lt 32, 3) := by decide +kernel
theorem dX2_append_7 : decode cX2_append 7 = .ok (.aload_n 0, 1) := by decide +kernel
theorem dX2_append_8 : decode cX2_append 8 = .ok (.getfield 15, 3) := by decide +kernel
theorem dX2_append_11 : decode cX2_append 11 = .ok (.bipush 60, 2) := by decide +kernel
theorem dX2_append_13 : decode cX2_append 13 = .ok (.if_icmp .ge 23, 3) := by decide +kernel
theorem dX2_append_16 : decode cX2_append 16 = .ok (.aload_n 0, 1) := by decide +kernel
theorem dX2_append_17 : decode cX2_append 17 = .ok (.getfield 9, 3) := by decide +kernel
theorem dX2_append_20 : decode cX2_append 20 = .ok (.aload_n 0, 1) := by decide +kernel
theorem dX2_append_21 : decode cX2_append 21 = .ok (.getfield 15, 3) := by decide +kernel
theorem dX2_append_24 : decode cX2_append 24 = .ok (.iload_n 1, 1) := by decide +kernel
theorem dX2_append_25 : decode cX2_append 25 = .ok (.castore, 1) := by decide +kernel
theorem dX2_append_26 : decode cX2_append 26 = .ok (.aload_n 0, 1) := by decide +kernel
theorem dX2_append_27 : decode cX2_append 27 = .ok (.dup, 1) := by decide +kernel
theorem dX2_append_28 : decode cX2_append 28 = .ok (.getfield 15, 3) := by decide +kernel
theorem dX2_append_31 : decode cX2_append 31 = .ok (.iconst 1, 1) := by decide +kernel
theorem dX2_append_32 : decode cX2_append 32 = .ok (.iadd, 1) := by decide +kernel
theorem dX2_append_33 : decode cX2_append 33 = .ok (.putfield 15, 3) := by decide +kernel
theorem dX2_append_36 : decode cX2_append 36 = .ok (.return_, 1) := by decide +kernel
theorem dX2_characterAt_0 : decode cX2_characterAt 0 = .ok (.iload_n 1, 1) := by decide +kernel
theorem dX2_characterAt_1 : decode cX2_characterAt 1 = .ok (.ifCond .lt 26, 3) := by decide +kernel
theorem dX2_characterAt_4 : decode cX2_characterAt 4 = .ok (.iload_n 1, 1) := by decide +kernel
theorem dX2_characterAt_5 : decode cX2_characterAt 5 = .ok (.aload_n 0, 1) := by decide +kernel
theorem dX2_characterAt_6 : decode cX2_characterAt 6 = .ok (.getfield 15, 3) := by decide +kernel
theorem dX2_characterAt_9 : decode cX2_characterAt 9 = .ok (.if_icmp .ge 18, 3) := by decide +kernel
theorem dX2_characterAt_12 : decode cX2_characterAt 12 = .ok (.iload_n 1, 1) := by decide +kernel
theorem dX2_characterAt_13 : decode cX2_characterAt 13 = .ok (.bipush 60, 2) := by decide +kernel
theorem dX2_characterAt_15 : decode cX2_characterAt 15 = .ok (.if_icmp .ge 12, 3) := by decide +kernel
theorem dX2_characterAt_18 : decode cX2_characterAt 18 = .ok (.aload_n 0, 1) := by decide +kernel
theorem dX2_characterAt_19 : decode cX2_characterAt 19 = .ok (.getfield 9, 3) := by decide +kernel
theorem dX2_characterAt_22 : decode cX2_characterAt 22 = .ok (.iload_n 1, 1) := by decide +kernel
theorem dX2_characterAt_23 : decode cX2_characterAt 23 = .ok (.caload, 1) := by decide +kernel
theorem dX2_characterAt_24 : decode cX2_characterAt 24 = .ok (.goto 4, 3) := by decide +kernel
theorem dX2_characterAt_27 : decode cX2_characterAt 27 = .ok (.iconst 0, 1) := by decide +kernel
theorem dX2_characterAt_28 : decode cX2_characterAt 28 = .ok (.ireturn, 1) := by decide +kernel
theorem dX2_firstFault_0 : decode cX2_firstFault 0 = .ok (.iconst 0, 1) := by decide +kernel
theorem dX2_firstFault_1 : decode cX2_firstFault 1 = .ok (.istore_n 1, 1) := by decide +kernel
theorem dX2_firstFault_2 : decode cX2_firstFault 2 = .ok (.iconst 0, 1) := by decide +kernel
theorem dX2_firstFault_3 : decode cX2_firstFault 3 = .ok (.istore_n 2, 1) := by decide +kernel
theorem dX2_firstFault_4 : decode cX2_firstFault 4 = .ok (.iload_n 2, 1) := by decide +kernel
theorem dX2_firstFault_5 : decode cX2_firstFault 5 = .ok (.aload_n 0, 1) := by decide +kernel
theorem dX2_firstFault_6 : decode cX2_firstFault 6 = .ok (.getfield 15, 3) := by decide +kernel
theorem dX2_firstFault_9 : decode cX2_firstFault 9 = .ok (.if_icmp .ge 26, 3) := by decide +kernel
theorem dX2_firstFault_12 : decode cX2_firstFault 12 = .ok (.iload_n 1, 1) := by decide +kernel
theorem dX2_firstFault_13 : decode cX2_firstFault 13 = .ok (.aload_n 0, 1) := by decide +kernel
theorem dX2_firstFault_14 : decode cX2_firstFault 14 = .ok (.iload_n 2, 1) := by decide +kernel
theorem dX2_firstFault_15 : decode cX2_firstFault 15 = .ok (.invokevirtual 19, 3) := by decide +kernel
theorem dX2_firstFault_18 : decode cX2_firstFault 18 = .ok (.invokestatic 23, 3) := by decide +kernel
theorem dX2_firstFault_21 : decode cX2_firstFault 21 = .ok (.istore_n 1, 1) := by decide +kernel
theorem dX2_firstFault_22 : decode cX2_firstFault 22 = .ok (.iload_n 1, 1) := by decide +kernel
theorem dX2_firstFault_23 : decode cX2_firstFault 23 = .ok (.iconst 5, 1) := by decide +kernel
theorem dX2_firstFault_24 : decode cX2_firstFault 24 = .ok (.if_icmp .ne 5, 3) := by decide +kernel
theorem dX2_firstFault_27 : decode cX2_firstFault 27 = .ok (.iload_n 2, 1) := by decide +kernel
theorem dX2_firstFault_28 : decode cX2_firstFault 28 = .ok (.ireturn, 1) := by decide +kernel
theorem dX2_firstFault_29 : decode cX2_firstFault 29 = .ok (.iinc 2 1, 3) := by decide +kernel
theorem dX2_firstFault_32 : decode cX2_firstFault 32 = .ok (.goto (-28), 3) := by decide +kernel
theorem dX2_firstFault_35 : decode cX2_firstFault 35 = .ok (.iload_n 1, 1) := by decide +kernel
theorem dX2_firstFault_36 : decode cX2_firstFault 36 = .ok (.iconst 2, 1) := by decide +kernel
theorem dX2_firstFault_37 : decode cX2_firstFault 37 = .ok (.if_icmp .eq 8, 3) := by decide +kernel
theorem dX2_firstFault_40 : decode cX2_firstFault 40 = .ok (.iload_n 1, 1) := by decide +kernel
theorem dX2_firstFault_41 : decode cX2_firstFault 41 = .ok (.iconst 4, 1) := by decide +kernel
theorem dX2_firstFault_42 : decode cX2_firstFault 42 = .ok (.if_icmp .ne 7, 3) := by decide +kernel
theorem dX2_firstFault_45 : decode cX2_firstFault 45 = .ok (.iconst 1, 1) := by decide +kernel
theorem dX2_firstFault_46 : decode cX2_firstFault 46 = .ok (.goto 4, 3) := by decide +kernel
theorem dX2_firstFault_49 : decode cX2_firstFault 49 = .ok (.iconst 0, 1) := by decide +kernel
theorem dX2_firstFault_50 : decode cX2_firstFault 50 = .ok (.istore_n 2, 1) := by decide +kernel
theorem dX2_firstFault_51 : decode cX2_firstFault 51 = .ok (.iload_n 2, 1) := by decide +kernel
theorem dX2_firstFault_52 : decode cX2_firstFault 52 = .ok (.ifCond .eq 8, 3) := by decide +kernel
theorem dX2_firstFault_55 : decode cX2_firstFault 55 = .ok (.ldc 27, 2) := by decide +kernel
theorem dX2_firstFault_57 : decode cX2_firstFault 57 = .ok (.goto 7, 3) := by decide +kernel
theorem dX2_firstFault_60 : decode cX2_firstFault 60 = .ok (.aload_n 0, 1) := by decide +kernel
theorem dX2_firstFault_61 : decode cX2_firstFault 61 = .ok (.getfield 15, 3) := by decide +kernel
theorem dX2_firstFault_64 : decode cX2_firstFault 64 = .ok (.ireturn, 1) := by decide +kernel
theorem dX2_placeBehind_0 : decode cX2_placeBehind 0 = .ok (.iload_n 1, 1) := by decide +kernel
theorem dX2_placeBehind_1 : decode cX2_placeBehind 1 = .ok (.bipush 49, 2) := by decide +kernel
theorem dX2_placeBehind_3 : decode cX2_placeBehind 3 = .ok (.if_icmp .lt 13, 3) := by decide +kernel
theorem dX2_placeBehind_6 : decode cX2_placeBehind 6 = .ok (.iload_n 1, 1) := by decide +kernel
theorem dX2_placeBehind_7 : decode cX2_placeBehind 7 = .ok (.bipush 51, 2) := by decide +kernel
theorem dX2_placeBehind_9 : decode cX2_placeBehind 9 = .ok (.if_icmp .gt 7, 3) := by decide +kernel
theorem dX2_placeBehind_12 : decode cX2_placeBehind 12 = .ok (.iconst 1, 1) := by decide +kernel
theorem dX2_placeBehind_13 : decode cX2_placeBehind 13 = .ok (.goto 4, 3) := by decide +kernel
theorem dX2_placeBehind_16 : decode cX2_placeBehind 16 = .ok (.iconst 0, 1) := by decide +kernel
theorem dX2_placeBehind_17 : decode cX2_placeBehind 17 = .ok (.istore_n 2, 1) := by decide +kernel
theorem dX2_placeBehind_18 : decode cX2_placeBehind 18 = .ok (.iload_n 0, 1) := by decide +kernel
theorem dX2_placeBehind_19 : decode cX2_placeBehind 19 = .ok (.tableswitch 79 1 3 #[25, 43, 61], 25) := by decide +kernel
theorem dX2_placeBehind_44 : decode cX2_placeBehind 44 = .ok (.iload_n 1, 1) := by decide +kernel
theorem dX2_placeBehind_45 : decode cX2_placeBehind 45 = .ok (.bipush 108, 2) := by decide +kernel
theorem dX2_placeBehind_47 : decode cX2_placeBehind 47 = .ok (.if_icmp .eq 9, 3) := by decide +kernel
theorem dX2_placeBehind_50 : decode cX2_placeBehind 50 = .ok (.iload_n 1, 1) := by decide +kernel
theorem dX2_placeBehind_51 : decode cX2_placeBehind 51 = .ok (.bipush 114, 2) := by decide +kernel
theorem dX2_placeBehind_53 : decode cX2_placeBehind 53 = .ok (.if_icmp .ne 7, 3) := by decide +kernel
theorem dX2_placeBehind_56 : decode cX2_placeBehind 56 = .ok (.iconst 2, 1) := by decide +kernel
theorem dX2_placeBehind_57 : decode cX2_placeBehind 57 = .ok (.goto 4, 3) := by decide +kernel
theorem dX2_placeBehind_60 : decode cX2_placeBehind 60 = .ok (.iconst 5, 1) := by decide +kernel
theorem dX2_placeBehind_61 : decode cX2_placeBehind 61 = .ok (.ireturn, 1) := by decide +kernel
theorem dX2_placeBehind_62 : decode cX2_placeBehind 62 = .ok (.iload_n 1, 1) := by decide +kernel
theorem dX2_placeBehind_63 : decode cX2_placeBehind 63 = .ok (.bipush 46, 2) := by decide +kernel
theorem dX2_placeBehind_65 : decode cX2_placeBehind 65 = .ok (.if_icmp .ne 5, 3) := by decide +kernel
theorem dX2_placeBehind_68 : decode cX2_placeBehind 68 = .ok (.iconst 3, 1) := by decide +kernel
theorem dX2_placeBehind_69 : decode cX2_placeBehind 69 = .ok (.ireturn, 1) := by decide +kernel
theorem dX2_placeBehind_70 : decode cX2_placeBehind 70 = .ok (.iload_n 2, 1) := by decide +kernel
theorem dX2_placeBehind_71 : decode cX2_placeBehind 71 = .ok (.ifCond .eq 7, 3) := by decide +kernel
theorem dX2_placeBehind_74 : decode cX2_placeBehind 74 = .ok (.iconst 1, 1) := by decide +kernel
theorem dX2_placeBehind_75 : decode cX2_placeBehind 75 = .ok (.goto 4, 3) := by decide +kernel
theorem dX2_placeBehind_78 : decode cX2_placeBehind 78 = .ok (.iconst 5, 1) := by decide +kernel
theorem dX2_placeBehind_79 : decode cX2_placeBehind 79 = .ok (.ireturn, 1) := by decide +kernel
theorem dX2_placeBehind_80 : decode cX2_placeBehind 80 = .ok (.iload_n 1, 1) := by decide +kernel
theorem dX2_placeBehind_81 : decode cX2_placeBehind 81 = .ok (.bipush 48, 2) := by decide +kernel
theorem dX2_placeBehind_83 : decode cX2_placeBehind 83 = .ok (.if_icmp .lt 13, 3) := by decide +kernel
theorem dX2_placeBehind_86 : decode cX2_placeBehind 86 = .ok (.iload_n 1, 1) := by decide +kernel
theorem dX2_placeBehind_87 : decode cX2_placeBehind 87 = .ok (.bipush 57, 2) := by decide +kernel
theorem dX2_placeBehind_89 : decode cX2_placeBehind 89 = .ok (.if_icmp .gt 7, 3) := by decide +kernel
theorem dX2_placeBehind_92 : decode cX2_placeBehind 92 = .ok (.iconst 4, 1) := by decide +kernel
theorem dX2_placeBehind_93 : decode cX2_placeBehind 93 = .ok (.goto 4, 3) := by decide +kernel
theorem dX2_placeBehind_96 : decode cX2_placeBehind 96 = .ok (.iconst 5, 1) := by decide +kernel
theorem dX2_placeBehind_97 : decode cX2_placeBehind 97 = .ok (.ireturn, 1) := by decide +kernel
theorem dX2_placeBehind_98 : decode cX2_placeBehind 98 = .ok (.iload_n 2, 1) := by decide +kernel
theorem dX2_placeBehind_99 : decode cX2_placeBehind 99 = .ok (.ifCond .eq 7, 3) := by decide +kernel
theorem dX2_placeBehind_102 : decode cX2_placeBehind 102 = .ok (.iconst 1, 1) := by decide +kernel
theorem dX2_placeBehind_103 : decode cX2_placeBehind 103 = .ok (.goto 4, 3) := by decide +kernel
theorem dX2_placeBehind_106 : decode cX2_placeBehind 106 = .ok (.iconst 5, 1) := by decide +kernel
theorem dX2_placeBehind_107 : decode cX2_placeBehind 107 = .ok (.ireturn, 1) := by decide +kernel
theorem dX2_bowsInText_0 : decode cX2_bowsInText 0 = .ok (.iconst 0, 1) := by decide +kernel
theorem dX2_bowsInText_1 : decode cX2_bowsInText 1 = .ok (.istore_n 1, 1) := by decide +kernel
theorem dX2_bowsInText_2 : decode cX2_bowsInText 2 = .ok (.iconst 0, 1) := by decide +kernel
theorem dX2_bowsInText_3 : decode cX2_bowsInText 3 = .ok (.istore_n 2, 1) := by decide +kernel
theorem dX2_bowsInText_4 : decode cX2_bowsInText 4 = .ok (.iload_n 2, 1) := by decide +kernel
theorem dX2_bowsInText_5 : decode cX2_bowsInText 5 = .ok (.aload_n 0, 1) := by decide +kernel
theorem dX2_bowsInText_6 : decode cX2_bowsInText 6 = .ok (.getfield 15, 3) := by decide +kernel
theorem dX2_bowsInText_9 : decode cX2_bowsInText 9 = .ok (.if_icmp .ge 32, 3) := by decide +kernel
theorem dX2_bowsInText_12 : decode cX2_bowsInText 12 = .ok (.aload_n 0, 1) := by decide +kernel
theorem dX2_bowsInText_13 : decode cX2_bowsInText 13 = .ok (.iload_n 2, 1) := by decide +kernel
theorem dX2_bowsInText_14 : decode cX2_bowsInText 14 = .ok (.invokevirtual 19, 3) := by decide +kernel
theorem dX2_bowsInText_17 : decode cX2_bowsInText 17 = .ok (.bipush 108, 2) := by decide +kernel
theorem dX2_bowsInText_19 : decode cX2_bowsInText 19 = .ok (.if_icmp .eq 13, 3) := by decide +kernel
theorem dX2_bowsInText_22 : decode cX2_bowsInText 22 = .ok (.aload_n 0, 1) := by decide +kernel
theorem dX2_bowsInText_23 : decode cX2_bowsInText 23 = .ok (.iload_n 2, 1) := by decide +kernel
theorem dX2_bowsInText_24 : decode cX2_bowsInText 24 = .ok (.invokevirtual 19, 3) := by decide +kernel
theorem dX2_bowsInText_27 : decode cX2_bowsInText 27 = .ok (.bipush 114, 2) := by decide +kernel
theorem dX2_bowsInText_29 : decode cX2_bowsInText 29 = .ok (.if_icmp .ne 6, 3) := by decide +kernel
theorem dX2_bowsInText_32 : decode cX2_bowsInText 32 = .ok (.iinc 1 1, 3) := by decide +kernel
theorem dX2_bowsInText_35 : decode cX2_bowsInText 35 = .ok (.iinc 2 1, 3) := by decide +kernel
theorem dX2_bowsInText_38 : decode cX2_bowsInText 38 = .ok (.goto (-34), 3) := by decide +kernel
theorem dX2_bowsInText_41 : decode cX2_bowsInText 41 = .ok (.iload_n 1, 1) := by decide +kernel
theorem dX2_bowsInText_42 : decode cX2_bowsInText 42 = .ok (.ireturn, 1) := by decide +kernel
theorem dX2_addBowsTo_0 : decode cX2_addBowsTo 0 = .ok (.iconst 0, 1) := by decide +kernel
theorem dX2_addBowsTo_1 : decode cX2_addBowsTo 1 = .ok (.istore_n 2, 1) := by decide +kernel
theorem dX2_addBowsTo_2 : decode cX2_addBowsTo 2 = .ok (.iload_n 2, 1) := by decide +kernel
theorem dX2_addBowsTo_3 : decode cX2_addBowsTo 3 = .ok (.aload_n 0, 1) := by decide +kernel
theorem dX2_addBowsTo_4 : decode cX2_addBowsTo 4 = .ok (.getfield 15, 3) := by decide +kernel
theorem dX2_addBowsTo_7 : decode cX2_addBowsTo 7 = .ok (.if_icmp .ge 77, 3) := by decide +kernel
theorem dX2_addBowsTo_10 : decode cX2_addBowsTo 10 = .ok (.aload_n 0, 1) := by decide +kernel
theorem dX2_addBowsTo_11 : decode cX2_addBowsTo 11 = .ok (.iload_n 2, 1) := by decide +kernel
theorem dX2_addBowsTo_12 : decode cX2_addBowsTo 12 = .ok (.invokevirtual 19, 3) := by decide +kernel
theorem dX2_addBowsTo_15 : decode cX2_addBowsTo 15 = .ok (.bipush 48, 2) := by decide +kernel
theorem dX2_addBowsTo_17 : decode cX2_addBowsTo 17 = .ok (.isub, 1) := by decide +kernel
theorem dX2_addBowsTo_18 : decode cX2_addBowsTo 18 = .ok (.istore_n 3, 1) := by decide +kernel
theorem dX2_addBowsTo_19 : decode cX2_addBowsTo 19 = .ok (.aload_n 0, 1) := by decide +kernel
theorem dX2_addBowsTo_20 : decode cX2_addBowsTo 20 = .ok (.iload_n 2, 1) := by decide +kernel
theorem dX2_addBowsTo_21 : decode cX2_addBowsTo 21 = .ok (.iconst 1, 1) := by decide +kernel
theorem dX2_addBowsTo_22 : decode cX2_addBowsTo 22 = .ok (.iadd, 1) := by decide +kernel
theorem dX2_addBowsTo_23 : decode cX2_addBowsTo 23 = .ok (.invokevirtual 19, 3) := by decide +kernel
theorem dX2_addBowsTo_26 : decode cX2_addBowsTo 26 = .ok (.bipush 114, 2) := by decide +kernel
theorem dX2_addBowsTo_28 : decode cX2_addBowsTo 28 = .ok (.if_icmp .ne 7, 3) := by decide +kernel
theorem dX2_addBowsTo_31 : decode cX2_addBowsTo 31 = .ok (.iconst 1, 1) := by decide +kernel
theorem dX2_addBowsTo_32 : decode cX2_addBowsTo 32 = .ok (.goto 4, 3) := by decide +kernel
theorem dX2_addBowsTo_35 : decode cX2_addBowsTo 35 = .ok (.iconst 0, 1) := by decide +kernel
theorem dX2_addBowsTo_36 : decode cX2_addBowsTo 36 = .ok (.istore 4, 2) := by decide +kernel
theorem dX2_addBowsTo_38 : decode cX2_addBowsTo 38 = .ok (.iinc 2 2, 3) := by decide +kernel
theorem dX2_addBowsTo_41 : decode cX2_addBowsTo 41 = .ok (.iconst 0, 1) := by decide +kernel
theorem dX2_addBowsTo_42 : decode cX2_addBowsTo 42 = .ok (.istore 5, 2) := by decide +kernel
theorem dX2_addBowsTo_44 : decode cX2_addBowsTo 44 = .ok (.aload_n 0, 1) := by decide +kernel
theorem dX2_addBowsTo_45 : decode cX2_addBowsTo 45 = .ok (.iload_n 2, 1) := by decide +kernel
theorem dX2_addBowsTo_46 : decode cX2_addBowsTo 46 = .ok (.invokevirtual 19, 3) := by decide +kernel
theorem dX2_addBowsTo_49 : decode cX2_addBowsTo 49 = .ok (.bipush 46, 2) := by decide +kernel
theorem dX2_addBowsTo_51 : decode cX2_addBowsTo 51 = .ok (.if_icmp .ne 18, 3) := by decide +kernel
theorem dX2_addBowsTo_54 : decode cX2_addBowsTo 54 = .ok (.aload_n 0, 1) := by decide +kernel
theorem dX2_addBowsTo_55 : decode cX2_addBowsTo 55 = .ok (.iload_n 2, 1) := by decide +kernel
theorem dX2_addBowsTo_56 : decode cX2_addBowsTo 56 = .ok (.iconst 1, 1) := by decide +kernel
theorem dX2_addBowsTo_57 : decode cX2_addBowsTo 57 = .ok (.iadd, 1) := by decide +kernel
theorem dX2_addBowsTo_58 : decode cX2_addBowsTo 58 = .ok (.invokevirtual 19, 3) := by decide +kernel
theorem dX2_addBowsTo_61 : decode cX2_addBowsTo 61 = .ok (.bipush 48, 2) := by decide +kernel
theorem dX2_addBowsTo_63 : decode cX2_addBowsTo 63 = .ok (.isub, 1) := by decide +kernel
theorem dX2_addBowsTo_64 : decode cX2_addBowsTo 64 = .ok (.istore 5, 2) := by decide +kernel
theorem dX2_addBowsTo_66 : decode cX2_addBowsTo 66 = .ok (.iinc 2 2, 3) := by decide +kernel
theorem dX2_addBowsTo_69 : decode cX2_addBowsTo 69 = .ok (.aload_n 1, 1) := by decide +kernel
theorem dX2_addBowsTo_70 : decode cX2_addBowsTo 70 = .ok (.iload_n 3, 1) := by decide +kernel
theorem dX2_addBowsTo_71 : decode cX2_addBowsTo 71 = .ok (.iload 4, 2) := by decide +kernel
theorem dX2_addBowsTo_73 : decode cX2_addBowsTo 73 = .ok (.invokestatic 28, 3) := by decide +kernel
theorem dX2_addBowsTo_76 : decode cX2_addBowsTo 76 = .ok (.iload 5, 2) := by decide +kernel
theorem dX2_addBowsTo_78 : decode cX2_addBowsTo 78 = .ok (.invokevirtual 32, 3) := by decide +kernel
theorem dX2_addBowsTo_81 : decode cX2_addBowsTo 81 = .ok (.goto (-79), 3) := by decide +kernel
theorem dX2_addBowsTo_84 : decode cX2_addBowsTo 84 = .ok (.return_, 1) := by decide +kernel
theorem dX3_init_0 : decode cX3_init 0 = .ok (.aload_n 0, 1) := by decide +kernel
theorem dX3_init_1 : decode cX3_init 1 = .ok (.invokespecial 3, 3) := by decide +kernel
theorem dX3_init_4 : decode cX3_init 4 = .ok (.aload_n 0, 1) := by decide +kernel
theorem dX3_init_5 : decode cX3_init 5 = .ok (.bipush 24, 2) := by decide +kernel
theorem dX3_init_7 : decode cX3_init 7 = .ok (.newarray .int, 2) := by decide +kernel
theorem dX3_init_9 : decode cX3_init 9 = .ok (.putfield 9, 3) := by decide +kernel
theorem dX3_init_12 : decode cX3_init 12 = .ok (.aload_n 0, 1) := by decide +kernel
theorem dX3_init_13 : decode cX3_init 13 = .ok (.iconst 0, 1) := by decide +kernel
theorem dX3_init_14 : decode cX3_init 14 = .ok (.putfield 15, 3) := by decide +kernel
theorem dX3_init_17 : decode cX3_init 17 = .ok (.aload_n 0, 1) := by decide +kernel
theorem dX3_init_18 : decode cX3_init 18 = .ok (.bipush 24, 2) := by decide +kernel
theorem dX3_init_20 : decode cX3_init 20 = .ok (.newarray .int, 2) := by decide +kernel
theorem dX3_init_22 : decode cX3_init 22 = .ok (.putfield 19, 3) := by decide +kernel
theorem dX3_init_25 : decode cX3_init 25 = .ok (.aload_n 0, 1) := by decide +kernel
theorem dX3_init_26 : decode cX3_init 26 = .ok (.iconst 0, 1) := by decide +kernel
theorem dX3_init_27 : decode cX3_init 27 = .ok (.putfield 22, 3) := by decide +kernel
theorem dX3_init_30 : decode cX3_init 30 = .ok (.aload_n 0, 1) := by decide +kernel
theorem dX3_init_31 : decode cX3_init 31 = .ok (.iconst 0, 1) := by decide +kernel
theorem dX3_init_32 : decode cX3_init 32 = .ok (.putfield 25, 3) := by decide +kernel
theorem dX3_init_35 : decode cX3_init 35 = .ok (.aload_n 0, 1) := by decide +kernel
theorem dX3_init_36 : decode cX3_init 36 = .ok (.iconst 0, 1) := by decide +kernel
theorem dX3_init_37 : decode cX3_init 37 = .ok (.putfield 28, 3) := by decide +kernel
theorem dX3_init_40 : decode cX3_init 40 = .ok (.aload_n 0, 1) := by decide +kernel
theorem dX3_init_41 : decode cX3_init 41 = .ok (.iconst 1, 1) := by decide +kernel
theorem dX3_init_42 : decode cX3_init 42 = .ok (.putfield 31, 3) := by decide +kernel
theorem dX3_init_45 : decode cX3_init 45 = .ok (.aload_n 0, 1) := by decide +kernel
theorem dX3_init_46 : decode cX3_init 46 = .ok (.iconst 0, 1) := by decide +kernel
theorem dX3_init_47 : decode cX3_init 47 = .ok (.putfield 34, 3) := by decide +kernel
theorem dX3_init_50 : decode cX3_init 50 = .ok (.return_, 1) := by decide +kernel
theorem dX3_look_0 : decode cX3_look 0 = .ok (.aload_n 0, 1) := by decide +kernel
theorem dX3_look_1 : decode cX3_look 1 = .ok (.aload_n 1, 1) := by decide +kernel
theorem dX3_look_2 : decode cX3_look 2 = .ok (.iload_n 2, 1) := by decide +kernel
theorem dX3_look_3 : decode cX3_look 3 = .ok (.invokevirtual 37, 3) := by decide +kernel
theorem dX3_look_6 : decode cX3_look 6 = .ok (.aload_n 0, 1) := by decide +kernel
theorem dX3_look_7 : decode cX3_look 7 = .ok (.invokevirtual 41, 3) := by decide +kernel
theorem dX3_look_10 : decode cX3_look 10 = .ok (.aload_n 0, 1) := by decide +kernel
theorem dX3_look_11 : decode cX3_look 11 = .ok (.aload_n 0, 1) := by decide +kernel
theorem dX3_look_12 : decode cX3_look 12 = .ok (.invokevirtual 44, 3) := by decide +kernel
theorem dX3_look_15 : decode cX3_look 15 = .ok (.putfield 31, 3) := by decide +kernel
theorem dX3_look_18 : decode cX3_look 18 = .ok (.aload_n 0, 1) := by decide +kernel
theorem dX3_look_19 : decode cX3_look 19 = .ok (.aload_n 0, 1) := by decide +kernel
theorem dX3_look_20 : decode cX3_look 20 = .ok (.getfield 31, 3) := by decide +kernel
theorem dX3_look_23 : decode cX3_look 23 = .ok (.ifCond .ne 12, 3) := by decide +kernel
theorem dX3_look_26 : decode cX3_look 26 = .ok (.aload_n 0, 1) := by decide +kernel
theorem dX3_look_27 : decode cX3_look 27 = .ok (.getfield 22, 3) := by decide +kernel
theorem dX3_look_30 : decode cX3_look 30 = .ok (.iconst 3, 1) := by decide +kernel
theorem dX3_look_31 : decode cX3_look 31 = .ok (.idiv, 1) := by decide +kernel
theorem dX3_look_32 : decode cX3_look 32 = .ok (.goto 4, 3) := by decide +kernel
theorem dX3_look_35 : decode cX3_look 35 = .ok (.iconst 0, 1) := by decide +kernel
theorem dX3_look_36 : decode cX3_look 36 = .ok (.putfield 34, 3) := by decide +kernel
theorem dX3_look_39 : decode cX3_look 39 = .ok (.return_, 1) := by decide +kernel
theorem dX3_findGroups_0 : decode cX3_findGroups 0 = .ok (.aload_n 0, 1) := by decide +kernel
theorem dX3_findGroups_1 : decode cX3_findGroups 1 = .ok (.iconst 0, 1) := by decide +kernel
theorem dX3_findGroups_2 : decode cX3_findGroups 2 = .ok (.putfield 15, 3) := by decide +kernel
theorem dX3_findGroups_5 : decode cX3_findGroups 5 = .ok (.iconst 0, 1) := by decide +kernel
theorem dX3_findGroups_6 : decode cX3_findGroups 6 = .ok (.istore_n 3, 1) := by decide +kernel
theorem dX3_findGroups_7 : decode cX3_findGroups 7 = .ok (.iconst 0, 1) := by decide +kernel
theorem dX3_findGroups_8 : decode cX3_findGroups 8 = .ok (.istore 4, 2) := by decide +kernel
theorem dX3_findGroups_10 : decode cX3_findGroups 10 = .ok (.iconst 0, 1) := by decide +kernel
theorem dX3_findGroups_11 : decode cX3_findGroups 11 = .ok (.istore 5, 2) := by decide +kernel
theorem dX3_findGroups_13 : decode cX3_findGroups 13 = .ok (.iload 5, 2) := by decide +kernel
theorem dX3_findGroups_15 : decode cX3_findGroups 15 = .ok (.aload_n 1, 1) := by decide +kernel
theorem dX3_findGroups_16 : decode cX3_findGroups 16 = .ok (.getfield 48, 3) := by decide +kernel
theorem dX3_findGroups_19 : decode cX3_findGroups 19 = .ok (.if_icmp .ge 90, 3) := by decide +kernel
theorem dX3_findGroups_22 : decode cX3_findGroups 22 = .ok (.iinc 3 1, 3) := by decide +kernel
theorem dX3_findGroups_25 : decode cX3_findGroups 25 = .ok (.bipush 6, 2) := by decide +kernel
theorem dX3_findGroups_27 : decode cX3_findGroups 27 = .ok (.iload 4, 2) := by decide +kernel
theorem dX3_findGroups_29 : decode cX3_findGroups 29 = .ok (.imul, 1) := by decide +kernel
theorem dX3_findGroups_30 : decode cX3_findGroups 30 = .ok (.aload_n 1, 1) := by decide +kernel
theorem dX3_findGroups_31 : decode cX3_findGroups 31 = .ok (.iload 5, 2) := by decide +kernel
theorem dX3_findGroups_33 : decode cX3_findGroups 33 = .ok (.invokevirtual 53, 3) := by decide +kernel
theorem dX3_findGroups_36 : decode cX3_findGroups 36 = .ok (.iload_n 2, 1) := by decide +kernel
theorem dX3_findGroups_37 : decode cX3_findGroups 37 = .ok (.invokestatic 57, 3) := by decide +kernel
theorem dX3_findGroups_40 : decode cX3_findGroups 40 = .ok (.iadd, 1) := by decide +kernel
theorem dX3_findGroups_41 : decode cX3_findGroups 41 = .ok (.istore 4, 2) := by decide +kernel
theorem dX3_findGroups_43 : decode cX3_findGroups 43 = .ok (.iload 5, 2) := by decide +kernel
theorem dX3_findGroups_45 : decode cX3_findGroups 45 = .ok (.aload_n 1, 1) := by decide +kernel
theorem dX3_findGroups_46 : decode cX3_findGroups 46 = .ok (.getfield 48, 3) := by decide +kernel
theorem dX3_findGroups_49 : decode cX3_findGroups 49 = .ok (.iconst 1, 1) := by decide +kernel
theorem dX3_findGroups_50 : decode cX3_findGroups 50 = .ok (.isub, 1) := by decide +kernel
theorem dX3_findGroups_51 : decode cX3_findGroups 51 = .ok (.if_icmp .ne 7, 3) := by decide +kernel
theorem dX3_findGroups_54 : decode cX3_findGroups 54 = .ok (.iconst 1, 1) := by decide +kernel
theorem dX3_findGroups_55 : decode cX3_findGroups 55 = .ok (.goto 4, 3) := by decide +kernel
theorem dX3_findGroups_58 : decode cX3_findGroups 58 = .ok (.iconst 0, 1) := by decide +kernel
theorem dX3_findGroups_59 : decode cX3_findGroups 59 = .ok (.istore 6, 2) := by decide +kernel
theorem dX3_findGroups_61 : decode cX3_findGroups 61 = .ok (.iload 6, 2) := by decide +kernel
theorem dX3_findGroups_63 : decode cX3_findGroups 63 = .ok (.ifCond .ne 25, 3) := by decide +kernel
theorem dX3_findGroups_66 : decode cX3_findGroups 66 = .ok (.aload_n 1, 1) := by decide +kernel
theorem dX3_findGroups_67 : decode cX3_findGroups 67 = .ok (.getfield 61, 3) := by decide +kernel
theorem dX3_findGroups_70 : decode cX3_findGroups 70 = .ok (.iload 5, 2) := by decide +kernel
theorem dX3_findGroups_72 : decode cX3_findGroups 72 = .ok (.invokestatic 64, 3) := by decide +kernel
theorem dX3_findGroups_75 : decode cX3_findGroups 75 = .ok (.iload_n 2, 1) := by decide +kernel
theorem dX3_findGroups_76 : decode cX3_findGroups 76 = .ok (.aload_n 1, 1) := by decide +kernel
theorem dX3_findGroups_77 : decode cX3_findGroups 77 = .ok (.getfield 68, 3) := by decide +kernel
theorem dX3_findGroups_80 : decode cX3_findGroups 80 = .ok (.iconst 0, 1) := by decide +kernel
theorem dX3_findGroups_81 : decode cX3_findGroups 81 = .ok (.iaload, 1) := by decide +kernel
theorem dX3_findGroups_82 : decode cX3_findGroups 82 = .ok (.invokestatic 71, 3) := by decide +kernel
theorem dX3_findGroups_85 : decode cX3_findGroups 85 = .ok (.ifCond .eq 18, 3) := by decide +kernel
theorem dX3_findGroups_88 : decode cX3_findGroups 88 = .ok (.aload_n 0, 1) := by decide +kernel
theorem dX3_findGroups_89 : decode cX3_findGroups 89 = .ok (.iload_n 3, 1) := by decide +kernel
theorem dX3_findGroups_90 : decode cX3_findGroups 90 = .ok (.iload 4, 2) := by decide +kernel
theorem dX3_findGroups_92 : decode cX3_findGroups 92 = .ok (.invokestatic 75, 3) := by decide +kernel
theorem dX3_findGroups_95 : decode cX3_findGroups 95 = .ok (.invokevirtual 78, 3) := by decide +kernel
theorem dX3_findGroups_98 : decode cX3_findGroups 98 = .ok (.iconst 0, 1) := by decide +kernel
theorem dX3_findGroups_99 : decode cX3_findGroups 99 = .ok (.istore_n 3, 1) := by decide +kernel
theorem dX3_findGroups_100 : decode cX3_findGroups 100 = .ok (.iconst 0, 1) := by decide +kernel
theorem dX3_findGroups_101 : decode cX3_findGroups 101 = .ok (.istore 4, 2) := by decide +kernel
theorem dX3_findGroups_103 : decode cX3_findGroups 103 = .ok (.iinc 5 1, 3) := by decide +kernel
theorem dX3_findGroups_106 : decode cX3_findGroups 106 = .ok (.goto (-93), 3) := by decide +kernel
theorem dX3_findGroups_109 : decode cX3_findGroups 109 = .ok (.return_, 1) := by decide +kernel
theorem dX3_seenNumber_0 : decode cX3_seenNumber 0 = .ok (.iload_n 0, 1) := by decide +kernel
theorem dX3_seenNumber_1 : decode cX3_seenNumber 1 = .ok (.iconst 3, 1) := by decide +kernel
theorem dX3_seenNumber_2 : decode cX3_seenNumber 2 = .ok (.iconst 0, 1) := by decide +kernel
theorem dX3_seenNumber_3 : decode cX3_seenNumber 3 = .ok (.invokestatic 82, 3) := by decide +kernel
theorem dX3_seenNumber_6 : decode cX3_seenNumber 6 = .ok (.if_icmp .lt 7, 3) := by decide +kernel
theorem dX3_seenNumber_9 : decode cX3_seenNumber 9 = .ok (.iconst 1, 1) := by decide +kernel
theorem dX3_seenNumber_10 : decode cX3_seenNumber 10 = .ok (.goto 4, 3) := by decide +kernel
theorem dX3_seenNumber_13 : decode cX3_seenNumber 13 = .ok (.iconst 0, 1) := by decide +kernel
theorem dX3_seenNumber_14 : decode cX3_seenNumber 14 = .ok (.istore_n 2, 1) := by decide +kernel
theorem dX3_seenNumber_15 : decode cX3_seenNumber 15 = .ok (.iload_n 1, 1) := by decide +kernel
theorem dX3_seenNumber_16 : decode cX3_seenNumber 16 = .ok (.iconst 1, 1) := by decide +kernel
theorem dX3_seenNumber_17 : decode cX3_seenNumber 17 = .ok (.if_icmp .ne 13, 3) := by decide +kernel
theorem dX3_seenNumber_20 : decode cX3_seenNumber 20 = .ok (.iload_n 2, 1) := by decide +kernel
theorem dX3_seenNumber_21 : decode cX3_seenNumber 21 = .ok (.ifCond .eq 9, 3) := by decide +kernel
theorem dX3_seenNumber_24 : decode cX3_seenNumber 24 = .ok (.iload_n 0, 1) := by decide +kernel
theorem dX3_seenNumber_25 : decode cX3_seenNumber 25 = .ok (.iconst 2, 1) := by decide +kernel
theorem dX3_seenNumber_26 : decode cX3_seenNumber 26 = .ok (.isub, 1) := by decide +kernel
theorem dX3_seenNumber_27 : decode cX3_seenNumber 27 = .ok (.goto 4, 3) := by decide +kernel
theorem dX3_seenNumber_30 : decode cX3_seenNumber 30 = .ok (.iload_n 0, 1) := by decide +kernel
theorem dX3_seenNumber_31 : decode cX3_seenNumber 31 = .ok (.ireturn, 1) := by decide +kernel
theorem dX3_seenAsBreak_0 : decode cX3_seenAsBreak 0 = .ok (.iload_n 0, 1) := by decide +kernel
theorem dX3_seenAsBreak_1 : decode cX3_seenAsBreak 1 = .ok (.iload_n 2, 1) := by decide +kernel
theorem dX3_seenAsBreak_2 : decode cX3_seenAsBreak 2 = .ok (.if_icmp .ge 13, 3) := by decide +kernel
theorem dX3_seenAsBreak_5 : decode cX3_seenAsBreak 5 = .ok (.iload_n 1, 1) := by decide +kernel
theorem dX3_seenAsBreak_6 : decode cX3_seenAsBreak 6 = .ok (.iconst 2, 1) := by decide +kernel
theorem dX3_seenAsBreak_7 : decode cX3_seenAsBreak 7 = .ok (.if_icmp .ne 12, 3) := by decide +kernel
theorem dX3_seenAsBreak_10 : decode cX3_seenAsBreak 10 = .ok (.iload_n 0, 1) := by decide +kernel
theorem dX3_seenAsBreak_11 : decode cX3_seenAsBreak 11 = .ok (.iconst 1, 1) := by decide +kernel
theorem dX3_seenAsBreak_12 : decode cX3_seenAsBreak 12 = .ok (.if_icmp .lt 7, 3) := by decide +kernel
theorem dX3_seenAsBreak_15 : decode cX3_seenAsBreak 15 = .ok (.iconst 1, 1) := by decide +kernel
theorem dX3_seenAsBreak_16 : decode cX3_seenAsBreak 16 = .ok (.goto 4, 3) := by decide +kernel
theorem dX3_seenAsBreak_19 : decode cX3_seenAsBreak 19 = .ok (.iconst 0, 1) := by decide +kernel
theorem dX3_seenAsBreak_20 : decode cX3_seenAsBreak 20 = .ok (.ireturn, 1) := by decide +kernel
theorem dX3_wordOf_0 : decode cX3_wordOf 0 = .ok (.iload_n 0, 1) := by decide +kernel
theorem dX3_wordOf_1 : decode cX3_wordOf 1 = .ok (.tableswitch 39 1 3 #[27, 29, 34], 27) := by decide +kernel
theorem dX3_wordOf_28 : decode cX3_wordOf 28 = .ok (.iload_n 1, 1) := by decide +kernel
theorem dX3_wordOf_29 : decode cX3_wordOf 29 = .ok (.ireturn, 1) := by decide +kernel
theorem dX3_wordOf_30 : decode cX3_wordOf 30 = .ok (.bipush 6, 2) := by decide +kernel
theorem dX3_wordOf_32 : decode cX3_wordOf 32 = .ok (.iload_n 1, 1) := by decide +kernel
theorem dX3_wordOf_33 : decode cX3_wordOf 33 = .ok (.iadd, 1) := by decide +kernel
theorem dX3_wordOf_34 : decode cX3_wordOf 34 = .ok (.ireturn, 1) := by decide +kernel
theorem dX3_wordOf_35 : decode cX3_wordOf 35 = .ok (.bipush 42, 2) := by decide +kernel
theorem dX3_wordOf_37 : decode cX3_wordOf 37 = .ok (.iload_n 1, 1) := by decide +kernel
theorem dX3_wordOf_38 : decode cX3_wordOf 38 = .ok (.iadd, 1) := by decide +kernel
theorem dX3_wordOf_39 : decode cX3_wordOf 39 = .ok (.ireturn, 1) := by decide +kernel
theorem dX3_wordOf_40 : decode cX3_wordOf 40 = .ok (.ldc 85, 2) := by decide +kernel
theorem dX3_wordOf_42 : decode cX3_wordOf 42 = .ok (.ireturn, 1) := by decide +kernel
theorem dX3_addGroup_0 : decode cX3_addGroup 0 = .ok (.aload_n 0, 1) := by decide +kernel
theorem dX3_addGroup_1 : decode cX3_addGroup 1 = .ok (.getfield 15, 3) := by decide +kernel
theorem dX3_addGroup_4 : decode cX3_addGroup 4 = .ok (.ifCond .lt 32, 3) := by decide +kernel
theorem dX3_addGroup_7 : decode cX3_addGroup 7 = .ok (.aload_n 0, 1) := by decide +kernel
theorem dX3_addGroup_8 : decode cX3_addGroup 8 = .ok (.getfield 15, 3) := by decide +kernel
theorem dX3_addGroup_11 : decode cX3_addGroup 11 = .ok (.bipush 24, 2) := by decide +kernel
theorem dX3_addGroup_13 : decode cX3_addGroup 13 = .ok (.if_icmp .ge 23, 3) := by decide +kernel
theorem dX3_addGroup_16 : decode cX3_addGroup 16 = .ok (.aload_n 0, 1) := by decide +kernel
theorem dX3_addGroup_17 : decode cX3_addGroup 17 = .ok (.getfield 9, 3) := by decide +kernel
theorem dX3_addGroup_20 : decode cX3_addGroup 20 = .ok (.aload_n 0, 1) := by decide +kernel
theorem dX3_addGroup_21 : decode cX3_addGroup 21 = .ok (.getfield 15, 3) := by decide +kernel
theorem dX3_addGroup_24 : decode cX3_addGroup 24 = .ok (.iload_n 1, 1) := by decide +kernel
theorem dX3_addGroup_25 : decode cX3_addGroup 25 = .ok (.iastore, 1) := by decide +kernel
theorem dX3_addGroup_26 : decode cX3_addGroup 26 = .ok (.aload_n 0, 1) := by decide +kernel
theorem dX3_addGroup_27 : decode cX3_addGroup 27 = .ok (.dup, 1) := by decide +kernel
theorem dX3_addGroup_28 : decode cX3_addGroup 28 = .ok (.getfield 15, 3) := by decide +kernel
theorem dX3_addGroup_31 : decode cX3_addGroup 31 = .ok (.iconst 1, 1) := by decide +kernel
theorem dX3_addGroup_32 : decode cX3_addGroup 32 = .ok (.iadd, 1) := by decide +kernel
theorem dX3_addGroup_33 : decode cX3_addGroup 33 = .ok (.putfield 15, 3) := by decide +kernel
theorem dX3_addGroup_36 : decode cX3_addGroup 36 = .ok (.return_, 1) := by decide +kernel
theorem dX3_leaveOutFlourishes_0 : decode cX3_leaveOutFlourishes 0 = .ok (.aload_n 0, 1) := by decide +kernel
theorem dX3_leaveOutFlourishes_1 : decode cX3_leaveOutFlourishes 1 = .ok (.iconst 0, 1) := by decide +kernel
theorem dX3_leaveOutFlourishes_2 : decode cX3_leaveOutFlourishes 2 = .ok (.putfield 25, 3) := by decide +kernel
theorem dX3_leaveOutFlourishes_5 : decode cX3_leaveOutFlourishes 5 = .ok (.aload_n 0, 1) := by decide +kernel
theorem dX3_leaveOutFlourishes_6 : decode cX3_leaveOutFlourishes 6 = .ok (.iconst 0, 1) := by decide +kernel
theorem dX3_leaveOutFlourishes_7 : decode cX3_leaveOutFlourishes 7 = .ok (.putfield 28, 3) := by decide +kernel
theorem dX3_leaveOutFlourishes_10 : decode cX3_leaveOutFlourishes 10 = .ok (.aload_n 0, 1) := by decide +kernel
theorem dX3_leaveOutFlourishes_11 : decode cX3_leaveOutFlourishes 11 = .ok (.iconst 0, 1) := by decide +kernel
theorem dX3_leaveOutFlourishes_12 : decode cX3_leaveOutFlourishes 12 = .ok (.putfield 22, 3) := by decide +kernel
theorem dX3_leaveOutFlourishes_15 : decode cX3_leaveOutFlourishes 15 = .ok (.iconst 0, 1) := by decide +kernel
theorem dX3_leaveOutFlourishes_16 : decode cX3_leaveOutFlourishes 16 = .ok (.istore_n 1, 1) := by decide +kernel
theorem dX3_leaveOutFlourishes_17 : decode cX3_leaveOutFlourishes 17 = .ok (.iload_n 1, 1) := by decide +kernel
theorem dX3_leaveOutFlourishes_18 : decode cX3_leaveOutFlourishes 18 = .ok (.aload_n 0, 1) := by decide +kernel
theorem dX3_leaveOutFlourishes_19 : decode cX3_leaveOutFlourishes 19 = .ok (.getfield 15, 3) := by decide +kernel
theorem dX3_leaveOutFlourishes_22 : decode cX3_leaveOutFlourishes 22 = .ok (.if_icmp .ge 62, 3) := by decide +kernel
theorem dX3_leaveOutFlourishes_25 : decode cX3_leaveOutFlourishes 25 = .ok (.aload_n 0, 1) := by decide +kernel
theorem dX3_leaveOutFlourishes_26 : decode cX3_leaveOutFlourishes 26 = .ok (.getfield 9, 3) := by decide +kernel
theorem dX3_leaveOutFlourishes_29 : decode cX3_leaveOutFlourishes 29 = .ok (.iload_n 1, 1) := by decide +kernel
theorem dX3_leaveOutFlourishes_30 : decode cX3_leaveOutFlourishes 30 = .ok (.invokestatic 64, 3) := by decide +kernel
theorem dX3_leaveOutFlourishes_33 : decode cX3_leaveOutFlourishes 33 = .ok (.istore_n 2, 1) := by decide +kernel
theorem dX3_leaveOutFlourishes_34 : decode cX3_leaveOutFlourishes 34 = .ok (.iload_n 2, 1) := by decide +kernel
theorem dX3_leaveOutFlourishes_35 : decode cX3_leaveOutFlourishes 35 = .ok (.ldc 85, 2) := by decide +kernel
theorem dX3_leaveOutFlourishes_37 : decode cX3_leaveOutFlourishes 37 = .ok (.if_icmp .ne 16, 3) := by decide +kernel
theorem dX3_leaveOutFlourishes_40 : decode cX3_leaveOutFlourishes 40 = .ok (.aload_n 0, 1) := by decide +kernel
theorem dX3_leaveOutFlourishes_41 : decode cX3_leaveOutFlourishes 41 = .ok (.dup, 1) := by decide +kernel
theorem dX3_leaveOutFlourishes_42 : decode cX3_leaveOutFlourishes 42 = .ok (.getfield 28, 3) := by decide +kernel
theorem dX3_leaveOutFlourishes_45 : decode cX3_leaveOutFlourishes 45 = .ok (.iconst 1, 1) := by decide +kernel
theorem dX3_leaveOutFlourishes_46 : decode cX3_leaveOutFlourishes 46 = .ok (.iadd, 1) := by decide +kernel
theorem dX3_leaveOutFlourishes_47 : decode cX3_leaveOutFlourishes 47 = .ok (.putfield 28, 3) := by decide +kernel
theorem dX3_leaveOutFlourishes_50 : decode cX3_leaveOutFlourishes 50 = .ok (.goto 28, 3) := by decide +kernel
theorem dX3_leaveOutFlourishes_53 : decode cX3_leaveOutFlourishes 53 = .ok (.iload_n 2, 1) := by decide +kernel
theorem dX3_leaveOutFlourishes_54 : decode cX3_leaveOutFlourishes 54 = .ok (.invokestatic 86, 3) := by decide +kernel
theorem dX3_leaveOutFlourishes_57 : decode cX3_leaveOutFlourishes 57 = .ok (.ifCond .eq 16, 3) := by decide +kernel
theorem dX3_leaveOutFlourishes_60 : decode cX3_leaveOutFlourishes 60 = .ok (.aload_n 0, 1) := by decide +kernel
theorem dX3_leaveOutFlourishes_61 : decode cX3_leaveOutFlourishes 61 = .ok (.dup, 1) := by decide +kernel
theorem dX3_leaveOutFlourishes_62 : decode cX3_leaveOutFlourishes 62 = .ok (.getfield 25, 3) := by decide +kernel
theorem dX3_leaveOutFlourishes_65 : decode cX3_leaveOutFlourishes 65 = .ok (.iconst 1, 1) := by decide +kernel
theorem dX3_leaveOutFlourishes_66 : decode cX3_leaveOutFlourishes 66 = .ok (.iadd, 1) := by decide +kernel
theorem dX3_leaveOutFlourishes_67 : decode cX3_leaveOutFlourishes 67 = .ok (.putfield 25, 3) := by decide +kernel
theorem dX3_leaveOutFlourishes_70 : decode cX3_leaveOutFlourishes 70 = .ok (.goto 8, 3) := by decide +kernel
theorem dX3_leaveOutFlourishes_73 : decode cX3_leaveOutFlourishes 73 = .ok (.aload_n 0, 1) := by decide +kernel
theorem dX3_leaveOutFlourishes_74 : decode cX3_leaveOutFlourishes 74 = .ok (.iload_n 2, 1) := by decide +kernel
theorem dX3_leaveOutFlourishes_75 : decode cX3_leaveOutFlourishes 75 = .ok (.invokevirtual 90, 3) := by decide +kernel
theorem dX3_leaveOutFlourishes_78 : decode cX3_leaveOutFlourishes 78 = .ok (.iinc 1 1, 3) := by decide +kernel
theorem dX3_leaveOutFlourishes_81 : decode cX3_leaveOutFlourishes 81 = .ok (.goto (-64), 3) := by decide +kernel
theorem dX3_leaveOutFlourishes_84 : decode cX3_leaveOutFlourishes 84 = .ok (.return_, 1) := by decide +kernel
theorem dX3_keep_0 : decode cX3_keep 0 = .ok (.aload_n 0, 1) := by decide +kernel
theorem dX3_keep_1 : decode cX3_keep 1 = .ok (.getfield 22, 3) := by decide +kernel
theorem dX3_keep_4 : decode cX3_keep 4 = .ok (.ifCond .lt 32, 3) := by decide +kernel
theorem dX3_keep_7 : decode cX3_keep 7 = .ok (.aload_n 0, 1) := by decide +kernel
theorem dX3_keep_8 : decode cX3_keep 8 = .ok (.getfield 22, 3) := by decide +kernel
theorem dX3_keep_11 : decode cX3_keep 11 = .ok (.bipush 24, 2) := by decide +kernel
theorem dX3_keep_13 : decode cX3_keep 13 = .ok (.if_icmp .ge 23, 3) := by decide +kernel
theorem dX3_keep_16 : decode cX3_keep 16 = .ok (.aload_n 0, 1) := by decide +kernel
theorem dX3_keep_17 : decode cX3_keep 17 = .ok (.getfield 19, 3) := by decide +kernel
theorem dX3_keep_20 : decode cX3_keep 20 = .ok (.aload_n 0, 1) := by decide +kernel
theorem dX3_keep_21 : decode cX3_keep 21 = .ok (.getfield 22, 3) := by decide +kernel
theorem dX3_keep_24 : decode cX3_keep 24 = .ok (.iload_n 1, 1) := by decide +kernel
theorem dX3_keep_25 : decode cX3_keep 25 = .ok (.iastore, 1) := by decide +kernel
theorem dX3_keep_26 : decode cX3_keep 26 = .ok (.aload_n 0, 1) := by decide +kernel
theorem dX3_keep_27 : decode cX3_keep 27 = .ok (.dup, 1) := by decide +kernel
theorem dX3_keep_28 : decode cX3_keep 28 = .ok (.getfield 22, 3) := by decide +kernel
theorem dX3_keep_31 : decode cX3_keep 31 = .ok (.iconst 1, 1) := by decide +kernel
theorem dX3_keep_32 : decode cX3_keep 32 = .ok (.iadd, 1) := by decide +kernel
theorem dX3_keep_33 : decode cX3_keep 33 = .ok (.putfield 22, 3) := by decide +kernel
theorem dX3_keep_36 : decode cX3_keep 36 = .ok (.return_, 1) := by decide +kernel
theorem dX3_findReason_0 : decode cX3_findReason 0 = .ok (.aload_n 0, 1) := by decide +kernel
theorem dX3_findReason_1 : decode cX3_findReason 1 = .ok (.getfield 15, 3) := by decide +kernel
theorem dX3_findReason_4 : decode cX3_findReason 4 = .ok (.ifCond .ne 5, 3) := by decide +kernel
theorem dX3_findReason_7 : decode cX3_findReason 7 = .ok (.iconst 1, 1) := by decide +kernel
theorem dX3_findReason_8 : decode cX3_findReason 8 = .ok (.ireturn, 1) := by decide +kernel
theorem dX3_findReason_9 : decode cX3_findReason 9 = .ok (.aload_n 0, 1) := by decide +kernel
theorem dX3_findReason_10 : decode cX3_findReason 10 = .ok (.getfield 28, 3) := by decide +kernel
theorem dX3_findReason_13 : decode cX3_findReason 13 = .ok (.ifCond .le 5, 3) := by decide +kernel
theorem dX3_findReason_16 : decode cX3_findReason 16 = .ok (.iconst 2, 1) := by decide +kernel
theorem dX3_findReason_17 : decode cX3_findReason 17 = .ok (.ireturn, 1) := by decide +kernel
theorem dX3_findReason_18 : decode cX3_findReason 18 = .ok (.aload_n 0, 1) := by decide +kernel
theorem dX3_findReason_19 : decode cX3_findReason 19 = .ok (.getfield 22, 3) := by decide +kernel
theorem dX3_findReason_22 : decode cX3_findReason 22 = .ok (.ifCond .eq 12, 3) := by decide +kernel
theorem dX3_findReason_25 : decode cX3_findReason 25 = .ok (.aload_n 0, 1) := by decide +kernel
theorem dX3_findReason_26 : decode cX3_findReason 26 = .ok (.getfield 22, 3) := by decide +kernel
theorem dX3_findReason_29 : decode cX3_findReason 29 = .ok (.iconst 3, 1) := by decide +kernel
theorem dX3_findReason_30 : decode cX3_findReason 30 = .ok (.irem, 1) := by decide +kernel
theorem dX3_findReason_31 : decode cX3_findReason 31 = .ok (.ifCond .eq 5, 3) := by decide +kernel
theorem dX3_findReason_34 : decode cX3_findReason 34 = .ok (.iconst 3, 1) := by decide +kernel
theorem dX3_findReason_35 : decode cX3_findReason 35 = .ok (.ireturn, 1) := by decide +kernel
theorem dX3_findReason_36 : decode cX3_findReason 36 = .ok (.iconst 0, 1) := by decide +kernel
theorem dX3_findReason_37 : decode cX3_findReason 37 = .ok (.istore_n 1, 1) := by decide +kernel
theorem dX3_findReason_38 : decode cX3_findReason 38 = .ok (.iconst 0, 1) := by decide +kernel
theorem dX3_findReason_39 : decode cX3_findReason 39 = .ok (.istore_n 2, 1) := by decide +kernel
theorem dX3_findReason_40 : decode cX3_findReason 40 = .ok (.iload_n 2, 1) := by decide +kernel
theorem dX3_findReason_41 : decode cX3_findReason 41 = .ok (.aload_n 0, 1) := by decide +kernel
theorem dX3_findReason_42 : decode cX3_findReason 42 = .ok (.getfield 22, 3) := by decide +kernel
theorem dX3_findReason_45 : decode cX3_findReason 45 = .ok (.iconst 3, 1) := by decide +kernel
theorem dX3_findReason_46 : decode cX3_findReason 46 = .ok (.idiv, 1) := by decide +kernel
theorem dX3_findReason_47 : decode cX3_findReason 47 = .ok (.if_icmp .ge 36, 3) := by decide +kernel
theorem dX3_findReason_50 : decode cX3_findReason 50 = .ok (.aload_n 0, 1) := by decide +kernel
theorem dX3_findReason_51 : decode cX3_findReason 51 = .ok (.iload_n 2, 1) := by decide +kernel
theorem dX3_findReason_52 : decode cX3_findReason 52 = .ok (.invokevirtual 93, 3) := by decide +kernel
theorem dX3_findReason_55 : decode cX3_findReason 55 = .ok (.ifCond .ne 5, 3) := by decide +kernel
theorem dX3_findReason_58 : decode cX3_findReason 58 = .ok (.iconst 4, 1) := by decide +kernel
theorem dX3_findReason_59 : decode cX3_findReason 59 = .ok (.ireturn, 1) := by decide +kernel
theorem dX3_findReason_60 : decode cX3_findReason 60 = .ok (.aload_n 0, 1) := by decide +kernel
theorem dX3_findReason_61 : decode cX3_findReason 61 = .ok (.iload_n 2, 1) := by decide +kernel
theorem dX3_findReason_62 : decode cX3_findReason 62 = .ok (.iconst 0, 1) := by decide +kernel
theorem dX3_findReason_63 : decode cX3_findReason 63 = .ok (.invokevirtual 96, 3) := by decide +kernel
theorem dX3_findReason_66 : decode cX3_findReason 66 = .ok (.aload_n 0, 1) := by decide +kernel
theorem dX3_findReason_67 : decode cX3_findReason 67 = .ok (.iload_n 2, 1) := by decide +kernel
theorem dX3_findReason_68 : decode cX3_findReason 68 = .ok (.iconst 2, 1) := by decide +kernel
theorem dX3_findReason_69 : decode cX3_findReason 69 = .ok (.invokevirtual 96, 3) := by decide +kernel
theorem dX3_findReason_72 : decode cX3_findReason 72 = .ok (.if_icmp .ne 5, 3) := by decide +kernel
theorem dX3_findReason_75 : decode cX3_findReason 75 = .ok (.iconst 1, 1) := by decide +kernel
theorem dX3_findReason_76 : decode cX3_findReason 76 = .ok (.istore_n 1, 1) := by decide +kernel
theorem dX3_findReason_77 : decode cX3_findReason 77 = .ok (.iinc 2 1, 3) := by decide +kernel
theorem dX3_findReason_80 : decode cX3_findReason 80 = .ok (.goto (-40), 3) := by decide +kernel
theorem dX3_findReason_83 : decode cX3_findReason 83 = .ok (.iload_n 1, 1) := by decide +kernel
theorem dX3_findReason_84 : decode cX3_findReason 84 = .ok (.ifCond .eq 7, 3) := by decide +kernel
theorem dX3_findReason_87 : decode cX3_findReason 87 = .ok (.iconst 5, 1) := by decide +kernel
theorem dX3_findReason_88 : decode cX3_findReason 88 = .ok (.goto 4, 3) := by decide +kernel
theorem dX3_findReason_91 : decode cX3_findReason 91 = .ok (.iconst 0, 1) := by decide +kernel
theorem dX3_findReason_92 : decode cX3_findReason 92 = .ok (.ireturn, 1) := by decide +kernel
theorem dX3_isInOrder_0 : decode cX3_isInOrder 0 = .ok (.aload_n 0, 1) := by decide +kernel
theorem dX3_isInOrder_1 : decode cX3_isInOrder 1 = .ok (.iload_n 1, 1) := by decide +kernel
theorem dX3_isInOrder_2 : decode cX3_isInOrder 2 = .ok (.iconst 0, 1) := by decide +kernel
theorem dX3_isInOrder_3 : decode cX3_isInOrder 3 = .ok (.invokevirtual 96, 3) := by decide +kernel
theorem dX3_isInOrder_6 : decode cX3_isInOrder 6 = .ok (.invokestatic 99, 3) := by decide +kernel
theorem dX3_isInOrder_9 : decode cX3_isInOrder 9 = .ok (.ifCond .eq 31, 3) := by decide +kernel
theorem dX3_isInOrder_12 : decode cX3_isInOrder 12 = .ok (.aload_n 0, 1) := by decide +kernel
theorem dX3_isInOrder_13 : decode cX3_isInOrder 13 = .ok (.iload_n 1, 1) := by decide +kernel
theorem dX3_isInOrder_14 : decode cX3_isInOrder 14 = .ok (.iconst 1, 1) := by decide +kernel
theorem dX3_isInOrder_15 : decode cX3_isInOrder 15 = .ok (.invokevirtual 96, 3) := by decide +kernel
theorem dX3_isInOrder_18 : decode cX3_isInOrder 18 = .ok (.invokestatic 102, 3) := by decide +kernel
theorem dX3_isInOrder_21 : decode cX3_isInOrder 21 = .ok (.ifCond .eq 19, 3) := by decide +kernel
theorem dX3_isInOrder_24 : decode cX3_isInOrder 24 = .ok (.aload_n 0, 1) := by decide +kernel
theorem dX3_isInOrder_25 : decode cX3_isInOrder 25 = .ok (.iload_n 1, 1) := by decide +kernel
theorem dX3_isInOrder_26 : decode cX3_isInOrder 26 = .ok (.iconst 2, 1) := by decide +kernel
theorem dX3_isInOrder_27 : decode cX3_isInOrder 27 = .ok (.invokevirtual 96, 3) := by decide +kernel
theorem dX3_isInOrder_30 : decode cX3_isInOrder 30 = .ok (.invokestatic 99, 3) := by decide +kernel
theorem dX3_isInOrder_33 : decode cX3_isInOrder 33 = .ok (.ifCond .eq 7, 3) := by decide +kernel
theorem dX3_isInOrder_36 : decode cX3_isInOrder 36 = .ok (.iconst 1, 1) := by decide +kernel
theorem dX3_isInOrder_37 : decode cX3_isInOrder 37 = .ok (.goto 4, 3) := by decide +kernel
theorem dX3_isInOrder_40 : decode cX3_isInOrder 40 = .ok (.iconst 0, 1) := by decide +kernel
theorem dX3_isInOrder_41 : decode cX3_isInOrder 41 = .ok (.ireturn, 1) := by decide +kernel
theorem dX3_part_0 : decode cX3_part 0 = .ok (.iconst 3, 1) := by decide +kernel
theorem dX3_part_1 : decode cX3_part 1 = .ok (.iload_n 1, 1) := by decide +kernel
theorem dX3_part_2 : decode cX3_part 2 = .ok (.imul, 1) := by decide +kernel
theorem dX3_part_3 : decode cX3_part 3 = .ok (.iload_n 2, 1) := by decide +kernel
theorem dX3_part_4 : decode cX3_part 4 = .ok (.iadd, 1) := by decide +kernel
theorem dX3_part_5 : decode cX3_part 5 = .ok (.istore_n 3, 1) := by decide +kernel
theorem dX3_part_6 : decode cX3_part 6 = .ok (.iload_n 3, 1) := by decide +kernel
theorem dX3_part_7 : decode cX3_part 7 = .ok (.ifCond .lt 18, 3) := by decide +kernel
theorem dX3_part_10 : decode cX3_part 10 = .ok (.iload_n 3, 1) := by decide +kernel
theorem dX3_part_11 : decode cX3_part 11 = .ok (.bipush 24, 2) := by decide +kernel
theorem dX3_part_13 : decode cX3_part 13 = .ok (.if_icmp .ge 12, 3) := by decide +kernel
theorem dX3_part_16 : decode cX3_part 16 = .ok (.aload_n 0, 1) := by decide +kernel
theorem dX3_part_17 : decode cX3_part 17 = .ok (.getfield 19, 3) := by decide +kernel
theorem dX3_part_20 : decode cX3_part 20 = .ok (.iload_n 3, 1) := by decide +kernel
theorem dX3_part_21 : decode cX3_part 21 = .ok (.iaload, 1) := by decide +kernel
theorem dX3_part_22 : decode cX3_part 22 = .ok (.goto 4, 3) := by decide +kernel
theorem dX3_part_25 : decode cX3_part 25 = .ok (.iconst 0, 1) := by decide +kernel
theorem dX3_part_26 : decode cX3_part 26 = .ok (.ireturn, 1) := by decide +kernel
theorem dX3_isKind_0 : decode cX3_isKind 0 = .ok (.aload_n 0, 1) := by decide +kernel
theorem dX3_isKind_1 : decode cX3_isKind 1 = .ok (.iload_n 1, 1) := by decide +kernel
theorem dX3_isKind_2 : decode cX3_isKind 2 = .ok (.iconst 1, 1) := by decide +kernel
theorem dX3_isKind_3 : decode cX3_isKind 3 = .ok (.invokevirtual 96, 3) := by decide +kernel
theorem dX3_isKind_6 : decode cX3_isKind 6 = .ok (.iconst 2, 1) := by decide +kernel
theorem dX3_isKind_7 : decode cX3_isKind 7 = .ok (.irem, 1) := by decide +kernel
theorem dX3_isKind_8 : decode cX3_isKind 8 = .ok (.ifCond .ne 7, 3) := by decide +kernel
theorem dX3_isKind_11 : decode cX3_isKind 11 = .ok (.iconst 1, 1) := by decide +kernel
theorem dX3_isKind_12 : decode cX3_isKind 12 = .ok (.goto 4, 3) := by decide +kernel
theorem dX3_isKind_15 : decode cX3_isKind 15 = .ok (.iconst 0, 1) := by decide +kernel
theorem dX3_isKind_16 : decode cX3_isKind 16 = .ok (.ireturn, 1) := by decide +kernel
theorem dX3_saysTheSameAs_0 : decode cX3_saysTheSameAs 0 = .ok (.aload_n 0, 1) := by decide +kernel
theorem dX3_saysTheSameAs_1 : decode cX3_saysTheSameAs 1 = .ok (.getfield 34, 3) := by decide +kernel
theorem dX3_saysTheSameAs_4 : decode cX3_saysTheSameAs 4 = .ok (.aload_n 1, 1) := by decide +kernel
theorem dX3_saysTheSameAs_5 : decode cX3_saysTheSameAs 5 = .ok (.getfield 34, 3) := by decide +kernel
theorem dX3_saysTheSameAs_8 : decode cX3_saysTheSameAs 8 = .ok (.if_icmp .eq 5, 3) := by decide +kernel
theorem dX3_saysTheSameAs_11 : decode cX3_saysTheSameAs 11 = .ok (.iconst 0, 1) := by decide +kernel
theorem dX3_saysTheSameAs_12 : decode cX3_saysTheSameAs 12 = .ok (.ireturn, 1) := by decide +kernel
theorem dX3_saysTheSameAs_13 : decode cX3_saysTheSameAs 13 = .ok (.iconst 0, 1) := by decide +kernel
theorem dX3_saysTheSameAs_14 : decode cX3_saysTheSameAs 14 = .ok (.istore_n 2, 1) := by decide +kernel
theorem dX3_saysTheSameAs_15 : decode cX3_saysTheSameAs 15 = .ok (.iload_n 2, 1) := by decide +kernel
theorem dX3_saysTheSameAs_16 : decode cX3_saysTheSameAs 16 = .ok (.iconst 3, 1) := by decide +kernel
theorem dX3_saysTheSameAs_17 : decode cX3_saysTheSameAs 17 = .ok (.aload_n 0, 1) := by decide +kernel
theorem dX3_saysTheSameAs_18 : decode cX3_saysTheSameAs 18 = .ok (.getfield 34, 3) := by decide +kernel
theorem dX3_saysTheSameAs_21 : decode cX3_saysTheSameAs 21 = .ok (.imul, 1) := by decide +kernel
theorem dX3_saysTheSameAs_22 : decode cX3_saysTheSameAs 22 = .ok (.if_icmp .ge 30, 3) := by decide +kernel
theorem dX3_saysTheSameAs_25 : decode cX3_saysTheSameAs 25 = .ok (.aload_n 0, 1) := by decide +kernel
theorem dX3_saysTheSameAs_26 : decode cX3_saysTheSameAs 26 = .ok (.getfield 19, 3) := by decide +kernel
theorem dX3_saysTheSameAs_29 : decode cX3_saysTheSameAs 29 = .ok (.iload_n 2, 1) := by decide +kernel
theorem dX3_saysTheSameAs_30 : decode cX3_saysTheSameAs 30 = .ok (.invokestatic 64, 3) := by decide +kernel
theorem dX3_saysTheSameAs_33 : decode cX3_saysTheSameAs 33 = .ok (.aload_n 1, 1) := by decide +kernel
theorem dX3_saysTheSameAs_34 : decode cX3_saysTheSameAs 34 = .ok (.getfield 19, 3) := by decide +kernel
theorem dX3_saysTheSameAs_37 : decode cX3_saysTheSameAs 37 = .ok (.iload_n 2, 1) := by decide +kernel
theorem dX3_saysTheSameAs_38 : decode cX3_saysTheSameAs 38 = .ok (.invokestatic 64, 3) := by decide +kernel
theorem dX3_saysTheSameAs_41 : decode cX3_saysTheSameAs 41 = .ok (.if_icmp .eq 5, 3) := by decide +kernel
theorem dX3_saysTheSameAs_44 : decode cX3_saysTheSameAs 44 = .ok (.iconst 0, 1) := by decide +kernel
theorem dX3_saysTheSameAs_45 : decode cX3_saysTheSameAs 45 = .ok (.ireturn, 1) := by decide +kernel
theorem dX3_saysTheSameAs_46 : decode cX3_saysTheSameAs 46 = .ok (.iinc 2 1, 3) := by decide +kernel
theorem dX3_saysTheSameAs_49 : decode cX3_saysTheSameAs 49 = .ok (.goto (-34), 3) := by decide +kernel
theorem dX3_saysTheSameAs_52 : decode cX3_saysTheSameAs 52 = .ok (.iconst 1, 1) := by decide +kernel
theorem dX3_saysTheSameAs_53 : decode cX3_saysTheSameAs 53 = .ok (.ireturn, 1) := by decide +kernel
theorem dX4_init_0 : decode cX4_init 0 = .ok (.aload_n 0, 1) := by decide +kernel
theorem dX4_init_1 : decode cX4_init 1 = .ok (.invokespecial 1, 3) := by decide +kernel
theorem dX4_init_4 : decode cX4_init 4 = .ok (.aload_n 0, 1) := by decide +kernel
theorem dX4_init_5 : decode cX4_init 5 = .ok (.new 7, 3) := by decide +kernel
theorem dX4_init_8 : decode cX4_init 8 = .ok (.dup, 1) := by decide +kernel
theorem dX4_init_9 : decode cX4_init 9 = .ok (.invokespecial 9, 3) := by decide +kernel
theorem dX4_init_12 : decode cX4_init 12 = .ok (.putfield 10, 3) := by decide +kernel
theorem dX4_init_15 : decode cX4_init 15 = .ok (.aload_n 0, 1) := by decide +kernel
theorem dX4_init_16 : decode cX4_init 16 = .ok (.new 16, 3) := by decide +kernel
theorem dX4_init_19 : decode cX4_init 19 = .ok (.dup, 1) := by decide +kernel
theorem dX4_init_20 : decode cX4_init 20 = .ok (.invokespecial 18, 3) := by decide +kernel
theorem dX4_init_23 : decode cX4_init 23 = .ok (.putfield 19, 3) := by decide +kernel
theorem dX4_init_26 : decode cX4_init 26 = .ok (.aload_n 0, 1) := by decide +kernel
theorem dX4_init_27 : decode cX4_init 27 = .ok (.new 23, 3) := by decide +kernel
theorem dX4_init_30 : decode cX4_init 30 = .ok (.dup, 1) := by decide +kernel
theorem dX4_init_31 : decode cX4_init 31 = .ok (.invokespecial 25, 3) := by decide +kernel
theorem dX4_init_34 : decode cX4_init 34 = .ok (.putfield 26, 3) := by decide +kernel
theorem dX4_init_37 : decode cX4_init 37 = .ok (.aload_n 0, 1) := by decide +kernel
theorem dX4_init_38 : decode cX4_init 38 = .ok (.iconst 2, 1) := by decide +kernel
theorem dX4_init_39 : decode cX4_init 39 = .ok (.anewarray 7, 3) := by decide +kernel
theorem dX4_init_42 : decode cX4_init 42 = .ok (.putfield 30, 3) := by decide +kernel
theorem dX4_init_45 : decode cX4_init 45 = .ok (.aload_n 0, 1) := by decide +kernel
theorem dX4_init_46 : decode cX4_init 46 = .ok (.new 34, 3) := by decide +kernel
theorem dX4_init_49 : decode cX4_init 49 = .ok (.dup, 1) := by decide +kernel
theorem dX4_init_50 : decode cX4_init 50 = .ok (.invokespecial 36, 3) := by decide +kernel
theorem dX4_init_53 : decode cX4_init 53 = .ok (.putfield 37, 3) := by decide +kernel
theorem dX4_init_56 : decode cX4_init 56 = .ok (.aload_n 0, 1) := by decide +kernel
theorem dX4_init_57 : decode cX4_init 57 = .ok (.new 34, 3) := by decide +kernel
theorem dX4_init_60 : decode cX4_init 60 = .ok (.dup, 1) := by decide +kernel
theorem dX4_init_61 : decode cX4_init 61 = .ok (.invokespecial 36, 3) := by decide +kernel
theorem dX4_init_64 : decode cX4_init 64 = .ok (.putfield 41, 3) := by decide +kernel
theorem dX4_init_67 : decode cX4_init 67 = .ok (.aload_n 0, 1) := by decide +kernel
theorem dX4_init_68 : decode cX4_init 68 = .ok (.new 7, 3) := by decide +kernel
theorem dX4_init_71 : decode cX4_init 71 = .ok (.dup, 1) := by decide +kernel
theorem dX4_init_72 : decode cX4_init 72 = .ok (.invokespecial 9, 3) := by decide +kernel
theorem dX4_init_75 : decode cX4_init 75 = .ok (.putfield 44, 3) := by decide +kernel
theorem dX4_init_78 : decode cX4_init 78 = .ok (.return_, 1) := by decide +kernel
theorem dX4_set_0 : decode cX4_set 0 = .ok (.iload_n 1, 1) := by decide +kernel
theorem dX4_set_1 : decode cX4_set 1 = .ok (.ifCond .lt 8, 3) := by decide +kernel
theorem dX4_set_4 : decode cX4_set 4 = .ok (.iload_n 1, 1) := by decide +kernel
theorem dX4_set_5 : decode cX4_set 5 = .ok (.iconst 3, 1) := by decide +kernel
theorem dX4_set_6 : decode cX4_set 6 = .ok (.if_icmp .lt 6, 3) := by decide +kernel
theorem dX4_set_9 : decode cX4_set 9 = .ok (.ldc 47, 2) := by decide +kernel
theorem dX4_set_11 : decode cX4_set 11 = .ok (.ireturn, 1) := by decide +kernel
theorem dX4_set_12 : decode cX4_set 12 = .ok (.iload_n 1, 1) := by decide +kernel
theorem dX4_set_13 : decode cX4_set 13 = .ok (.ifCond .ne 7, 3) := by decide +kernel
theorem dX4_set_16 : decode cX4_set 16 = .ok (.iconst 2, 1) := by decide +kernel
theorem dX4_set_17 : decode cX4_set 17 = .ok (.goto 4, 3) := by decide +kernel
theorem dX4_set_20 : decode cX4_set 20 = .ok (.iconst 1, 1) := by decide +kernel
theorem dX4_set_21 : decode cX4_set 21 = .ok (.istore_n 3, 1) := by decide +kernel
theorem dX4_set_22 : decode cX4_set 22 = .ok (.iload_n 2, 1) := by decide +kernel
theorem dX4_set_23 : decode cX4_set 23 = .ok (.iload_n 3, 1) := by decide +kernel
theorem dX4_set_24 : decode cX4_set 24 = .ok (.if_icmp .lt 9, 3) := by decide +kernel
theorem dX4_set_27 : decode cX4_set 27 = .ok (.iload_n 2, 1) := by decide +kernel
theorem dX4_set_28 : decode cX4_set 28 = .ok (.bipush 9, 2) := by decide +kernel
theorem dX4_set_30 : decode cX4_set 30 = .ok (.if_icmp .le 6, 3) := by decide +kernel
theorem dX4_set_33 : decode cX4_set 33 = .ok (.ldc 47, 2) := by decide +kernel
theorem dX4_set_35 : decode cX4_set 35 = .ok (.ireturn, 1) := by decide +kernel
theorem dX4_set_36 : decode cX4_set 36 = .ok (.aload_n 0, 1) := by decide +kernel
theorem dX4_set_37 : decode cX4_set 37 = .ok (.getfield 26, 3) := by decide +kernel
theorem dX4_set_40 : decode cX4_set 40 = .ok (.aload_n 0, 1) := by decide +kernel
theorem dX4_set_41 : decode cX4_set 41 = .ok (.getfield 10, 3) := by decide +kernel
theorem dX4_set_44 : decode cX4_set 44 = .ok (.invokevirtual 48, 3) := by decide +kernel
theorem dX4_set_47 : decode cX4_set 47 = .ok (.aload_n 0, 1) := by decide +kernel
theorem dX4_set_48 : decode cX4_set 48 = .ok (.getfield 10, 3) := by decide +kernel
theorem dX4_set_51 : decode cX4_set 51 = .ok (.getfield 52, 3) := by decide +kernel
theorem dX4_set_54 : decode cX4_set 54 = .ok (.iload_n 1, 1) := by decide +kernel
theorem dX4_set_55 : decode cX4_set 55 = .ok (.iaload, 1) := by decide +kernel
theorem dX4_set_56 : decode cX4_set 56 = .ok (.istore 4, 2) := by decide +kernel
theorem dX4_set_58 : decode cX4_set 58 = .ok (.aload_n 0, 1) := by decide +kernel
theorem dX4_set_59 : decode cX4_set 59 = .ok (.getfield 10, 3) := by decide +kernel
theorem dX4_set_62 : decode cX4_set 62 = .ok (.getfield 52, 3) := by decide +kernel
theorem dX4_set_65 : decode cX4_set 65 = .ok (.iload_n 1, 1) := by decide +kernel
theorem dX4_set_66 : decode cX4_set 66 = .ok (.iload_n 2, 1) := by decide +kernel
theorem dX4_set_67 : decode cX4_set 67 = .ok (.iastore, 1) := by decide +kernel
theorem dX4_set_68 : decode cX4_set 68 = .ok (.iload 4, 2) := by decide +kernel
theorem dX4_set_70 : decode cX4_set 70 = .ok (.ireturn, 1) := by decide +kernel
theorem dX4_eyes_0 : decode cX4_eyes 0 = .ok (.iload_n 1, 1) := by decide +kernel
theorem dX4_eyes_1 : decode cX4_eyes 1 = .ok (.invokestatic 56, 3) := by decide +kernel
theorem dX4_eyes_4 : decode cX4_eyes 4 = .ok (.ifCond .ne 6, 3) := by decide +kernel
theorem dX4_eyes_7 : decode cX4_eyes 7 = .ok (.ldc 60, 2) := by decide +kernel
theorem dX4_eyes_9 : decode cX4_eyes 9 = .ok (.ireturn, 1) := by decide +kernel
theorem dX4_eyes_10 : decode cX4_eyes 10 = .ok (.iload_n 2, 1) := by decide +kernel
theorem dX4_eyes_11 : decode cX4_eyes 11 = .ok (.invokestatic 61, 3) := by decide +kernel
theorem dX4_eyes_14 : decode cX4_eyes 14 = .ok (.ifCond .ne 6, 3) := by decide +kernel
theorem dX4_eyes_17 : decode cX4_eyes 17 = .ok (.ldc 47, 2) := by decide +kernel
theorem dX4_eyes_19 : decode cX4_eyes 19 = .ok (.ireturn, 1) := by decide +kernel
theorem dX4_eyes_20 : decode cX4_eyes 20 = .ok (.aload_n 0, 1) := by decide +kernel
theorem dX4_eyes_21 : decode cX4_eyes 21 = .ok (.getfield 26, 3) := by decide +kernel
theorem dX4_eyes_24 : decode cX4_eyes 24 = .ok (.aload_n 0, 1) := by decide +kernel
theorem dX4_eyes_25 : decode cX4_eyes 25 = .ok (.getfield 10, 3) := by decide +kernel
theorem dX4_eyes_28 : decode cX4_eyes 28 = .ok (.invokevirtual 48, 3) := by decide +kernel
theorem dX4_eyes_31 : decode cX4_eyes 31 = .ok (.aload_n 0, 1) := by decide +kernel
theorem dX4_eyes_32 : decode cX4_eyes 32 = .ok (.getfield 10, 3) := by decide +kernel
theorem dX4_eyes_35 : decode cX4_eyes 35 = .ok (.getfield 64, 3) := by decide +kernel
theorem dX4_eyes_38 : decode cX4_eyes 38 = .ok (.iload_n 1, 1) := by decide +kernel
theorem dX4_eyes_39 : decode cX4_eyes 39 = .ok (.iaload, 1) := by decide +kernel
theorem dX4_eyes_40 : decode cX4_eyes 40 = .ok (.istore_n 3, 1) := by decide +kernel
theorem dX4_eyes_41 : decode cX4_eyes 41 = .ok (.aload_n 0, 1) := by decide +kernel
theorem dX4_eyes_42 : decode cX4_eyes 42 = .ok (.getfield 10, 3) := by decide +kernel
theorem dX4_eyes_45 : decode cX4_eyes 45 = .ok (.getfield 64, 3) := by decide +kernel
theorem dX4_eyes_48 : decode cX4_eyes 48 = .ok (.iload_n 1, 1) := by decide +kernel
theorem dX4_eyes_49 : decode cX4_eyes 49 = .ok (.iload_n 2, 1) := by decide +kernel
theorem dX4_eyes_50 : decode cX4_eyes 50 = .ok (.iastore, 1) := by decide +kernel
theorem dX4_eyes_51 : decode cX4_eyes 51 = .ok (.iload_n 3, 1) := by decide +kernel
theorem dX4_eyes_52 : decode cX4_eyes 52 = .ok (.ireturn, 1) := by decide +kernel
theorem dX4_bow_0 : decode cX4_bow 0 = .ok (.iload_n 1, 1) := by decide +kernel
theorem dX4_bow_1 : decode cX4_bow 1 = .ok (.iconst 1, 1) := by decide +kernel
theorem dX4_bow_2 : decode cX4_bow 2 = .ok (.if_icmp .lt 27, 3) := by decide +kernel
theorem dX4_bow_5 : decode cX4_bow 5 = .ok (.iload_n 1, 1) := by decide +kernel
theorem dX4_bow_6 : decode cX4_bow 6 = .ok (.iconst 3, 1) := by decide +kernel
theorem dX4_bow_7 : decode cX4_bow 7 = .ok (.if_icmp .gt 22, 3) := by decide +kernel
theorem dX4_bow_10 : decode cX4_bow 10 = .ok (.iload_n 2, 1) := by decide +kernel
theorem dX4_bow_11 : decode cX4_bow 11 = .ok (.ifCond .lt 18, 3) := by decide +kernel
theorem dX4_bow_14 : decode cX4_bow 14 = .ok (.iload_n 2, 1) := by decide +kernel
theorem dX4_bow_15 : decode cX4_bow 15 = .ok (.iconst 2, 1) := by decide +kernel
theorem dX4_bow_16 : decode cX4_bow 16 = .ok (.if_icmp .ge 13, 3) := by decide +kernel
theorem dX4_bow_19 : decode cX4_bow 19 = .ok (.iload_n 3, 1) := by decide +kernel
theorem dX4_bow_20 : decode cX4_bow 20 = .ok (.ifCond .lt 9, 3) := by decide +kernel
theorem dX4_bow_23 : decode cX4_bow 23 = .ok (.iload_n 3, 1) := by decide +kernel
theorem dX4_bow_24 : decode cX4_bow 24 = .ok (.bipush 9, 2) := by decide +kernel
theorem dX4_bow_26 : decode cX4_bow 26 = .ok (.if_icmp .le 6, 3) := by decide +kernel
theorem dX4_bow_29 : decode cX4_bow 29 = .ok (.ldc 47, 2) := by decide +kernel
theorem dX4_bow_31 : decode cX4_bow 31 = .ok (.ireturn, 1) := by decide +kernel
theorem dX4_bow_32 : decode cX4_bow 32 = .ok (.aload_n 0, 1) := by decide +kernel
theorem dX4_bow_33 : decode cX4_bow 33 = .ok (.getfield 10, 3) := by decide +kernel
theorem dX4_bow_36 : decode cX4_bow 36 = .ok (.getfield 67, 3) := by decide +kernel
theorem dX4_bow_39 : decode cX4_bow 39 = .ok (.bipush 24, 2) := by decide +kernel
theorem dX4_bow_41 : decode cX4_bow 41 = .ok (.if_icmp .lt 6, 3) := by decide +kernel
theorem dX4_bow_44 : decode cX4_bow 44 = .ok (.ldc 71, 2) := by decide +kernel
theorem dX4_bow_46 : decode cX4_bow 46 = .ok (.ireturn, 1) := by decide +kernel
theorem dX4_bow_47 : decode cX4_bow 47 = .ok (.aload_n 0, 1) := by decide +kernel
theorem dX4_bow_48 : decode cX4_bow 48 = .ok (.getfield 26, 3) := by decide +kernel
theorem dX4_bow_51 : decode cX4_bow 51 = .ok (.aload_n 0, 1) := by decide +kernel
theorem dX4_bow_52 : decode cX4_bow 52 = .ok (.getfield 10, 3) := by decide +kernel
theorem dX4_bow_55 : decode cX4_bow 55 = .ok (.invokevirtual 48, 3) := by decide +kernel
theorem dX4_bow_58 : decode cX4_bow 58 = .ok (.aload_n 0, 1) := by decide +kernel
theorem dX4_bow_59 : decode cX4_bow 59 = .ok (.getfield 10, 3) := by decide +kernel
theorem dX4_bow_62 : decode cX4_bow 62 = .ok (.iload_n 1, 1) := by decide +kernel
theorem dX4_bow_63 : decode cX4_bow 63 = .ok (.iload_n 2, 1) := by decide +kernel
theorem dX4_bow_64 : decode cX4_bow 64 = .ok (.invokestatic 72, 3) := by decide +kernel
theorem dX4_bow_67 : decode cX4_bow 67 = .ok (.iload_n 3, 1) := by decide +kernel
theorem dX4_bow_68 : decode cX4_bow 68 = .ok (.invokevirtual 76, 3) := by decide +kernel
theorem dX4_bow_71 : decode cX4_bow 71 = .ok (.aload_n 0, 1) := by decide +kernel
theorem dX4_bow_72 : decode cX4_bow 72 = .ok (.getfield 10, 3) := by decide +kernel
theorem dX4_bow_75 : decode cX4_bow 75 = .ok (.getfield 67, 3) := by decide +kernel
theorem dX4_bow_78 : decode cX4_bow 78 = .ok (.ireturn, 1) := by decide +kernel
theorem dX4_takeBack_0 : decode cX4_takeBack 0 = .ok (.aload_n 0, 1) := by decide +kernel
theorem dX4_takeBack_1 : decode cX4_takeBack 1 = .ok (.getfield 10, 3) := by decide +kernel
theorem dX4_takeBack_4 : decode cX4_takeBack 4 = .ok (.getfield 67, 3) := by decide +kernel
theorem dX4_takeBack_7 : decode cX4_takeBack 7 = .ok (.ifCond .gt 6, 3) := by decide +kernel
theorem dX4_takeBack_10 : decode cX4_takeBack 10 = .ok (.ldc 80, 2) := by decide +kernel
theorem dX4_takeBack_12 : decode cX4_takeBack 12 = .ok (.ireturn, 1) := by decide +kernel
theorem dX4_takeBack_13 : decode cX4_takeBack 13 = .ok (.aload_n 0, 1) := by decide +kernel
theorem dX4_takeBack_14 : decode cX4_takeBack 14 = .ok (.getfield 26, 3) := by decide +kernel
theorem dX4_takeBack_17 : decode cX4_takeBack 17 = .ok (.aload_n 0, 1) := by decide +kernel
theorem dX4_takeBack_18 : decode cX4_takeBack 18 = .ok (.getfield 10, 3) := by decide +kernel
theorem dX4_takeBack_21 : decode cX4_takeBack 21 = .ok (.invokevirtual 48, 3) := by decide +kernel
theorem dX4_takeBack_24 : decode cX4_takeBack 24 = .ok (.aload_n 0, 1) := by decide +kernel
theorem dX4_takeBack_25 : decode cX4_takeBack 25 = .ok (.getfield 10, 3) := by decide +kernel
theorem dX4_takeBack_28 : decode cX4_takeBack 28 = .ok (.dup, 1) := by decide +kernel
theorem dX4_takeBack_29 : decode cX4_takeBack 29 = .ok (.getfield 67, 3) := by decide +kernel
theorem dX4_takeBack_32 : decode cX4_takeBack 32 = .ok (.iconst 1, 1) := by decide +kernel
theorem dX4_takeBack_33 : decode cX4_takeBack 33 = .ok (.isub, 1) := by decide +kernel
theorem dX4_takeBack_34 : decode cX4_takeBack 34 = .ok (.putfield 67, 3) := by decide +kernel
theorem dX4_takeBack_37 : decode cX4_takeBack 37 = .ok (.aload_n 0, 1) := by decide +kernel
theorem dX4_takeBack_38 : decode cX4_takeBack 38 = .ok (.getfield 10, 3) := by decide +kernel
theorem dX4_takeBack_41 : decode cX4_takeBack 41 = .ok (.aload_n 0, 1) := by decide +kernel
theorem dX4_takeBack_42 : decode cX4_takeBack 42 = .ok (.getfield 10, 3) := by decide +kernel
theorem dX4_takeBack_45 : decode cX4_takeBack 45 = .ok (.getfield 67, 3) := by decide +kernel
theorem dX4_takeBack_48 : decode cX4_takeBack 48 = .ok (.invokevirtual 81, 3) := by decide +kernel
theorem dX4_takeBack_51 : decode cX4_takeBack 51 = .ok (.ireturn, 1) := by decide +kernel
theorem dX4_read_0 : decode cX4_read 0 = .ok (.aload_n 0, 1) := by decide +kernel
theorem dX4_read_1 : decode cX4_read 1 = .ok (.getfield 19, 3) := by decide +kernel
theorem dX4_read_4 : decode cX4_read 4 = .ok (.invokevirtual 85, 3) := by decide +kernel
theorem dX4_read_7 : decode cX4_read 7 = .ok (.ldc 89, 2) := by decide +kernel
theorem dX4_read_9 : decode cX4_read 9 = .ok (.if_icmp .eq 6, 3) := by decide +kernel
theorem dX4_read_12 : decode cX4_read 12 = .ok (.ldc 90, 2) := by decide +kernel
theorem dX4_read_14 : decode cX4_read 14 = .ok (.ireturn, 1) := by decide +kernel
theorem dX4_read_15 : decode cX4_read 15 = .ok (.aload_n 0, 1) := by decide +kernel
theorem dX4_read_16 : decode cX4_read 16 = .ok (.getfield 10, 3) := by decide +kernel
theorem dX4_read_19 : decode cX4_read 19 = .ok (.getfield 67, 3) := by decide +kernel
theorem dX4_read_22 : decode cX4_read 22 = .ok (.aload_n 0, 1) := by decide +kernel
theorem dX4_read_23 : decode cX4_read 23 = .ok (.getfield 19, 3) := by decide +kernel
theorem dX4_read_26 : decode cX4_read 26 = .ok (.invokevirtual 91, 3) := by decide +kernel
theorem dX4_read_29 : decode cX4_read 29 = .ok (.iadd, 1) := by decide +kernel
theorem dX4_read_30 : decode cX4_read 30 = .ok (.bipush 24, 2) := by decide +kernel
theorem dX4_read_32 : decode cX4_read 32 = .ok (.if_icmp .le 6, 3) := by decide +kernel
theorem dX4_read_35 : decode cX4_read 35 = .ok (.ldc 71, 2) := by decide +kernel
theorem dX4_read_37 : decode cX4_read 37 = .ok (.ireturn, 1) := by decide +kernel
theorem dX4_read_38 : decode cX4_read 38 = .ok (.aload_n 0, 1) := by decide +kernel
theorem dX4_read_39 : decode cX4_read 39 = .ok (.getfield 26, 3) := by decide +kernel
theorem dX4_read_42 : decode cX4_read 42 = .ok (.aload_n 0, 1) := by decide +kernel
theorem dX4_read_43 : decode cX4_read 43 = .ok (.getfield 10, 3) := by decide +kernel
theorem dX4_read_46 : decode cX4_read 46 = .ok (.invokevirtual 48, 3) := by decide +kernel
theorem dX4_read_49 : decode cX4_read 49 = .ok (.aload_n 0, 1) := by decide +kernel
theorem dX4_read_50 : decode cX4_read 50 = .ok (.getfield 19, 3) := by decide +kernel
theorem dX4_read_53 : decode cX4_read 53 = .ok (.aload_n 0, 1) := by decide +kernel
theorem dX4_read_54 : decode cX4_read 54 = .ok (.getfield 10, 3) := by decide +kernel
theorem dX4_read_57 : decode cX4_read 57 = .ok (.invokevirtual 94, 3) := by decide +kernel
theorem dX4_read_60 : decode cX4_read 60 = .ok (.aload_n 0, 1) := by decide +kernel
theorem dX4_read_61 : decode cX4_read 61 = .ok (.getfield 19, 3) := by decide +kernel
theorem dX4_read_64 : decode cX4_read 64 = .ok (.iconst 0, 1) := by decide +kernel
theorem dX4_read_65 : decode cX4_read 65 = .ok (.putfield 97, 3) := by decide +kernel
theorem dX4_read_68 : decode cX4_read 68 = .ok (.aload_n 0, 1) := by decide +kernel
theorem dX4_read_69 : decode cX4_read 69 = .ok (.getfield 10, 3) := by decide +kernel
theorem dX4_read_72 : decode cX4_read 72 = .ok (.getfield 67, 3) := by decide +kernel
theorem dX4_read_75 : decode cX4_read 75 = .ok (.ireturn, 1) := by decide +kernel
theorem dX4_hush_0 : decode cX4_hush 0 = .ok (.aload_n 0, 1) := by decide +kernel
theorem dX4_hush_1 : decode cX4_hush 1 = .ok (.getfield 26, 3) := by decide +kernel
theorem dX4_hush_4 : decode cX4_hush 4 = .ok (.aload_n 0, 1) := by decide +kernel
theorem dX4_hush_5 : decode cX4_hush 5 = .ok (.getfield 10, 3) := by decide +kernel
theorem dX4_hush_8 : decode cX4_hush 8 = .ok (.invokevirtual 48, 3) := by decide +kernel
theorem dX4_hush_11 : decode cX4_hush 11 = .ok (.aload_n 0, 1) := by decide +kernel
theorem dX4_hush_12 : decode cX4_hush 12 = .ok (.getfield 10, 3) := by decide +kernel
theorem dX4_hush_15 : decode cX4_hush 15 = .ok (.getfield 67, 3) := by decide +kernel
theorem dX4_hush_18 : decode cX4_hush 18 = .ok (.istore_n 1, 1) := by decide +kernel
theorem dX4_hush_19 : decode cX4_hush 19 = .ok (.aload_n 0, 1) := by decide +kernel
theorem dX4_hush_20 : decode cX4_hush 20 = .ok (.getfield 10, 3) := by decide +kernel
theorem dX4_hush_23 : decode cX4_hush 23 = .ok (.iconst 0, 1) := by decide +kernel
theorem dX4_hush_24 : decode cX4_hush 24 = .ok (.putfield 67, 3) := by decide +kernel
theorem dX4_hush_27 : decode cX4_hush 27 = .ok (.iload_n 1, 1) := by decide +kernel
theorem dX4_hush_28 : decode cX4_hush 28 = .ok (.ireturn, 1) := by decide +kernel
theorem dX4_give_0 : decode cX4_give 0 = .ok (.aload_n 0, 1) := by decide +kernel
theorem dX4_give_1 : decode cX4_give 1 = .ok (.invokevirtual 100, 3) := by decide +kernel
theorem dX4_give_4 : decode cX4_give 4 = .ok (.ifCond .ne 6, 3) := by decide +kernel
theorem dX4_give_7 : decode cX4_give 7 = .ok (.ldc 80, 2) := by decide +kernel
theorem dX4_give_9 : decode cX4_give 9 = .ok (.ireturn, 1) := by decide +kernel
theorem dX4_give_10 : decode cX4_give 10 = .ok (.aload_n 0, 1) := by decide +kernel
theorem dX4_give_11 : decode cX4_give 11 = .ok (.getfield 26, 3) := by decide +kernel
theorem dX4_give_14 : decode cX4_give 14 = .ok (.aload_n 0, 1) := by decide +kernel
theorem dX4_give_15 : decode cX4_give 15 = .ok (.getfield 10, 3) := by decide +kernel
theorem dX4_give_18 : decode cX4_give 18 = .ok (.invokevirtual 48, 3) := by decide +kernel
theorem dX4_give_21 : decode cX4_give 21 = .ok (.iconst 0, 1) := by decide +kernel
theorem dX4_give_22 : decode cX4_give 22 = .ok (.istore_n 1, 1) := by decide +kernel
theorem dX4_give_23 : decode cX4_give 23 = .ok (.iconst 0, 1) := by decide +kernel
theorem dX4_give_24 : decode cX4_give 24 = .ok (.istore_n 2, 1) := by decide +kernel
theorem dX4_give_25 : decode cX4_give 25 = .ok (.iload_n 2, 1) := by decide +kernel
theorem dX4_give_26 : decode cX4_give 26 = .ok (.bipush 6, 2) := by decide +kernel
theorem dX4_give_28 : decode cX4_give 28 = .ok (.if_icmp .ge 55, 3) := by decide +kernel
theorem dX4_give_31 : decode cX4_give 31 = .ok (.aload_n 0, 1) := by decide +kernel
theorem dX4_give_32 : decode cX4_give 32 = .ok (.iload_n 2, 1) := by decide +kernel
theorem dX4_give_33 : decode cX4_give 33 = .ok (.invokevirtual 104, 3) := by decide +kernel
theorem dX4_give_36 : decode cX4_give 36 = .ok (.iload_n 1, 1) := by decide +kernel
theorem dX4_give_37 : decode cX4_give 37 = .ok (.aload_n 0, 1) := by decide +kernel
theorem dX4_give_38 : decode cX4_give 38 = .ok (.iload_n 2, 1) := by decide +kernel
theorem dX4_give_39 : decode cX4_give 39 = .ok (.invokevirtual 108, 3) := by decide +kernel
theorem dX4_give_42 : decode cX4_give 42 = .ok (.iadd, 1) := by decide +kernel
theorem dX4_give_43 : decode cX4_give 43 = .ok (.istore_n 1, 1) := by decide +kernel
theorem dX4_give_44 : decode cX4_give 44 = .ok (.iconst 0, 1) := by decide +kernel
theorem dX4_give_45 : decode cX4_give 45 = .ok (.istore_n 3, 1) := by decide +kernel
theorem dX4_give_46 : decode cX4_give 46 = .ok (.iload_n 3, 1) := by decide +kernel
theorem dX4_give_47 : decode cX4_give 47 = .ok (.bipush 6, 2) := by decide +kernel
theorem dX4_give_49 : decode cX4_give 49 = .ok (.if_icmp .ge 28, 3) := by decide +kernel
theorem dX4_give_52 : decode cX4_give 52 = .ok (.aload_n 0, 1) := by decide +kernel
theorem dX4_give_53 : decode cX4_give 53 = .ok (.getfield 10, 3) := by decide +kernel
theorem dX4_give_56 : decode cX4_give 56 = .ok (.getfield 111, 3) := by decide +kernel
theorem dX4_give_59 : decode cX4_give 59 = .ok (.iload_n 2, 1) := by decide +kernel
theorem dX4_give_60 : decode cX4_give 60 = .ok (.iload_n 3, 1) := by decide +kernel
theorem dX4_give_61 : decode cX4_give 61 = .ok (.invokestatic 114, 3) := by decide +kernel
theorem dX4_give_64 : decode cX4_give 64 = .ok (.aload_n 0, 1) := by decide +kernel
theorem dX4_give_65 : decode cX4_give 65 = .ok (.iload_n 2, 1) := by decide +kernel
theorem dX4_give_66 : decode cX4_give 66 = .ok (.iload_n 3, 1) := by decide +kernel
theorem dX4_give_67 : decode cX4_give 67 = .ok (.invokevirtual 117, 3) := by decide +kernel
theorem dX4_give_70 : decode cX4_give 70 = .ok (.iastore, 1) := by decide +kernel
theorem dX4_give_71 : decode cX4_give 71 = .ok (.iinc 3 1, 3) := by decide +kernel
theorem dX4_give_74 : decode cX4_give 74 = .ok (.goto (-28), 3) := by decide +kernel
theorem dX4_give_77 : decode cX4_give 77 = .ok (.iinc 2 1, 3) := by decide +kernel
theorem dX4_give_80 : decode cX4_give 80 = .ok (.goto (-55), 3) := by decide +kernel
theorem dX4_give_83 : decode cX4_give 83 = .ok (.aload_n 0, 1) := by decide +kernel
theorem dX4_give_84 : decode cX4_give 84 = .ok (.getfield 10, 3) := by decide +kernel
theorem dX4_give_87 : decode cX4_give 87 = .ok (.iconst 0, 1) := by decide +kernel
theorem dX4_give_88 : decode cX4_give 88 = .ok (.putfield 67, 3) := by decide +kernel
theorem dX4_give_91 : decode cX4_give 91 = .ok (.aload_n 0, 1) := by decide +kernel
theorem dX4_give_92 : decode cX4_give 92 = .ok (.getfield 10, 3) := by decide +kernel
theorem dX4_give_95 : decode cX4_give 95 = .ok (.dup, 1) := by decide +kernel
theorem dX4_give_96 : decode cX4_give 96 = .ok (.getfield 120, 3) := by decide +kernel
theorem dX4_give_99 : decode cX4_give 99 = .ok (.iconst 1, 1) := by decide +kernel
theorem dX4_give_100 : decode cX4_give 100 = .ok (.iadd, 1) := by decide +kernel
theorem dX4_give_101 : decode cX4_give 101 = .ok (.putfield 120, 3) := by decide +kernel
theorem dX4_give_104 : decode cX4_give 104 = .ok (.aload_n 0, 1) := by decide +kernel
theorem dX4_give_105 : decode cX4_give 105 = .ok (.getfield 10, 3) := by decide +kernel
theorem dX4_give_108 : decode cX4_give 108 = .ok (.dup, 1) := by decide +kernel
theorem dX4_give_109 : decode cX4_give 109 = .ok (.getfield 123, 3) := by decide +kernel
theorem dX4_give_112 : decode cX4_give 112 = .ok (.iload_n 1, 1) := by decide +kernel
theorem dX4_give_113 : decode cX4_give 113 = .ok (.iadd, 1) := by decide +kernel
theorem dX4_give_114 : decode cX4_give 114 = .ok (.putfield 123, 3) := by decide +kernel
theorem dX4_give_117 : decode cX4_give 117 = .ok (.iload_n 1, 1) := by decide +kernel
theorem dX4_give_118 : decode cX4_give 118 = .ok (.ireturn, 1) := by decide +kernel
theorem dX4_speech_0 : decode cX4_speech 0 = .ok (.iload_n 1, 1) := by decide +kernel
theorem dX4_speech_1 : decode cX4_speech 1 = .ok (.invokestatic 61, 3) := by decide +kernel
theorem dX4_speech_4 : decode cX4_speech 4 = .ok (.ifCond .ne 6, 3) := by decide +kernel
theorem dX4_speech_7 : decode cX4_speech 7 = .ok (.ldc 47, 2) := by decide +kernel
theorem dX4_speech_9 : decode cX4_speech 9 = .ok (.ireturn, 1) := by decide +kernel
theorem dX4_speech_10 : decode cX4_speech 10 = .ok (.aload_n 0, 1) := by decide +kernel
theorem dX4_speech_11 : decode cX4_speech 11 = .ok (.getfield 37, 3) := by decide +kernel
theorem dX4_speech_14 : decode cX4_speech 14 = .ok (.aload_n 0, 1) := by decide +kernel
theorem dX4_speech_15 : decode cX4_speech 15 = .ok (.getfield 10, 3) := by decide +kernel
theorem dX4_speech_18 : decode cX4_speech 18 = .ok (.iload_n 1, 1) := by decide +kernel
theorem dX4_speech_19 : decode cX4_speech 19 = .ok (.invokevirtual 126, 3) := by decide +kernel
theorem dX4_speech_22 : decode cX4_speech 22 = .ok (.iload_n 2, 1) := by decide +kernel
theorem dX4_speech_23 : decode cX4_speech 23 = .ok (.tableswitch 61 0 3 #[29, 37, 45, 53], 29) := by decide +kernel
theorem dX4_speech_52 : decode cX4_speech 52 = .ok (.aload_n 0, 1) := by decide +kernel
theorem dX4_speech_53 : decode cX4_speech 53 = .ok (.getfield 37, 3) := by decide +kernel
theorem dX4_speech_56 : decode cX4_speech 56 = .ok (.getfield 130, 3) := by decide +kernel
theorem dX4_speech_59 : decode cX4_speech 59 = .ok (.ireturn, 1) := by decide +kernel
theorem dX4_speech_60 : decode cX4_speech 60 = .ok (.aload_n 0, 1) := by decide +kernel
theorem dX4_speech_61 : decode cX4_speech 61 = .ok (.getfield 37, 3) := by decide +kernel
theorem dX4_speech_64 : decode cX4_speech 64 = .ok (.getfield 133, 3) := by decide +kernel
theorem dX4_speech_67 : decode cX4_speech 67 = .ok (.ireturn, 1) := by decide +kernel
theorem dX4_speech_68 : decode cX4_speech 68 = .ok (.aload_n 0, 1) := by decide +kernel
theorem dX4_speech_69 : decode cX4_speech 69 = .ok (.getfield 37, 3) := by decide +kernel
theorem dX4_speech_72 : decode cX4_speech 72 = .ok (.getfield 136, 3) := by decide +kernel
theorem dX4_speech_75 : decode cX4_speech 75 = .ok (.ireturn, 1) := by decide +kernel
theorem dX4_speech_76 : decode cX4_speech 76 = .ok (.aload_n 0, 1) := by decide +kernel
theorem dX4_speech_77 : decode cX4_speech 77 = .ok (.getfield 37, 3) := by decide +kernel
theorem dX4_speech_80 : decode cX4_speech 80 = .ok (.getfield 139, 3) := by decide +kernel
theorem dX4_speech_83 : decode cX4_speech 83 = .ok (.ireturn, 1) := by decide +kernel
theorem dX4_speech_84 : decode cX4_speech 84 = .ok (.ldc 47, 2) := by decide +kernel
theorem dX4_speech_86 : decode cX4_speech 86 = .ok (.ireturn, 1) := by decide +kernel
theorem dX4_word_0 : decode cX4_word 0 = .ok (.iload_n 1, 1) := by decide +kernel
theorem dX4_word_1 : decode cX4_word 1 = .ok (.invokestatic 61, 3) := by decide +kernel
theorem dX4_word_4 : decode cX4_word 4 = .ok (.ifCond .ne 6, 3) := by decide +kernel
theorem dX4_word_7 : decode cX4_word 7 = .ok (.ldc 47, 2) := by decide +kernel
theorem dX4_word_9 : decode cX4_word 9 = .ok (.ireturn, 1) := by decide +kernel
theorem dX4_word_10 : decode cX4_word 10 = .ok (.aload_n 0, 1) := by decide +kernel
theorem dX4_word_11 : decode cX4_word 11 = .ok (.getfield 37, 3) := by decide +kernel
theorem dX4_word_14 : decode cX4_word 14 = .ok (.aload_n 0, 1) := by decide +kernel
theorem dX4_word_15 : decode cX4_word 15 = .ok (.getfield 10, 3) := by decide +kernel
theorem dX4_word_18 : decode cX4_word 18 = .ok (.iload_n 1, 1) := by decide +kernel
theorem dX4_word_19 : decode cX4_word 19 = .ok (.invokevirtual 126, 3) := by decide +kernel
theorem dX4_word_22 : decode cX4_word 22 = .ok (.iload_n 2, 1) := by decide +kernel
theorem dX4_word_23 : decode cX4_word 23 = .ok (.ifCond .lt 14, 3) := by decide +kernel
theorem dX4_word_26 : decode cX4_word 26 = .ok (.iload_n 2, 1) := by decide +kernel
theorem dX4_word_27 : decode cX4_word 27 = .ok (.aload_n 0, 1) := by decide +kernel
theorem dX4_word_28 : decode cX4_word 28 = .ok (.getfield 37, 3) := by decide +kernel
theorem dX4_word_31 : decode cX4_word 31 = .ok (.getfield 130, 3) := by decide +kernel
theorem dX4_word_34 : decode cX4_word 34 = .ok (.if_icmp .lt 6, 3) := by decide +kernel
theorem dX4_word_37 : decode cX4_word 37 = .ok (.ldc 60, 2) := by decide +kernel
theorem dX4_word_39 : decode cX4_word 39 = .ok (.ireturn, 1) := by decide +kernel
theorem dX4_word_40 : decode cX4_word 40 = .ok (.aload_n 0, 1) := by decide +kernel
theorem dX4_word_41 : decode cX4_word 41 = .ok (.getfield 37, 3) := by decide +kernel
theorem dX4_word_44 : decode cX4_word 44 = .ok (.getfield 142, 3) := by decide +kernel
theorem dX4_word_47 : decode cX4_word 47 = .ok (.iload_n 2, 1) := by decide +kernel
theorem dX4_word_48 : decode cX4_word 48 = .ok (.invokestatic 145, 3) := by decide +kernel
theorem dX4_word_51 : decode cX4_word 51 = .ok (.ireturn, 1) := by decide +kernel
theorem dX4_sentence_0 : decode cX4_sentence 0 = .ok (.iload_n 1, 1) := by decide +kernel
theorem dX4_sentence_1 : decode cX4_sentence 1 = .ok (.invokestatic 61, 3) := by decide +kernel
theorem dX4_sentence_4 : decode cX4_sentence 4 = .ok (.ifCond .eq 12, 3) := by decide +kernel
theorem dX4_sentence_7 : decode cX4_sentence 7 = .ok (.iload_n 3, 1) := by decide +kernel
theorem dX4_sentence_8 : decode cX4_sentence 8 = .ok (.ifCond .lt 8, 3) := by decide +kernel
theorem dX4_sentence_11 : decode cX4_sentence 11 = .ok (.iload_n 3, 1) := by decide +kernel
theorem dX4_sentence_12 : decode cX4_sentence 12 = .ok (.iconst 3, 1) := by decide +kernel
theorem dX4_sentence_13 : decode cX4_sentence 13 = .ok (.if_icmp .le 6, 3) := by decide +kernel
theorem dX4_sentence_16 : decode cX4_sentence 16 = .ok (.ldc 47, 2) := by decide +kernel
theorem dX4_sentence_18 : decode cX4_sentence 18 = .ok (.ireturn, 1) := by decide +kernel
theorem dX4_sentence_19 : decode cX4_sentence 19 = .ok (.aload_n 0, 1) := by decide +kernel
theorem dX4_sentence_20 : decode cX4_sentence 20 = .ok (.getfield 37, 3) := by decide +kernel
theorem dX4_sentence_23 : decode cX4_sentence 23 = .ok (.aload_n 0, 1) := by decide +kernel
theorem dX4_sentence_24 : decode cX4_sentence 24 = .ok (.getfield 10, 3) := by decide +kernel
theorem dX4_sentence_27 : decode cX4_sentence 27 = .ok (.iload_n 1, 1) := by decide +kernel
theorem dX4_sentence_28 : decode cX4_sentence 28 = .ok (.invokevirtual 126, 3) := by decide +kernel
theorem dX4_sentence_31 : decode cX4_sentence 31 = .ok (.iload_n 2, 1) := by decide +kernel
theorem dX4_sentence_32 : decode cX4_sentence 32 = .ok (.ifCond .lt 14, 3) := by decide +kernel
theorem dX4_sentence_35 : decode cX4_sentence 35 = .ok (.iload_n 2, 1) := by decide +kernel
theorem dX4_sentence_36 : decode cX4_sentence 36 = .ok (.aload_n 0, 1) := by decide +kernel
theorem dX4_sentence_37 : decode cX4_sentence 37 = .ok (.getfield 37, 3) := by decide +kernel
theorem dX4_sentence_40 : decode cX4_sentence 40 = .ok (.getfield 136, 3) := by decide +kernel
theorem dX4_sentence_43 : decode cX4_sentence 43 = .ok (.if_icmp .lt 6, 3) := by decide +kernel
theorem dX4_sentence_46 : decode cX4_sentence 46 = .ok (.ldc 60, 2) := by decide +kernel
theorem dX4_sentence_48 : decode cX4_sentence 48 = .ok (.ireturn, 1) := by decide +kernel
theorem dX4_sentence_49 : decode cX4_sentence 49 = .ok (.iload_n 3, 1) := by decide +kernel
theorem dX4_sentence_50 : decode cX4_sentence 50 = .ok (.iconst 3, 1) := by decide +kernel
theorem dX4_sentence_51 : decode cX4_sentence 51 = .ok (.if_icmp .ne 20, 3) := by decide +kernel
theorem dX4_sentence_54 : decode cX4_sentence 54 = .ok (.aload_n 0, 1) := by decide +kernel
theorem dX4_sentence_55 : decode cX4_sentence 55 = .ok (.getfield 37, 3) := by decide +kernel
theorem dX4_sentence_58 : decode cX4_sentence 58 = .ok (.iload_n 2, 1) := by decide +kernel
theorem dX4_sentence_59 : decode cX4_sentence 59 = .ok (.invokevirtual 149, 3) := by decide +kernel
theorem dX4_sentence_62 : decode cX4_sentence 62 = .ok (.ifCond .eq 7, 3) := by decide +kernel
theorem dX4_sentence_65 : decode cX4_sentence 65 = .ok (.iconst 1, 1) := by decide +kernel
theorem dX4_sentence_66 : decode cX4_sentence 66 = .ok (.goto 4, 3) := by decide +kernel
theorem dX4_sentence_69 : decode cX4_sentence 69 = .ok (.iconst 0, 1) := by decide +kernel
theorem dX4_sentence_70 : decode cX4_sentence 70 = .ok (.ireturn, 1) := by decide +kernel
theorem dX4_sentence_71 : decode cX4_sentence 71 = .ok (.aload_n 0, 1) := by decide +kernel
theorem dX4_sentence_72 : decode cX4_sentence 72 = .ok (.getfield 37, 3) := by decide +kernel
theorem dX4_sentence_75 : decode cX4_sentence 75 = .ok (.iload_n 2, 1) := by decide +kernel
theorem dX4_sentence_76 : decode cX4_sentence 76 = .ok (.iload_n 3, 1) := by decide +kernel
theorem dX4_sentence_77 : decode cX4_sentence 77 = .ok (.invokevirtual 152, 3) := by decide +kernel
theorem dX4_sentence_80 : decode cX4_sentence 80 = .ok (.ireturn, 1) := by decide +kernel
theorem dX4_favour_0 : decode cX4_favour 0 = .ok (.iload_n 1, 1) := by decide +kernel
theorem dX4_favour_1 : decode cX4_favour 1 = .ok (.invokestatic 56, 3) := by decide +kernel
theorem dX4_favour_4 : decode cX4_favour 4 = .ok (.ifCond .eq 10, 3) := by decide +kernel
theorem dX4_favour_7 : decode cX4_favour 7 = .ok (.iload_n 2, 1) := by decide +kernel
theorem dX4_favour_8 : decode cX4_favour 8 = .ok (.invokestatic 56, 3) := by decide +kernel
theorem dX4_favour_11 : decode cX4_favour 11 = .ok (.ifCond .ne 6, 3) := by decide +kernel
theorem dX4_favour_14 : decode cX4_favour 14 = .ok (.ldc 60, 2) := by decide +kernel
theorem dX4_favour_16 : decode cX4_favour 16 = .ok (.ireturn, 1) := by decide +kernel
theorem dX4_favour_17 : decode cX4_favour 17 = .ok (.aload_n 0, 1) := by decide +kernel
theorem dX4_favour_18 : decode cX4_favour 18 = .ok (.getfield 10, 3) := by decide +kernel
theorem dX4_favour_21 : decode cX4_favour 21 = .ok (.getfield 111, 3) := by decide +kernel
theorem dX4_favour_24 : decode cX4_favour 24 = .ok (.iload_n 1, 1) := by decide +kernel
theorem dX4_favour_25 : decode cX4_favour 25 = .ok (.iload_n 2, 1) := by decide +kernel
theorem dX4_favour_26 : decode cX4_favour 26 = .ok (.invokestatic 114, 3) := by decide +kernel
theorem dX4_favour_29 : decode cX4_favour 29 = .ok (.iaload, 1) := by decide +kernel
theorem dX4_favour_30 : decode cX4_favour 30 = .ok (.ireturn, 1) := by decide +kernel
theorem dX4_count_0 : decode cX4_count 0 = .ok (.iload_n 1, 1) := by decide +kernel
theorem dX4_count_1 : decode cX4_count 1 = .ok (.tableswitch 115 0 9 #[55, 55, 55, 65, 73, 81, 89, 94, 99, 107], 55) := by decide +kernel
theorem dX4_count_56 : decode cX4_count 56 = .ok (.aload_n 0, 1) := by decide +kernel
theorem dX4_count_57 : decode cX4_count 57 = .ok (.getfield 10, 3) := by decide +kernel
theorem dX4_count_60 : decode cX4_count 60 = .ok (.getfield 52, 3) := by decide +kernel
theorem dX4_count_63 : decode cX4_count 63 = .ok (.iload_n 1, 1) := by decide +kernel
theorem dX4_count_64 : decode cX4_count 64 = .ok (.iaload, 1) := by decide +kernel
theorem dX4_count_65 : decode cX4_count 65 = .ok (.ireturn, 1) := by decide +kernel
theorem dX4_count_66 : decode cX4_count 66 = .ok (.aload_n 0, 1) := by decide +kernel
theorem dX4_count_67 : decode cX4_count 67 = .ok (.getfield 10, 3) := by decide +kernel
theorem dX4_count_70 : decode cX4_count 70 = .ok (.getfield 67, 3) := by decide +kernel
theorem dX4_count_73 : decode cX4_count 73 = .ok (.ireturn, 1) := by decide +kernel
theorem dX4_count_74 : decode cX4_count 74 = .ok (.aload_n 0, 1) := by decide +kernel
theorem dX4_count_75 : decode cX4_count 75 = .ok (.getfield 10, 3) := by decide +kernel
theorem dX4_count_78 : decode cX4_count 78 = .ok (.getfield 120, 3) := by decide +kernel
theorem dX4_count_81 : decode cX4_count 81 = .ok (.ireturn, 1) := by decide +kernel
theorem dX4_count_82 : decode cX4_count 82 = .ok (.aload_n 0, 1) := by decide +kernel
theorem dX4_count_83 : decode cX4_count 83 = .ok (.getfield 10, 3) := by decide +kernel
theorem dX4_count_86 : decode cX4_count 86 = .ok (.getfield 123, 3) := by decide +kernel
theorem dX4_count_89 : decode cX4_count 89 = .ok (.ireturn, 1) := by decide +kernel
theorem dX4_count_90 : decode cX4_count 90 = .ok (.aload_n 0, 1) := by decide +kernel
theorem dX4_count_91 : decode cX4_count 91 = .ok (.invokevirtual 155, 3) := by decide +kernel
theorem dX4_count_94 : decode cX4_count 94 = .ok (.ireturn, 1) := by decide +kernel
theorem dX4_count_95 : decode cX4_count 95 = .ok (.aload_n 0, 1) := by decide +kernel
theorem dX4_count_96 : decode cX4_count 96 = .ok (.invokevirtual 158, 3) := by decide +kernel
theorem dX4_count_99 : decode cX4_count 99 = .ok (.ireturn, 1) := by decide +kernel
theorem dX4_count_100 : decode cX4_count 100 = .ok (.aload_n 0, 1) := by decide +kernel
theorem dX4_count_101 : decode cX4_count 101 = .ok (.getfield 19, 3) := by decide +kernel
theorem dX4_count_104 : decode cX4_count 104 = .ok (.getfield 97, 3) := by decide +kernel
theorem dX4_count_107 : decode cX4_count 107 = .ok (.ireturn, 1) := by decide +kernel
theorem dX4_count_108 : decode cX4_count 108 = .ok (.aload_n 0, 1) := by decide +kernel
theorem dX4_count_109 : decode cX4_count 109 = .ok (.getfield 26, 3) := by decide +kernel
theorem dX4_count_112 : decode cX4_count 112 = .ok (.getfield 161, 3) := by decide +kernel
theorem dX4_count_115 : decode cX4_count 115 = .ok (.ireturn, 1) := by decide +kernel
theorem dX4_count_116 : decode cX4_count 116 = .ok (.ldc 47, 2) := by decide +kernel
theorem dX4_count_118 : decode cX4_count 118 = .ok (.ireturn, 1) := by decide +kernel
theorem dX4_courtier_0 : decode cX4_courtier 0 = .ok (.iload_n 1, 1) := by decide +kernel
theorem dX4_courtier_1 : decode cX4_courtier 1 = .ok (.invokestatic 56, 3) := by decide +kernel
theorem dX4_courtier_4 : decode cX4_courtier 4 = .ok (.ifCond .ne 6, 3) := by decide +kernel
theorem dX4_courtier_7 : decode cX4_courtier 7 = .ok (.ldc 60, 2) := by decide +kernel
theorem dX4_courtier_9 : decode cX4_courtier 9 = .ok (.ireturn, 1) := by decide +kernel
theorem dX4_courtier_10 : decode cX4_courtier 10 = .ok (.iload_n 2, 1) := by decide +kernel
theorem dX4_courtier_11 : decode cX4_courtier 11 = .ok (.tableswitch 57 0 3 #[29, 39, 45, 51], 29) := by decide +kernel
theorem dX4_courtier_40 : decode cX4_courtier 40 = .ok (.aload_n 0, 1) := by decide +kernel
theorem dX4_courtier_41 : decode cX4_courtier 41 = .ok (.getfield 10, 3) := by decide +kernel
theorem dX4_courtier_44 : decode cX4_courtier 44 = .ok (.getfield 64, 3) := by decide +kernel
theorem dX4_courtier_47 : decode cX4_courtier 47 = .ok (.iload_n 1, 1) := by decide +kernel
theorem dX4_courtier_48 : decode cX4_courtier 48 = .ok (.iaload, 1) := by decide +kernel
theorem dX4_courtier_49 : decode cX4_courtier 49 = .ok (.ireturn, 1) := by decide +kernel
theorem dX4_courtier_50 : decode cX4_courtier 50 = .ok (.aload_n 0, 1) := by decide +kernel
theorem dX4_courtier_51 : decode cX4_courtier 51 = .ok (.iload_n 1, 1) := by decide +kernel
theorem dX4_courtier_52 : decode cX4_courtier 52 = .ok (.invokevirtual 164, 3) := by decide +kernel
theorem dX4_courtier_55 : decode cX4_courtier 55 = .ok (.ireturn, 1) := by decide +kernel
theorem dX4_courtier_56 : decode cX4_courtier 56 = .ok (.aload_n 0, 1) := by decide +kernel
theorem dX4_courtier_57 : decode cX4_courtier 57 = .ok (.iload_n 1, 1) := by decide +kernel
theorem dX4_courtier_58 : decode cX4_courtier 58 = .ok (.invokevirtual 167, 3) := by decide +kernel
theorem dX4_courtier_61 : decode cX4_courtier 61 = .ok (.ireturn, 1) := by decide +kernel
theorem dX4_courtier_62 : decode cX4_courtier 62 = .ok (.aload_n 0, 1) := by decide +kernel
theorem dX4_courtier_63 : decode cX4_courtier 63 = .ok (.iload_n 1, 1) := by decide +kernel
theorem dX4_courtier_64 : decode cX4_courtier 64 = .ok (.invokevirtual 170, 3) := by decide +kernel
theorem dX4_courtier_67 : decode cX4_courtier 67 = .ok (.ireturn, 1) := by decide +kernel
theorem dX4_courtier_68 : decode cX4_courtier 68 = .ok (.ldc 47, 2) := by decide +kernel
theorem dX4_courtier_70 : decode cX4_courtier 70 = .ok (.ireturn, 1) := by decide +kernel
theorem dX4_ifGiven_0 : decode cX4_ifGiven 0 = .ok (.iload_n 1, 1) := by decide +kernel
theorem dX4_ifGiven_1 : decode cX4_ifGiven 1 = .ok (.invokestatic 56, 3) := by decide +kernel
theorem dX4_ifGiven_4 : decode cX4_ifGiven 4 = .ok (.ifCond .eq 10, 3) := by decide +kernel
theorem dX4_ifGiven_7 : decode cX4_ifGiven 7 = .ok (.iload_n 2, 1) := by decide +kernel
theorem dX4_ifGiven_8 : decode cX4_ifGiven 8 = .ok (.invokestatic 56, 3) := by decide +kernel
theorem dX4_ifGiven_11 : decode cX4_ifGiven 11 = .ok (.ifCond .ne 6, 3) := by decide +kernel
theorem dX4_ifGiven_14 : decode cX4_ifGiven 14 = .ok (.ldc 60, 2) := by decide +kernel
theorem dX4_ifGiven_16 : decode cX4_ifGiven 16 = .ok (.ireturn, 1) := by decide +kernel
theorem dX4_ifGiven_17 : decode cX4_ifGiven 17 = .ok (.aload_n 0, 1) := by decide +kernel
theorem dX4_ifGiven_18 : decode cX4_ifGiven 18 = .ok (.invokevirtual 100, 3) := by decide +kernel
theorem dX4_ifGiven_21 : decode cX4_ifGiven 21 = .ok (.ifCond .ne 6, 3) := by decide +kernel
theorem dX4_ifGiven_24 : decode cX4_ifGiven 24 = .ok (.ldc 80, 2) := by decide +kernel
theorem dX4_ifGiven_26 : decode cX4_ifGiven 26 = .ok (.ireturn, 1) := by decide +kernel
theorem dX4_ifGiven_27 : decode cX4_ifGiven 27 = .ok (.aload_n 0, 1) := by decide +kernel
theorem dX4_ifGiven_28 : decode cX4_ifGiven 28 = .ok (.iload_n 1, 1) := by decide +kernel
theorem dX4_ifGiven_29 : decode cX4_ifGiven 29 = .ok (.invokevirtual 104, 3) := by decide +kernel
theorem dX4_ifGiven_32 : decode cX4_ifGiven 32 = .ok (.aload_n 0, 1) := by decide +kernel
theorem dX4_ifGiven_33 : decode cX4_ifGiven 33 = .ok (.iload_n 1, 1) := by decide +kernel
theorem dX4_ifGiven_34 : decode cX4_ifGiven 34 = .ok (.iload_n 2, 1) := by decide +kernel
theorem dX4_ifGiven_35 : decode cX4_ifGiven 35 = .ok (.invokevirtual 117, 3) := by decide +kernel
theorem dX4_ifGiven_38 : decode cX4_ifGiven 38 = .ok (.ireturn, 1) := by decide +kernel
theorem dX4_bestBow_0 : decode cX4_bestBow 0 = .ok (.aload_n 0, 1) := by decide +kernel
theorem dX4_bestBow_1 : decode cX4_bestBow 1 = .ok (.getfield 10, 3) := by decide +kernel
theorem dX4_bestBow_4 : decode cX4_bestBow 4 = .ok (.getfield 67, 3) := by decide +kernel
theorem dX4_bestBow_7 : decode cX4_bestBow 7 = .ok (.bipush 24, 2) := by decide +kernel
theorem dX4_bestBow_9 : decode cX4_bestBow 9 = .ok (.if_icmp .lt 6, 3) := by decide +kernel
theorem dX4_bestBow_12 : decode cX4_bestBow 12 = .ok (.ldc 89, 2) := by decide +kernel
theorem dX4_bestBow_14 : decode cX4_bestBow 14 = .ok (.ireturn, 1) := by decide +kernel
theorem dX4_bestBow_15 : decode cX4_bestBow 15 = .ok (.aload_n 0, 1) := by decide +kernel
theorem dX4_bestBow_16 : decode cX4_bestBow 16 = .ok (.getfield 41, 3) := by decide +kernel
theorem dX4_bestBow_19 : decode cX4_bestBow 19 = .ok (.aload_n 0, 1) := by decide +kernel
theorem dX4_bestBow_20 : decode cX4_bestBow 20 = .ok (.getfield 10, 3) := by decide +kernel
theorem dX4_bestBow_23 : decode cX4_bestBow 23 = .ok (.iconst 0, 1) := by decide +kernel
theorem dX4_bestBow_24 : decode cX4_bestBow 24 = .ok (.invokevirtual 126, 3) := by decide +kernel
theorem dX4_bestBow_27 : decode cX4_bestBow 27 = .ok (.aload_n 0, 1) := by decide +kernel
theorem dX4_bestBow_28 : decode cX4_bestBow 28 = .ok (.getfield 41, 3) := by decide +kernel
theorem dX4_bestBow_31 : decode cX4_bestBow 31 = .ok (.getfield 136, 3) := by decide +kernel
theorem dX4_bestBow_34 : decode cX4_bestBow 34 = .ok (.istore_n 1, 1) := by decide +kernel
theorem dX4_bestBow_35 : decode cX4_bestBow 35 = .ok (.ldc 89, 2) := by decide +kernel
theorem dX4_bestBow_37 : decode cX4_bestBow 37 = .ok (.istore_n 2, 1) := by decide +kernel
theorem dX4_bestBow_38 : decode cX4_bestBow 38 = .ok (.aload_n 0, 1) := by decide +kernel
theorem dX4_bestBow_39 : decode cX4_bestBow 39 = .ok (.getfield 44, 3) := by decide +kernel
theorem dX4_bestBow_42 : decode cX4_bestBow 42 = .ok (.aload_n 0, 1) := by decide +kernel
theorem dX4_bestBow_43 : decode cX4_bestBow 43 = .ok (.getfield 10, 3) := by decide +kernel
theorem dX4_bestBow_46 : decode cX4_bestBow 46 = .ok (.invokevirtual 173, 3) := by decide +kernel
theorem dX4_bestBow_49 : decode cX4_bestBow 49 = .ok (.iconst 0, 1) := by decide +kernel
theorem dX4_bestBow_50 : decode cX4_bestBow 50 = .ok (.istore_n 3, 1) := by decide +kernel
theorem dX4_bestBow_51 : decode cX4_bestBow 51 = .ok (.iload_n 3, 1) := by decide +kernel
theorem dX4_bestBow_52 : decode cX4_bestBow 52 = .ok (.bipush 6, 2) := by decide +kernel
theorem dX4_bestBow_54 : decode cX4_bestBow 54 = .ok (.if_icmp .ge 65, 3) := by decide +kernel
theorem dX4_bestBow_57 : decode cX4_bestBow 57 = .ok (.aload_n 0, 1) := by decide +kernel
theorem dX4_bestBow_58 : decode cX4_bestBow 58 = .ok (.getfield 44, 3) := by decide +kernel
theorem dX4_bestBow_61 : decode cX4_bestBow 61 = .ok (.aload_n 0, 1) := by decide +kernel
theorem dX4_bestBow_62 : decode cX4_bestBow 62 = .ok (.getfield 10, 3) := by decide +kernel
theorem dX4_bestBow_65 : decode cX4_bestBow 65 = .ok (.getfield 67, 3) := by decide +kernel
theorem dX4_bestBow_68 : decode cX4_bestBow 68 = .ok (.putfield 67, 3) := by decide +kernel
theorem dX4_bestBow_71 : decode cX4_bestBow 71 = .ok (.aload_n 0, 1) := by decide +kernel
theorem dX4_bestBow_72 : decode cX4_bestBow 72 = .ok (.getfield 44, 3) := by decide +kernel
theorem dX4_bestBow_75 : decode cX4_bestBow 75 = .ok (.iload_n 3, 1) := by decide +kernel
theorem dX4_bestBow_76 : decode cX4_bestBow 76 = .ok (.iconst 0, 1) := by decide +kernel
theorem dX4_bestBow_77 : decode cX4_bestBow 77 = .ok (.invokevirtual 76, 3) := by decide +kernel
theorem dX4_bestBow_80 : decode cX4_bestBow 80 = .ok (.aload_n 0, 1) := by decide +kernel
theorem dX4_bestBow_81 : decode cX4_bestBow 81 = .ok (.getfield 37, 3) := by decide +kernel
theorem dX4_bestBow_84 : decode cX4_bestBow 84 = .ok (.aload_n 0, 1) := by decide +kernel
theorem dX4_bestBow_85 : decode cX4_bestBow 85 = .ok (.getfield 44, 3) := by decide +kernel
theorem dX4_bestBow_88 : decode cX4_bestBow 88 = .ok (.iconst 0, 1) := by decide +kernel
theorem dX4_bestBow_89 : decode cX4_bestBow 89 = .ok (.invokevirtual 126, 3) := by decide +kernel
theorem dX4_bestBow_92 : decode cX4_bestBow 92 = .ok (.aload_n 0, 1) := by decide +kernel
theorem dX4_bestBow_93 : decode cX4_bestBow 93 = .ok (.getfield 37, 3) := by decide +kernel
theorem dX4_bestBow_96 : decode cX4_bestBow 96 = .ok (.getfield 136, 3) := by decide +kernel
theorem dX4_bestBow_99 : decode cX4_bestBow 99 = .ok (.iload_n 1, 1) := by decide +kernel
theorem dX4_bestBow_100 : decode cX4_bestBow 100 = .ok (.if_icmp .le 13, 3) := by decide +kernel
theorem dX4_bestBow_103 : decode cX4_bestBow 103 = .ok (.aload_n 0, 1) := by decide +kernel
theorem dX4_bestBow_104 : decode cX4_bestBow 104 = .ok (.getfield 37, 3) := by decide +kernel
theorem dX4_bestBow_107 : decode cX4_bestBow 107 = .ok (.getfield 136, 3) := by decide +kernel
theorem dX4_bestBow_110 : decode cX4_bestBow 110 = .ok (.istore_n 1, 1) := by decide +kernel
theorem dX4_bestBow_111 : decode cX4_bestBow 111 = .ok (.iload_n 3, 1) := by decide +kernel
theorem dX4_bestBow_112 : decode cX4_bestBow 112 = .ok (.istore_n 2, 1) := by decide +kernel
theorem dX4_bestBow_113 : decode cX4_bestBow 113 = .ok (.iinc 3 1, 3) := by decide +kernel
theorem dX4_bestBow_116 : decode cX4_bestBow 116 = .ok (.goto (-65), 3) := by decide +kernel
theorem dX4_bestBow_119 : decode cX4_bestBow 119 = .ok (.iload_n 2, 1) := by decide +kernel
theorem dX4_bestBow_120 : decode cX4_bestBow 120 = .ok (.ireturn, 1) := by decide +kernel
theorem dX4_darling_0 : decode cX4_darling 0 = .ok (.iconst 0, 1) := by decide +kernel
theorem dX4_darling_1 : decode cX4_darling 1 = .ok (.istore_n 1, 1) := by decide +kernel
theorem dX4_darling_2 : decode cX4_darling 2 = .ok (.iconst 1, 1) := by decide +kernel
theorem dX4_darling_3 : decode cX4_darling 3 = .ok (.istore_n 2, 1) := by decide +kernel
theorem dX4_darling_4 : decode cX4_darling 4 = .ok (.iload_n 2, 1) := by decide +kernel
theorem dX4_darling_5 : decode cX4_darling 5 = .ok (.bipush 6, 2) := by decide +kernel
theorem dX4_darling_7 : decode cX4_darling 7 = .ok (.if_icmp .ge 24, 3) := by decide +kernel
theorem dX4_darling_10 : decode cX4_darling 10 = .ok (.aload_n 0, 1) := by decide +kernel
theorem dX4_darling_11 : decode cX4_darling 11 = .ok (.iload_n 2, 1) := by decide +kernel
theorem dX4_darling_12 : decode cX4_darling 12 = .ok (.invokevirtual 164, 3) := by decide +kernel
theorem dX4_darling_15 : decode cX4_darling 15 = .ok (.aload_n 0, 1) := by decide +kernel
theorem dX4_darling_16 : decode cX4_darling 16 = .ok (.iload_n 1, 1) := by decide +kernel
theorem dX4_darling_17 : decode cX4_darling 17 = .ok (.invokevirtual 164, 3) := by decide +kernel
theorem dX4_darling_20 : decode cX4_darling 20 = .ok (.if_icmp .le 5, 3) := by decide +kernel
theorem dX4_darling_23 : decode cX4_darling 23 = .ok (.iload_n 2, 1) := by decide +kernel
theorem dX4_darling_24 : decode cX4_darling 24 = .ok (.istore_n 1, 1) := by decide +kernel
theorem dX4_darling_25 : decode cX4_darling 25 = .ok (.iinc 2 1, 3) := by decide +kernel
theorem dX4_darling_28 : decode cX4_darling 28 = .ok (.goto (-24), 3) := by decide +kernel
theorem dX4_darling_31 : decode cX4_darling 31 = .ok (.iload_n 1, 1) := by decide +kernel
theorem dX4_darling_32 : decode cX4_darling 32 = .ok (.ireturn, 1) := by decide +kernel
theorem dX4_put_0 : decode cX4_put 0 = .ok (.lload_n 1, 1) := by decide +kernel
theorem dX4_put_1 : decode cX4_put 1 = .ok (.invokestatic 176, 3) := by decide +kernel
theorem dX4_put_4 : decode cX4_put 4 = .ok (.istore_n 3, 1) := by decide +kernel
theorem dX4_put_5 : decode cX4_put 5 = .ok (.iload_n 3, 1) := by decide +kernel
theorem dX4_put_6 : decode cX4_put 6 = .ok (.ifCond .ne 6, 3) := by decide +kernel
theorem dX4_put_9 : decode cX4_put 9 = .ok (.ldc 47, 2) := by decide +kernel
theorem dX4_put_11 : decode cX4_put 11 = .ok (.ireturn, 1) := by decide +kernel
theorem dX4_put_12 : decode cX4_put 12 = .ok (.aload_n 0, 1) := by decide +kernel
theorem dX4_put_13 : decode cX4_put 13 = .ok (.getfield 19, 3) := by decide +kernel
theorem dX4_put_16 : decode cX4_put 16 = .ok (.getfield 97, 3) := by decide +kernel
theorem dX4_put_19 : decode cX4_put 19 = .ok (.iload_n 3, 1) := by decide +kernel
theorem dX4_put_20 : decode cX4_put 20 = .ok (.iadd, 1) := by decide +kernel
theorem dX4_put_21 : decode cX4_put 21 = .ok (.bipush 60, 2) := by decide +kernel
theorem dX4_put_23 : decode cX4_put 23 = .ok (.if_icmp .le 6, 3) := by decide +kernel
theorem dX4_put_26 : decode cX4_put 26 = .ok (.ldc 71, 2) := by decide +kernel
theorem dX4_put_28 : decode cX4_put 28 = .ok (.ireturn, 1) := by decide +kernel
theorem dX4_put_29 : decode cX4_put 29 = .ok (.iload_n 3, 1) := by decide +kernel
theorem dX4_put_30 : decode cX4_put 30 = .ok (.iconst 1, 1) := by decide +kernel
theorem dX4_put_31 : decode cX4_put 31 = .ok (.isub, 1) := by decide +kernel
theorem dX4_put_32 : decode cX4_put 32 = .ok (.istore 4, 2) := by decide +kernel
theorem dX4_put_34 : decode cX4_put 34 = .ok (.iload 4, 2) := by decide +kernel
theorem dX4_put_36 : decode cX4_put 36 = .ok (.ifCond .lt 23, 3) := by decide +kernel
theorem dX4_put_39 : decode cX4_put 39 = .ok (.aload_n 0, 1) := by decide +kernel
theorem dX4_put_40 : decode cX4_put 40 = .ok (.getfield 19, 3) := by decide +kernel
theorem dX4_put_43 : decode cX4_put 43 = .ok (.lload_n 1, 1) := by decide +kernel
theorem dX4_put_44 : decode cX4_put 44 = .ok (.iload 4, 2) := by decide +kernel
theorem dX4_put_46 : decode cX4_put 46 = .ok (.invokestatic 180, 3) := by decide +kernel
theorem dX4_put_49 : decode cX4_put 49 = .ok (.i2c, 1) := by decide +kernel
theorem dX4_put_50 : decode cX4_put 50 = .ok (.invokevirtual 184, 3) := by decide +kernel
theorem dX4_put_53 : decode cX4_put 53 = .ok (.iinc 4 (-1), 3) := by decide +kernel
theorem dX4_put_56 : decode cX4_put 56 = .ok (.goto (-22), 3) := by decide +kernel
theorem dX4_put_59 : decode cX4_put 59 = .ok (.aload_n 0, 1) := by decide +kernel
theorem dX4_put_60 : decode cX4_put 60 = .ok (.getfield 19, 3) := by decide +kernel
theorem dX4_put_63 : decode cX4_put 63 = .ok (.getfield 97, 3) := by decide +kernel
theorem dX4_put_66 : decode cX4_put 66 = .ok (.ireturn, 1) := by decide +kernel
theorem dX4_wipe_0 : decode cX4_wipe 0 = .ok (.aload_n 0, 1) := by decide +kernel
theorem dX4_wipe_1 : decode cX4_wipe 1 = .ok (.getfield 19, 3) := by decide +kernel
theorem dX4_wipe_4 : decode cX4_wipe 4 = .ok (.getfield 97, 3) := by decide +kernel
theorem dX4_wipe_7 : decode cX4_wipe 7 = .ok (.istore_n 1, 1) := by decide +kernel
theorem dX4_wipe_8 : decode cX4_wipe 8 = .ok (.aload_n 0, 1) := by decide +kernel
theorem dX4_wipe_9 : decode cX4_wipe 9 = .ok (.getfield 19, 3) := by decide +kernel
theorem dX4_wipe_12 : decode cX4_wipe 12 = .ok (.iconst 0, 1) := by decide +kernel
theorem dX4_wipe_13 : decode cX4_wipe 13 = .ok (.putfield 97, 3) := by decide +kernel
theorem dX4_wipe_16 : decode cX4_wipe 16 = .ok (.iload_n 1, 1) := by decide +kernel
theorem dX4_wipe_17 : decode cX4_wipe 17 = .ok (.ireturn, 1) := by decide +kernel
theorem dX4_fault_0 : decode cX4_fault 0 = .ok (.aload_n 0, 1) := by decide +kernel
theorem dX4_fault_1 : decode cX4_fault 1 = .ok (.getfield 19, 3) := by decide +kernel
theorem dX4_fault_4 : decode cX4_fault 4 = .ok (.invokevirtual 85, 3) := by decide +kernel
theorem dX4_fault_7 : decode cX4_fault 7 = .ok (.ireturn, 1) := by decide +kernel
theorem dX4_undo_0 : decode cX4_undo 0 = .ok (.aload_n 0, 1) := by decide +kernel
theorem dX4_undo_1 : decode cX4_undo 1 = .ok (.getfield 26, 3) := by decide +kernel
theorem dX4_undo_4 : decode cX4_undo 4 = .ok (.aload_n 0, 1) := by decide +kernel
theorem dX4_undo_5 : decode cX4_undo 5 = .ok (.getfield 10, 3) := by decide +kernel
theorem dX4_undo_8 : decode cX4_undo 8 = .ok (.invokevirtual 188, 3) := by decide +kernel
theorem dX4_undo_11 : decode cX4_undo 11 = .ok (.ifCond .ne 6, 3) := by decide +kernel
theorem dX4_undo_14 : decode cX4_undo 14 = .ok (.ldc 80, 2) := by decide +kernel
theorem dX4_undo_16 : decode cX4_undo 16 = .ok (.ireturn, 1) := by decide +kernel
theorem dX4_undo_17 : decode cX4_undo 17 = .ok (.aload_n 0, 1) := by decide +kernel
theorem dX4_undo_18 : decode cX4_undo 18 = .ok (.getfield 26, 3) := by decide +kernel
theorem dX4_undo_21 : decode cX4_undo 21 = .ok (.getfield 161, 3) := by decide +kernel
theorem dX4_undo_24 : decode cX4_undo 24 = .ok (.ireturn, 1) := by decide +kernel
theorem dX4_save_0 : decode cX4_save 0 = .ok (.iload_n 1, 1) := by decide +kernel
theorem dX4_save_1 : decode cX4_save 1 = .ok (.invokestatic 192, 3) := by decide +kernel
theorem dX4_save_4 : decode cX4_save 4 = .ok (.ifCond .ne 6, 3) := by decide +kernel
theorem dX4_save_7 : decode cX4_save 7 = .ok (.ldc 47, 2) := by decide +kernel
theorem dX4_save_9 : decode cX4_save 9 = .ok (.ireturn, 1) := by decide +kernel
theorem dX4_save_10 : decode cX4_save 10 = .ok (.aload_n 0, 1) := by decide +kernel
theorem dX4_save_11 : decode cX4_save 11 = .ok (.getfield 30, 3) := by decide +kernel
theorem dX4_save_14 : decode cX4_save 14 = .ok (.iload_n 1, 1) := by decide +kernel
theorem dX4_save_15 : decode cX4_save 15 = .ok (.aload_n 0, 1) := by decide +kernel
theorem dX4_save_16 : decode cX4_save 16 = .ok (.getfield 10, 3) := by decide +kernel
theorem dX4_save_19 : decode cX4_save 19 = .ok (.aload_n 0, 1) := by decide +kernel
theorem dX4_save_20 : decode cX4_save 20 = .ok (.getfield 30, 3) := by decide +kernel
theorem dX4_save_23 : decode cX4_save 23 = .ok (.iload_n 1, 1) := by decide +kernel
theorem dX4_save_24 : decode cX4_save 24 = .ok (.aaload, 1) := by decide +kernel
theorem dX4_save_25 : decode cX4_save 25 = .ok (.invokestatic 195, 3) := by decide +kernel
theorem dX4_save_28 : decode cX4_save 28 = .ok (.aastore, 1) := by decide +kernel
theorem dX4_save_29 : decode cX4_save 29 = .ok (.aload_n 0, 1) := by decide +kernel
theorem dX4_save_30 : decode cX4_save 30 = .ok (.getfield 10, 3) := by decide +kernel
theorem dX4_save_33 : decode cX4_save 33 = .ok (.getfield 67, 3) := by decide +kernel
theorem dX4_save_36 : decode cX4_save 36 = .ok (.ireturn, 1) := by decide +kernel
theorem dX4_restore_0 : decode cX4_restore 0 = .ok (.iload_n 1, 1) := by decide +kernel
theorem dX4_restore_1 : decode cX4_restore 1 = .ok (.invokestatic 192, 3) := by decide +kernel
theorem dX4_restore_4 : decode cX4_restore 4 = .ok (.ifCond .ne 6, 3) := by decide +kernel
theorem dX4_restore_7 : decode cX4_restore 7 = .ok (.ldc 47, 2) := by decide +kernel
theorem dX4_restore_9 : decode cX4_restore 9 = .ok (.ireturn, 1) := by decide +kernel
theorem dX4_restore_10 : decode cX4_restore 10 = .ok (.aload_n 0, 1) := by decide +kernel
theorem dX4_restore_11 : decode cX4_restore 11 = .ok (.getfield 30, 3) := by decide +kernel
theorem dX4_restore_14 : decode cX4_restore 14 = .ok (.iload_n 1, 1) := by decide +kernel
theorem dX4_restore_15 : decode cX4_restore 15 = .ok (.aaload, 1) := by decide +kernel
theorem dX4_restore_16 : decode cX4_restore 16 = .ok (.astore_n 2, 1) := by decide +kernel
theorem dX4_restore_17 : decode cX4_restore 17 = .ok (.aload_n 2, 1) := by decide +kernel
theorem dX4_restore_18 : decode cX4_restore 18 = .ok (.ifnonnull 6, 3) := by decide +kernel
theorem dX4_restore_21 : decode cX4_restore 21 = .ok (.ldc 80, 2) := by decide +kernel
theorem dX4_restore_23 : decode cX4_restore 23 = .ok (.ireturn, 1) := by decide +kernel
theorem dX4_restore_24 : decode cX4_restore 24 = .ok (.aload_n 0, 1) := by decide +kernel
theorem dX4_restore_25 : decode cX4_restore 25 = .ok (.getfield 26, 3) := by decide +kernel
theorem dX4_restore_28 : decode cX4_restore 28 = .ok (.aload_n 0, 1) := by decide +kernel
theorem dX4_restore_29 : decode cX4_restore 29 = .ok (.getfield 10, 3) := by decide +kernel
theorem dX4_restore_32 : decode cX4_restore 32 = .ok (.invokevirtual 48, 3) := by decide +kernel
theorem dX4_restore_35 : decode cX4_restore 35 = .ok (.aload_n 0, 1) := by decide +kernel
theorem dX4_restore_36 : decode cX4_restore 36 = .ok (.getfield 10, 3) := by decide +kernel
theorem dX4_restore_39 : decode cX4_restore 39 = .ok (.aload_n 2, 1) := by decide +kernel
theorem dX4_restore_40 : decode cX4_restore 40 = .ok (.invokevirtual 173, 3) := by decide +kernel
theorem dX4_restore_43 : decode cX4_restore 43 = .ok (.aload_n 0, 1) := by decide +kernel
theorem dX4_restore_44 : decode cX4_restore 44 = .ok (.getfield 10, 3) := by decide +kernel
theorem dX4_restore_47 : decode cX4_restore 47 = .ok (.getfield 67, 3) := by decide +kernel
theorem dX4_restore_50 : decode cX4_restore 50 = .ok (.ireturn, 1) := by decide +kernel
theorem dX4_isCourtier_0 : decode cX4_isCourtier 0 = .ok (.iload_n 0, 1) := by decide +kernel
theorem dX4_isCourtier_1 : decode cX4_isCourtier 1 = .ok (.ifCond .lt 13, 3) := by decide +kernel
theorem dX4_isCourtier_4 : decode cX4_isCourtier 4 = .ok (.iload_n 0, 1) := by decide +kernel
theorem dX4_isCourtier_5 : decode cX4_isCourtier 5 = .ok (.bipush 6, 2) := by decide +kernel
theorem dX4_isCourtier_7 : decode cX4_isCourtier 7 = .ok (.if_icmp .ge 7, 3) := by decide +kernel
theorem dX4_isCourtier_10 : decode cX4_isCourtier 10 = .ok (.iconst 1, 1) := by decide +kernel
theorem dX4_isCourtier_11 : decode cX4_isCourtier 11 = .ok (.goto 4, 3) := by decide +kernel
theorem dX4_isCourtier_14 : decode cX4_isCourtier 14 = .ok (.iconst 0, 1) := by decide +kernel
theorem dX4_isCourtier_15 : decode cX4_isCourtier 15 = .ok (.ireturn, 1) := by decide +kernel
theorem dX4_areEyes_0 : decode cX4_areEyes 0 = .ok (.iload_n 0, 1) := by decide +kernel
theorem dX4_areEyes_1 : decode cX4_areEyes 1 = .ok (.ifCond .lt 12, 3) := by decide +kernel
theorem dX4_areEyes_4 : decode cX4_areEyes 4 = .ok (.iload_n 0, 1) := by decide +kernel
theorem dX4_areEyes_5 : decode cX4_areEyes 5 = .ok (.iconst 3, 1) := by decide +kernel
theorem dX4_areEyes_6 : decode cX4_areEyes 6 = .ok (.if_icmp .ge 7, 3) := by decide +kernel
theorem dX4_areEyes_9 : decode cX4_areEyes 9 = .ok (.iconst 1, 1) := by decide +kernel
theorem dX4_areEyes_10 : decode cX4_areEyes 10 = .ok (.goto 4, 3) := by decide +kernel
theorem dX4_areEyes_13 : decode cX4_areEyes 13 = .ok (.iconst 0, 1) := by decide +kernel
theorem dX4_areEyes_14 : decode cX4_areEyes 14 = .ok (.ireturn, 1) := by decide +kernel
theorem dX4_isSlot_0 : decode cX4_isSlot 0 = .ok (.iload_n 0, 1) := by decide +kernel
theorem dX4_isSlot_1 : decode cX4_isSlot 1 = .ok (.ifCond .lt 12, 3) := by decide +kernel
theorem dX4_isSlot_4 : decode cX4_isSlot 4 = .ok (.iload_n 0, 1) := by decide +kernel
theorem dX4_isSlot_5 : decode cX4_isSlot 5 = .ok (.iconst 2, 1) := by decide +kernel
theorem dX4_isSlot_6 : decode cX4_isSlot 6 = .ok (.if_icmp .ge 7, 3) := by decide +kernel
theorem dX4_isSlot_9 : decode cX4_isSlot 9 = .ok (.iconst 1, 1) := by decide +kernel
theorem dX4_isSlot_10 : decode cX4_isSlot 10 = .ok (.goto 4, 3) := by decide +kernel
theorem dX4_isSlot_13 : decode cX4_isSlot 13 = .ok (.iconst 0, 1) := by decide +kernel
theorem dX4_isSlot_14 : decode cX4_isSlot 14 = .ok (.ireturn, 1) := by decide +kernel
theorem dX4_codesIn_0 : decode cX4_codesIn 0 = .ok (.iconst 0, 1) := by decide +kernel
theorem dX4_codesIn_1 : decode cX4_codesIn 1 = .ok (.istore_n 2, 1) := by decide +kernel
theorem dX4_codesIn_2 : decode cX4_codesIn 2 = .ok (.iload_n 2, 1) := by decide +kernel
theorem dX4_codesIn_3 : decode cX4_codesIn 3 = .ok (.bipush 8, 2) := by decide +kernel
theorem dX4_codesIn_5 : decode cX4_codesIn 5 = .ok (.if_icmp .ge 37, 3) := by decide +kernel
theorem dX4_codesIn_8 : decode cX4_codesIn 8 = .ok (.lload_n 0, 1) := by decide +kernel
theorem dX4_codesIn_9 : decode cX4_codesIn 9 = .ok (.iload_n 2, 1) := by decide +kernel
theorem dX4_codesIn_10 : decode cX4_codesIn 10 = .ok (.invokestatic 180, 3) := by decide +kernel
theorem dX4_codesIn_13 : decode cX4_codesIn 13 = .ok (.ifCond .eq 29, 3) := by decide +kernel
theorem dX4_codesIn_16 : decode cX4_codesIn 16 = .ok (.lload_n 0, 1) := by decide +kernel
theorem dX4_codesIn_17 : decode cX4_codesIn 17 = .ok (.iload_n 2, 1) := by decide +kernel
theorem dX4_codesIn_18 : decode cX4_codesIn 18 = .ok (.invokestatic 180, 3) := by decide +kernel
theorem dX4_codesIn_21 : decode cX4_codesIn 21 = .ok (.istore_n 3, 1) := by decide +kernel
theorem dX4_codesIn_22 : decode cX4_codesIn 22 = .ok (.iload_n 3, 1) := by decide +kernel
theorem dX4_codesIn_23 : decode cX4_codesIn 23 = .ok (.bipush 33, 2) := by decide +kernel
theorem dX4_codesIn_25 : decode cX4_codesIn 25 = .ok (.if_icmp .lt 9, 3) := by decide +kernel
theorem dX4_codesIn_28 : decode cX4_codesIn 28 = .ok (.iload_n 3, 1) := by decide +kernel
theorem dX4_codesIn_29 : decode cX4_codesIn 29 = .ok (.bipush 126, 2) := by decide +kernel
theorem dX4_codesIn_31 : decode cX4_codesIn 31 = .ok (.if_icmp .le 5, 3) := by decide +kernel
theorem dX4_codesIn_34 : decode cX4_codesIn 34 = .ok (.iconst 0, 1) := by decide +kernel
theorem dX4_codesIn_35 : decode cX4_codesIn 35 = .ok (.ireturn, 1) := by decide +kernel
theorem dX4_codesIn_36 : decode cX4_codesIn 36 = .ok (.iinc 2 1, 3) := by decide +kernel
theorem dX4_codesIn_39 : decode cX4_codesIn 39 = .ok (.goto (-37), 3) := by decide +kernel
theorem dX4_codesIn_42 : decode cX4_codesIn 42 = .ok (.iload_n 2, 1) := by decide +kernel
theorem dX4_codesIn_43 : decode cX4_codesIn 43 = .ok (.bipush 8, 2) := by decide +kernel
theorem dX4_codesIn_45 : decode cX4_codesIn 45 = .ok (.if_icmp .ge 18, 3) := by decide +kernel
theorem dX4_codesIn_48 : decode cX4_codesIn 48 = .ok (.lload_n 0, 1) := by decide +kernel
theorem dX4_codesIn_49 : decode cX4_codesIn 49 = .ok (.bipush 8, 2) := by decide +kernel
theorem dX4_codesIn_51 : decode cX4_codesIn 51 = .ok (.iload_n 2, 1) := by decide +kernel
theorem dX4_codesIn_52 : decode cX4_codesIn 52 = .ok (.imul, 1) := by decide +kernel
theorem dX4_codesIn_53 : decode cX4_codesIn 53 = .ok (.lushr, 1) := by decide +kernel
theorem dX4_codesIn_54 : decode cX4_codesIn 54 = .ok (.lconst 0, 1) := by decide +kernel
theorem dX4_codesIn_55 : decode cX4_codesIn 55 = .ok (.lcmp, 1) := by decide +kernel
theorem dX4_codesIn_56 : decode cX4_codesIn 56 = .ok (.ifCond .eq 7, 3) := by decide +kernel
theorem dX4_codesIn_59 : decode cX4_codesIn 59 = .ok (.iconst 1, 1) := by decide +kernel
theorem dX4_codesIn_60 : decode cX4_codesIn 60 = .ok (.goto 4, 3) := by decide +kernel
theorem dX4_codesIn_63 : decode cX4_codesIn 63 = .ok (.iconst 0, 1) := by decide +kernel
theorem dX4_codesIn_64 : decode cX4_codesIn 64 = .ok (.istore_n 3, 1) := by decide +kernel
theorem dX4_codesIn_65 : decode cX4_codesIn 65 = .ok (.iload_n 3, 1) := by decide +kernel
theorem dX4_codesIn_66 : decode cX4_codesIn 66 = .ok (.ifCond .eq 7, 3) := by decide +kernel
theorem dX4_codesIn_69 : decode cX4_codesIn 69 = .ok (.iconst 0, 1) := by decide +kernel
theorem dX4_codesIn_70 : decode cX4_codesIn 70 = .ok (.goto 4, 3) := by decide +kernel
theorem dX4_codesIn_73 : decode cX4_codesIn 73 = .ok (.iload_n 2, 1) := by decide +kernel
theorem dX4_codesIn_74 : decode cX4_codesIn 74 = .ok (.ireturn, 1) := by decide +kernel
theorem dX4_codeAt_0 : decode cX4_codeAt 0 = .ok (.lload_n 0, 1) := by decide +kernel
theorem dX4_codeAt_1 : decode cX4_codeAt 1 = .ok (.bipush 8, 2) := by decide +kernel
theorem dX4_codeAt_3 : decode cX4_codeAt 3 = .ok (.iload_n 2, 1) := by decide +kernel
theorem dX4_codeAt_4 : decode cX4_codeAt 4 = .ok (.imul, 1) := by decide +kernel
theorem dX4_codeAt_5 : decode cX4_codeAt 5 = .ok (.lushr, 1) := by decide +kernel
theorem dX4_codeAt_6 : decode cX4_codeAt 6 = .ok (.l2i, 1) := by decide +kernel
theorem dX4_codeAt_7 : decode cX4_codeAt 7 = .ok (.sipush 255, 3) := by decide +kernel
theorem dX4_codeAt_10 : decode cX4_codeAt 10 = .ok (.iand, 1) := by decide +kernel
theorem dX4_codeAt_11 : decode cX4_codeAt 11 = .ok (.ireturn, 1) := by decide +kernel
theorem dX4_bowNumber_0 : decode cX4_bowNumber 0 = .ok (.iconst 2, 1) := by decide +kernel
theorem dX4_bowNumber_1 : decode cX4_bowNumber 1 = .ok (.iload_n 0, 1) := by decide +kernel
theorem dX4_bowNumber_2 : decode cX4_bowNumber 2 = .ok (.iconst 1, 1) := by decide +kernel
theorem dX4_bowNumber_3 : decode cX4_bowNumber 3 = .ok (.isub, 1) := by decide +kernel
theorem dX4_bowNumber_4 : decode cX4_bowNumber 4 = .ok (.imul, 1) := by decide +kernel
theorem dX4_bowNumber_5 : decode cX4_bowNumber 5 = .ok (.iload_n 1, 1) := by decide +kernel
theorem dX4_bowNumber_6 : decode cX4_bowNumber 6 = .ok (.iadd, 1) := by decide +kernel
theorem dX4_bowNumber_7 : decode cX4_bowNumber 7 = .ok (.ireturn, 1) := by decide +kernel
theorem dX4_isNameOfCourtier_0 : decode cX4_isNameOfCourtier 0 = .ok (.iload_n 0, 1) := by decide +kernel
theorem dX4_isNameOfCourtier_1 : decode cX4_isNameOfCourtier 1 = .ok (.ifCond .lt 13, 3) := by decide +kernel
theorem dX4_isNameOfCourtier_4 : decode cX4_isNameOfCourtier 4 = .ok (.iload_n 0, 1) := by decide +kernel
theorem dX4_isNameOfCourtier_5 : decode cX4_isNameOfCourtier 5 = .ok (.bipush 6, 2) := by decide +kernel
theorem dX4_isNameOfCourtier_7 : decode cX4_isNameOfCourtier 7 = .ok (.if_icmp .ge 7, 3) := by decide +kernel
theorem dX4_isNameOfCourtier_10 : decode cX4_isNameOfCourtier 10 = .ok (.iconst 1, 1) := by decide +kernel
theorem dX4_isNameOfCourtier_11 : decode cX4_isNameOfCourtier 11 = .ok (.goto 4, 3) := by decide +kernel
theorem dX4_isNameOfCourtier_14 : decode cX4_isNameOfCourtier 14 = .ok (.iconst 0, 1) := by decide +kernel
theorem dX4_isNameOfCourtier_15 : decode cX4_isNameOfCourtier 15 = .ok (.ireturn, 1) := by decide +kernel
theorem dX4_isDeed_0 : decode cX4_isDeed 0 = .ok (.iload_n 0, 1) := by decide +kernel
theorem dX4_isDeed_1 : decode cX4_isDeed 1 = .ok (.bipush 6, 2) := by decide +kernel
theorem dX4_isDeed_3 : decode cX4_isDeed 3 = .ok (.if_icmp .lt 13, 3) := by decide +kernel
theorem dX4_isDeed_6 : decode cX4_isDeed 6 = .ok (.iload_n 0, 1) := by decide +kernel
theorem dX4_isDeed_7 : decode cX4_isDeed 7 = .ok (.bipush 42, 2) := by decide +kernel
theorem dX4_isDeed_9 : decode cX4_isDeed 9 = .ok (.if_icmp .ge 7, 3) := by decide +kernel
theorem dX4_isDeed_12 : decode cX4_isDeed 12 = .ok (.iconst 1, 1) := by decide +kernel
theorem dX4_isDeed_13 : decode cX4_isDeed 13 = .ok (.goto 4, 3) := by decide +kernel
theorem dX4_isDeed_16 : decode cX4_isDeed 16 = .ok (.iconst 0, 1) := by decide +kernel
theorem dX4_isDeed_17 : decode cX4_isDeed 17 = .ok (.ireturn, 1) := by decide +kernel
theorem dX4_isFlourish_0 : decode cX4_isFlourish 0 = .ok (.iload_n 0, 1) := by decide +kernel
theorem dX4_isFlourish_1 : decode cX4_isFlourish 1 = .ok (.bipush 42, 2) := by decide +kernel
theorem dX4_isFlourish_3 : decode cX4_isFlourish 3 = .ok (.if_icmp .lt 7, 3) := by decide +kernel
theorem dX4_isFlourish_6 : decode cX4_isFlourish 6 = .ok (.iconst 1, 1) := by decide +kernel
theorem dX4_isFlourish_7 : decode cX4_isFlourish 7 = .ok (.goto 4, 3) := by decide +kernel
theorem dX4_isFlourish_10 : decode cX4_isFlourish 10 = .ok (.iconst 0, 1) := by decide +kernel
theorem dX4_isFlourish_11 : decode cX4_isFlourish 11 = .ok (.ireturn, 1) := by decide +kernel
theorem dX4_at_0 : decode cX4_at 0 = .ok (.iload_n 1, 1) := by decide +kernel
theorem dX4_at_1 : decode cX4_at 1 = .ok (.ifCond .lt 15, 3) := by decide +kernel
theorem dX4_at_4 : decode cX4_at 4 = .ok (.iload_n 1, 1) := by decide +kernel
theorem dX4_at_5 : decode cX4_at 5 = .ok (.aload_n 0, 1) := by decide +kernel
theorem dX4_at_6 : decode cX4_at 6 = .ok (.arraylength, 1) := by decide +kernel
theorem dX4_at_7 : decode cX4_at 7 = .ok (.if_icmp .ge 9, 3) := by decide +kernel
theorem dX4_at_10 : decode cX4_at 10 = .ok (.aload_n 0, 1) := by decide +kernel
theorem dX4_at_11 : decode cX4_at 11 = .ok (.iload_n 1, 1) := by decide +kernel
theorem dX4_at_12 : decode cX4_at 12 = .ok (.iaload, 1) := by decide +kernel
theorem dX4_at_13 : decode cX4_at 13 = .ok (.goto 4, 3) := by decide +kernel
theorem dX4_at_16 : decode cX4_at 16 = .ok (.iconst 0, 1) := by decide +kernel
theorem dX4_at_17 : decode cX4_at 17 = .ok (.ireturn, 1) := by decide +kernel
theorem dX4_copyRow_0 : decode cX4_copyRow 0 = .ok (.iconst 0, 1) := by decide +kernel
theorem dX4_copyRow_1 : decode cX4_copyRow 1 = .ok (.istore_n 2, 1) := by decide +kernel
theorem dX4_copyRow_2 : decode cX4_copyRow 2 = .ok (.iload_n 2, 1) := by decide +kernel
theorem dX4_copyRow_3 : decode cX4_copyRow 3 = .ok (.aload_n 0, 1) := by decide +kernel
theorem dX4_copyRow_4 : decode cX4_copyRow 4 = .ok (.arraylength, 1) := by decide +kernel
theorem dX4_copyRow_5 : decode cX4_copyRow 5 = .ok (.if_icmp .ge 21, 3) := by decide +kernel
theorem dX4_copyRow_8 : decode cX4_copyRow 8 = .ok (.iload_n 2, 1) := by decide +kernel
theorem dX4_copyRow_9 : decode cX4_copyRow 9 = .ok (.aload_n 1, 1) := by decide +kernel
theorem dX4_copyRow_10 : decode cX4_copyRow 10 = .ok (.arraylength, 1) := by decide +kernel
theorem dX4_copyRow_11 : decode cX4_copyRow 11 = .ok (.if_icmp .ge 15, 3) := by decide +kernel
theorem dX4_copyRow_14 : decode cX4_copyRow 14 = .ok (.aload_n 1, 1) := by decide +kernel
theorem dX4_copyRow_15 : decode cX4_copyRow 15 = .ok (.iload_n 2, 1) := by decide +kernel
theorem dX4_copyRow_16 : decode cX4_copyRow 16 = .ok (.aload_n 0, 1) := by decide +kernel
theorem dX4_copyRow_17 : decode cX4_copyRow 17 = .ok (.iload_n 2, 1) := by decide +kernel
theorem dX4_copyRow_18 : decode cX4_copyRow 18 = .ok (.iaload, 1) := by decide +kernel
theorem dX4_copyRow_19 : decode cX4_copyRow 19 = .ok (.iastore, 1) := by decide +kernel
theorem dX4_copyRow_20 : decode cX4_copyRow 20 = .ok (.iinc 2 1, 3) := by decide +kernel
theorem dX4_copyRow_23 : decode cX4_copyRow 23 = .ok (.goto (-21), 3) := by decide +kernel
theorem dX4_copyRow_26 : decode cX4_copyRow 26 = .ok (.return_, 1) := by decide +kernel
theorem dX4_copyOf_0 : decode cX4_copyOf 0 = .ok (.aload_n 1, 1) := by decide +kernel
theorem dX4_copyOf_1 : decode cX4_copyOf 1 = .ok (.ifnonnull 13, 3) := by decide +kernel
theorem dX4_copyOf_4 : decode cX4_copyOf 4 = .ok (.new 7, 3) := by decide +kernel
theorem dX4_copyOf_7 : decode cX4_copyOf 7 = .ok (.dup, 1) := by decide +kernel
theorem dX4_copyOf_8 : decode cX4_copyOf 8 = .ok (.invokespecial 9, 3) := by decide +kernel
theorem dX4_copyOf_11 : decode cX4_copyOf 11 = .ok (.goto 4, 3) := by decide +kernel
theorem dX4_copyOf_14 : decode cX4_copyOf 14 = .ok (.aload_n 1, 1) := by decide +kernel
theorem dX4_copyOf_15 : decode cX4_copyOf 15 = .ok (.astore_n 2, 1) := by decide +kernel
theorem dX4_copyOf_16 : decode cX4_copyOf 16 = .ok (.aload_n 2, 1) := by decide +kernel
theorem dX4_copyOf_17 : decode cX4_copyOf 17 = .ok (.aload_n 0, 1) := by decide +kernel
theorem dX4_copyOf_18 : decode cX4_copyOf 18 = .ok (.invokevirtual 173, 3) := by decide +kernel
theorem dX4_copyOf_21 : decode cX4_copyOf 21 = .ok (.aload_n 2, 1) := by decide +kernel
theorem dX4_copyOf_22 : decode cX4_copyOf 22 = .ok (.areturn, 1) := by decide +kernel
theorem dX4_favourIndex_0 : decode cX4_favourIndex 0 = .ok (.bipush 6, 2) := by decide +kernel
theorem dX4_favourIndex_2 : decode cX4_favourIndex 2 = .ok (.iload_n 0, 1) := by decide +kernel
theorem dX4_favourIndex_3 : decode cX4_favourIndex 3 = .ok (.imul, 1) := by decide +kernel
theorem dX4_favourIndex_4 : decode cX4_favourIndex 4 = .ok (.iload_n 1, 1) := by decide +kernel
theorem dX4_favourIndex_5 : decode cX4_favourIndex 5 = .ok (.iadd, 1) := by decide +kernel
theorem dX4_favourIndex_6 : decode cX4_favourIndex 6 = .ok (.ireturn, 1) := by decide +kernel
theorem dX4_favoursForGiver_0 : decode cX4_favoursForGiver 0 = .ok (.iconst 0, 1) := by decide +kernel
theorem dX4_favoursForGiver_1 : decode cX4_favoursForGiver 1 = .ok (.istore_n 2, 1) := by decide +kernel
theorem dX4_favoursForGiver_2 : decode cX4_favoursForGiver 2 = .ok (.iconst 0, 1) := by decide +kernel
theorem dX4_favoursForGiver_3 : decode cX4_favoursForGiver 3 = .ok (.istore_n 3, 1) := by decide +kernel
theorem dX4_favoursForGiver_4 : decode cX4_favoursForGiver 4 = .ok (.iload_n 3, 1) := by decide +kernel
theorem dX4_favoursForGiver_5 : decode cX4_favoursForGiver 5 = .ok (.bipush 6, 2) := by decide +kernel
theorem dX4_favoursForGiver_7 : decode cX4_favoursForGiver 7 = .ok (.if_icmp .ge 27, 3) := by decide +kernel
theorem dX4_favoursForGiver_10 : decode cX4_favoursForGiver 10 = .ok (.iload_n 2, 1) := by decide +kernel
theorem dX4_favoursForGiver_11 : decode cX4_favoursForGiver 11 = .ok (.aload_n 0, 1) := by decide +kernel
theorem dX4_favoursForGiver_12 : decode cX4_favoursForGiver 12 = .ok (.getfield 10, 3) := by decide +kernel
theorem dX4_favoursForGiver_15 : decode cX4_favoursForGiver 15 = .ok (.getfield 111, 3) := by decide +kernel
theorem dX4_favoursForGiver_18 : decode cX4_favoursForGiver 18 = .ok (.iload_n 3, 1) := by decide +kernel
theorem dX4_favoursForGiver_19 : decode cX4_favoursForGiver 19 = .ok (.iload_n 1, 1) := by decide +kernel
theorem dX4_favoursForGiver_20 : decode cX4_favoursForGiver 20 = .ok (.invokestatic 114, 3) := by decide +kernel
theorem dX4_favoursForGiver_23 : decode cX4_favoursForGiver 23 = .ok (.invokestatic 145, 3) := by decide +kernel
theorem dX4_favoursForGiver_26 : decode cX4_favoursForGiver 26 = .ok (.iadd, 1) := by decide +kernel
theorem dX4_favoursForGiver_27 : decode cX4_favoursForGiver 27 = .ok (.istore_n 2, 1) := by decide +kernel
theorem dX4_favoursForGiver_28 : decode cX4_favoursForGiver 28 = .ok (.iinc 3 1, 3) := by decide +kernel
theorem dX4_favoursForGiver_31 : decode cX4_favoursForGiver 31 = .ok (.goto (-27), 3) := by decide +kernel
theorem dX4_favoursForGiver_34 : decode cX4_favoursForGiver 34 = .ok (.iload_n 2, 1) := by decide +kernel
theorem dX4_favoursForGiver_35 : decode cX4_favoursForGiver 35 = .ok (.ireturn, 1) := by decide +kernel
theorem dX4_favoursOfCourtier_0 : decode cX4_favoursOfCourtier 0 = .ok (.iconst 0, 1) := by decide +kernel
theorem dX4_favoursOfCourtier_1 : decode cX4_favoursOfCourtier 1 = .ok (.istore_n 2, 1) := by decide +kernel
theorem dX4_favoursOfCourtier_2 : decode cX4_favoursOfCourtier 2 = .ok (.iconst 0, 1) := by decide +kernel
theorem dX4_favoursOfCourtier_3 : decode cX4_favoursOfCourtier 3 = .ok (.istore_n 3, 1) := by decide +kernel
theorem dX4_favoursOfCourtier_4 : decode cX4_favoursOfCourtier 4 = .ok (.iload_n 3, 1) := by decide +kernel
theorem dX4_favoursOfCourtier_5 : decode cX4_favoursOfCourtier 5 = .ok (.bipush 6, 2) := by decide +kernel
theorem dX4_favoursOfCourtier_7 : decode cX4_favoursOfCourtier 7 = .ok (.if_icmp .ge 27, 3) := by decide +kernel
theorem dX4_favoursOfCourtier_10 : decode cX4_favoursOfCourtier 10 = .ok (.iload_n 2, 1) := by decide +kernel
theorem dX4_favoursOfCourtier_11 : decode cX4_favoursOfCourtier 11 = .ok (.aload_n 0, 1) := by decide +kernel
theorem dX4_favoursOfCourtier_12 : decode cX4_favoursOfCourtier 12 = .ok (.getfield 10, 3) := by decide +kernel
theorem dX4_favoursOfCourtier_15 : decode cX4_favoursOfCourtier 15 = .ok (.getfield 111, 3) := by decide +kernel
theorem dX4_favoursOfCourtier_18 : decode cX4_favoursOfCourtier 18 = .ok (.iload_n 1, 1) := by decide +kernel
theorem dX4_favoursOfCourtier_19 : decode cX4_favoursOfCourtier 19 = .ok (.iload_n 3, 1) := by decide +kernel
theorem dX4_favoursOfCourtier_20 : decode cX4_favoursOfCourtier 20 = .ok (.invokestatic 114, 3) := by decide +kernel
theorem dX4_favoursOfCourtier_23 : decode cX4_favoursOfCourtier 23 = .ok (.invokestatic 145, 3) := by decide +kernel
theorem dX4_favoursOfCourtier_26 : decode cX4_favoursOfCourtier 26 = .ok (.iadd, 1) := by decide +kernel
theorem dX4_favoursOfCourtier_27 : decode cX4_favoursOfCourtier 27 = .ok (.istore_n 2, 1) := by decide +kernel
theorem dX4_favoursOfCourtier_28 : decode cX4_favoursOfCourtier 28 = .ok (.iinc 3 1, 3) := by decide +kernel
theorem dX4_favoursOfCourtier_31 : decode cX4_favoursOfCourtier 31 = .ok (.goto (-27), 3) := by decide +kernel
theorem dX4_favoursOfCourtier_34 : decode cX4_favoursOfCourtier 34 = .ok (.iload_n 2, 1) := by decide +kernel
theorem dX4_favoursOfCourtier_35 : decode cX4_favoursOfCourtier 35 = .ok (.ireturn, 1) := by decide +kernel
theorem dX4_sumOfAllFavours_0 : decode cX4_sumOfAllFavours 0 = .ok (.iconst 0, 1) := by decide +kernel
theorem dX4_sumOfAllFavours_1 : decode cX4_sumOfAllFavours 1 = .ok (.istore_n 1, 1) := by decide +kernel
theorem dX4_sumOfAllFavours_2 : decode cX4_sumOfAllFavours 2 = .ok (.iconst 0, 1) := by decide +kernel
theorem dX4_sumOfAllFavours_3 : decode cX4_sumOfAllFavours 3 = .ok (.istore_n 2, 1) := by decide +kernel
theorem dX4_sumOfAllFavours_4 : decode cX4_sumOfAllFavours 4 = .ok (.iload_n 2, 1) := by decide +kernel
theorem dX4_sumOfAllFavours_5 : decode cX4_sumOfAllFavours 5 = .ok (.bipush 6, 2) := by decide +kernel
theorem dX4_sumOfAllFavours_7 : decode cX4_sumOfAllFavours 7 = .ok (.if_icmp .ge 17, 3) := by decide +kernel
theorem dX4_sumOfAllFavours_10 : decode cX4_sumOfAllFavours 10 = .ok (.iload_n 1, 1) := by decide +kernel
theorem dX4_sumOfAllFavours_11 : decode cX4_sumOfAllFavours 11 = .ok (.aload_n 0, 1) := by decide +kernel
theorem dX4_sumOfAllFavours_12 : decode cX4_sumOfAllFavours 12 = .ok (.iload_n 2, 1) := by decide +kernel
theorem dX4_sumOfAllFavours_13 : decode cX4_sumOfAllFavours 13 = .ok (.invokevirtual 167, 3) := by decide +kernel
theorem dX4_sumOfAllFavours_16 : decode cX4_sumOfAllFavours 16 = .ok (.iadd, 1) := by decide +kernel
theorem dX4_sumOfAllFavours_17 : decode cX4_sumOfAllFavours 17 = .ok (.istore_n 1, 1) := by decide +kernel
theorem dX4_sumOfAllFavours_18 : decode cX4_sumOfAllFavours 18 = .ok (.iinc 2 1, 3) := by decide +kernel
theorem dX4_sumOfAllFavours_21 : decode cX4_sumOfAllFavours 21 = .ok (.goto (-17), 3) := by decide +kernel
theorem dX4_sumOfAllFavours_24 : decode cX4_sumOfAllFavours 24 = .ok (.iload_n 1, 1) := by decide +kernel
theorem dX4_sumOfAllFavours_25 : decode cX4_sumOfAllFavours 25 = .ok (.ireturn, 1) := by decide +kernel
theorem dX4_canBeGiven_0 : decode cX4_canBeGiven 0 = .ok (.aload_n 0, 1) := by decide +kernel
theorem dX4_canBeGiven_1 : decode cX4_canBeGiven 1 = .ok (.getfield 41, 3) := by decide +kernel
theorem dX4_canBeGiven_4 : decode cX4_canBeGiven 4 = .ok (.aload_n 0, 1) := by decide +kernel
theorem dX4_canBeGiven_5 : decode cX4_canBeGiven 5 = .ok (.getfield 10, 3) := by decide +kernel
theorem dX4_canBeGiven_8 : decode cX4_canBeGiven 8 = .ok (.iconst 0, 1) := by decide +kernel
theorem dX4_canBeGiven_9 : decode cX4_canBeGiven 9 = .ok (.invokevirtual 126, 3) := by decide +kernel
theorem dX4_canBeGiven_12 : decode cX4_canBeGiven 12 = .ok (.aload_n 0, 1) := by decide +kernel
theorem dX4_canBeGiven_13 : decode cX4_canBeGiven 13 = .ok (.getfield 41, 3) := by decide +kernel
theorem dX4_canBeGiven_16 : decode cX4_canBeGiven 16 = .ok (.getfield 133, 3) := by decide +kernel
theorem dX4_canBeGiven_19 : decode cX4_canBeGiven 19 = .ok (.ifCond .ne 7, 3) := by decide +kernel
theorem dX4_canBeGiven_22 : decode cX4_canBeGiven 22 = .ok (.iconst 1, 1) := by decide +kernel
theorem dX4_canBeGiven_23 : decode cX4_canBeGiven 23 = .ok (.goto 4, 3) := by decide +kernel
theorem dX4_canBeGiven_26 : decode cX4_canBeGiven 26 = .ok (.iconst 0, 1) := by decide +kernel
theorem dX4_canBeGiven_27 : decode cX4_canBeGiven 27 = .ok (.ireturn, 1) := by decide +kernel
theorem dX4_sentencesTakenIfGiven_0 : decode cX4_sentencesTakenIfGiven 0 = .ok (.aload_n 0, 1) := by decide +kernel
theorem dX4_sentencesTakenIfGiven_1 : decode cX4_sentencesTakenIfGiven 1 = .ok (.invokevirtual 100, 3) := by decide +kernel
theorem dX4_sentencesTakenIfGiven_4 : decode cX4_sentencesTakenIfGiven 4 = .ok (.ifCond .ne 5, 3) := by decide +kernel
theorem dX4_sentencesTakenIfGiven_7 : decode cX4_sentencesTakenIfGiven 7 = .ok (.iconst 0, 1) := by decide +kernel
theorem dX4_sentencesTakenIfGiven_8 : decode cX4_sentencesTakenIfGiven 8 = .ok (.ireturn, 1) := by decide +kernel
theorem dX4_sentencesTakenIfGiven_9 : decode cX4_sentencesTakenIfGiven 9 = .ok (.aload_n 0, 1) := by decide +kernel
theorem dX4_sentencesTakenIfGiven_10 : decode cX4_sentencesTakenIfGiven 10 = .ok (.iload_n 1, 1) := by decide +kernel
theorem dX4_sentencesTakenIfGiven_11 : decode cX4_sentencesTakenIfGiven 11 = .ok (.invokevirtual 104, 3) := by decide +kernel
theorem dX4_sentencesTakenIfGiven_14 : decode cX4_sentencesTakenIfGiven 14 = .ok (.aload_n 0, 1) := by decide +kernel
theorem dX4_sentencesTakenIfGiven_15 : decode cX4_sentencesTakenIfGiven 15 = .ok (.iload_n 1, 1) := by decide +kernel
theorem dX4_sentencesTakenIfGiven_16 : decode cX4_sentencesTakenIfGiven 16 = .ok (.invokevirtual 108, 3) := by decide +kernel
theorem dX4_sentencesTakenIfGiven_19 : decode cX4_sentencesTakenIfGiven 19 = .ok (.ireturn, 1) := by decide +kernel
theorem dX4_lookThroughEyesOf_0 : decode cX4_lookThroughEyesOf 0 = .ok (.aload_n 0, 1) := by decide +kernel
theorem dX4_lookThroughEyesOf_1 : decode cX4_lookThroughEyesOf 1 = .ok (.getfield 37, 3) := by decide +kernel
theorem dX4_lookThroughEyesOf_4 : decode cX4_lookThroughEyesOf 4 = .ok (.aload_n 0, 1) := by decide +kernel
theorem dX4_lookThroughEyesOf_5 : decode cX4_lookThroughEyesOf 5 = .ok (.getfield 10, 3) := by decide +kernel
theorem dX4_lookThroughEyesOf_8 : decode cX4_lookThroughEyesOf 8 = .ok (.aload_n 0, 1) := by decide +kernel
theorem dX4_lookThroughEyesOf_9 : decode cX4_lookThroughEyesOf 9 = .ok (.getfield 10, 3) := by decide +kernel
theorem dX4_lookThroughEyesOf_12 : decode cX4_lookThroughEyesOf 12 = .ok (.getfield 64, 3) := by decide +kernel
theorem dX4_lookThroughEyesOf_15 : decode cX4_lookThroughEyesOf 15 = .ok (.iload_n 1, 1) := by decide +kernel
theorem dX4_lookThroughEyesOf_16 : decode cX4_lookThroughEyesOf 16 = .ok (.invokestatic 145, 3) := by decide +kernel
theorem dX4_lookThroughEyesOf_19 : decode cX4_lookThroughEyesOf 19 = .ok (.invokevirtual 126, 3) := by decide +kernel
theorem dX4_lookThroughEyesOf_22 : decode cX4_lookThroughEyesOf 22 = .ok (.return_, 1) := by decide +kernel
theorem dX4_sentencesSeenFor_0 : decode cX4_sentencesSeenFor 0 = .ok (.iconst 0, 1) := by decide +kernel
theorem dX4_sentencesSeenFor_1 : decode cX4_sentencesSeenFor 1 = .ok (.istore_n 2, 1) := by decide +kernel
theorem dX4_sentencesSeenFor_2 : decode cX4_sentencesSeenFor 2 = .ok (.iconst 0, 1) := by decide +kernel
theorem dX4_sentencesSeenFor_3 : decode cX4_sentencesSeenFor 3 = .ok (.istore_n 3, 1) := by decide +kernel
theorem dX4_sentencesSeenFor_4 : decode cX4_sentencesSeenFor 4 = .ok (.iload_n 3, 1) := by decide +kernel
theorem dX4_sentencesSeenFor_5 : decode cX4_sentencesSeenFor 5 = .ok (.aload_n 0, 1) := by decide +kernel
theorem dX4_sentencesSeenFor_6 : decode cX4_sentencesSeenFor 6 = .ok (.getfield 37, 3) := by decide +kernel
theorem dX4_sentencesSeenFor_9 : decode cX4_sentencesSeenFor 9 = .ok (.getfield 136, 3) := by decide +kernel
theorem dX4_sentencesSeenFor_12 : decode cX4_sentencesSeenFor 12 = .ok (.if_icmp .ge 25, 3) := by decide +kernel
theorem dX4_sentencesSeenFor_15 : decode cX4_sentencesSeenFor 15 = .ok (.aload_n 0, 1) := by decide +kernel
theorem dX4_sentencesSeenFor_16 : decode cX4_sentencesSeenFor 16 = .ok (.getfield 37, 3) := by decide +kernel
theorem dX4_sentencesSeenFor_19 : decode cX4_sentencesSeenFor 19 = .ok (.iload_n 3, 1) := by decide +kernel
theorem dX4_sentencesSeenFor_20 : decode cX4_sentencesSeenFor 20 = .ok (.iconst 0, 1) := by decide +kernel
theorem dX4_sentencesSeenFor_21 : decode cX4_sentencesSeenFor 21 = .ok (.invokevirtual 152, 3) := by decide +kernel
theorem dX4_sentencesSeenFor_24 : decode cX4_sentencesSeenFor 24 = .ok (.iload_n 1, 1) := by decide +kernel
theorem dX4_sentencesSeenFor_25 : decode cX4_sentencesSeenFor 25 = .ok (.if_icmp .eq 6, 3) := by decide +kernel
theorem dX4_sentencesSeenFor_28 : decode cX4_sentencesSeenFor 28 = .ok (.iinc 2 1, 3) := by decide +kernel
theorem dX4_sentencesSeenFor_31 : decode cX4_sentencesSeenFor 31 = .ok (.iinc 3 1, 3) := by decide +kernel
theorem dX4_sentencesSeenFor_34 : decode cX4_sentencesSeenFor 34 = .ok (.goto (-30), 3) := by decide +kernel
theorem dX4_sentencesSeenFor_37 : decode cX4_sentencesSeenFor 37 = .ok (.iload_n 2, 1) := by decide +kernel
theorem dX4_sentencesSeenFor_38 : decode cX4_sentencesSeenFor 38 = .ok (.ireturn, 1) := by decide +kernel
theorem dX4_favourBehindSeen_0 : decode cX4_favourBehindSeen 0 = .ok (.aload_n 0, 1) := by decide +kernel
theorem dX4_favourBehindSeen_1 : decode cX4_favourBehindSeen 1 = .ok (.getfield 10, 3) := by decide +kernel
theorem dX4_favourBehindSeen_4 : decode cX4_favourBehindSeen 4 = .ok (.getfield 111, 3) := by decide +kernel
theorem dX4_favourBehindSeen_7 : decode cX4_favourBehindSeen 7 = .ok (.iload_n 1, 1) := by decide +kernel
theorem dX4_favourBehindSeen_8 : decode cX4_favourBehindSeen 8 = .ok (.iload_n 2, 1) := by decide +kernel
theorem dX4_favourBehindSeen_9 : decode cX4_favourBehindSeen 9 = .ok (.invokestatic 114, 3) := by decide +kernel
theorem dX4_favourBehindSeen_12 : decode cX4_favourBehindSeen 12 = .ok (.invokestatic 145, 3) := by decide +kernel
theorem dX4_favourBehindSeen_15 : decode cX4_favourBehindSeen 15 = .ok (.istore_n 3, 1) := by decide +kernel
theorem dX4_favourBehindSeen_16 : decode cX4_favourBehindSeen 16 = .ok (.iload_n 1, 1) := by decide +kernel
theorem dX4_favourBehindSeen_17 : decode cX4_favourBehindSeen 17 = .ok (.iload_n 2, 1) := by decide +kernel
theorem dX4_favourBehindSeen_18 : decode cX4_favourBehindSeen 18 = .ok (.if_icmp .ne 5, 3) := by decide +kernel
theorem dX4_favourBehindSeen_21 : decode cX4_favourBehindSeen 21 = .ok (.iload_n 3, 1) := by decide +kernel
theorem dX4_favourBehindSeen_22 : decode cX4_favourBehindSeen 22 = .ok (.ireturn, 1) := by decide +kernel
theorem dX4_favourBehindSeen_23 : decode cX4_favourBehindSeen 23 = .ok (.iconst 0, 1) := by decide +kernel
theorem dX4_favourBehindSeen_24 : decode cX4_favourBehindSeen 24 = .ok (.istore 4, 2) := by decide +kernel
theorem dX4_favourBehindSeen_26 : decode cX4_favourBehindSeen 26 = .ok (.iload 4, 2) := by decide +kernel
theorem dX4_favourBehindSeen_28 : decode cX4_favourBehindSeen 28 = .ok (.aload_n 0, 1) := by decide +kernel
theorem dX4_favourBehindSeen_29 : decode cX4_favourBehindSeen 29 = .ok (.getfield 37, 3) := by decide +kernel
theorem dX4_favourBehindSeen_32 : decode cX4_favourBehindSeen 32 = .ok (.getfield 136, 3) := by decide +kernel
theorem dX4_favourBehindSeen_35 : decode cX4_favourBehindSeen 35 = .ok (.if_icmp .ge 43, 3) := by decide +kernel
theorem dX4_favourBehindSeen_38 : decode cX4_favourBehindSeen 38 = .ok (.aload_n 0, 1) := by decide +kernel
theorem dX4_favourBehindSeen_39 : decode cX4_favourBehindSeen 39 = .ok (.getfield 37, 3) := by decide +kernel
theorem dX4_favourBehindSeen_42 : decode cX4_favourBehindSeen 42 = .ok (.iload 4, 2) := by decide +kernel
theorem dX4_favourBehindSeen_44 : decode cX4_favourBehindSeen 44 = .ok (.iconst 0, 1) := by decide +kernel
theorem dX4_favourBehindSeen_45 : decode cX4_favourBehindSeen 45 = .ok (.invokevirtual 152, 3) := by decide +kernel
theorem dX4_favourBehindSeen_48 : decode cX4_favourBehindSeen 48 = .ok (.iload_n 2, 1) := by decide +kernel
theorem dX4_favourBehindSeen_49 : decode cX4_favourBehindSeen 49 = .ok (.if_icmp .ne 23, 3) := by decide +kernel
theorem dX4_favourBehindSeen_52 : decode cX4_favourBehindSeen 52 = .ok (.bipush (-99), 2) := by decide +kernel
theorem dX4_favourBehindSeen_54 : decode cX4_favourBehindSeen 54 = .ok (.bipush 99, 2) := by decide +kernel
theorem dX4_favourBehindSeen_56 : decode cX4_favourBehindSeen 56 = .ok (.iload_n 3, 1) := by decide +kernel
theorem dX4_favourBehindSeen_57 : decode cX4_favourBehindSeen 57 = .ok (.aload_n 0, 1) := by decide +kernel
theorem dX4_favourBehindSeen_58 : decode cX4_favourBehindSeen 58 = .ok (.iload_n 1, 1) := by decide +kernel
theorem dX4_favourBehindSeen_59 : decode cX4_favourBehindSeen 59 = .ok (.iload 4, 2) := by decide +kernel
theorem dX4_favourBehindSeen_61 : decode cX4_favourBehindSeen 61 = .ok (.invokevirtual 199, 3) := by decide +kernel
theorem dX4_favourBehindSeen_64 : decode cX4_favourBehindSeen 64 = .ok (.iadd, 1) := by decide +kernel
theorem dX4_favourBehindSeen_65 : decode cX4_favourBehindSeen 65 = .ok (.invokestatic 202, 3) := by decide +kernel
theorem dX4_favourBehindSeen_68 : decode cX4_favourBehindSeen 68 = .ok (.invokestatic 207, 3) := by decide +kernel
theorem dX4_favourBehindSeen_71 : decode cX4_favourBehindSeen 71 = .ok (.istore_n 3, 1) := by decide +kernel
theorem dX4_favourBehindSeen_72 : decode cX4_favourBehindSeen 72 = .ok (.iinc 4 1, 3) := by decide +kernel
theorem dX4_favourBehindSeen_75 : decode cX4_favourBehindSeen 75 = .ok (.goto (-49), 3) := by decide +kernel
theorem dX4_favourBehindSeen_78 : decode cX4_favourBehindSeen 78 = .ok (.iload_n 3, 1) := by decide +kernel
theorem dX4_favourBehindSeen_79 : decode cX4_favourBehindSeen 79 = .ok (.ireturn, 1) := by decide +kernel
theorem dX4_gain_0 : decode cX4_gain 0 = .ok (.aload_n 0, 1) := by decide +kernel
theorem dX4_gain_1 : decode cX4_gain 1 = .ok (.getfield 37, 3) := by decide +kernel
theorem dX4_gain_4 : decode cX4_gain 4 = .ok (.iload_n 2, 1) := by decide +kernel
theorem dX4_gain_5 : decode cX4_gain 5 = .ok (.invokevirtual 149, 3) := by decide +kernel
theorem dX4_gain_8 : decode cX4_gain 8 = .ok (.ifCond .eq 15, 3) := by decide +kernel
theorem dX4_gain_11 : decode cX4_gain 11 = .ok (.aload_n 0, 1) := by decide +kernel
theorem dX4_gain_12 : decode cX4_gain 12 = .ok (.getfield 10, 3) := by decide +kernel
theorem dX4_gain_15 : decode cX4_gain 15 = .ok (.getfield 52, 3) := by decide +kernel
theorem dX4_gain_18 : decode cX4_gain 18 = .ok (.iconst 1, 1) := by decide +kernel
theorem dX4_gain_19 : decode cX4_gain 19 = .ok (.iaload, 1) := by decide +kernel
theorem dX4_gain_20 : decode cX4_gain 20 = .ok (.goto 13, 3) := by decide +kernel
theorem dX4_gain_23 : decode cX4_gain 23 = .ok (.aload_n 0, 1) := by decide +kernel
theorem dX4_gain_24 : decode cX4_gain 24 = .ok (.getfield 10, 3) := by decide +kernel
theorem dX4_gain_27 : decode cX4_gain 27 = .ok (.getfield 52, 3) := by decide +kernel
theorem dX4_gain_30 : decode cX4_gain 30 = .ok (.iconst 2, 1) := by decide +kernel
theorem dX4_gain_31 : decode cX4_gain 31 = .ok (.iaload, 1) := by decide +kernel
theorem dX4_gain_32 : decode cX4_gain 32 = .ok (.ineg, 1) := by decide +kernel
theorem dX4_gain_33 : decode cX4_gain 33 = .ok (.istore_n 3, 1) := by decide +kernel
theorem dX4_gain_34 : decode cX4_gain 34 = .ok (.aload_n 0, 1) := by decide +kernel
theorem dX4_gain_35 : decode cX4_gain 35 = .ok (.getfield 37, 3) := by decide +kernel
theorem dX4_gain_38 : decode cX4_gain 38 = .ok (.iload_n 2, 1) := by decide +kernel
theorem dX4_gain_39 : decode cX4_gain 39 = .ok (.iconst 2, 1) := by decide +kernel
theorem dX4_gain_40 : decode cX4_gain 40 = .ok (.invokevirtual 152, 3) := by decide +kernel
theorem dX4_gain_43 : decode cX4_gain 43 = .ok (.iload_n 1, 1) := by decide +kernel
theorem dX4_gain_44 : decode cX4_gain 44 = .ok (.if_icmp .ne 9, 3) := by decide +kernel
theorem dX4_gain_47 : decode cX4_gain 47 = .ok (.iconst 2, 1) := by decide +kernel
theorem dX4_gain_48 : decode cX4_gain 48 = .ok (.iload_n 3, 1) := by decide +kernel
theorem dX4_gain_49 : decode cX4_gain 49 = .ok (.imul, 1) := by decide +kernel
theorem dX4_gain_50 : decode cX4_gain 50 = .ok (.goto 4, 3) := by decide +kernel
theorem dX4_gain_53 : decode cX4_gain 53 = .ok (.iload_n 3, 1) := by decide +kernel
theorem dX4_gain_54 : decode cX4_gain 54 = .ok (.ireturn, 1) := by decide +kernel
theorem dX4_courtiersMisled_0 : decode cX4_courtiersMisled 0 = .ok (.aload_n 0, 1) := by decide +kernel
theorem dX4_courtiersMisled_1 : decode cX4_courtiersMisled 1 = .ok (.getfield 41, 3) := by decide +kernel
theorem dX4_courtiersMisled_4 : decode cX4_courtiersMisled 4 = .ok (.aload_n 0, 1) := by decide +kernel
theorem dX4_courtiersMisled_5 : decode cX4_courtiersMisled 5 = .ok (.getfield 10, 3) := by decide +kernel
theorem dX4_courtiersMisled_8 : decode cX4_courtiersMisled 8 = .ok (.iconst 0, 1) := by decide +kernel
theorem dX4_courtiersMisled_9 : decode cX4_courtiersMisled 9 = .ok (.invokevirtual 126, 3) := by decide +kernel
theorem dX4_courtiersMisled_12 : decode cX4_courtiersMisled 12 = .ok (.iconst 0, 1) := by decide +kernel
theorem dX4_courtiersMisled_13 : decode cX4_courtiersMisled 13 = .ok (.istore_n 1, 1) := by decide +kernel
theorem dX4_courtiersMisled_14 : decode cX4_courtiersMisled 14 = .ok (.iconst 0, 1) := by decide +kernel
theorem dX4_courtiersMisled_15 : decode cX4_courtiersMisled 15 = .ok (.istore_n 2, 1) := by decide +kernel
theorem dX4_courtiersMisled_16 : decode cX4_courtiersMisled 16 = .ok (.iload_n 2, 1) := by decide +kernel
theorem dX4_courtiersMisled_17 : decode cX4_courtiersMisled 17 = .ok (.bipush 6, 2) := by decide +kernel
theorem dX4_courtiersMisled_19 : decode cX4_courtiersMisled 19 = .ok (.if_icmp .ge 31, 3) := by decide +kernel
theorem dX4_courtiersMisled_22 : decode cX4_courtiersMisled 22 = .ok (.aload_n 0, 1) := by decide +kernel
theorem dX4_courtiersMisled_23 : decode cX4_courtiersMisled 23 = .ok (.iload_n 2, 1) := by decide +kernel
theorem dX4_courtiersMisled_24 : decode cX4_courtiersMisled 24 = .ok (.invokevirtual 104, 3) := by decide +kernel
theorem dX4_courtiersMisled_27 : decode cX4_courtiersMisled 27 = .ok (.aload_n 0, 1) := by decide +kernel
theorem dX4_courtiersMisled_28 : decode cX4_courtiersMisled 28 = .ok (.getfield 37, 3) := by decide +kernel
theorem dX4_courtiersMisled_31 : decode cX4_courtiersMisled 31 = .ok (.aload_n 0, 1) := by decide +kernel
theorem dX4_courtiersMisled_32 : decode cX4_courtiersMisled 32 = .ok (.getfield 41, 3) := by decide +kernel
theorem dX4_courtiersMisled_35 : decode cX4_courtiersMisled 35 = .ok (.invokevirtual 210, 3) := by decide +kernel
theorem dX4_courtiersMisled_38 : decode cX4_courtiersMisled 38 = .ok (.ifCond .ne 6, 3) := by decide +kernel
theorem dX4_courtiersMisled_41 : decode cX4_courtiersMisled 41 = .ok (.iinc 1 1, 3) := by decide +kernel
theorem dX4_courtiersMisled_44 : decode cX4_courtiersMisled 44 = .ok (.iinc 2 1, 3) := by decide +kernel
theorem dX4_courtiersMisled_47 : decode cX4_courtiersMisled 47 = .ok (.goto (-31), 3) := by decide +kernel
theorem dX4_courtiersMisled_50 : decode cX4_courtiersMisled 50 = .ok (.iload_n 1, 1) := by decide +kernel
theorem dX4_courtiersMisled_51 : decode cX4_courtiersMisled 51 = .ok (.ireturn, 1) := by decide +kernel
