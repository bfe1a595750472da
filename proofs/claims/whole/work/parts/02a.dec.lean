theorem dX0_init_0 : decode cX0_init 0 = .ok (.aload_n 0, 1) := by decide +kernel
theorem dX0_init_1 : decode cX0_init 1 = .ok (.invokespecial 3, 3) := by decide +kernel
theorem dX0_init_4 : decode cX0_init 4 = .ok (.aload_n 0, 1) := by decide +kernel
theorem dX0_init_5 : decode cX0_init 5 = .ok (.bipush 8, 2) := by decide +kernel
theorem dX0_init_7 : decode cX0_init 7 = .ok (.anewarray 9, 3) := by decide +kernel
theorem dX0_init_10 : decode cX0_init 10 = .ok (.putfield 11, 3) := by decide +kernel
theorem dX0_init_13 : decode cX0_init 13 = .ok (.aload_n 0, 1) := by decide +kernel
theorem dX0_init_14 : decode cX0_init 14 = .ok (.iconst 0, 1) := by decide +kernel
theorem dX0_init_15 : decode cX0_init 15 = .ok (.putfield 17, 3) := by decide +kernel
theorem dX0_init_18 : decode cX0_init 18 = .ok (.aload_n 0, 1) := by decide +kernel
theorem dX0_init_19 : decode cX0_init 19 = .ok (.iconst 0, 1) := by decide +kernel
theorem dX0_init_20 : decode cX0_init 20 = .ok (.putfield 21, 3) := by decide +kernel
theorem dX0_init_23 : decode cX0_init 23 = .ok (.iconst 0, 1) := by decide +kernel
theorem dX0_init_24 : decode cX0_init 24 = .ok (.istore_n 1, 1) := by decide +kernel
theorem dX0_init_25 : decode cX0_init 25 = .ok (.iload_n 1, 1) := by decide +kernel
theorem dX0_init_26 : decode cX0_init 26 = .ok (.bipush 8, 2) := by decide +kernel
theorem dX0_init_28 : decode cX0_init 28 = .ok (.if_icmp .ge 22, 3) := by decide +kernel
theorem dX0_init_31 : decode cX0_init 31 = .ok (.aload_n 0, 1) := by decide +kernel
theorem dX0_init_32 : decode cX0_init 32 = .ok (.getfield 11, 3) := by decide +kernel
theorem dX0_init_35 : decode cX0_init 35 = .ok (.iload_n 1, 1) := by decide +kernel
theorem dX0_init_36 : decode cX0_init 36 = .ok (.new 9, 3) := by decide +kernel
theorem dX0_init_39 : decode cX0_init 39 = .ok (.dup, 1) := by decide +kernel
theorem dX0_init_40 : decode cX0_init 40 = .ok (.invokespecial 24, 3) := by decide +kernel
theorem dX0_init_43 : decode cX0_init 43 = .ok (.aastore, 1) := by decide +kernel
theorem dX0_init_44 : decode cX0_init 44 = .ok (.iinc 1 1, 3) := by decide +kernel
theorem dX0_init_47 : decode cX0_init 47 = .ok (.goto (-22), 3) := by decide +kernel
theorem dX0_init_50 : decode cX0_init 50 = .ok (.return_, 1) := by decide +kernel
theorem dX0_keep_0 : decode cX0_keep 0 = .ok (.aload_n 0, 1) := by decide +kernel
theorem dX0_keep_1 : decode cX0_keep 1 = .ok (.getfield 11, 3) := by decide +kernel
theorem dX0_keep_4 : decode cX0_keep 4 = .ok (.aload_n 0, 1) := by decide +kernel
theorem dX0_keep_5 : decode cX0_keep 5 = .ok (.getfield 17, 3) := by decide +kernel
theorem dX0_keep_8 : decode cX0_keep 8 = .ok (.aaload, 1) := by decide +kernel
theorem dX0_keep_9 : decode cX0_keep 9 = .ok (.astore_n 2, 1) := by decide +kernel
theorem dX0_keep_10 : decode cX0_keep 10 = .ok (.aload_n 2, 1) := by decide +kernel
theorem dX0_keep_11 : decode cX0_keep 11 = .ok (.ifnull 8, 3) := by decide +kernel
theorem dX0_keep_14 : decode cX0_keep 14 = .ok (.aload_n 2, 1) := by decide +kernel
theorem dX0_keep_15 : decode cX0_keep 15 = .ok (.aload_n 1, 1) := by decide +kernel
theorem dX0_keep_16 : decode cX0_keep 16 = .ok (.invokevirtual 25, 3) := by decide +kernel
theorem dX0_keep_19 : decode cX0_keep 19 = .ok (.aload_n 0, 1) := by decide +kernel
theorem dX0_keep_20 : decode cX0_keep 20 = .ok (.aload_n 0, 1) := by decide +kernel
theorem dX0_keep_21 : decode cX0_keep 21 = .ok (.getfield 17, 3) := by decide +kernel
theorem dX0_keep_24 : decode cX0_keep 24 = .ok (.bipush 7, 2) := by decide +kernel
theorem dX0_keep_26 : decode cX0_keep 26 = .ok (.if_icmp .ne 7, 3) := by decide +kernel
theorem dX0_keep_29 : decode cX0_keep 29 = .ok (.iconst 0, 1) := by decide +kernel
theorem dX0_keep_30 : decode cX0_keep 30 = .ok (.goto 9, 3) := by decide +kernel
theorem dX0_keep_33 : decode cX0_keep 33 = .ok (.aload_n 0, 1) := by decide +kernel
theorem dX0_keep_34 : decode cX0_keep 34 = .ok (.getfield 17, 3) := by decide +kernel
theorem dX0_keep_37 : decode cX0_keep 37 = .ok (.iconst 1, 1) := by decide +kernel
theorem dX0_keep_38 : decode cX0_keep 38 = .ok (.iadd, 1) := by decide +kernel
theorem dX0_keep_39 : decode cX0_keep 39 = .ok (.putfield 17, 3) := by decide +kernel
theorem dX0_keep_42 : decode cX0_keep 42 = .ok (.aload_n 0, 1) := by decide +kernel
theorem dX0_keep_43 : decode cX0_keep 43 = .ok (.aload_n 0, 1) := by decide +kernel
theorem dX0_keep_44 : decode cX0_keep 44 = .ok (.getfield 21, 3) := by decide +kernel
theorem dX0_keep_47 : decode cX0_keep 47 = .ok (.iconst 1, 1) := by decide +kernel
theorem dX0_keep_48 : decode cX0_keep 48 = .ok (.iadd, 1) := by decide +kernel
theorem dX0_keep_49 : decode cX0_keep 49 = .ok (.bipush 8, 2) := by decide +kernel
theorem dX0_keep_51 : decode cX0_keep 51 = .ok (.invokestatic 29, 3) := by decide +kernel
theorem dX0_keep_54 : decode cX0_keep 54 = .ok (.putfield 21, 3) := by decide +kernel
theorem dX0_keep_57 : decode cX0_keep 57 = .ok (.return_, 1) := by decide +kernel
theorem dX0_takeBack_0 : decode cX0_takeBack 0 = .ok (.aload_n 0, 1) := by decide +kernel
theorem dX0_takeBack_1 : decode cX0_takeBack 1 = .ok (.aload_n 0, 1) := by decide +kernel
theorem dX0_takeBack_2 : decode cX0_takeBack 2 = .ok (.getfield 17, 3) := by decide +kernel
theorem dX0_takeBack_5 : decode cX0_takeBack 5 = .ok (.ifCond .ne 8, 3) := by decide +kernel
theorem dX0_takeBack_8 : decode cX0_takeBack 8 = .ok (.bipush 7, 2) := by decide +kernel
theorem dX0_takeBack_10 : decode cX0_takeBack 10 = .ok (.goto 9, 3) := by decide +kernel
theorem dX0_takeBack_13 : decode cX0_takeBack 13 = .ok (.aload_n 0, 1) := by decide +kernel
theorem dX0_takeBack_14 : decode cX0_takeBack 14 = .ok (.getfield 17, 3) := by decide +kernel
theorem dX0_takeBack_17 : decode cX0_takeBack 17 = .ok (.iconst 1, 1) := by decide +kernel
theorem dX0_takeBack_18 : decode cX0_takeBack 18 = .ok (.isub, 1) := by decide +kernel
theorem dX0_takeBack_19 : decode cX0_takeBack 19 = .ok (.putfield 17, 3) := by decide +kernel
theorem dX0_takeBack_22 : decode cX0_takeBack 22 = .ok (.aload_n 0, 1) := by decide +kernel
theorem dX0_takeBack_23 : decode cX0_takeBack 23 = .ok (.aload_n 0, 1) := by decide +kernel
theorem dX0_takeBack_24 : decode cX0_takeBack 24 = .ok (.getfield 21, 3) := by decide +kernel
theorem dX0_takeBack_27 : decode cX0_takeBack 27 = .ok (.iconst 1, 1) := by decide +kernel
theorem dX0_takeBack_28 : decode cX0_takeBack 28 = .ok (.isub, 1) := by decide +kernel
theorem dX0_takeBack_29 : decode cX0_takeBack 29 = .ok (.iconst 0, 1) := by decide +kernel
theorem dX0_takeBack_30 : decode cX0_takeBack 30 = .ok (.invokestatic 35, 3) := by decide +kernel
theorem dX0_takeBack_33 : decode cX0_takeBack 33 = .ok (.putfield 21, 3) := by decide +kernel
theorem dX0_takeBack_36 : decode cX0_takeBack 36 = .ok (.aload_n 0, 1) := by decide +kernel
theorem dX0_takeBack_37 : decode cX0_takeBack 37 = .ok (.getfield 11, 3) := by decide +kernel
theorem dX0_takeBack_40 : decode cX0_takeBack 40 = .ok (.aload_n 0, 1) := by decide +kernel
theorem dX0_takeBack_41 : decode cX0_takeBack 41 = .ok (.getfield 17, 3) := by decide +kernel
theorem dX0_takeBack_44 : decode cX0_takeBack 44 = .ok (.aaload, 1) := by decide +kernel
theorem dX0_takeBack_45 : decode cX0_takeBack 45 = .ok (.astore_n 2, 1) := by decide +kernel
theorem dX0_takeBack_46 : decode cX0_takeBack 46 = .ok (.aload_n 2, 1) := by decide +kernel
theorem dX0_takeBack_47 : decode cX0_takeBack 47 = .ok (.ifnull 8, 3) := by decide +kernel
theorem dX0_takeBack_50 : decode cX0_takeBack 50 = .ok (.aload_n 1, 1) := by decide +kernel
theorem dX0_takeBack_51 : decode cX0_takeBack 51 = .ok (.aload_n 2, 1) := by decide +kernel
theorem dX0_takeBack_52 : decode cX0_takeBack 52 = .ok (.invokevirtual 25, 3) := by decide +kernel
theorem dX0_takeBack_55 : decode cX0_takeBack 55 = .ok (.return_, 1) := by decide +kernel
theorem dX1_survivor_0 : decode cX1_survivor 0 = .ok (.iload_n 0, 1) := by decide +kernel
theorem dX1_survivor_1 : decode cX1_survivor 1 = .ok (.iconst (-1), 1) := by decide +kernel
theorem dX1_survivor_2 : decode cX1_survivor 2 = .ok (.if_icmp .eq 8, 3) := by decide +kernel
theorem dX1_survivor_5 : decode cX1_survivor 5 = .ok (.iload_n 1, 1) := by decide +kernel
theorem dX1_survivor_6 : decode cX1_survivor 6 = .ok (.iconst (-1), 1) := by decide +kernel
theorem dX1_survivor_7 : decode cX1_survivor 7 = .ok (.if_icmp .ne 9, 3) := by decide +kernel
theorem dX1_survivor_10 : decode cX1_survivor 10 = .ok (.iload_n 0, 1) := by decide +kernel
theorem dX1_survivor_11 : decode cX1_survivor 11 = .ok (.iload_n 1, 1) := by decide +kernel
theorem dX1_survivor_12 : decode cX1_survivor 12 = .ok (.invokestatic 9, 3) := by decide +kernel
theorem dX1_survivor_15 : decode cX1_survivor 15 = .ok (.ireturn, 1) := by decide +kernel
theorem dX1_survivor_16 : decode cX1_survivor 16 = .ok (.iload_n 0, 1) := by decide +kernel
theorem dX1_survivor_17 : decode cX1_survivor 17 = .ok (.iload_n 1, 1) := by decide +kernel
theorem dX1_survivor_18 : decode cX1_survivor 18 = .ok (.if_icmp .ne 7, 3) := by decide +kernel
theorem dX1_survivor_21 : decode cX1_survivor 21 = .ok (.iconst (-1), 1) := by decide +kernel
theorem dX1_survivor_22 : decode cX1_survivor 22 = .ok (.goto 8, 3) := by decide +kernel
theorem dX1_survivor_25 : decode cX1_survivor 25 = .ok (.iload_n 0, 1) := by decide +kernel
theorem dX1_survivor_26 : decode cX1_survivor 26 = .ok (.iload_n 1, 1) := by decide +kernel
theorem dX1_survivor_27 : decode cX1_survivor 27 = .ok (.invokestatic 15, 3) := by decide +kernel
theorem dX1_survivor_30 : decode cX1_survivor 30 = .ok (.ireturn, 1) := by decide +kernel
theorem dX1_countKills_0 : decode cX1_countKills 0 = .ok (.aload_n 0, 1) := by decide +kernel
theorem dX1_countKills_1 : decode cX1_countKills 1 = .ok (.iload_n 1, 1) := by decide +kernel
theorem dX1_countKills_2 : decode cX1_countKills 2 = .ok (.invokevirtual 18, 3) := by decide +kernel
theorem dX1_countKills_5 : decode cX1_countKills 5 = .ok (.istore_n 3, 1) := by decide +kernel
theorem dX1_countKills_6 : decode cX1_countKills 6 = .ok (.aload_n 0, 1) := by decide +kernel
theorem dX1_countKills_7 : decode cX1_countKills 7 = .ok (.iload_n 2, 1) := by decide +kernel
theorem dX1_countKills_8 : decode cX1_countKills 8 = .ok (.invokevirtual 18, 3) := by decide +kernel
theorem dX1_countKills_11 : decode cX1_countKills 11 = .ok (.istore 4, 2) := by decide +kernel
theorem dX1_countKills_13 : decode cX1_countKills 13 = .ok (.iconst 0, 1) := by decide +kernel
theorem dX1_countKills_14 : decode cX1_countKills 14 = .ok (.istore 5, 2) := by decide +kernel
theorem dX1_countKills_16 : decode cX1_countKills 16 = .ok (.iconst 0, 1) := by decide +kernel
theorem dX1_countKills_17 : decode cX1_countKills 17 = .ok (.istore 6, 2) := by decide +kernel
theorem dX1_countKills_19 : decode cX1_countKills 19 = .ok (.iload 6, 2) := by decide +kernel
theorem dX1_countKills_21 : decode cX1_countKills 21 = .ok (.bipush 10, 2) := by decide +kernel
theorem dX1_countKills_23 : decode cX1_countKills 23 = .ok (.if_icmp .ge 61, 3) := by decide +kernel
theorem dX1_countKills_26 : decode cX1_countKills 26 = .ok (.aload_n 0, 1) := by decide +kernel
theorem dX1_countKills_27 : decode cX1_countKills 27 = .ok (.iload_n 3, 1) := by decide +kernel
theorem dX1_countKills_28 : decode cX1_countKills 28 = .ok (.iload 6, 2) := by decide +kernel
theorem dX1_countKills_30 : decode cX1_countKills 30 = .ok (.invokevirtual 24, 3) := by decide +kernel
theorem dX1_countKills_33 : decode cX1_countKills 33 = .ok (.istore 7, 2) := by decide +kernel
theorem dX1_countKills_35 : decode cX1_countKills 35 = .ok (.aload_n 0, 1) := by decide +kernel
theorem dX1_countKills_36 : decode cX1_countKills 36 = .ok (.iload 4, 2) := by decide +kernel
theorem dX1_countKills_38 : decode cX1_countKills 38 = .ok (.iload 6, 2) := by decide +kernel
theorem dX1_countKills_40 : decode cX1_countKills 40 = .ok (.invokevirtual 24, 3) := by decide +kernel
theorem dX1_countKills_43 : decode cX1_countKills 43 = .ok (.istore 8, 2) := by decide +kernel
theorem dX1_countKills_45 : decode cX1_countKills 45 = .ok (.iload 7, 2) := by decide +kernel
theorem dX1_countKills_47 : decode cX1_countKills 47 = .ok (.iconst (-1), 1) := by decide +kernel
theorem dX1_countKills_48 : decode cX1_countKills 48 = .ok (.if_icmp .eq 30, 3) := by decide +kernel
theorem dX1_countKills_51 : decode cX1_countKills 51 = .ok (.iload 8, 2) := by decide +kernel
theorem dX1_countKills_53 : decode cX1_countKills 53 = .ok (.iconst (-1), 1) := by decide +kernel
theorem dX1_countKills_54 : decode cX1_countKills 54 = .ok (.if_icmp .eq 24, 3) := by decide +kernel
theorem dX1_countKills_57 : decode cX1_countKills 57 = .ok (.iload 5, 2) := by decide +kernel
theorem dX1_countKills_59 : decode cX1_countKills 59 = .ok (.iload 7, 2) := by decide +kernel
theorem dX1_countKills_61 : decode cX1_countKills 61 = .ok (.iload 8, 2) := by decide +kernel
theorem dX1_countKills_63 : decode cX1_countKills 63 = .ok (.invokestatic 27, 3) := by decide +kernel
theorem dX1_countKills_66 : decode cX1_countKills 66 = .ok (.iconst (-1), 1) := by decide +kernel
theorem dX1_countKills_67 : decode cX1_countKills 67 = .ok (.if_icmp .ne 7, 3) := by decide +kernel
theorem dX1_countKills_70 : decode cX1_countKills 70 = .ok (.iconst 2, 1) := by decide +kernel
theorem dX1_countKills_71 : decode cX1_countKills 71 = .ok (.goto 4, 3) := by decide +kernel
theorem dX1_countKills_74 : decode cX1_countKills 74 = .ok (.iconst 1, 1) := by decide +kernel
theorem dX1_countKills_75 : decode cX1_countKills 75 = .ok (.iadd, 1) := by decide +kernel
theorem dX1_countKills_76 : decode cX1_countKills 76 = .ok (.istore 5, 2) := by decide +kernel
theorem dX1_countKills_78 : decode cX1_countKills 78 = .ok (.iinc 6 1, 3) := by decide +kernel
theorem dX1_countKills_81 : decode cX1_countKills 81 = .ok (.goto (-62), 3) := by decide +kernel
theorem dX1_countKills_84 : decode cX1_countKills 84 = .ok (.iload 5, 2) := by decide +kernel
theorem dX1_countKills_86 : decode cX1_countKills 86 = .ok (.ireturn, 1) := by decide +kernel
theorem dX1_settleNicks_0 : decode cX1_settleNicks 0 = .ok (.aload_n 0, 1) := by decide +kernel
theorem dX1_settleNicks_1 : decode cX1_settleNicks 1 = .ok (.iload_n 1, 1) := by decide +kernel
theorem dX1_settleNicks_2 : decode cX1_settleNicks 2 = .ok (.invokevirtual 18, 3) := by decide +kernel
theorem dX1_settleNicks_5 : decode cX1_settleNicks 5 = .ok (.istore_n 3, 1) := by decide +kernel
theorem dX1_settleNicks_6 : decode cX1_settleNicks 6 = .ok (.aload_n 0, 1) := by decide +kernel
theorem dX1_settleNicks_7 : decode cX1_settleNicks 7 = .ok (.iload_n 2, 1) := by decide +kernel
theorem dX1_settleNicks_8 : decode cX1_settleNicks 8 = .ok (.invokevirtual 18, 3) := by decide +kernel
theorem dX1_settleNicks_11 : decode cX1_settleNicks 11 = .ok (.istore 4, 2) := by decide +kernel
theorem dX1_settleNicks_13 : decode cX1_settleNicks 13 = .ok (.iconst 0, 1) := by decide +kernel
theorem dX1_settleNicks_14 : decode cX1_settleNicks 14 = .ok (.istore 5, 2) := by decide +kernel
theorem dX1_settleNicks_16 : decode cX1_settleNicks 16 = .ok (.iload 5, 2) := by decide +kernel
theorem dX1_settleNicks_18 : decode cX1_settleNicks 18 = .ok (.bipush 10, 2) := by decide +kernel
theorem dX1_settleNicks_20 : decode cX1_settleNicks 20 = .ok (.if_icmp .ge 50, 3) := by decide +kernel
theorem dX1_settleNicks_23 : decode cX1_settleNicks 23 = .ok (.aload_n 0, 1) := by decide +kernel
theorem dX1_settleNicks_24 : decode cX1_settleNicks 24 = .ok (.iload_n 3, 1) := by decide +kernel
theorem dX1_settleNicks_25 : decode cX1_settleNicks 25 = .ok (.iload 5, 2) := by decide +kernel
theorem dX1_settleNicks_27 : decode cX1_settleNicks 27 = .ok (.invokevirtual 32, 3) := by decide +kernel
theorem dX1_settleNicks_30 : decode cX1_settleNicks 30 = .ok (.istore 6, 2) := by decide +kernel
theorem dX1_settleNicks_32 : decode cX1_settleNicks 32 = .ok (.aload_n 0, 1) := by decide +kernel
theorem dX1_settleNicks_33 : decode cX1_settleNicks 33 = .ok (.iload 4, 2) := by decide +kernel
theorem dX1_settleNicks_35 : decode cX1_settleNicks 35 = .ok (.iload 5, 2) := by decide +kernel
theorem dX1_settleNicks_37 : decode cX1_settleNicks 37 = .ok (.invokevirtual 32, 3) := by decide +kernel
theorem dX1_settleNicks_40 : decode cX1_settleNicks 40 = .ok (.istore 7, 2) := by decide +kernel
theorem dX1_settleNicks_42 : decode cX1_settleNicks 42 = .ok (.iload 6, 2) := by decide +kernel
theorem dX1_settleNicks_44 : decode cX1_settleNicks 44 = .ok (.iconst (-1), 1) := by decide +kernel
theorem dX1_settleNicks_45 : decode cX1_settleNicks 45 = .ok (.if_icmp .eq 19, 3) := by decide +kernel
theorem dX1_settleNicks_48 : decode cX1_settleNicks 48 = .ok (.iload 7, 2) := by decide +kernel
theorem dX1_settleNicks_50 : decode cX1_settleNicks 50 = .ok (.iconst (-1), 1) := by decide +kernel
theorem dX1_settleNicks_51 : decode cX1_settleNicks 51 = .ok (.if_icmp .eq 13, 3) := by decide +kernel
theorem dX1_settleNicks_54 : decode cX1_settleNicks 54 = .ok (.aload_n 0, 1) := by decide +kernel
theorem dX1_settleNicks_55 : decode cX1_settleNicks 55 = .ok (.iload 5, 2) := by decide +kernel
theorem dX1_settleNicks_57 : decode cX1_settleNicks 57 = .ok (.iload 6, 2) := by decide +kernel
theorem dX1_settleNicks_59 : decode cX1_settleNicks 59 = .ok (.iload 7, 2) := by decide +kernel
theorem dX1_settleNicks_61 : decode cX1_settleNicks 61 = .ok (.invokestatic 35, 3) := by decide +kernel
theorem dX1_settleNicks_64 : decode cX1_settleNicks 64 = .ok (.iinc 5 1, 3) := by decide +kernel
theorem dX1_settleNicks_67 : decode cX1_settleNicks 67 = .ok (.goto (-51), 3) := by decide +kernel
theorem dX1_settleNicks_70 : decode cX1_settleNicks 70 = .ok (.return_, 1) := by decide +kernel
theorem dX1_settleCollision_0 : decode cX1_settleCollision 0 = .ok (.aload_n 0, 1) := by decide +kernel
theorem dX1_settleCollision_1 : decode cX1_settleCollision 1 = .ok (.iload_n 2, 1) := by decide +kernel
theorem dX1_settleCollision_2 : decode cX1_settleCollision 2 = .ok (.iload_n 1, 1) := by decide +kernel
theorem dX1_settleCollision_3 : decode cX1_settleCollision 3 = .ok (.invokevirtual 39, 3) := by decide +kernel
theorem dX1_settleCollision_6 : decode cX1_settleCollision 6 = .ok (.istore 4, 2) := by decide +kernel
theorem dX1_settleCollision_8 : decode cX1_settleCollision 8 = .ok (.aload_n 0, 1) := by decide +kernel
theorem dX1_settleCollision_9 : decode cX1_settleCollision 9 = .ok (.iload_n 3, 1) := by decide +kernel
theorem dX1_settleCollision_10 : decode cX1_settleCollision 10 = .ok (.iload_n 1, 1) := by decide +kernel
theorem dX1_settleCollision_11 : decode cX1_settleCollision 11 = .ok (.invokevirtual 39, 3) := by decide +kernel
theorem dX1_settleCollision_14 : decode cX1_settleCollision 14 = .ok (.istore 5, 2) := by decide +kernel
theorem dX1_settleCollision_16 : decode cX1_settleCollision 16 = .ok (.iload 4, 2) := by decide +kernel
theorem dX1_settleCollision_18 : decode cX1_settleCollision 18 = .ok (.iload 5, 2) := by decide +kernel
theorem dX1_settleCollision_20 : decode cX1_settleCollision 20 = .ok (.invokestatic 27, 3) := by decide +kernel
theorem dX1_settleCollision_23 : decode cX1_settleCollision 23 = .ok (.istore 6, 2) := by decide +kernel
theorem dX1_settleCollision_25 : decode cX1_settleCollision 25 = .ok (.iload 4, 2) := by decide +kernel
theorem dX1_settleCollision_27 : decode cX1_settleCollision 27 = .ok (.iload 6, 2) := by decide +kernel
theorem dX1_settleCollision_29 : decode cX1_settleCollision 29 = .ok (.if_icmp .eq 9, 3) := by decide +kernel
theorem dX1_settleCollision_32 : decode cX1_settleCollision 32 = .ok (.aload_n 0, 1) := by decide +kernel
theorem dX1_settleCollision_33 : decode cX1_settleCollision 33 = .ok (.iload_n 2, 1) := by decide +kernel
theorem dX1_settleCollision_34 : decode cX1_settleCollision 34 = .ok (.iload_n 1, 1) := by decide +kernel
theorem dX1_settleCollision_35 : decode cX1_settleCollision 35 = .ok (.invokevirtual 42, 3) := by decide +kernel
theorem dX1_settleCollision_38 : decode cX1_settleCollision 38 = .ok (.iload 5, 2) := by decide +kernel
theorem dX1_settleCollision_40 : decode cX1_settleCollision 40 = .ok (.iload 6, 2) := by decide +kernel
theorem dX1_settleCollision_42 : decode cX1_settleCollision 42 = .ok (.if_icmp .eq 9, 3) := by decide +kernel
theorem dX1_settleCollision_45 : decode cX1_settleCollision 45 = .ok (.aload_n 0, 1) := by decide +kernel
theorem dX1_settleCollision_46 : decode cX1_settleCollision 46 = .ok (.iload_n 3, 1) := by decide +kernel
theorem dX1_settleCollision_47 : decode cX1_settleCollision 47 = .ok (.iload_n 1, 1) := by decide +kernel
theorem dX1_settleCollision_48 : decode cX1_settleCollision 48 = .ok (.invokevirtual 42, 3) := by decide +kernel
theorem dX1_settleCollision_51 : decode cX1_settleCollision 51 = .ok (.return_, 1) := by decide +kernel
theorem dX1_settleChannels_0 : decode cX1_settleChannels 0 = .ok (.aload_n 0, 1) := by decide +kernel
theorem dX1_settleChannels_1 : decode cX1_settleChannels 1 = .ok (.iconst 0, 1) := by decide +kernel
theorem dX1_settleChannels_2 : decode cX1_settleChannels 2 = .ok (.putfield 46, 3) := by decide +kernel
theorem dX1_settleChannels_5 : decode cX1_settleChannels 5 = .ok (.aload_n 0, 1) := by decide +kernel
theorem dX1_settleChannels_6 : decode cX1_settleChannels 6 = .ok (.iconst 0, 1) := by decide +kernel
theorem dX1_settleChannels_7 : decode cX1_settleChannels 7 = .ok (.putfield 50, 3) := by decide +kernel
theorem dX1_settleChannels_10 : decode cX1_settleChannels 10 = .ok (.iconst 0, 1) := by decide +kernel
theorem dX1_settleChannels_11 : decode cX1_settleChannels 11 = .ok (.istore_n 3, 1) := by decide +kernel
theorem dX1_settleChannels_12 : decode cX1_settleChannels 12 = .ok (.iload_n 3, 1) := by decide +kernel
theorem dX1_settleChannels_13 : decode cX1_settleChannels 13 = .ok (.iconst 4, 1) := by decide +kernel
theorem dX1_settleChannels_14 : decode cX1_settleChannels 14 = .ok (.if_icmp .ge 80, 3) := by decide +kernel
theorem dX1_settleChannels_17 : decode cX1_settleChannels 17 = .ok (.aload_n 0, 1) := by decide +kernel
theorem dX1_settleChannels_18 : decode cX1_settleChannels 18 = .ok (.iload_n 1, 1) := by decide +kernel
theorem dX1_settleChannels_19 : decode cX1_settleChannels 19 = .ok (.iload_n 3, 1) := by decide +kernel
theorem dX1_settleChannels_20 : decode cX1_settleChannels 20 = .ok (.invokevirtual 53, 3) := by decide +kernel
theorem dX1_settleChannels_23 : decode cX1_settleChannels 23 = .ok (.istore 4, 2) := by decide +kernel
theorem dX1_settleChannels_25 : decode cX1_settleChannels 25 = .ok (.aload_n 0, 1) := by decide +kernel
theorem dX1_settleChannels_26 : decode cX1_settleChannels 26 = .ok (.iload_n 2, 1) := by decide +kernel
theorem dX1_settleChannels_27 : decode cX1_settleChannels 27 = .ok (.iload_n 3, 1) := by decide +kernel
theorem dX1_settleChannels_28 : decode cX1_settleChannels 28 = .ok (.invokevirtual 53, 3) := by decide +kernel
theorem dX1_settleChannels_31 : decode cX1_settleChannels 31 = .ok (.istore 5, 2) := by decide +kernel
theorem dX1_settleChannels_33 : decode cX1_settleChannels 33 = .ok (.iload 4, 2) := by decide +kernel
theorem dX1_settleChannels_35 : decode cX1_settleChannels 35 = .ok (.ifCond .eq 18, 3) := by decide +kernel
theorem dX1_settleChannels_38 : decode cX1_settleChannels 38 = .ok (.iload 5, 2) := by decide +kernel
theorem dX1_settleChannels_40 : decode cX1_settleChannels 40 = .ok (.ifCond .eq 13, 3) := by decide +kernel
theorem dX1_settleChannels_43 : decode cX1_settleChannels 43 = .ok (.aload_n 0, 1) := by decide +kernel
theorem dX1_settleChannels_44 : decode cX1_settleChannels 44 = .ok (.iload_n 1, 1) := by decide +kernel
theorem dX1_settleChannels_45 : decode cX1_settleChannels 45 = .ok (.iload_n 2, 1) := by decide +kernel
theorem dX1_settleChannels_46 : decode cX1_settleChannels 46 = .ok (.iload_n 3, 1) := by decide +kernel
theorem dX1_settleChannels_47 : decode cX1_settleChannels 47 = .ok (.invokestatic 57, 3) := by decide +kernel
theorem dX1_settleChannels_50 : decode cX1_settleChannels 50 = .ok (.goto 38, 3) := by decide +kernel
theorem dX1_settleChannels_53 : decode cX1_settleChannels 53 = .ok (.iload 4, 2) := by decide +kernel
theorem dX1_settleChannels_55 : decode cX1_settleChannels 55 = .ok (.ifCond .eq 17, 3) := by decide +kernel
theorem dX1_settleChannels_58 : decode cX1_settleChannels 58 = .ok (.aload_n 0, 1) := by decide +kernel
theorem dX1_settleChannels_59 : decode cX1_settleChannels 59 = .ok (.iload_n 1, 1) := by decide +kernel
theorem dX1_settleChannels_60 : decode cX1_settleChannels 60 = .ok (.aload_n 0, 1) := by decide +kernel
theorem dX1_settleChannels_61 : decode cX1_settleChannels 61 = .ok (.iload_n 2, 1) := by decide +kernel
theorem dX1_settleChannels_62 : decode cX1_settleChannels 62 = .ok (.invokevirtual 18, 3) := by decide +kernel
theorem dX1_settleChannels_65 : decode cX1_settleChannels 65 = .ok (.iload_n 3, 1) := by decide +kernel
theorem dX1_settleChannels_66 : decode cX1_settleChannels 66 = .ok (.invokestatic 60, 3) := by decide +kernel
theorem dX1_settleChannels_69 : decode cX1_settleChannels 69 = .ok (.goto 19, 3) := by decide +kernel
theorem dX1_settleChannels_72 : decode cX1_settleChannels 72 = .ok (.iload 5, 2) := by decide +kernel
theorem dX1_settleChannels_74 : decode cX1_settleChannels 74 = .ok (.ifCond .eq 14, 3) := by decide +kernel
theorem dX1_settleChannels_77 : decode cX1_settleChannels 77 = .ok (.aload_n 0, 1) := by decide +kernel
theorem dX1_settleChannels_78 : decode cX1_settleChannels 78 = .ok (.iload_n 2, 1) := by decide +kernel
theorem dX1_settleChannels_79 : decode cX1_settleChannels 79 = .ok (.aload_n 0, 1) := by decide +kernel
theorem dX1_settleChannels_80 : decode cX1_settleChannels 80 = .ok (.iload_n 1, 1) := by decide +kernel
theorem dX1_settleChannels_81 : decode cX1_settleChannels 81 = .ok (.invokevirtual 18, 3) := by decide +kernel
theorem dX1_settleChannels_84 : decode cX1_settleChannels 84 = .ok (.iload_n 3, 1) := by decide +kernel
theorem dX1_settleChannels_85 : decode cX1_settleChannels 85 = .ok (.invokestatic 60, 3) := by decide +kernel
theorem dX1_settleChannels_88 : decode cX1_settleChannels 88 = .ok (.iinc 3 1, 3) := by decide +kernel
theorem dX1_settleChannels_91 : decode cX1_settleChannels 91 = .ok (.goto (-79), 3) := by decide +kernel
theorem dX1_settleChannels_94 : decode cX1_settleChannels 94 = .ok (.return_, 1) := by decide +kernel
theorem dX1_uniteChannels_0 : decode cX1_uniteChannels 0 = .ok (.aload_n 0, 1) := by decide +kernel
theorem dX1_uniteChannels_1 : decode cX1_uniteChannels 1 = .ok (.iload_n 1, 1) := by decide +kernel
theorem dX1_uniteChannels_2 : decode cX1_uniteChannels 2 = .ok (.iload_n 3, 1) := by decide +kernel
theorem dX1_uniteChannels_3 : decode cX1_uniteChannels 3 = .ok (.invokevirtual 63, 3) := by decide +kernel
theorem dX1_uniteChannels_6 : decode cX1_uniteChannels 6 = .ok (.istore 4, 2) := by decide +kernel
theorem dX1_uniteChannels_8 : decode cX1_uniteChannels 8 = .ok (.aload_n 0, 1) := by decide +kernel
theorem dX1_uniteChannels_9 : decode cX1_uniteChannels 9 = .ok (.iload_n 2, 1) := by decide +kernel
theorem dX1_uniteChannels_10 : decode cX1_uniteChannels 10 = .ok (.iload_n 3, 1) := by decide +kernel
theorem dX1_uniteChannels_11 : decode cX1_uniteChannels 11 = .ok (.invokevirtual 63, 3) := by decide +kernel
theorem dX1_uniteChannels_14 : decode cX1_uniteChannels 14 = .ok (.istore 5, 2) := by decide +kernel
theorem dX1_uniteChannels_16 : decode cX1_uniteChannels 16 = .ok (.iload 4, 2) := by decide +kernel
theorem dX1_uniteChannels_18 : decode cX1_uniteChannels 18 = .ok (.iload 5, 2) := by decide +kernel
theorem dX1_uniteChannels_20 : decode cX1_uniteChannels 20 = .ok (.if_icmp .ge 13, 3) := by decide +kernel
theorem dX1_uniteChannels_23 : decode cX1_uniteChannels 23 = .ok (.aload_n 0, 1) := by decide +kernel
theorem dX1_uniteChannels_24 : decode cX1_uniteChannels 24 = .ok (.iload_n 1, 1) := by decide +kernel
theorem dX1_uniteChannels_25 : decode cX1_uniteChannels 25 = .ok (.iload_n 2, 1) := by decide +kernel
theorem dX1_uniteChannels_26 : decode cX1_uniteChannels 26 = .ok (.iload_n 3, 1) := by decide +kernel
theorem dX1_uniteChannels_27 : decode cX1_uniteChannels 27 = .ok (.invokestatic 66, 3) := by decide +kernel
theorem dX1_uniteChannels_30 : decode cX1_uniteChannels 30 = .ok (.goto 63, 3) := by decide +kernel
theorem dX1_uniteChannels_33 : decode cX1_uniteChannels 33 = .ok (.iload 5, 2) := by decide +kernel
theorem dX1_uniteChannels_35 : decode cX1_uniteChannels 35 = .ok (.iload 4, 2) := by decide +kernel
theorem dX1_uniteChannels_37 : decode cX1_uniteChannels 37 = .ok (.if_icmp .ge 13, 3) := by decide +kernel
theorem dX1_uniteChannels_40 : decode cX1_uniteChannels 40 = .ok (.aload_n 0, 1) := by decide +kernel
theorem dX1_uniteChannels_41 : decode cX1_uniteChannels 41 = .ok (.iload_n 2, 1) := by decide +kernel
theorem dX1_uniteChannels_42 : decode cX1_uniteChannels 42 = .ok (.iload_n 1, 1) := by decide +kernel
theorem dX1_uniteChannels_43 : decode cX1_uniteChannels 43 = .ok (.iload_n 3, 1) := by decide +kernel
theorem dX1_uniteChannels_44 : decode cX1_uniteChannels 44 = .ok (.invokestatic 66, 3) := by decide +kernel
theorem dX1_uniteChannels_47 : decode cX1_uniteChannels 47 = .ok (.goto 46, 3) := by decide +kernel
theorem dX1_uniteChannels_50 : decode cX1_uniteChannels 50 = .ok (.aload_n 0, 1) := by decide +kernel
theorem dX1_uniteChannels_51 : decode cX1_uniteChannels 51 = .ok (.iload_n 1, 1) := by decide +kernel
theorem dX1_uniteChannels_52 : decode cX1_uniteChannels 52 = .ok (.iload_n 3, 1) := by decide +kernel
theorem dX1_uniteChannels_53 : decode cX1_uniteChannels 53 = .ok (.invokevirtual 69, 3) := by decide +kernel
theorem dX1_uniteChannels_56 : decode cX1_uniteChannels 56 = .ok (.aload_n 0, 1) := by decide +kernel
theorem dX1_uniteChannels_57 : decode cX1_uniteChannels 57 = .ok (.iload_n 2, 1) := by decide +kernel
theorem dX1_uniteChannels_58 : decode cX1_uniteChannels 58 = .ok (.iload_n 3, 1) := by decide +kernel
theorem dX1_uniteChannels_59 : decode cX1_uniteChannels 59 = .ok (.invokevirtual 69, 3) := by decide +kernel
theorem dX1_uniteChannels_62 : decode cX1_uniteChannels 62 = .ok (.ior, 1) := by decide +kernel
theorem dX1_uniteChannels_63 : decode cX1_uniteChannels 63 = .ok (.istore 6, 2) := by decide +kernel
theorem dX1_uniteChannels_65 : decode cX1_uniteChannels 65 = .ok (.aload_n 0, 1) := by decide +kernel
theorem dX1_uniteChannels_66 : decode cX1_uniteChannels 66 = .ok (.aload_n 0, 1) := by decide +kernel
theorem dX1_uniteChannels_67 : decode cX1_uniteChannels 67 = .ok (.iload_n 1, 1) := by decide +kernel
theorem dX1_uniteChannels_68 : decode cX1_uniteChannels 68 = .ok (.invokevirtual 18, 3) := by decide +kernel
theorem dX1_uniteChannels_71 : decode cX1_uniteChannels 71 = .ok (.iload_n 3, 1) := by decide +kernel
theorem dX1_uniteChannels_72 : decode cX1_uniteChannels 72 = .ok (.iload 4, 2) := by decide +kernel
theorem dX1_uniteChannels_74 : decode cX1_uniteChannels 74 = .ok (.iload 6, 2) := by decide +kernel
theorem dX1_uniteChannels_76 : decode cX1_uniteChannels 76 = .ok (.invokevirtual 72, 3) := by decide +kernel
theorem dX1_uniteChannels_79 : decode cX1_uniteChannels 79 = .ok (.aload_n 0, 1) := by decide +kernel
theorem dX1_uniteChannels_80 : decode cX1_uniteChannels 80 = .ok (.aload_n 0, 1) := by decide +kernel
theorem dX1_uniteChannels_81 : decode cX1_uniteChannels 81 = .ok (.iload_n 2, 1) := by decide +kernel
theorem dX1_uniteChannels_82 : decode cX1_uniteChannels 82 = .ok (.invokevirtual 18, 3) := by decide +kernel
theorem dX1_uniteChannels_85 : decode cX1_uniteChannels 85 = .ok (.iload_n 3, 1) := by decide +kernel
theorem dX1_uniteChannels_86 : decode cX1_uniteChannels 86 = .ok (.iload 4, 2) := by decide +kernel
theorem dX1_uniteChannels_88 : decode cX1_uniteChannels 88 = .ok (.iload 6, 2) := by decide +kernel
theorem dX1_uniteChannels_90 : decode cX1_uniteChannels 90 = .ok (.invokevirtual 72, 3) := by decide +kernel
theorem dX1_uniteChannels_93 : decode cX1_uniteChannels 93 = .ok (.return_, 1) := by decide +kernel
theorem dX1_overruleChannel_0 : decode cX1_overruleChannel 0 = .ok (.aload_n 0, 1) := by decide +kernel
theorem dX1_overruleChannel_1 : decode cX1_overruleChannel 1 = .ok (.iload_n 2, 1) := by decide +kernel
theorem dX1_overruleChannel_2 : decode cX1_overruleChannel 2 = .ok (.invokevirtual 18, 3) := by decide +kernel
theorem dX1_overruleChannel_5 : decode cX1_overruleChannel 5 = .ok (.istore 4, 2) := by decide +kernel
theorem dX1_overruleChannel_7 : decode cX1_overruleChannel 7 = .ok (.aload_n 0, 1) := by decide +kernel
theorem dX1_overruleChannel_8 : decode cX1_overruleChannel 8 = .ok (.dup, 1) := by decide +kernel
theorem dX1_overruleChannel_9 : decode cX1_overruleChannel 9 = .ok (.getfield 46, 3) := by decide +kernel
theorem dX1_overruleChannel_12 : decode cX1_overruleChannel 12 = .ok (.aload_n 0, 1) := by decide +kernel
theorem dX1_overruleChannel_13 : decode cX1_overruleChannel 13 = .ok (.iload 4, 2) := by decide +kernel
theorem dX1_overruleChannel_15 : decode cX1_overruleChannel 15 = .ok (.iload_n 3, 1) := by decide +kernel
theorem dX1_overruleChannel_16 : decode cX1_overruleChannel 16 = .ok (.invokevirtual 76, 3) := by decide +kernel
theorem dX1_overruleChannel_19 : decode cX1_overruleChannel 19 = .ok (.invokestatic 79, 3) := by decide +kernel
theorem dX1_overruleChannel_22 : decode cX1_overruleChannel 22 = .ok (.iadd, 1) := by decide +kernel
theorem dX1_overruleChannel_23 : decode cX1_overruleChannel 23 = .ok (.putfield 46, 3) := by decide +kernel
theorem dX1_overruleChannel_26 : decode cX1_overruleChannel 26 = .ok (.aload_n 0, 1) := by decide +kernel
theorem dX1_overruleChannel_27 : decode cX1_overruleChannel 27 = .ok (.dup, 1) := by decide +kernel
theorem dX1_overruleChannel_28 : decode cX1_overruleChannel 28 = .ok (.getfield 50, 3) := by decide +kernel
theorem dX1_overruleChannel_31 : decode cX1_overruleChannel 31 = .ok (.aload_n 0, 1) := by decide +kernel
theorem dX1_overruleChannel_32 : decode cX1_overruleChannel 32 = .ok (.iload_n 2, 1) := by decide +kernel
theorem dX1_overruleChannel_33 : decode cX1_overruleChannel 33 = .ok (.iload_n 3, 1) := by decide +kernel
theorem dX1_overruleChannel_34 : decode cX1_overruleChannel 34 = .ok (.invokevirtual 69, 3) := by decide +kernel
theorem dX1_overruleChannel_37 : decode cX1_overruleChannel 37 = .ok (.invokestatic 79, 3) := by decide +kernel
theorem dX1_overruleChannel_40 : decode cX1_overruleChannel 40 = .ok (.iadd, 1) := by decide +kernel
theorem dX1_overruleChannel_41 : decode cX1_overruleChannel 41 = .ok (.putfield 50, 3) := by decide +kernel
theorem dX1_overruleChannel_44 : decode cX1_overruleChannel 44 = .ok (.aload_n 0, 1) := by decide +kernel
theorem dX1_overruleChannel_45 : decode cX1_overruleChannel 45 = .ok (.iload 4, 2) := by decide +kernel
theorem dX1_overruleChannel_47 : decode cX1_overruleChannel 47 = .ok (.iload_n 3, 1) := by decide +kernel
theorem dX1_overruleChannel_48 : decode cX1_overruleChannel 48 = .ok (.iconst 0, 1) := by decide +kernel
theorem dX1_overruleChannel_49 : decode cX1_overruleChannel 49 = .ok (.invokevirtual 84, 3) := by decide +kernel
theorem dX1_overruleChannel_52 : decode cX1_overruleChannel 52 = .ok (.aload_n 0, 1) := by decide +kernel
theorem dX1_overruleChannel_53 : decode cX1_overruleChannel 53 = .ok (.iload_n 1, 1) := by decide +kernel
theorem dX1_overruleChannel_54 : decode cX1_overruleChannel 54 = .ok (.iload 4, 2) := by decide +kernel
theorem dX1_overruleChannel_56 : decode cX1_overruleChannel 56 = .ok (.iload_n 3, 1) := by decide +kernel
theorem dX1_overruleChannel_57 : decode cX1_overruleChannel 57 = .ok (.invokestatic 60, 3) := by decide +kernel
theorem dX1_overruleChannel_60 : decode cX1_overruleChannel 60 = .ok (.return_, 1) := by decide +kernel
theorem dX1_tellOfChannel_0 : decode cX1_tellOfChannel 0 = .ok (.aload_n 0, 1) := by decide +kernel
theorem dX1_tellOfChannel_1 : decode cX1_tellOfChannel 1 = .ok (.iload_n 2, 1) := by decide +kernel
theorem dX1_tellOfChannel_2 : decode cX1_tellOfChannel 2 = .ok (.iload_n 3, 1) := by decide +kernel
theorem dX1_tellOfChannel_3 : decode cX1_tellOfChannel 3 = .ok (.aload_n 0, 1) := by decide +kernel
theorem dX1_tellOfChannel_4 : decode cX1_tellOfChannel 4 = .ok (.iload_n 1, 1) := by decide +kernel
theorem dX1_tellOfChannel_5 : decode cX1_tellOfChannel 5 = .ok (.iload_n 3, 1) := by decide +kernel
theorem dX1_tellOfChannel_6 : decode cX1_tellOfChannel 6 = .ok (.invokevirtual 63, 3) := by decide +kernel
theorem dX1_tellOfChannel_9 : decode cX1_tellOfChannel 9 = .ok (.aload_n 0, 1) := by decide +kernel
theorem dX1_tellOfChannel_10 : decode cX1_tellOfChannel 10 = .ok (.iload_n 1, 1) := by decide +kernel
theorem dX1_tellOfChannel_11 : decode cX1_tellOfChannel 11 = .ok (.iload_n 3, 1) := by decide +kernel
theorem dX1_tellOfChannel_12 : decode cX1_tellOfChannel 12 = .ok (.invokevirtual 69, 3) := by decide +kernel
theorem dX1_tellOfChannel_15 : decode cX1_tellOfChannel 15 = .ok (.invokevirtual 72, 3) := by decide +kernel
theorem dX1_tellOfChannel_18 : decode cX1_tellOfChannel 18 = .ok (.return_, 1) := by decide +kernel
theorem dX2_init_0 : decode cX2_init 0 = .ok (.aload_n 0, 1) := by decide +kernel
theorem dX2_init_1 : decode cX2_init 1 = .ok (.invokespecial 3, 3) := by decide +kernel
theorem dX2_init_4 : decode cX2_init 4 = .ok (.aload_n 0, 1) := by decide +kernel
theorem dX2_init_5 : decode cX2_init 5 = .ok (.bipush 40, 2) := by decide +kernel
theorem dX2_init_7 : decode cX2_init 7 = .ok (.newarray .char, 2) := by decide +kernel
theorem dX2_init_9 : decode cX2_init 9 = .ok (.putfield 9, 3) := by decide +kernel
theorem dX2_init_12 : decode cX2_init 12 = .ok (.aload_n 0, 1) := by decide +kernel
theorem dX2_init_13 : decode cX2_init 13 = .ok (.iconst 0, 1) := by decide +kernel
theorem dX2_init_14 : decode cX2_init 14 = .ok (.putfield 15, 3) := by decide +kernel
theorem dX2_init_17 : decode cX2_init 17 = .ok (.return_, 1) := by decide +kernel
theorem dX2_isFull_0 : decode cX2_isFull 0 = .ok (.aload_n 0, 1) := by decide +kernel
theorem dX2_isFull_1 : decode cX2_isFull 1 = .ok (.getfield 15, 3) := by decide +kernel
theorem dX2_isFull_4 : decode cX2_isFull 4 = .ok (.bipush 40, 2) := by decide +kernel
theorem dX2_isFull_6 : decode cX2_isFull 6 = .ok (.if_icmp .lt 7, 3) := by decide +kernel
theorem dX2_isFull_9 : decode cX2_isFull 9 = .ok (.iconst 1, 1) := by decide +kernel
theorem dX2_isFull_10 : decode cX2_isFull 10 = .ok (.goto 4, 3) := by decide +kernel
theorem dX2_isFull_13 : decode cX2_isFull 13 = .ok (.iconst 0, 1) := by decide +kernel
theorem dX2_isFull_14 : decode cX2_isFull 14 = .ok (.ireturn, 1) := by decide +kernel
theorem dX2_add_0 : decode cX2_add 0 = .ok (.aload_n 0, 1) := by decide +kernel
theorem dX2_add_1 : decode cX2_add 1 = .ok (.invokevirtual 19, 3) := by decide +kernel
theorem dX2_add_4 : decode cX2_add 4 = .ok (.ifCond .ne 23, 3) := by decide +kernel
theorem dX2_add_7 : decode cX2_add 7 = .ok (.aload_n 0, 1) := by decide +kernel
theorem dX2_add_8 : decode cX2_add 8 = .ok (.getfield 9, 3) := by decide +kernel
theorem dX2_add_11 : decode cX2_add 11 = .ok (.aload_n 0, 1) := by decide +kernel
theorem dX2_add_12 : decode cX2_add 12 = .ok (.getfield 15, 3) := by decide +kernel
theorem dX2_add_15 : decode cX2_add 15 = .ok (.iload_n 1, 1) := by decide +kernel
theorem dX2_add_16 : decode cX2_add 16 = .ok (.castore, 1) := by decide +kernel
theorem dX2_add_17 : decode cX2_add 17 = .ok (.aload_n 0, 1) := by decide +kernel
theorem dX2_add_18 : decode cX2_add 18 = .ok (.dup, 1) := by decide +kernel
theorem dX2_add_19 : decode cX2_add 19 = .ok (.getfield 15, 3) := by decide +kernel
theorem dX2_add_22 : decode cX2_add 22 = .ok (.iconst 1, 1) := by decide +kernel
theorem dX2_add_23 : decode cX2_add 23 = .ok (.iadd, 1) := by decide +kernel
theorem dX2_add_24 : decode cX2_add 24 = .ok (.putfield 15, 3) := by decide +kernel
theorem dX2_add_27 : decode cX2_add 27 = .ok (.return_, 1) := by decide +kernel
theorem dX2_empty_0 : decode cX2_empty 0 = .ok (.aload_n 0, 1) := by decide +kernel
theorem dX2_empty_1 : decode cX2_empty 1 = .ok (.iconst 0, 1) := by decide +kernel
theorem dX2_empty_2 : decode cX2_empty 2 = .ok (.putfield 15, 3) := by decide +kernel
theorem dX2_empty_5 : decode cX2_empty 5 = .ok (.return_, 1) := by decide +kernel
theorem dX2_errorOffset_0 : decode cX2_errorOffset 0 = .ok (.iconst 1, 1) := by decide +kernel
theorem dX2_errorOffset_1 : decode cX2_errorOffset 1 = .ok (.istore_n 2, 1) := by decide +kernel
theorem dX2_errorOffset_2 : decode cX2_errorOffset 2 = .ok (.iconst 0, 1) := by decide +kernel
theorem dX2_errorOffset_3 : decode cX2_errorOffset 3 = .ok (.istore_n 3, 1) := by decide +kernel
theorem dX2_errorOffset_4 : decode cX2_errorOffset 4 = .ok (.iload_n 3, 1) := by decide +kernel
theorem dX2_errorOffset_5 : decode cX2_errorOffset 5 = .ok (.aload_n 0, 1) := by decide +kernel
theorem dX2_errorOffset_6 : decode cX2_errorOffset 6 = .ok (.getfield 15, 3) := by decide +kernel
theorem dX2_errorOffset_9 : decode cX2_errorOffset 9 = .ok (.if_icmp .ge 27, 3) := by decide +kernel
theorem dX2_errorOffset_12 : decode cX2_errorOffset 12 = .ok (.iload_n 2, 1) := by decide +kernel
theorem dX2_errorOffset_13 : decode cX2_errorOffset 13 = .ok (.aload_n 0, 1) := by decide +kernel
theorem dX2_errorOffset_14 : decode cX2_errorOffset 14 = .ok (.getfield 9, 3) := by decide +kernel
theorem dX2_errorOffset_17 : decode cX2_errorOffset 17 = .ok (.iload_n 3, 1) := by decide +kernel
theorem dX2_errorOffset_18 : decode cX2_errorOffset 18 = .ok (.caload, 1) := by decide +kernel
theorem dX2_errorOffset_19 : decode cX2_errorOffset 19 = .ok (.iload_n 1, 1) := by decide +kernel
theorem dX2_errorOffset_20 : decode cX2_errorOffset 20 = .ok (.invokestatic 23, 3) := by decide +kernel
theorem dX2_errorOffset_23 : decode cX2_errorOffset 23 = .ok (.istore_n 2, 1) := by decide +kernel
theorem dX2_errorOffset_24 : decode cX2_errorOffset 24 = .ok (.iload_n 2, 1) := by decide +kernel
theorem dX2_errorOffset_25 : decode cX2_errorOffset 25 = .ok (.ifCond .ne 5, 3) := by decide +kernel
theorem dX2_errorOffset_28 : decode cX2_errorOffset 28 = .ok (.iload_n 3, 1) := by decide +kernel
theorem dX2_errorOffset_29 : decode cX2_errorOffset 29 = .ok (.ireturn, 1) := by decide +kernel
theorem dX2_errorOffset_30 : decode cX2_errorOffset 30 = .ok (.iinc 3 1, 3) := by decide +kernel
theorem dX2_errorOffset_33 : decode cX2_errorOffset 33 = .ok (.goto (-29), 3) := by decide +kernel
theorem dX2_errorOffset_36 : decode cX2_errorOffset 36 = .ok (.iload_n 2, 1) := by decide +kernel
theorem dX2_errorOffset_37 : decode cX2_errorOffset 37 = .ok (.iconst 3, 1) := by decide +kernel
theorem dX2_errorOffset_38 : decode cX2_errorOffset 38 = .ok (.if_icmp .ne 7, 3) := by decide +kernel
theorem dX2_errorOffset_41 : decode cX2_errorOffset 41 = .ok (.iconst (-1), 1) := by decide +kernel
theorem dX2_errorOffset_42 : decode cX2_errorOffset 42 = .ok (.goto 7, 3) := by decide +kernel
theorem dX2_errorOffset_45 : decode cX2_errorOffset 45 = .ok (.aload_n 0, 1) := by decide +kernel
theorem dX2_errorOffset_46 : decode cX2_errorOffset 46 = .ok (.getfield 15, 3) := by decide +kernel
theorem dX2_errorOffset_49 : decode cX2_errorOffset 49 = .ok (.ireturn, 1) := by decide +kernel
theorem dX2_placeAfter_0 : decode cX2_placeAfter 0 = .ok (.iload_n 0, 1) := by decide +kernel
theorem dX2_placeAfter_1 : decode cX2_placeAfter 1 = .ok (.iconst 4, 1) := by decide +kernel
theorem dX2_placeAfter_2 : decode cX2_placeAfter 2 = .ok (.if_icmp .ne 37, 3) := by decide +kernel
theorem dX2_placeAfter_5 : decode cX2_placeAfter 5 = .ok (.iload_n 1, 1) := by decide +kernel
theorem dX2_placeAfter_6 : decode cX2_placeAfter 6 = .ok (.invokestatic 27, 3) := by decide +kernel
theorem dX2_placeAfter_9 : decode cX2_placeAfter 9 = .ok (.ifCond .eq 18, 3) := by decide +kernel
theorem dX2_placeAfter_12 : decode cX2_placeAfter 12 = .ok (.iload_n 2, 1) := by decide +kernel
theorem dX2_placeAfter_13 : decode cX2_placeAfter 13 = .ok (.iload_n 1, 1) := by decide +kernel
theorem dX2_placeAfter_14 : decode cX2_placeAfter 14 = .ok (.bipush 48, 2) := by decide +kernel
theorem dX2_placeAfter_16 : decode cX2_placeAfter 16 = .ok (.isub, 1) := by decide +kernel
theorem dX2_placeAfter_17 : decode cX2_placeAfter 17 = .ok (.invokestatic 31, 3) := by decide +kernel
theorem dX2_placeAfter_20 : decode cX2_placeAfter 20 = .ok (.ifCond .eq 7, 3) := by decide +kernel
theorem dX2_placeAfter_23 : decode cX2_placeAfter 23 = .ok (.iconst 1, 1) := by decide +kernel
theorem dX2_placeAfter_24 : decode cX2_placeAfter 24 = .ok (.goto 4, 3) := by decide +kernel
theorem dX2_placeAfter_27 : decode cX2_placeAfter 27 = .ok (.iconst 0, 1) := by decide +kernel
theorem dX2_placeAfter_28 : decode cX2_placeAfter 28 = .ok (.istore_n 3, 1) := by decide +kernel
theorem dX2_placeAfter_29 : decode cX2_placeAfter 29 = .ok (.iload_n 3, 1) := by decide +kernel
theorem dX2_placeAfter_30 : decode cX2_placeAfter 30 = .ok (.ifCond .eq 7, 3) := by decide +kernel
theorem dX2_placeAfter_33 : decode cX2_placeAfter 33 = .ok (.iconst 3, 1) := by decide +kernel
theorem dX2_placeAfter_34 : decode cX2_placeAfter 34 = .ok (.goto 4, 3) := by decide +kernel
theorem dX2_placeAfter_37 : decode cX2_placeAfter 37 = .ok (.iconst 0, 1) := by decide +kernel
theorem dX2_placeAfter_38 : decode cX2_placeAfter 38 = .ok (.ireturn, 1) := by decide +kernel
theorem dX2_placeAfter_39 : decode cX2_placeAfter 39 = .ok (.iload_n 1, 1) := by decide +kernel
theorem dX2_placeAfter_40 : decode cX2_placeAfter 40 = .ok (.invokestatic 35, 3) := by decide +kernel
theorem dX2_placeAfter_43 : decode cX2_placeAfter 43 = .ok (.ifCond .eq 14, 3) := by decide +kernel
theorem dX2_placeAfter_46 : decode cX2_placeAfter 46 = .ok (.iload_n 0, 1) := by decide +kernel
theorem dX2_placeAfter_47 : decode cX2_placeAfter 47 = .ok (.iconst 2, 1) := by decide +kernel
theorem dX2_placeAfter_48 : decode cX2_placeAfter 48 = .ok (.if_icmp .ne 7, 3) := by decide +kernel
theorem dX2_placeAfter_51 : decode cX2_placeAfter 51 = .ok (.iconst 0, 1) := by decide +kernel
theorem dX2_placeAfter_52 : decode cX2_placeAfter 52 = .ok (.goto 4, 3) := by decide +kernel
theorem dX2_placeAfter_55 : decode cX2_placeAfter 55 = .ok (.iconst 2, 1) := by decide +kernel
theorem dX2_placeAfter_56 : decode cX2_placeAfter 56 = .ok (.ireturn, 1) := by decide +kernel
theorem dX2_placeAfter_57 : decode cX2_placeAfter 57 = .ok (.iload_n 0, 1) := by decide +kernel
theorem dX2_placeAfter_58 : decode cX2_placeAfter 58 = .ok (.iconst 1, 1) := by decide +kernel
theorem dX2_placeAfter_59 : decode cX2_placeAfter 59 = .ok (.if_icmp .ne 5, 3) := by decide +kernel
theorem dX2_placeAfter_62 : decode cX2_placeAfter 62 = .ok (.iconst 0, 1) := by decide +kernel
theorem dX2_placeAfter_63 : decode cX2_placeAfter 63 = .ok (.ireturn, 1) := by decide +kernel
theorem dX2_placeAfter_64 : decode cX2_placeAfter 64 = .ok (.iload_n 1, 1) := by decide +kernel
theorem dX2_placeAfter_65 : decode cX2_placeAfter 65 = .ok (.bipush 111, 2) := by decide +kernel
theorem dX2_placeAfter_67 : decode cX2_placeAfter 67 = .ok (.if_icmp .ne 5, 3) := by decide +kernel
theorem dX2_placeAfter_70 : decode cX2_placeAfter 70 = .ok (.iconst 4, 1) := by decide +kernel
theorem dX2_placeAfter_71 : decode cX2_placeAfter 71 = .ok (.ireturn, 1) := by decide +kernel
theorem dX2_placeAfter_72 : decode cX2_placeAfter 72 = .ok (.ldc 38, 2) := by decide +kernel
theorem dX2_placeAfter_74 : decode cX2_placeAfter 74 = .ok (.iload_n 1, 1) := by decide +kernel
theorem dX2_placeAfter_75 : decode cX2_placeAfter 75 = .ok (.invokevirtual 40, 3) := by decide +kernel
theorem dX2_placeAfter_78 : decode cX2_placeAfter 78 = .ok (.ifCond .lt 7, 3) := by decide +kernel
theorem dX2_placeAfter_81 : decode cX2_placeAfter 81 = .ok (.iconst 3, 1) := by decide +kernel
theorem dX2_placeAfter_82 : decode cX2_placeAfter 82 = .ok (.goto 4, 3) := by decide +kernel
theorem dX2_placeAfter_85 : decode cX2_placeAfter 85 = .ok (.iconst 0, 1) := by decide +kernel
theorem dX2_placeAfter_86 : decode cX2_placeAfter 86 = .ok (.ireturn, 1) := by decide +kernel
theorem dX2_modesAfter_0 : decode cX2_modesAfter 0 = .ok (.iload_n 1, 1) := by decide +kernel
theorem dX2_modesAfter_1 : decode cX2_modesAfter 1 = .ok (.istore_n 2, 1) := by decide +kernel
theorem dX2_modesAfter_2 : decode cX2_modesAfter 2 = .ok (.iconst 0, 1) := by decide +kernel
theorem dX2_modesAfter_3 : decode cX2_modesAfter 3 = .ok (.istore_n 3, 1) := by decide +kernel
theorem dX2_modesAfter_4 : decode cX2_modesAfter 4 = .ok (.iconst 0, 1) := by decide +kernel
theorem dX2_modesAfter_5 : decode cX2_modesAfter 5 = .ok (.istore 4, 2) := by decide +kernel
theorem dX2_modesAfter_7 : decode cX2_modesAfter 7 = .ok (.iload 4, 2) := by decide +kernel
theorem dX2_modesAfter_9 : decode cX2_modesAfter 9 = .ok (.aload_n 0, 1) := by decide +kernel
theorem dX2_modesAfter_10 : decode cX2_modesAfter 10 = .ok (.getfield 15, 3) := by decide +kernel
theorem dX2_modesAfter_13 : decode cX2_modesAfter 13 = .ok (.if_icmp .ge 64, 3) := by decide +kernel
theorem dX2_modesAfter_16 : decode cX2_modesAfter 16 = .ok (.aload_n 0, 1) := by decide +kernel
theorem dX2_modesAfter_17 : decode cX2_modesAfter 17 = .ok (.getfield 9, 3) := by decide +kernel
theorem dX2_modesAfter_20 : decode cX2_modesAfter 20 = .ok (.iload 4, 2) := by decide +kernel
theorem dX2_modesAfter_22 : decode cX2_modesAfter 22 = .ok (.caload, 1) := by decide +kernel
theorem dX2_modesAfter_23 : decode cX2_modesAfter 23 = .ok (.istore 5, 2) := by decide +kernel
theorem dX2_modesAfter_25 : decode cX2_modesAfter 25 = .ok (.ldc 38, 2) := by decide +kernel
theorem dX2_modesAfter_27 : decode cX2_modesAfter 27 = .ok (.iload 5, 2) := by decide +kernel
theorem dX2_modesAfter_29 : decode cX2_modesAfter 29 = .ok (.invokevirtual 40, 3) := by decide +kernel
theorem dX2_modesAfter_32 : decode cX2_modesAfter 32 = .ok (.istore 6, 2) := by decide +kernel
theorem dX2_modesAfter_34 : decode cX2_modesAfter 34 = .ok (.iload 5, 2) := by decide +kernel
theorem dX2_modesAfter_36 : decode cX2_modesAfter 36 = .ok (.invokestatic 35, 3) := by decide +kernel
theorem dX2_modesAfter_39 : decode cX2_modesAfter 39 = .ok (.ifCond .eq 19, 3) := by decide +kernel
theorem dX2_modesAfter_42 : decode cX2_modesAfter 42 = .ok (.iload 5, 2) := by decide +kernel
theorem dX2_modesAfter_44 : decode cX2_modesAfter 44 = .ok (.bipush 43, 2) := by decide +kernel
theorem dX2_modesAfter_46 : decode cX2_modesAfter 46 = .ok (.if_icmp .ne 7, 3) := by decide +kernel
theorem dX2_modesAfter_49 : decode cX2_modesAfter 49 = .ok (.iconst 1, 1) := by decide +kernel
theorem dX2_modesAfter_50 : decode cX2_modesAfter 50 = .ok (.goto 4, 3) := by decide +kernel
theorem dX2_modesAfter_53 : decode cX2_modesAfter 53 = .ok (.iconst 0, 1) := by decide +kernel
theorem dX2_modesAfter_54 : decode cX2_modesAfter 54 = .ok (.istore_n 3, 1) := by decide +kernel
theorem dX2_modesAfter_55 : decode cX2_modesAfter 55 = .ok (.goto 16, 3) := by decide +kernel
theorem dX2_modesAfter_58 : decode cX2_modesAfter 58 = .ok (.iload 6, 2) := by decide +kernel
theorem dX2_modesAfter_60 : decode cX2_modesAfter 60 = .ok (.ifCond .lt 11, 3) := by decide +kernel
theorem dX2_modesAfter_63 : decode cX2_modesAfter 63 = .ok (.iload_n 2, 1) := by decide +kernel
theorem dX2_modesAfter_64 : decode cX2_modesAfter 64 = .ok (.iload 6, 2) := by decide +kernel
theorem dX2_modesAfter_66 : decode cX2_modesAfter 66 = .ok (.iload_n 3, 1) := by decide +kernel
theorem dX2_modesAfter_67 : decode cX2_modesAfter 67 = .ok (.invokestatic 46, 3) := by decide +kernel
theorem dX2_modesAfter_70 : decode cX2_modesAfter 70 = .ok (.istore_n 2, 1) := by decide +kernel
theorem dX2_modesAfter_71 : decode cX2_modesAfter 71 = .ok (.iinc 4 1, 3) := by decide +kernel
theorem dX2_modesAfter_74 : decode cX2_modesAfter 74 = .ok (.goto (-67), 3) := by decide +kernel
theorem dX2_modesAfter_77 : decode cX2_modesAfter 77 = .ok (.iload_n 2, 1) := by decide +kernel
theorem dX2_modesAfter_78 : decode cX2_modesAfter 78 = .ok (.ireturn, 1) := by decide +kernel
theorem dX2_operatorsAfter_0 : decode cX2_operatorsAfter 0 = .ok (.iload_n 1, 1) := by decide +kernel
theorem dX2_operatorsAfter_1 : decode cX2_operatorsAfter 1 = .ok (.istore_n 2, 1) := by decide +kernel
theorem dX2_operatorsAfter_2 : decode cX2_operatorsAfter 2 = .ok (.iconst 0, 1) := by decide +kernel
theorem dX2_operatorsAfter_3 : decode cX2_operatorsAfter 3 = .ok (.istore_n 3, 1) := by decide +kernel
theorem dX2_operatorsAfter_4 : decode cX2_operatorsAfter 4 = .ok (.iconst 0, 1) := by decide +kernel
theorem dX2_operatorsAfter_5 : decode cX2_operatorsAfter 5 = .ok (.istore 4, 2) := by decide +kernel
theorem dX2_operatorsAfter_7 : decode cX2_operatorsAfter 7 = .ok (.iload 4, 2) := by decide +kernel
theorem dX2_operatorsAfter_9 : decode cX2_operatorsAfter 9 = .ok (.aload_n 0, 1) := by decide +kernel
theorem dX2_operatorsAfter_10 : decode cX2_operatorsAfter 10 = .ok (.getfield 15, 3) := by decide +kernel
theorem dX2_operatorsAfter_13 : decode cX2_operatorsAfter 13 = .ok (.if_icmp .ge 61, 3) := by decide +kernel
theorem dX2_operatorsAfter_16 : decode cX2_operatorsAfter 16 = .ok (.aload_n 0, 1) := by decide +kernel
theorem dX2_operatorsAfter_17 : decode cX2_operatorsAfter 17 = .ok (.getfield 9, 3) := by decide +kernel
theorem dX2_operatorsAfter_20 : decode cX2_operatorsAfter 20 = .ok (.iload 4, 2) := by decide +kernel
theorem dX2_operatorsAfter_22 : decode cX2_operatorsAfter 22 = .ok (.caload, 1) := by decide +kernel
theorem dX2_operatorsAfter_23 : decode cX2_operatorsAfter 23 = .ok (.istore 5, 2) := by decide +kernel
theorem dX2_operatorsAfter_25 : decode cX2_operatorsAfter 25 = .ok (.iload 5, 2) := by decide +kernel
theorem dX2_operatorsAfter_27 : decode cX2_operatorsAfter 27 = .ok (.invokestatic 35, 3) := by decide +kernel
theorem dX2_operatorsAfter_30 : decode cX2_operatorsAfter 30 = .ok (.ifCond .eq 19, 3) := by decide +kernel
theorem dX2_operatorsAfter_33 : decode cX2_operatorsAfter 33 = .ok (.iload 5, 2) := by decide +kernel
theorem dX2_operatorsAfter_35 : decode cX2_operatorsAfter 35 = .ok (.bipush 43, 2) := by decide +kernel
theorem dX2_operatorsAfter_37 : decode cX2_operatorsAfter 37 = .ok (.if_icmp .ne 7, 3) := by decide +kernel
theorem dX2_operatorsAfter_40 : decode cX2_operatorsAfter 40 = .ok (.iconst 1, 1) := by decide +kernel
theorem dX2_operatorsAfter_41 : decode cX2_operatorsAfter 41 = .ok (.goto 4, 3) := by decide +kernel
theorem dX2_operatorsAfter_44 : decode cX2_operatorsAfter 44 = .ok (.iconst 0, 1) := by decide +kernel
theorem dX2_operatorsAfter_45 : decode cX2_operatorsAfter 45 = .ok (.istore_n 3, 1) := by decide +kernel
theorem dX2_operatorsAfter_46 : decode cX2_operatorsAfter 46 = .ok (.goto 22, 3) := by decide +kernel
theorem dX2_operatorsAfter_49 : decode cX2_operatorsAfter 49 = .ok (.iload 5, 2) := by decide +kernel
theorem dX2_operatorsAfter_51 : decode cX2_operatorsAfter 51 = .ok (.invokestatic 27, 3) := by decide +kernel
theorem dX2_operatorsAfter_54 : decode cX2_operatorsAfter 54 = .ok (.ifCond .eq 14, 3) := by decide +kernel
theorem dX2_operatorsAfter_57 : decode cX2_operatorsAfter 57 = .ok (.iload_n 2, 1) := by decide +kernel
theorem dX2_operatorsAfter_58 : decode cX2_operatorsAfter 58 = .ok (.iload 5, 2) := by decide +kernel
theorem dX2_operatorsAfter_60 : decode cX2_operatorsAfter 60 = .ok (.bipush 48, 2) := by decide +kernel
theorem dX2_operatorsAfter_62 : decode cX2_operatorsAfter 62 = .ok (.isub, 1) := by decide +kernel
theorem dX2_operatorsAfter_63 : decode cX2_operatorsAfter 63 = .ok (.iload_n 3, 1) := by decide +kernel
theorem dX2_operatorsAfter_64 : decode cX2_operatorsAfter 64 = .ok (.invokestatic 46, 3) := by decide +kernel
theorem dX2_operatorsAfter_67 : decode cX2_operatorsAfter 67 = .ok (.istore_n 2, 1) := by decide +kernel
theorem dX2_operatorsAfter_68 : decode cX2_operatorsAfter 68 = .ok (.iinc 4 1, 3) := by decide +kernel
theorem dX2_operatorsAfter_71 : decode cX2_operatorsAfter 71 = .ok (.goto (-64), 3) := by decide +kernel
theorem dX2_operatorsAfter_74 : decode cX2_operatorsAfter 74 = .ok (.iload_n 2, 1) := by decide +kernel
theorem dX2_operatorsAfter_75 : decode cX2_operatorsAfter 75 = .ok (.ireturn, 1) := by decide +kernel
theorem dX2_countItems_0 : decode cX2_countItems 0 = .ok (.iconst 0, 1) := by decide +kernel
theorem dX2_countItems_1 : decode cX2_countItems 1 = .ok (.istore_n 1, 1) := by decide +kernel
theorem dX2_countItems_2 : decode cX2_countItems 2 = .ok (.iconst 0, 1) := by decide +kernel
theorem dX2_countItems_3 : decode cX2_countItems 3 = .ok (.istore_n 2, 1) := by decide +kernel
theorem dX2_countItems_4 : decode cX2_countItems 4 = .ok (.iload_n 2, 1) := by decide +kernel
theorem dX2_countItems_5 : decode cX2_countItems 5 = .ok (.aload_n 0, 1) := by decide +kernel
theorem dX2_countItems_6 : decode cX2_countItems 6 = .ok (.getfield 15, 3) := by decide +kernel
theorem dX2_countItems_9 : decode cX2_countItems 9 = .ok (.if_icmp .ge 33, 3) := by decide +kernel
theorem dX2_countItems_12 : decode cX2_countItems 12 = .ok (.aload_n 0, 1) := by decide +kernel
theorem dX2_countItems_13 : decode cX2_countItems 13 = .ok (.getfield 9, 3) := by decide +kernel
theorem dX2_countItems_16 : decode cX2_countItems 16 = .ok (.iload_n 2, 1) := by decide +kernel
theorem dX2_countItems_17 : decode cX2_countItems 17 = .ok (.caload, 1) := by decide +kernel
theorem dX2_countItems_18 : decode cX2_countItems 18 = .ok (.istore_n 3, 1) := by decide +kernel
theorem dX2_countItems_19 : decode cX2_countItems 19 = .ok (.iload_n 3, 1) := by decide +kernel
theorem dX2_countItems_20 : decode cX2_countItems 20 = .ok (.invokestatic 35, 3) := by decide +kernel
theorem dX2_countItems_23 : decode cX2_countItems 23 = .ok (.ifCond .ne 13, 3) := by decide +kernel
theorem dX2_countItems_26 : decode cX2_countItems 26 = .ok (.iload_n 3, 1) := by decide +kernel
theorem dX2_countItems_27 : decode cX2_countItems 27 = .ok (.invokestatic 27, 3) := by decide +kernel
theorem dX2_countItems_30 : decode cX2_countItems 30 = .ok (.ifCond .ne 6, 3) := by decide +kernel
theorem dX2_countItems_33 : decode cX2_countItems 33 = .ok (.iinc 1 1, 3) := by decide +kernel
theorem dX2_countItems_36 : decode cX2_countItems 36 = .ok (.iinc 2 1, 3) := by decide +kernel
theorem dX2_countItems_39 : decode cX2_countItems 39 = .ok (.goto (-35), 3) := by decide +kernel
theorem dX2_countItems_42 : decode cX2_countItems 42 = .ok (.iload_n 1, 1) := by decide +kernel
theorem dX2_countItems_43 : decode cX2_countItems 43 = .ok (.ireturn, 1) := by decide +kernel
theorem dX2_isSign_0 : decode cX2_isSign 0 = .ok (.iload_n 0, 1) := by decide +kernel
theorem dX2_isSign_1 : decode cX2_isSign 1 = .ok (.bipush 43, 2) := by decide +kernel
theorem dX2_isSign_3 : decode cX2_isSign 3 = .ok (.if_icmp .eq 9, 3) := by decide +kernel
theorem dX2_isSign_6 : decode cX2_isSign 6 = .ok (.iload_n 0, 1) := by decide +kernel
theorem dX2_isSign_7 : decode cX2_isSign 7 = .ok (.bipush 45, 2) := by decide +kernel
theorem dX2_isSign_9 : decode cX2_isSign 9 = .ok (.if_icmp .ne 7, 3) := by decide +kernel
theorem dX2_isSign_12 : decode cX2_isSign 12 = .ok (.iconst 1, 1) := by decide +kernel
theorem dX2_isSign_13 : decode cX2_isSign 13 = .ok (.goto 4, 3) := by decide +kernel
theorem dX2_isSign_16 : decode cX2_isSign 16 = .ok (.iconst 0, 1) := by decide +kernel
theorem dX2_isSign_17 : decode cX2_isSign 17 = .ok (.ireturn, 1) := by decide +kernel
theorem dX2_isDigit_0 : decode cX2_isDigit 0 = .ok (.iload_n 0, 1) := by decide +kernel
theorem dX2_isDigit_1 : decode cX2_isDigit 1 = .ok (.bipush 48, 2) := by decide +kernel
theorem dX2_isDigit_3 : decode cX2_isDigit 3 = .ok (.if_icmp .lt 13, 3) := by decide +kernel
theorem dX2_isDigit_6 : decode cX2_isDigit 6 = .ok (.iload_n 0, 1) := by decide +kernel
theorem dX2_isDigit_7 : decode cX2_isDigit 7 = .ok (.bipush 57, 2) := by decide +kernel
theorem dX2_isDigit_9 : decode cX2_isDigit 9 = .ok (.if_icmp .gt 7, 3) := by decide +kernel
theorem dX2_isDigit_12 : decode cX2_isDigit 12 = .ok (.iconst 1, 1) := by decide +kernel
theorem dX2_isDigit_13 : decode cX2_isDigit 13 = .ok (.goto 4, 3) := by decide +kernel
theorem dX2_isDigit_16 : decode cX2_isDigit 16 = .ok (.iconst 0, 1) := by decide +kernel
theorem dX2_isDigit_17 : decode cX2_isDigit 17 = .ok (.ireturn, 1) := by decide +kernel
theorem dX3_init_0 : decode cX3_init 0 = .ok (.aload_n 0, 1) := by decide +kernel
theorem dX3_init_1 : decode cX3_init 1 = .ok (.invokespecial 3, 3) := by decide +kernel
theorem dX3_init_4 : decode cX3_init 4 = .ok (.aload_n 0, 1) := by decide +kernel
theorem dX3_init_5 : decode cX3_init 5 = .ok (.bipush 6, 2) := by decide +kernel
theorem dX3_init_7 : decode cX3_init 7 = .ok (.bipush 60, 2) := by decide +kernel
theorem dX3_init_9 : decode cX3_init 9 = .ok (.multianewarray 9 2, 4) := by decide +kernel
theorem dX3_init_13 : decode cX3_init 13 = .ok (.putfield 11, 3) := by decide +kernel
theorem dX3_init_16 : decode cX3_init 16 = .ok (.aload_n 0, 1) := by decide +kernel
theorem dX3_init_17 : decode cX3_init 17 = .ok (.bipush 6, 2) := by decide +kernel
theorem dX3_init_19 : decode cX3_init 19 = .ok (.newarray .int, 2) := by decide +kernel
theorem dX3_init_21 : decode cX3_init 21 = .ok (.putfield 16, 3) := by decide +kernel
theorem dX3_init_24 : decode cX3_init 24 = .ok (.aload_n 0, 1) := by decide +kernel
theorem dX3_init_25 : decode cX3_init 25 = .ok (.bipush (-9), 2) := by decide +kernel
theorem dX3_init_27 : decode cX3_init 27 = .ok (.putfield 20, 3) := by decide +kernel
theorem dX3_init_30 : decode cX3_init 30 = .ok (.aload_n 0, 1) := by decide +kernel
theorem dX3_init_31 : decode cX3_init 31 = .ok (.bipush (-9), 2) := by decide +kernel
theorem dX3_init_33 : decode cX3_init 33 = .ok (.putfield 24, 3) := by decide +kernel
theorem dX3_init_36 : decode cX3_init 36 = .ok (.aload_n 0, 1) := by decide +kernel
theorem dX3_init_37 : decode cX3_init 37 = .ok (.iconst 0, 1) := by decide +kernel
theorem dX3_init_38 : decode cX3_init 38 = .ok (.putfield 27, 3) := by decide +kernel
theorem dX3_init_41 : decode cX3_init 41 = .ok (.return_, 1) := by decide +kernel
theorem dX3_findBest_0 : decode cX3_findBest 0 = .ok (.aload_n 0, 1) := by decide +kernel
theorem dX3_findBest_1 : decode cX3_findBest 1 = .ok (.bipush (-9), 2) := by decide +kernel
theorem dX3_findBest_3 : decode cX3_findBest 3 = .ok (.putfield 20, 3) := by decide +kernel
theorem dX3_findBest_6 : decode cX3_findBest 6 = .ok (.aload_n 0, 1) := by decide +kernel
theorem dX3_findBest_7 : decode cX3_findBest 7 = .ok (.iconst (-1), 1) := by decide +kernel
theorem dX3_findBest_8 : decode cX3_findBest 8 = .ok (.putfield 27, 3) := by decide +kernel
theorem dX3_findBest_11 : decode cX3_findBest 11 = .ok (.aload_n 0, 1) := by decide +kernel
theorem dX3_findBest_12 : decode cX3_findBest 12 = .ok (.iconst 0, 1) := by decide +kernel
theorem dX3_findBest_13 : decode cX3_findBest 13 = .ok (.aload_n 0, 1) := by decide +kernel
theorem dX3_findBest_14 : decode cX3_findBest 14 = .ok (.aload_n 1, 1) := by decide +kernel
theorem dX3_findBest_15 : decode cX3_findBest 15 = .ok (.invokevirtual 30, 3) := by decide +kernel
theorem dX3_findBest_18 : decode cX3_findBest 18 = .ok (.invokevirtual 34, 3) := by decide +kernel
theorem dX3_findBest_21 : decode cX3_findBest 21 = .ok (.return_, 1) := by decide +kernel
theorem dX3_load_0 : decode cX3_load 0 = .ok (.iconst 0, 1) := by decide +kernel
theorem dX3_load_1 : decode cX3_load 1 = .ok (.istore_n 2, 1) := by decide +kernel
theorem dX3_load_2 : decode cX3_load 2 = .ok (.iconst 0, 1) := by decide +kernel
theorem dX3_load_3 : decode cX3_load 3 = .ok (.istore_n 3, 1) := by decide +kernel
theorem dX3_load_4 : decode cX3_load 4 = .ok (.iconst 0, 1) := by decide +kernel
theorem dX3_load_5 : decode cX3_load 5 = .ok (.istore 4, 2) := by decide +kernel
theorem dX3_load_7 : decode cX3_load 7 = .ok (.iload 4, 2) := by decide +kernel
theorem dX3_load_9 : decode cX3_load 9 = .ok (.bipush 6, 2) := by decide +kernel
theorem dX3_load_11 : decode cX3_load 11 = .ok (.if_icmp .ge 89, 3) := by decide +kernel
theorem dX3_load_14 : decode cX3_load 14 = .ok (.aload_n 1, 1) := by decide +kernel
theorem dX3_load_15 : decode cX3_load 15 = .ok (.iload 4, 2) := by decide +kernel
theorem dX3_load_17 : decode cX3_load 17 = .ok (.invokevirtual 38, 3) := by decide +kernel
theorem dX3_load_20 : decode cX3_load 20 = .ok (.ifCond .eq 74, 3) := by decide +kernel
theorem dX3_load_23 : decode cX3_load 23 = .ok (.iload_n 3, 1) := by decide +kernel
theorem dX3_load_24 : decode cX3_load 24 = .ok (.iload 4, 2) := by decide +kernel
theorem dX3_load_26 : decode cX3_load 26 = .ok (.invokestatic 44, 3) := by decide +kernel
theorem dX3_load_29 : decode cX3_load 29 = .ok (.ifCond .ne 65, 3) := by decide +kernel
theorem dX3_load_32 : decode cX3_load 32 = .ok (.aload_n 1, 1) := by decide +kernel
theorem dX3_load_33 : decode cX3_load 33 = .ok (.iload 4, 2) := by decide +kernel
theorem dX3_load_35 : decode cX3_load 35 = .ok (.invokevirtual 48, 3) := by decide +kernel
theorem dX3_load_38 : decode cX3_load 38 = .ok (.istore 5, 2) := by decide +kernel
theorem dX3_load_40 : decode cX3_load 40 = .ok (.iconst 0, 1) := by decide +kernel
theorem dX3_load_41 : decode cX3_load 41 = .ok (.istore 6, 2) := by decide +kernel
theorem dX3_load_43 : decode cX3_load 43 = .ok (.iload 6, 2) := by decide +kernel
theorem dX3_load_45 : decode cX3_load 45 = .ok (.bipush 10, 2) := by decide +kernel
theorem dX3_load_47 : decode cX3_load 47 = .ok (.if_icmp .ge 31, 3) := by decide +kernel
theorem dX3_load_50 : decode cX3_load 50 = .ok (.aload_n 0, 1) := by decide +kernel
theorem dX3_load_51 : decode cX3_load 51 = .ok (.getfield 11, 3) := by decide +kernel
theorem dX3_load_54 : decode cX3_load 54 = .ok (.iconst 0, 1) := by decide +kernel
theorem dX3_load_55 : decode cX3_load 55 = .ok (.aaload, 1) := by decide +kernel
theorem dX3_load_56 : decode cX3_load 56 = .ok (.iload_n 2, 1) := by decide +kernel
theorem dX3_load_57 : decode cX3_load 57 = .ok (.bipush 10, 2) := by decide +kernel
theorem dX3_load_59 : decode cX3_load 59 = .ok (.imul, 1) := by decide +kernel
theorem dX3_load_60 : decode cX3_load 60 = .ok (.iload 6, 2) := by decide +kernel
theorem dX3_load_62 : decode cX3_load 62 = .ok (.iadd, 1) := by decide +kernel
theorem dX3_load_63 : decode cX3_load 63 = .ok (.aload_n 1, 1) := by decide +kernel
theorem dX3_load_64 : decode cX3_load 64 = .ok (.iload 5, 2) := by decide +kernel
theorem dX3_load_66 : decode cX3_load 66 = .ok (.iload 6, 2) := by decide +kernel
theorem dX3_load_68 : decode cX3_load 68 = .ok (.invokevirtual 52, 3) := by decide +kernel
theorem dX3_load_71 : decode cX3_load 71 = .ok (.iastore, 1) := by decide +kernel
theorem dX3_load_72 : decode cX3_load 72 = .ok (.iinc 6 1, 3) := by decide +kernel
theorem dX3_load_75 : decode cX3_load 75 = .ok (.goto (-32), 3) := by decide +kernel
theorem dX3_load_78 : decode cX3_load 78 = .ok (.aload_n 0, 1) := by decide +kernel
theorem dX3_load_79 : decode cX3_load 79 = .ok (.getfield 16, 3) := by decide +kernel
theorem dX3_load_82 : decode cX3_load 82 = .ok (.iload_n 2, 1) := by decide +kernel
theorem dX3_load_83 : decode cX3_load 83 = .ok (.iload 4, 2) := by decide +kernel
theorem dX3_load_85 : decode cX3_load 85 = .ok (.iastore, 1) := by decide +kernel
theorem dX3_load_86 : decode cX3_load 86 = .ok (.iinc 2 1, 3) := by decide +kernel
theorem dX3_load_89 : decode cX3_load 89 = .ok (.iload_n 3, 1) := by decide +kernel
theorem dX3_load_90 : decode cX3_load 90 = .ok (.iload 5, 2) := by decide +kernel
theorem dX3_load_92 : decode cX3_load 92 = .ok (.ior, 1) := by decide +kernel
theorem dX3_load_93 : decode cX3_load 93 = .ok (.istore_n 3, 1) := by decide +kernel
theorem dX3_load_94 : decode cX3_load 94 = .ok (.iinc 4 1, 3) := by decide +kernel
theorem dX3_load_97 : decode cX3_load 97 = .ok (.goto (-90), 3) := by decide +kernel
theorem dX3_load_100 : decode cX3_load 100 = .ok (.iload_n 2, 1) := by decide +kernel
theorem dX3_load_101 : decode cX3_load 101 = .ok (.ireturn, 1) := by decide +kernel
theorem dX3_search_0 : decode cX3_search 0 = .ok (.iload_n 1, 1) := by decide +kernel
theorem dX3_search_1 : decode cX3_search 1 = .ok (.bipush 6, 2) := by decide +kernel
theorem dX3_search_3 : decode cX3_search 3 = .ok (.if_icmp .lt 4, 3) := by decide +kernel
theorem dX3_search_6 : decode cX3_search 6 = .ok (.return_, 1) := by decide +kernel
theorem dX3_search_7 : decode cX3_search 7 = .ok (.aload_n 0, 1) := by decide +kernel
theorem dX3_search_8 : decode cX3_search 8 = .ok (.getfield 11, 3) := by decide +kernel
theorem dX3_search_11 : decode cX3_search 11 = .ok (.iload_n 1, 1) := by decide +kernel
theorem dX3_search_12 : decode cX3_search 12 = .ok (.aaload, 1) := by decide +kernel
theorem dX3_search_13 : decode cX3_search 13 = .ok (.iload_n 2, 1) := by decide +kernel
theorem dX3_search_14 : decode cX3_search 14 = .ok (.invokestatic 56, 3) := by decide +kernel
theorem dX3_search_17 : decode cX3_search 17 = .ok (.istore_n 3, 1) := by decide +kernel
theorem dX3_search_18 : decode cX3_search 18 = .ok (.iload_n 3, 1) := by decide +kernel
theorem dX3_search_19 : decode cX3_search 19 = .ok (.aload_n 0, 1) := by decide +kernel
theorem dX3_search_20 : decode cX3_search 20 = .ok (.getfield 27, 3) := by decide +kernel
theorem dX3_search_23 : decode cX3_search 23 = .ok (.if_icmp .gt 4, 3) := by decide +kernel
theorem dX3_search_26 : decode cX3_search 26 = .ok (.return_, 1) := by decide +kernel
theorem dX3_search_27 : decode cX3_search 27 = .ok (.iload_n 2, 1) := by decide +kernel
theorem dX3_search_28 : decode cX3_search 28 = .ok (.iconst 1, 1) := by decide +kernel
theorem dX3_search_29 : decode cX3_search 29 = .ok (.if_icmp .le 12, 3) := by decide +kernel
theorem dX3_search_32 : decode cX3_search 32 = .ok (.aload_n 0, 1) := by decide +kernel
theorem dX3_search_33 : decode cX3_search 33 = .ok (.iload_n 1, 1) := by decide +kernel
theorem dX3_search_34 : decode cX3_search 34 = .ok (.iload_n 2, 1) := by decide +kernel
theorem dX3_search_35 : decode cX3_search 35 = .ok (.invokevirtual 60, 3) := by decide +kernel
theorem dX3_search_38 : decode cX3_search 38 = .ok (.goto 16, 3) := by decide +kernel
theorem dX3_search_41 : decode cX3_search 41 = .ok (.aload_n 0, 1) := by decide +kernel
theorem dX3_search_42 : decode cX3_search 42 = .ok (.iload_n 3, 1) := by decide +kernel
theorem dX3_search_43 : decode cX3_search 43 = .ok (.putfield 27, 3) := by decide +kernel
theorem dX3_search_46 : decode cX3_search 46 = .ok (.aload_n 0, 1) := by decide +kernel
theorem dX3_search_47 : decode cX3_search 47 = .ok (.aload_n 0, 1) := by decide +kernel
theorem dX3_search_48 : decode cX3_search 48 = .ok (.getfield 20, 3) := by decide +kernel
theorem dX3_search_51 : decode cX3_search 51 = .ok (.putfield 24, 3) := by decide +kernel
theorem dX3_search_54 : decode cX3_search 54 = .ok (.return_, 1) := by decide +kernel
theorem dX3_tryLinks_0 : decode cX3_tryLinks 0 = .ok (.iconst 0, 1) := by decide +kernel
theorem dX3_tryLinks_1 : decode cX3_tryLinks 1 = .ok (.istore_n 3, 1) := by decide +kernel
theorem dX3_tryLinks_2 : decode cX3_tryLinks 2 = .ok (.iload_n 3, 1) := by decide +kernel
theorem dX3_tryLinks_3 : decode cX3_tryLinks 3 = .ok (.iload_n 2, 1) := by decide +kernel
theorem dX3_tryLinks_4 : decode cX3_tryLinks 4 = .ok (.if_icmp .ge 90, 3) := by decide +kernel
theorem dX3_tryLinks_7 : decode cX3_tryLinks 7 = .ok (.iload_n 3, 1) := by decide +kernel
theorem dX3_tryLinks_8 : decode cX3_tryLinks 8 = .ok (.iconst 1, 1) := by decide +kernel
theorem dX3_tryLinks_9 : decode cX3_tryLinks 9 = .ok (.iadd, 1) := by decide +kernel
theorem dX3_tryLinks_10 : decode cX3_tryLinks 10 = .ok (.istore 4, 2) := by decide +kernel
theorem dX3_tryLinks_12 : decode cX3_tryLinks 12 = .ok (.iload 4, 2) := by decide +kernel
theorem dX3_tryLinks_14 : decode cX3_tryLinks 14 = .ok (.iload_n 2, 1) := by decide +kernel
theorem dX3_tryLinks_15 : decode cX3_tryLinks 15 = .ok (.if_icmp .ge 73, 3) := by decide +kernel
theorem dX3_tryLinks_18 : decode cX3_tryLinks 18 = .ok (.iload_n 1, 1) := by decide +kernel
theorem dX3_tryLinks_19 : decode cX3_tryLinks 19 = .ok (.ifCond .ne 24, 3) := by decide +kernel
theorem dX3_tryLinks_22 : decode cX3_tryLinks 22 = .ok (.aload_n 0, 1) := by decide +kernel
theorem dX3_tryLinks_23 : decode cX3_tryLinks 23 = .ok (.bipush 10, 2) := by decide +kernel
theorem dX3_tryLinks_25 : decode cX3_tryLinks 25 = .ok (.aload_n 0, 1) := by decide +kernel
theorem dX3_tryLinks_26 : decode cX3_tryLinks 26 = .ok (.getfield 16, 3) := by decide +kernel
theorem dX3_tryLinks_29 : decode cX3_tryLinks 29 = .ok (.iload_n 3, 1) := by decide +kernel
theorem dX3_tryLinks_30 : decode cX3_tryLinks 30 = .ok (.iaload, 1) := by decide +kernel
theorem dX3_tryLinks_31 : decode cX3_tryLinks 31 = .ok (.imul, 1) := by decide +kernel
theorem dX3_tryLinks_32 : decode cX3_tryLinks 32 = .ok (.aload_n 0, 1) := by decide +kernel
theorem dX3_tryLinks_33 : decode cX3_tryLinks 33 = .ok (.getfield 16, 3) := by decide +kernel
theorem dX3_tryLinks_36 : decode cX3_tryLinks 36 = .ok (.iload 4, 2) := by decide +kernel
theorem dX3_tryLinks_38 : decode cX3_tryLinks 38 = .ok (.iaload, 1) := by decide +kernel
theorem dX3_tryLinks_39 : decode cX3_tryLinks 39 = .ok (.iadd, 1) := by decide +kernel
theorem dX3_tryLinks_40 : decode cX3_tryLinks 40 = .ok (.putfield 20, 3) := by decide +kernel
theorem dX3_tryLinks_43 : decode cX3_tryLinks 43 = .ok (.iload_n 1, 1) := by decide +kernel
theorem dX3_tryLinks_44 : decode cX3_tryLinks 44 = .ok (.iconst 1, 1) := by decide +kernel
theorem dX3_tryLinks_45 : decode cX3_tryLinks 45 = .ok (.iadd, 1) := by decide +kernel
theorem dX3_tryLinks_46 : decode cX3_tryLinks 46 = .ok (.bipush 6, 2) := by decide +kernel
theorem dX3_tryLinks_48 : decode cX3_tryLinks 48 = .ok (.if_icmp .ge 34, 3) := by decide +kernel
theorem dX3_tryLinks_51 : decode cX3_tryLinks 51 = .ok (.aload_n 0, 1) := by decide +kernel
theorem dX3_tryLinks_52 : decode cX3_tryLinks 52 = .ok (.getfield 11, 3) := by decide +kernel
theorem dX3_tryLinks_55 : decode cX3_tryLinks 55 = .ok (.iload_n 1, 1) := by decide +kernel
theorem dX3_tryLinks_56 : decode cX3_tryLinks 56 = .ok (.aaload, 1) := by decide +kernel
theorem dX3_tryLinks_57 : decode cX3_tryLinks 57 = .ok (.aload_n 0, 1) := by decide +kernel
theorem dX3_tryLinks_58 : decode cX3_tryLinks 58 = .ok (.getfield 11, 3) := by decide +kernel
theorem dX3_tryLinks_61 : decode cX3_tryLinks 61 = .ok (.iload_n 1, 1) := by decide +kernel
theorem dX3_tryLinks_62 : decode cX3_tryLinks 62 = .ok (.iconst 1, 1) := by decide +kernel
theorem dX3_tryLinks_63 : decode cX3_tryLinks 63 = .ok (.iadd, 1) := by decide +kernel
theorem dX3_tryLinks_64 : decode cX3_tryLinks 64 = .ok (.aaload, 1) := by decide +kernel
theorem dX3_tryLinks_65 : decode cX3_tryLinks 65 = .ok (.iload_n 2, 1) := by decide +kernel
theorem dX3_tryLinks_66 : decode cX3_tryLinks 66 = .ok (.iload_n 3, 1) := by decide +kernel
theorem dX3_tryLinks_67 : decode cX3_tryLinks 67 = .ok (.iload 4, 2) := by decide +kernel
theorem dX3_tryLinks_69 : decode cX3_tryLinks 69 = .ok (.invokestatic 63, 3) := by decide +kernel
theorem dX3_tryLinks_72 : decode cX3_tryLinks 72 = .ok (.aload_n 0, 1) := by decide +kernel
theorem dX3_tryLinks_73 : decode cX3_tryLinks 73 = .ok (.iload_n 1, 1) := by decide +kernel
theorem dX3_tryLinks_74 : decode cX3_tryLinks 74 = .ok (.iconst 1, 1) := by decide +kernel
theorem dX3_tryLinks_75 : decode cX3_tryLinks 75 = .ok (.iadd, 1) := by decide +kernel
theorem dX3_tryLinks_76 : decode cX3_tryLinks 76 = .ok (.iload_n 2, 1) := by decide +kernel
theorem dX3_tryLinks_77 : decode cX3_tryLinks 77 = .ok (.iconst 1, 1) := by decide +kernel
theorem dX3_tryLinks_78 : decode cX3_tryLinks 78 = .ok (.isub, 1) := by decide +kernel
theorem dX3_tryLinks_79 : decode cX3_tryLinks 79 = .ok (.invokevirtual 34, 3) := by decide +kernel
theorem dX3_tryLinks_82 : decode cX3_tryLinks 82 = .ok (.iinc 4 1, 3) := by decide +kernel
theorem dX3_tryLinks_85 : decode cX3_tryLinks 85 = .ok (.goto (-73), 3) := by decide +kernel
theorem dX3_tryLinks_88 : decode cX3_tryLinks 88 = .ok (.iinc 3 1, 3) := by decide +kernel
theorem dX3_tryLinks_91 : decode cX3_tryLinks 91 = .ok (.goto (-89), 3) := by decide +kernel
theorem dX3_tryLinks_94 : decode cX3_tryLinks 94 = .ok (.return_, 1) := by decide +kernel
theorem dX3_mergeRows_0 : decode cX3_mergeRows 0 = .ok (.iconst 0, 1) := by decide +kernel
theorem dX3_mergeRows_1 : decode cX3_mergeRows 1 = .ok (.istore 5, 2) := by decide +kernel
theorem dX3_mergeRows_3 : decode cX3_mergeRows 3 = .ok (.iconst 0, 1) := by decide +kernel
theorem dX3_mergeRows_4 : decode cX3_mergeRows 4 = .ok (.istore 6, 2) := by decide +kernel
theorem dX3_mergeRows_6 : decode cX3_mergeRows 6 = .ok (.iload 6, 2) := by decide +kernel
theorem dX3_mergeRows_8 : decode cX3_mergeRows 8 = .ok (.iload_n 2, 1) := by decide +kernel
theorem dX3_mergeRows_9 : decode cX3_mergeRows 9 = .ok (.if_icmp .ge 36, 3) := by decide +kernel
theorem dX3_mergeRows_12 : decode cX3_mergeRows 12 = .ok (.iload 6, 2) := by decide +kernel
theorem dX3_mergeRows_14 : decode cX3_mergeRows 14 = .ok (.iload 4, 2) := by decide +kernel
theorem dX3_mergeRows_16 : decode cX3_mergeRows 16 = .ok (.if_icmp .eq 23, 3) := by decide +kernel
theorem dX3_mergeRows_19 : decode cX3_mergeRows 19 = .ok (.aload_n 0, 1) := by decide +kernel
theorem dX3_mergeRows_20 : decode cX3_mergeRows 20 = .ok (.iload 6, 2) := by decide +kernel
theorem dX3_mergeRows_22 : decode cX3_mergeRows 22 = .ok (.bipush 10, 2) := by decide +kernel
theorem dX3_mergeRows_24 : decode cX3_mergeRows 24 = .ok (.imul, 1) := by decide +kernel
theorem dX3_mergeRows_25 : decode cX3_mergeRows 25 = .ok (.aload_n 1, 1) := by decide +kernel
theorem dX3_mergeRows_26 : decode cX3_mergeRows 26 = .ok (.iload 5, 2) := by decide +kernel
theorem dX3_mergeRows_28 : decode cX3_mergeRows 28 = .ok (.bipush 10, 2) := by decide +kernel
theorem dX3_mergeRows_30 : decode cX3_mergeRows 30 = .ok (.imul, 1) := by decide +kernel
theorem dX3_mergeRows_31 : decode cX3_mergeRows 31 = .ok (.bipush 10, 2) := by decide +kernel
theorem dX3_mergeRows_33 : decode cX3_mergeRows 33 = .ok (.invokestatic 67, 3) := by decide +kernel
theorem dX3_mergeRows_36 : decode cX3_mergeRows 36 = .ok (.iinc 5 1, 3) := by decide +kernel
theorem dX3_mergeRows_39 : decode cX3_mergeRows 39 = .ok (.iinc 6 1, 3) := by decide +kernel
theorem dX3_mergeRows_42 : decode cX3_mergeRows 42 = .ok (.goto (-36), 3) := by decide +kernel
theorem dX3_mergeRows_45 : decode cX3_mergeRows 45 = .ok (.iconst 0, 1) := by decide +kernel
theorem dX3_mergeRows_46 : decode cX3_mergeRows 46 = .ok (.istore 6, 2) := by decide +kernel
theorem dX3_mergeRows_48 : decode cX3_mergeRows 48 = .ok (.iload 6, 2) := by decide +kernel
theorem dX3_mergeRows_50 : decode cX3_mergeRows 50 = .ok (.bipush 10, 2) := by decide +kernel
theorem dX3_mergeRows_52 : decode cX3_mergeRows 52 = .ok (.if_icmp .ge 40, 3) := by decide +kernel
theorem dX3_mergeRows_55 : decode cX3_mergeRows 55 = .ok (.aload_n 1, 1) := by decide +kernel
theorem dX3_mergeRows_56 : decode cX3_mergeRows 56 = .ok (.iload_n 3, 1) := by decide +kernel
theorem dX3_mergeRows_57 : decode cX3_mergeRows 57 = .ok (.bipush 10, 2) := by decide +kernel
theorem dX3_mergeRows_59 : decode cX3_mergeRows 59 = .ok (.imul, 1) := by decide +kernel
theorem dX3_mergeRows_60 : decode cX3_mergeRows 60 = .ok (.iload 6, 2) := by decide +kernel
theorem dX3_mergeRows_62 : decode cX3_mergeRows 62 = .ok (.iadd, 1) := by decide +kernel
theorem dX3_mergeRows_63 : decode cX3_mergeRows 63 = .ok (.aload_n 0, 1) := by decide +kernel
theorem dX3_mergeRows_64 : decode cX3_mergeRows 64 = .ok (.iload_n 3, 1) := by decide +kernel
theorem dX3_mergeRows_65 : decode cX3_mergeRows 65 = .ok (.bipush 10, 2) := by decide +kernel
theorem dX3_mergeRows_67 : decode cX3_mergeRows 67 = .ok (.imul, 1) := by decide +kernel
theorem dX3_mergeRows_68 : decode cX3_mergeRows 68 = .ok (.iload 6, 2) := by decide +kernel
theorem dX3_mergeRows_70 : decode cX3_mergeRows 70 = .ok (.iadd, 1) := by decide +kernel
theorem dX3_mergeRows_71 : decode cX3_mergeRows 71 = .ok (.iaload, 1) := by decide +kernel
theorem dX3_mergeRows_72 : decode cX3_mergeRows 72 = .ok (.aload_n 0, 1) := by decide +kernel
theorem dX3_mergeRows_73 : decode cX3_mergeRows 73 = .ok (.iload 4, 2) := by decide +kernel
theorem dX3_mergeRows_75 : decode cX3_mergeRows 75 = .ok (.bipush 10, 2) := by decide +kernel
theorem dX3_mergeRows_77 : decode cX3_mergeRows 77 = .ok (.imul, 1) := by decide +kernel
theorem dX3_mergeRows_78 : decode cX3_mergeRows 78 = .ok (.iload 6, 2) := by decide +kernel
theorem dX3_mergeRows_80 : decode cX3_mergeRows 80 = .ok (.iadd, 1) := by decide +kernel
theorem dX3_mergeRows_81 : decode cX3_mergeRows 81 = .ok (.iaload, 1) := by decide +kernel
theorem dX3_mergeRows_82 : decode cX3_mergeRows 82 = .ok (.invokestatic 73, 3) := by decide +kernel
theorem dX3_mergeRows_85 : decode cX3_mergeRows 85 = .ok (.iastore, 1) := by decide +kernel
theorem dX3_mergeRows_86 : decode cX3_mergeRows 86 = .ok (.iinc 6 1, 3) := by decide +kernel
theorem dX3_mergeRows_89 : decode cX3_mergeRows 89 = .ok (.goto (-41), 3) := by decide +kernel
theorem dX3_mergeRows_92 : decode cX3_mergeRows 92 = .ok (.return_, 1) := by decide +kernel
theorem dX3_countHopes_0 : decode cX3_countHopes 0 = .ok (.iconst 0, 1) := by decide +kernel
theorem dX3_countHopes_1 : decode cX3_countHopes 1 = .ok (.istore_n 2, 1) := by decide +kernel
theorem dX3_countHopes_2 : decode cX3_countHopes 2 = .ok (.iconst 0, 1) := by decide +kernel
theorem dX3_countHopes_3 : decode cX3_countHopes 3 = .ok (.istore_n 3, 1) := by decide +kernel
theorem dX3_countHopes_4 : decode cX3_countHopes 4 = .ok (.iload_n 3, 1) := by decide +kernel
theorem dX3_countHopes_5 : decode cX3_countHopes 5 = .ok (.bipush 10, 2) := by decide +kernel
theorem dX3_countHopes_7 : decode cX3_countHopes 7 = .ok (.if_icmp .ge 21, 3) := by decide +kernel
theorem dX3_countHopes_10 : decode cX3_countHopes 10 = .ok (.aload_n 0, 1) := by decide +kernel
theorem dX3_countHopes_11 : decode cX3_countHopes 11 = .ok (.iload_n 1, 1) := by decide +kernel
theorem dX3_countHopes_12 : decode cX3_countHopes 12 = .ok (.iload_n 3, 1) := by decide +kernel
theorem dX3_countHopes_13 : decode cX3_countHopes 13 = .ok (.invokestatic 78, 3) := by decide +kernel
theorem dX3_countHopes_16 : decode cX3_countHopes 16 = .ok (.ifCond .eq 6, 3) := by decide +kernel
theorem dX3_countHopes_19 : decode cX3_countHopes 19 = .ok (.iinc 2 1, 3) := by decide +kernel
theorem dX3_countHopes_22 : decode cX3_countHopes 22 = .ok (.iinc 3 1, 3) := by decide +kernel
theorem dX3_countHopes_25 : decode cX3_countHopes 25 = .ok (.goto (-21), 3) := by decide +kernel
theorem dX3_countHopes_28 : decode cX3_countHopes 28 = .ok (.iload_n 2, 1) := by decide +kernel
theorem dX3_countHopes_29 : decode cX3_countHopes 29 = .ok (.ireturn, 1) := by decide +kernel
theorem dX3_mayBeLeft_0 : decode cX3_mayBeLeft 0 = .ok (.iconst 0, 1) := by decide +kernel
theorem dX3_mayBeLeft_1 : decode cX3_mayBeLeft 1 = .ok (.istore_n 3, 1) := by decide +kernel
theorem dX3_mayBeLeft_2 : decode cX3_mayBeLeft 2 = .ok (.iconst (-1), 1) := by decide +kernel
theorem dX3_mayBeLeft_3 : decode cX3_mayBeLeft 3 = .ok (.istore 4, 2) := by decide +kernel
theorem dX3_mayBeLeft_5 : decode cX3_mayBeLeft 5 = .ok (.iconst 0, 1) := by decide +kernel
theorem dX3_mayBeLeft_6 : decode cX3_mayBeLeft 6 = .ok (.istore 5, 2) := by decide +kernel
theorem dX3_mayBeLeft_8 : decode cX3_mayBeLeft 8 = .ok (.iconst 0, 1) := by decide +kernel
theorem dX3_mayBeLeft_9 : decode cX3_mayBeLeft 9 = .ok (.istore 6, 2) := by decide +kernel
theorem dX3_mayBeLeft_11 : decode cX3_mayBeLeft 11 = .ok (.iload 6, 2) := by decide +kernel
theorem dX3_mayBeLeft_13 : decode cX3_mayBeLeft 13 = .ok (.iload_n 1, 1) := by decide +kernel
theorem dX3_mayBeLeft_14 : decode cX3_mayBeLeft 14 = .ok (.if_icmp .ge 56, 3) := by decide +kernel
theorem dX3_mayBeLeft_17 : decode cX3_mayBeLeft 17 = .ok (.aload_n 0, 1) := by decide +kernel
theorem dX3_mayBeLeft_18 : decode cX3_mayBeLeft 18 = .ok (.iload 6, 2) := by decide +kernel
theorem dX3_mayBeLeft_20 : decode cX3_mayBeLeft 20 = .ok (.bipush 10, 2) := by decide +kernel
theorem dX3_mayBeLeft_22 : decode cX3_mayBeLeft 22 = .ok (.imul, 1) := by decide +kernel
theorem dX3_mayBeLeft_23 : decode cX3_mayBeLeft 23 = .ok (.iload_n 2, 1) := by decide +kernel
theorem dX3_mayBeLeft_24 : decode cX3_mayBeLeft 24 = .ok (.iadd, 1) := by decide +kernel
theorem dX3_mayBeLeft_25 : decode cX3_mayBeLeft 25 = .ok (.iaload, 1) := by decide +kernel
theorem dX3_mayBeLeft_26 : decode cX3_mayBeLeft 26 = .ok (.istore 7, 2) := by decide +kernel
theorem dX3_mayBeLeft_28 : decode cX3_mayBeLeft 28 = .ok (.iload 7, 2) := by decide +kernel
theorem dX3_mayBeLeft_30 : decode cX3_mayBeLeft 30 = .ok (.iconst (-1), 1) := by decide +kernel
theorem dX3_mayBeLeft_31 : decode cX3_mayBeLeft 31 = .ok (.if_icmp .eq 33, 3) := by decide +kernel
theorem dX3_mayBeLeft_34 : decode cX3_mayBeLeft 34 = .ok (.iload 5, 2) := by decide +kernel
theorem dX3_mayBeLeft_36 : decode cX3_mayBeLeft 36 = .ok (.ifCond .ne 14, 3) := by decide +kernel
theorem dX3_mayBeLeft_39 : decode cX3_mayBeLeft 39 = .ok (.iload_n 3, 1) := by decide +kernel
theorem dX3_mayBeLeft_40 : decode cX3_mayBeLeft 40 = .ok (.ifCond .le 14, 3) := by decide +kernel
theorem dX3_mayBeLeft_43 : decode cX3_mayBeLeft 43 = .ok (.iload 7, 2) := by decide +kernel
theorem dX3_mayBeLeft_45 : decode cX3_mayBeLeft 45 = .ok (.iload 4, 2) := by decide +kernel
theorem dX3_mayBeLeft_47 : decode cX3_mayBeLeft 47 = .ok (.if_icmp .eq 7, 3) := by decide +kernel
theorem dX3_mayBeLeft_50 : decode cX3_mayBeLeft 50 = .ok (.iconst 1, 1) := by decide +kernel
theorem dX3_mayBeLeft_51 : decode cX3_mayBeLeft 51 = .ok (.goto 4, 3) := by decide +kernel
theorem dX3_mayBeLeft_54 : decode cX3_mayBeLeft 54 = .ok (.iconst 0, 1) := by decide +kernel
theorem dX3_mayBeLeft_55 : decode cX3_mayBeLeft 55 = .ok (.istore 5, 2) := by decide +kernel
theorem dX3_mayBeLeft_57 : decode cX3_mayBeLeft 57 = .ok (.iload 7, 2) := by decide +kernel
theorem dX3_mayBeLeft_59 : decode cX3_mayBeLeft 59 = .ok (.istore 4, 2) := by decide +kernel
theorem dX3_mayBeLeft_61 : decode cX3_mayBeLeft 61 = .ok (.iinc 3 1, 3) := by decide +kernel
theorem dX3_mayBeLeft_64 : decode cX3_mayBeLeft 64 = .ok (.iinc 6 1, 3) := by decide +kernel
theorem dX3_mayBeLeft_67 : decode cX3_mayBeLeft 67 = .ok (.goto (-56), 3) := by decide +kernel
theorem dX3_mayBeLeft_70 : decode cX3_mayBeLeft 70 = .ok (.iload 5, 2) := by decide +kernel
theorem dX3_mayBeLeft_72 : decode cX3_mayBeLeft 72 = .ok (.ifCond .ne 9, 3) := by decide +kernel
theorem dX3_mayBeLeft_75 : decode cX3_mayBeLeft 75 = .ok (.iload_n 3, 1) := by decide +kernel
theorem dX3_mayBeLeft_76 : decode cX3_mayBeLeft 76 = .ok (.iconst 1, 1) := by decide +kernel
theorem dX3_mayBeLeft_77 : decode cX3_mayBeLeft 77 = .ok (.iand, 1) := by decide +kernel
theorem dX3_mayBeLeft_78 : decode cX3_mayBeLeft 78 = .ok (.ifCond .eq 7, 3) := by decide +kernel
theorem dX3_mayBeLeft_81 : decode cX3_mayBeLeft 81 = .ok (.iconst 1, 1) := by decide +kernel
theorem dX3_mayBeLeft_82 : decode cX3_mayBeLeft 82 = .ok (.goto 4, 3) := by decide +kernel
theorem dX3_mayBeLeft_85 : decode cX3_mayBeLeft 85 = .ok (.iconst 0, 1) := by decide +kernel
theorem dX3_mayBeLeft_86 : decode cX3_mayBeLeft 86 = .ok (.ireturn, 1) := by decide +kernel
theorem dJ11_isValidCodePoint_9a6ad_0 : decode cJ11_isValidCodePoint_9a6ad 0 = .ok (.iload_n 0, 1) := by decide +kernel
theorem dJ11_isValidCodePoint_9a6ad_1 : decode cJ11_isValidCodePoint_9a6ad 1 = .ok (.bipush 16, 2) := by decide +kernel
theorem dJ11_isValidCodePoint_9a6ad_3 : decode cJ11_isValidCodePoint_9a6ad 3 = .ok (.iushr, 1) := by decide +kernel
theorem dJ11_isValidCodePoint_9a6ad_4 : decode cJ11_isValidCodePoint_9a6ad 4 = .ok (.istore_n 1, 1) := by decide +kernel
theorem dJ11_isValidCodePoint_9a6ad_5 : decode cJ11_isValidCodePoint_9a6ad 5 = .ok (.iload_n 1, 1) := by decide +kernel
theorem dJ11_isValidCodePoint_9a6ad_6 : decode cJ11_isValidCodePoint_9a6ad 6 = .ok (.bipush 17, 2) := by decide +kernel
theorem dJ11_isValidCodePoint_9a6ad_8 : decode cJ11_isValidCodePoint_9a6ad 8 = .ok (.if_icmp .ge 7, 3) := by decide +kernel
theorem dJ11_isValidCodePoint_9a6ad_11 : decode cJ11_isValidCodePoint_9a6ad 11 = .ok (.iconst 1, 1) := by decide +kernel
theorem dJ11_isValidCodePoint_9a6ad_12 : decode cJ11_isValidCodePoint_9a6ad 12 = .ok (.goto 4, 3) := by decide +kernel
theorem dJ11_isValidCodePoint_9a6ad_15 : decode cJ11_isValidCodePoint_9a6ad 15 = .ok (.iconst 0, 1) := by decide +kernel
theorem dJ11_isValidCodePoint_9a6ad_16 : decode cJ11_isValidCodePoint_9a6ad 16 = .ok (.ireturn, 1) := by decide +kernel
theorem dJ11_highSurrogate_5068e_0 : decode cJ11_highSurrogate_5068e 0 = .ok (.iload_n 0, 1) := by decide +kernel
theorem dJ11_highSurrogate_5068e_1 : decode cJ11_highSurrogate_5068e 1 = .ok (.bipush 10, 2) := by decide +kernel
theorem dJ11_highSurrogate_5068e_3 : decode cJ11_highSurrogate_5068e 3 = .ok (.iushr, 1) := by decide +kernel
theorem dJ11_highSurrogate_5068e_4 : decode cJ11_highSurrogate_5068e 4 = .ok (.ldc 110, 2) := by decide +kernel
theorem dJ11_highSurrogate_5068e_6 : decode cJ11_highSurrogate_5068e 6 = .ok (.iadd, 1) := by decide +kernel
theorem dJ11_highSurrogate_5068e_7 : decode cJ11_highSurrogate_5068e 7 = .ok (.i2c, 1) := by decide +kernel
theorem dJ11_highSurrogate_5068e_8 : decode cJ11_highSurrogate_5068e 8 = .ok (.ireturn, 1) := by decide +kernel
theorem dJ11_lowSurrogate_5068e_0 : decode cJ11_lowSurrogate_5068e 0 = .ok (.iload_n 0, 1) := by decide +kernel
theorem dJ11_lowSurrogate_5068e_1 : decode cJ11_lowSurrogate_5068e 1 = .ok (.sipush 1023, 3) := by decide +kernel
theorem dJ11_lowSurrogate_5068e_4 : decode cJ11_lowSurrogate_5068e 4 = .ok (.iand, 1) := by decide +kernel
theorem dJ11_lowSurrogate_5068e_5 : decode cJ11_lowSurrogate_5068e 5 = .ok (.ldc 76, 2) := by decide +kernel
theorem dJ11_lowSurrogate_5068e_7 : decode cJ11_lowSurrogate_5068e 7 = .ok (.iadd, 1) := by decide +kernel
theorem dJ11_lowSurrogate_5068e_8 : decode cJ11_lowSurrogate_5068e 8 = .ok (.i2c, 1) := by decide +kernel
theorem dJ11_lowSurrogate_5068e_9 : decode cJ11_lowSurrogate_5068e 9 = .ok (.ireturn, 1) := by decide +kernel
theorem dJ6_bitCount_0f7a4_0 : decode cJ6_bitCount_0f7a4 0 = .ok (.iload_n 0, 1) := by decide +kernel
theorem dJ6_bitCount_0f7a4_1 : decode cJ6_bitCount_0f7a4 1 = .ok (.iload_n 0, 1) := by decide +kernel
theorem dJ6_bitCount_0f7a4_2 : decode cJ6_bitCount_0f7a4 2 = .ok (.iconst 1, 1) := by decide +kernel
theorem dJ6_bitCount_0f7a4_3 : decode cJ6_bitCount_0f7a4 3 = .ok (.iushr, 1) := by decide +kernel
theorem dJ6_bitCount_0f7a4_4 : decode cJ6_bitCount_0f7a4 4 = .ok (.ldc_w 265, 3) := by decide +kernel
theorem dJ6_bitCount_0f7a4_7 : decode cJ6_bitCount_0f7a4 7 = .ok (.iand, 1) := by decide +kernel
theorem dJ6_bitCount_0f7a4_8 : decode cJ6_bitCount_0f7a4 8 = .ok (.isub, 1) := by decide +kernel
theorem dJ6_bitCount_0f7a4_9 : decode cJ6_bitCount_0f7a4 9 = .ok (.istore_n 0, 1) := by decide +kernel
theorem dJ6_bitCount_0f7a4_10 : decode cJ6_bitCount_0f7a4 10 = .ok (.iload_n 0, 1) := by decide +kernel
theorem dJ6_bitCount_0f7a4_11 : decode cJ6_bitCount_0f7a4 11 = .ok (.ldc_w 266, 3) := by decide +kernel
theorem dJ6_bitCount_0f7a4_14 : decode cJ6_bitCount_0f7a4 14 = .ok (.iand, 1) := by decide +kernel
theorem dJ6_bitCount_0f7a4_15 : decode cJ6_bitCount_0f7a4 15 = .ok (.iload_n 0, 1) := by decide +kernel
theorem dJ6_bitCount_0f7a4_16 : decode cJ6_bitCount_0f7a4 16 = .ok (.iconst 2, 1) := by decide +kernel
theorem dJ6_bitCount_0f7a4_17 : decode cJ6_bitCount_0f7a4 17 = .ok (.iushr, 1) := by decide +kernel
theorem dJ6_bitCount_0f7a4_18 : decode cJ6_bitCount_0f7a4 18 = .ok (.ldc_w 266, 3) := by decide +kernel
theorem dJ6_bitCount_0f7a4_21 : decode cJ6_bitCount_0f7a4 21 = .ok (.iand, 1) := by decide +kernel
theorem dJ6_bitCount_0f7a4_22 : decode cJ6_bitCount_0f7a4 22 = .ok (.iadd, 1) := by decide +kernel
theorem dJ6_bitCount_0f7a4_23 : decode cJ6_bitCount_0f7a4 23 = .ok (.istore_n 0, 1) := by decide +kernel
theorem dJ6_bitCount_0f7a4_24 : decode cJ6_bitCount_0f7a4 24 = .ok (.iload_n 0, 1) := by decide +kernel
theorem dJ6_bitCount_0f7a4_25 : decode cJ6_bitCount_0f7a4 25 = .ok (.iload_n 0, 1) := by decide +kernel
theorem dJ6_bitCount_0f7a4_26 : decode cJ6_bitCount_0f7a4 26 = .ok (.iconst 4, 1) := by decide +kernel
theorem dJ6_bitCount_0f7a4_27 : decode cJ6_bitCount_0f7a4 27 = .ok (.iushr, 1) := by decide +kernel
theorem dJ6_bitCount_0f7a4_28 : decode cJ6_bitCount_0f7a4 28 = .ok (.iadd, 1) := by decide +kernel
theorem dJ6_bitCount_0f7a4_29 : decode cJ6_bitCount_0f7a4 29 = .ok (.ldc_w 267, 3) := by decide +kernel
theorem dJ6_bitCount_0f7a4_32 : decode cJ6_bitCount_0f7a4 32 = .ok (.iand, 1) := by decide +kernel
theorem dJ6_bitCount_0f7a4_33 : decode cJ6_bitCount_0f7a4 33 = .ok (.istore_n 0, 1) := by decide +kernel
theorem dJ6_bitCount_0f7a4_34 : decode cJ6_bitCount_0f7a4 34 = .ok (.iload_n 0, 1) := by decide +kernel
theorem dJ6_bitCount_0f7a4_35 : decode cJ6_bitCount_0f7a4 35 = .ok (.iload_n 0, 1) := by decide +kernel
theorem dJ6_bitCount_0f7a4_36 : decode cJ6_bitCount_0f7a4 36 = .ok (.bipush 8, 2) := by decide +kernel
theorem dJ6_bitCount_0f7a4_38 : decode cJ6_bitCount_0f7a4 38 = .ok (.iushr, 1) := by decide +kernel
theorem dJ6_bitCount_0f7a4_39 : decode cJ6_bitCount_0f7a4 39 = .ok (.iadd, 1) := by decide +kernel
theorem dJ6_bitCount_0f7a4_40 : decode cJ6_bitCount_0f7a4 40 = .ok (.istore_n 0, 1) := by decide +kernel
theorem dJ6_bitCount_0f7a4_41 : decode cJ6_bitCount_0f7a4 41 = .ok (.iload_n 0, 1) := by decide +kernel
theorem dJ6_bitCount_0f7a4_42 : decode cJ6_bitCount_0f7a4 42 = .ok (.iload_n 0, 1) := by decide +kernel
theorem dJ6_bitCount_0f7a4_43 : decode cJ6_bitCount_0f7a4 43 = .ok (.bipush 16, 2) := by decide +kernel
theorem dJ6_bitCount_0f7a4_45 : decode cJ6_bitCount_0f7a4 45 = .ok (.iushr, 1) := by decide +kernel
theorem dJ6_bitCount_0f7a4_46 : decode cJ6_bitCount_0f7a4 46 = .ok (.iadd, 1) := by decide +kernel
theorem dJ6_bitCount_0f7a4_47 : decode cJ6_bitCount_0f7a4 47 = .ok (.istore_n 0, 1) := by decide +kernel
theorem dJ6_bitCount_0f7a4_48 : decode cJ6_bitCount_0f7a4 48 = .ok (.iload_n 0, 1) := by decide +kernel
theorem dJ6_bitCount_0f7a4_49 : decode cJ6_bitCount_0f7a4 49 = .ok (.bipush 63, 2) := by decide +kernel
theorem dJ6_bitCount_0f7a4_51 : decode cJ6_bitCount_0f7a4 51 = .ok (.iand, 1) := by decide +kernel
theorem dJ6_bitCount_0f7a4_52 : decode cJ6_bitCount_0f7a4 52 = .ok (.ireturn, 1) := by decide +kernel
theorem dJ9_max_7cf53_0 : decode cJ9_max_7cf53 0 = .ok (.iload_n 0, 1) := by decide +kernel
theorem dJ9_max_7cf53_1 : decode cJ9_max_7cf53 1 = .ok (.iload_n 1, 1) := by decide +kernel
theorem dJ9_max_7cf53_2 : decode cJ9_max_7cf53 2 = .ok (.if_icmp .lt 7, 3) := by decide +kernel
theorem dJ9_max_7cf53_5 : decode cJ9_max_7cf53 5 = .ok (.iload_n 0, 1) := by decide +kernel
theorem dJ9_max_7cf53_6 : decode cJ9_max_7cf53 6 = .ok (.goto 4, 3) := by decide +kernel
theorem dJ9_max_7cf53_9 : decode cJ9_max_7cf53 9 = .ok (.iload_n 1, 1) := by decide +kernel
theorem dJ9_max_7cf53_10 : decode cJ9_max_7cf53 10 = .ok (.ireturn, 1) := by decide +kernel
theorem dJ9_min_7cf53_0 : decode cJ9_min_7cf53 0 = .ok (.iload_n 0, 1) := by decide +kernel
theorem dJ9_min_7cf53_1 : decode cJ9_min_7cf53 1 = .ok (.iload_n 1, 1) := by decide +kernel
theorem dJ9_min_7cf53_2 : decode cJ9_min_7cf53 2 = .ok (.if_icmp .gt 7, 3) := by decide +kernel
theorem dJ9_min_7cf53_5 : decode cJ9_min_7cf53 5 = .ok (.iload_n 0, 1) := by decide +kernel
theorem dJ9_min_7cf53_6 : decode cJ9_min_7cf53 6 = .ok (.goto 4, 3) := by decide +kernel
theorem dJ9_min_7cf53_9 : decode cJ9_min_7cf53 9 = .ok (.iload_n 1, 1) := by decide +kernel
theorem dJ9_min_7cf53_10 : decode cJ9_min_7cf53 10 = .ok (.ireturn, 1) := by decide +kernel
theorem dJ0_length_8abf5_0 : decode cJ0_length_8abf5 0 = .ok (.aload_n 0, 1) := by decide +kernel
theorem dJ0_length_8abf5_1 : decode cJ0_length_8abf5 1 = .ok (.getfield 9, 3) := by decide +kernel
theorem dJ0_length_8abf5_4 : decode cJ0_length_8abf5 4 = .ok (.arraylength, 1) := by decide +kernel
theorem dJ0_length_8abf5_5 : decode cJ0_length_8abf5 5 = .ok (.aload_n 0, 1) := by decide +kernel
theorem dJ0_length_8abf5_6 : decode cJ0_length_8abf5 6 = .ok (.invokevirtual 335, 3) := by decide +kernel
theorem dJ0_length_8abf5_9 : decode cJ0_length_8abf5 9 = .ok (.ishr, 1) := by decide +kernel
theorem dJ0_length_8abf5_10 : decode cJ0_length_8abf5 10 = .ok (.ireturn, 1) := by decide +kernel
theorem dJ0_indexOf_0f7a4_0 : decode cJ0_indexOf_0f7a4 0 = .ok (.aload_n 0, 1) := by decide +kernel
theorem dJ0_indexOf_0f7a4_1 : decode cJ0_indexOf_0f7a4 1 = .ok (.iload_n 1, 1) := by decide +kernel
theorem dJ0_indexOf_0f7a4_2 : decode cJ0_indexOf_0f7a4 2 = .ok (.iconst 0, 1) := by decide +kernel
theorem dJ0_indexOf_0f7a4_3 : decode cJ0_indexOf_0f7a4 3 = .ok (.invokevirtual 633, 3) := by decide +kernel
theorem dJ0_indexOf_0f7a4_6 : decode cJ0_indexOf_0f7a4 6 = .ok (.ireturn, 1) := by decide +kernel
theorem dJ0_indexOf_7cf53_0 : decode cJ0_indexOf_7cf53 0 = .ok (.aload_n 0, 1) := by decide +kernel
theorem dJ0_indexOf_7cf53_1 : decode cJ0_indexOf_7cf53 1 = .ok (.invokevirtual 492, 3) := by decide +kernel
theorem dJ0_indexOf_7cf53_4 : decode cJ0_indexOf_7cf53 4 = .ok (.ifCond .eq 19, 3) := by decide +kernel
theorem dJ0_indexOf_7cf53_7 : decode cJ0_indexOf_7cf53 7 = .ok (.aload_n 0, 1) := by decide +kernel
theorem dJ0_indexOf_7cf53_8 : decode cJ0_indexOf_7cf53 8 = .ok (.getfield 9, 3) := by decide +kernel
theorem dJ0_indexOf_7cf53_11 : decode cJ0_indexOf_7cf53 11 = .ok (.iload_n 1, 1) := by decide +kernel
theorem dJ0_indexOf_7cf53_12 : decode cJ0_indexOf_7cf53 12 = .ok (.iload_n 2, 1) := by decide +kernel
theorem dJ0_indexOf_7cf53_13 : decode cJ0_indexOf_7cf53 13 = .ok (.aload_n 0, 1) := by decide +kernel
theorem dJ0_indexOf_7cf53_14 : decode cJ0_indexOf_7cf53 14 = .ok (.invokevirtual 505, 3) := by decide +kernel
theorem dJ0_indexOf_7cf53_17 : decode cJ0_indexOf_7cf53 17 = .ok (.invokestatic 637, 3) := by decide +kernel
theorem dJ0_indexOf_7cf53_20 : decode cJ0_indexOf_7cf53 20 = .ok (.goto 16, 3) := by decide +kernel
theorem dJ0_indexOf_7cf53_23 : decode cJ0_indexOf_7cf53 23 = .ok (.aload_n 0, 1) := by decide +kernel
theorem dJ0_indexOf_7cf53_24 : decode cJ0_indexOf_7cf53 24 = .ok (.getfield 9, 3) := by decide +kernel
theorem dJ0_indexOf_7cf53_27 : decode cJ0_indexOf_7cf53 27 = .ok (.iload_n 1, 1) := by decide +kernel
theorem dJ0_indexOf_7cf53_28 : decode cJ0_indexOf_7cf53 28 = .ok (.iload_n 2, 1) := by decide +kernel
theorem dJ0_indexOf_7cf53_29 : decode cJ0_indexOf_7cf53 29 = .ok (.aload_n 0, 1) := by decide +kernel
theorem dJ0_indexOf_7cf53_30 : decode cJ0_indexOf_7cf53 30 = .ok (.invokevirtual 505, 3) := by decide +kernel
theorem dJ0_indexOf_7cf53_33 : decode cJ0_indexOf_7cf53 33 = .ok (.invokestatic 640, 3) := by decide +kernel
theorem dJ0_indexOf_7cf53_36 : decode cJ0_indexOf_7cf53 36 = .ok (.ireturn, 1) := by decide +kernel
theorem dJ0_coder_7d493_0 : decode cJ0_coder_7d493 0 = .ok (.getstatic 38, 3) := by decide +kernel
theorem dJ0_coder_7d493_3 : decode cJ0_coder_7d493 3 = .ok (.ifCond .eq 10, 3) := by decide +kernel
theorem dJ0_coder_7d493_6 : decode cJ0_coder_7d493 6 = .ok (.aload_n 0, 1) := by decide +kernel
theorem dJ0_coder_7d493_7 : decode cJ0_coder_7d493 7 = .ok (.getfield 15, 3) := by decide +kernel
theorem dJ0_coder_7d493_10 : decode cJ0_coder_7d493 10 = .ok (.goto 4, 3) := by decide +kernel
theorem dJ0_coder_7d493_13 : decode cJ0_coder_7d493 13 = .ok (.iconst 1, 1) := by decide +kernel
theorem dJ0_coder_7d493_14 : decode cJ0_coder_7d493 14 = .ok (.ireturn, 1) := by decide +kernel
theorem dJ0_isLatin1_aae02_0 : decode cJ0_isLatin1_aae02 0 = .ok (.getstatic 38, 3) := by decide +kernel
theorem dJ0_isLatin1_aae02_3 : decode cJ0_isLatin1_aae02 3 = .ok (.ifCond .eq 14, 3) := by decide +kernel
theorem dJ0_isLatin1_aae02_6 : decode cJ0_isLatin1_aae02 6 = .ok (.aload_n 0, 1) := by decide +kernel
theorem dJ0_isLatin1_aae02_7 : decode cJ0_isLatin1_aae02 7 = .ok (.getfield 15, 3) := by decide +kernel
theorem dJ0_isLatin1_aae02_10 : decode cJ0_isLatin1_aae02 10 = .ok (.ifCond .ne 7, 3) := by decide +kernel
theorem dJ0_isLatin1_aae02_13 : decode cJ0_isLatin1_aae02 13 = .ok (.iconst 1, 1) := by decide +kernel
theorem dJ0_isLatin1_aae02_14 : decode cJ0_isLatin1_aae02 14 = .ok (.goto 4, 3) := by decide +kernel
theorem dJ0_isLatin1_aae02_17 : decode cJ0_isLatin1_aae02 17 = .ok (.iconst 0, 1) := by decide +kernel
theorem dJ0_isLatin1_aae02_18 : decode cJ0_isLatin1_aae02 18 = .ok (.ireturn, 1) := by decide +kernel
theorem dJ0_checkBoundsBeginEnd_23922_0 : decode cJ0_checkBoundsBeginEnd_23922 0 = .ok (.iload_n 0, 1) := by decide +kernel
theorem dJ0_checkBoundsBeginEnd_23922_1 : decode cJ0_checkBoundsBeginEnd_23922 1 = .ok (.iload_n 1, 1) := by decide +kernel
theorem dJ0_checkBoundsBeginEnd_23922_2 : decode cJ0_checkBoundsBeginEnd_23922 2 = .ok (.iload_n 2, 1) := by decide +kernel
theorem dJ0_checkBoundsBeginEnd_23922_3 : decode cJ0_checkBoundsBeginEnd_23922 3 = .ok (.getstatic 1053, 3) := by decide +kernel
theorem dJ0_checkBoundsBeginEnd_23922_6 : decode cJ0_checkBoundsBeginEnd_23922 6 = .ok (.invokestatic 1062, 3) := by decide +kernel
theorem dJ0_checkBoundsBeginEnd_23922_9 : decode cJ0_checkBoundsBeginEnd_23922 9 = .ok (.pop, 1) := by decide +kernel
theorem dJ0_checkBoundsBeginEnd_23922_10 : decode cJ0_checkBoundsBeginEnd_23922 10 = .ok (.return_, 1) := by decide +kernel
theorem dJ1_canEncode_9a6ad_0 : decode cJ1_canEncode_9a6ad 0 = .ok (.iload_n 0, 1) := by decide +kernel
theorem dJ1_canEncode_9a6ad_1 : decode cJ1_canEncode_9a6ad 1 = .ok (.ifCond .lt 14, 3) := by decide +kernel
theorem dJ1_canEncode_9a6ad_4 : decode cJ1_canEncode_9a6ad 4 = .ok (.iload_n 0, 1) := by decide +kernel
theorem dJ1_canEncode_9a6ad_5 : decode cJ1_canEncode_9a6ad 5 = .ok (.sipush 255, 3) := by decide +kernel
theorem dJ1_canEncode_9a6ad_8 : decode cJ1_canEncode_9a6ad 8 = .ok (.if_icmp .gt 7, 3) := by decide +kernel
theorem dJ1_canEncode_9a6ad_11 : decode cJ1_canEncode_9a6ad 11 = .ok (.iconst 1, 1) := by decide +kernel
theorem dJ1_canEncode_9a6ad_12 : decode cJ1_canEncode_9a6ad 12 = .ok (.goto 4, 3) := by decide +kernel
theorem dJ1_canEncode_9a6ad_15 : decode cJ1_canEncode_9a6ad 15 = .ok (.iconst 0, 1) := by decide +kernel
theorem dJ1_canEncode_9a6ad_16 : decode cJ1_canEncode_9a6ad 16 = .ok (.ireturn, 1) := by decide +kernel
theorem dJ1_indexOf_4cfef_0 : decode cJ1_indexOf_4cfef 0 = .ok (.iload_n 1, 1) := by decide +kernel
theorem dJ1_indexOf_4cfef_1 : decode cJ1_indexOf_4cfef 1 = .ok (.invokestatic 88, 3) := by decide +kernel
theorem dJ1_indexOf_4cfef_4 : decode cJ1_indexOf_4cfef 4 = .ok (.ifCond .ne 5, 3) := by decide +kernel
theorem dJ1_indexOf_4cfef_7 : decode cJ1_indexOf_4cfef 7 = .ok (.iconst (-1), 1) := by decide +kernel
theorem dJ1_indexOf_4cfef_8 : decode cJ1_indexOf_4cfef 8 = .ok (.ireturn, 1) := by decide +kernel
theorem dJ1_indexOf_4cfef_9 : decode cJ1_indexOf_4cfef 9 = .ok (.iload_n 2, 1) := by decide +kernel
theorem dJ1_indexOf_4cfef_10 : decode cJ1_indexOf_4cfef 10 = .ok (.iconst 0, 1) := by decide +kernel
theorem dJ1_indexOf_4cfef_11 : decode cJ1_indexOf_4cfef 11 = .ok (.invokestatic 92, 3) := by decide +kernel
theorem dJ1_indexOf_4cfef_14 : decode cJ1_indexOf_4cfef 14 = .ok (.istore_n 2, 1) := by decide +kernel
theorem dJ1_indexOf_4cfef_15 : decode cJ1_indexOf_4cfef 15 = .ok (.iload_n 3, 1) := by decide +kernel
theorem dJ1_indexOf_4cfef_16 : decode cJ1_indexOf_4cfef 16 = .ok (.aload_n 0, 1) := by decide +kernel
theorem dJ1_indexOf_4cfef_17 : decode cJ1_indexOf_4cfef 17 = .ok (.arraylength, 1) := by decide +kernel
theorem dJ1_indexOf_4cfef_18 : decode cJ1_indexOf_4cfef 18 = .ok (.invokestatic 38, 3) := by decide +kernel
theorem dJ1_indexOf_4cfef_21 : decode cJ1_indexOf_4cfef 21 = .ok (.istore_n 3, 1) := by decide +kernel
theorem dJ1_indexOf_4cfef_22 : decode cJ1_indexOf_4cfef 22 = .ok (.iload_n 2, 1) := by decide +kernel
theorem dJ1_indexOf_4cfef_23 : decode cJ1_indexOf_4cfef 23 = .ok (.iload_n 3, 1) := by decide +kernel
theorem dJ1_indexOf_4cfef_24 : decode cJ1_indexOf_4cfef 24 = .ok (.if_icmp .lt 5, 3) := by decide +kernel
theorem dJ1_indexOf_4cfef_27 : decode cJ1_indexOf_4cfef 27 = .ok (.iconst (-1), 1) := by decide +kernel
theorem dJ1_indexOf_4cfef_28 : decode cJ1_indexOf_4cfef 28 = .ok (.ireturn, 1) := by decide +kernel
theorem dJ1_indexOf_4cfef_29 : decode cJ1_indexOf_4cfef 29 = .ok (.aload_n 0, 1) := by decide +kernel
theorem dJ1_indexOf_4cfef_30 : decode cJ1_indexOf_4cfef 30 = .ok (.iload_n 1, 1) := by decide +kernel
theorem dJ1_indexOf_4cfef_31 : decode cJ1_indexOf_4cfef 31 = .ok (.iload_n 2, 1) := by decide +kernel
theorem dJ1_indexOf_4cfef_32 : decode cJ1_indexOf_4cfef 32 = .ok (.iload_n 3, 1) := by decide +kernel
theorem dJ1_indexOf_4cfef_33 : decode cJ1_indexOf_4cfef 33 = .ok (.invokestatic 95, 3) := by decide +kernel
theorem dJ1_indexOf_4cfef_36 : decode cJ1_indexOf_4cfef 36 = .ok (.ireturn, 1) := by decide +kernel
theorem dJ1_indexOfChar_4cfef_0 : decode cJ1_indexOfChar_4cfef 0 = .ok (.iload_n 1, 1) := by decide +kernel
theorem dJ1_indexOfChar_4cfef_1 : decode cJ1_indexOfChar_4cfef 1 = .ok (.i2b, 1) := by decide +kernel
theorem dJ1_indexOfChar_4cfef_2 : decode cJ1_indexOfChar_4cfef 2 = .ok (.istore 4, 2) := by decide +kernel
theorem dJ1_indexOfChar_4cfef_4 : decode cJ1_indexOfChar_4cfef 4 = .ok (.iload_n 2, 1) := by decide +kernel
theorem dJ1_indexOfChar_4cfef_5 : decode cJ1_indexOfChar_4cfef 5 = .ok (.istore 5, 2) := by decide +kernel
theorem dJ1_indexOfChar_4cfef_7 : decode cJ1_indexOfChar_4cfef 7 = .ok (.iload 5, 2) := by decide +kernel
theorem dJ1_indexOfChar_4cfef_9 : decode cJ1_indexOfChar_4cfef 9 = .ok (.iload_n 3, 1) := by decide +kernel
theorem dJ1_indexOfChar_4cfef_10 : decode cJ1_indexOfChar_4cfef 10 = .ok (.if_icmp .ge 21, 3) := by decide +kernel
theorem dJ1_indexOfChar_4cfef_13 : decode cJ1_indexOfChar_4cfef 13 = .ok (.aload_n 0, 1) := by decide +kernel
theorem dJ1_indexOfChar_4cfef_14 : decode cJ1_indexOfChar_4cfef 14 = .ok (.iload 5, 2) := by decide +kernel
theorem dJ1_indexOfChar_4cfef_16 : decode cJ1_indexOfChar_4cfef 16 = .ok (.baload, 1) := by decide +kernel
theorem dJ1_indexOfChar_4cfef_17 : decode cJ1_indexOfChar_4cfef 17 = .ok (.iload 4, 2) := by decide +kernel
theorem dJ1_indexOfChar_4cfef_19 : decode cJ1_indexOfChar_4cfef 19 = .ok (.if_icmp .ne 6, 3) := by decide +kernel
theorem dJ1_indexOfChar_4cfef_22 : decode cJ1_indexOfChar_4cfef 22 = .ok (.iload 5, 2) := by decide +kernel
theorem dJ1_indexOfChar_4cfef_24 : decode cJ1_indexOfChar_4cfef 24 = .ok (.ireturn, 1) := by decide +kernel
theorem dJ1_indexOfChar_4cfef_25 : decode cJ1_indexOfChar_4cfef 25 = .ok (.iinc 5 1, 3) := by decide +kernel
theorem dJ1_indexOfChar_4cfef_28 : decode cJ1_indexOfChar_4cfef 28 = .ok (.goto (-21), 3) := by decide +kernel
theorem dJ1_indexOfChar_4cfef_31 : decode cJ1_indexOfChar_4cfef 31 = .ok (.iconst (-1), 1) := by decide +kernel
theorem dJ1_indexOfChar_4cfef_32 : decode cJ1_indexOfChar_4cfef 32 = .ok (.ireturn, 1) := by decide +kernel
theorem dJ2_getChar_3b067_0 : decode cJ2_getChar_3b067 0 = .ok (.getstatic 44, 3) := by decide +kernel
theorem dJ2_getChar_3b067_3 : decode cJ2_getChar_3b067 3 = .ok (.ifCond .ne 25, 3) := by decide +kernel
theorem dJ2_getChar_3b067_6 : decode cJ2_getChar_3b067 6 = .ok (.iload_n 1, 1) := by decide +kernel
theorem dJ2_getChar_3b067_7 : decode cJ2_getChar_3b067 7 = .ok (.ifCond .lt 11, 3) := by decide +kernel
theorem dJ2_getChar_3b067_10 : decode cJ2_getChar_3b067 10 = .ok (.iload_n 1, 1) := by decide +kernel
theorem dJ2_getChar_3b067_11 : decode cJ2_getChar_3b067 11 = .ok (.aload_n 0, 1) := by decide +kernel
theorem dJ2_getChar_3b067_12 : decode cJ2_getChar_3b067 12 = .ok (.invokestatic 48, 3) := by decide +kernel
theorem dJ2_getChar_3b067_15 : decode cJ2_getChar_3b067 15 = .ok (.if_icmp .lt 13, 3) := by decide +kernel
theorem dJ2_getChar_3b067_18 : decode cJ2_getChar_3b067 18 = .ok (.new 52, 3) := by decide +kernel
theorem dJ2_getChar_3b067_21 : decode cJ2_getChar_3b067 21 = .ok (.dup, 1) := by decide +kernel
theorem dJ2_getChar_3b067_22 : decode cJ2_getChar_3b067 22 = .ok (.ldc 54, 2) := by decide +kernel
theorem dJ2_getChar_3b067_24 : decode cJ2_getChar_3b067 24 = .ok (.invokespecial 56, 3) := by decide +kernel
theorem dJ2_getChar_3b067_27 : decode cJ2_getChar_3b067 27 = .ok (.athrow, 1) := by decide +kernel
theorem dJ2_getChar_3b067_28 : decode cJ2_getChar_3b067 28 = .ok (.iload_n 1, 1) := by decide +kernel
theorem dJ2_getChar_3b067_29 : decode cJ2_getChar_3b067 29 = .ok (.iconst 1, 1) := by decide +kernel
theorem dJ2_getChar_3b067_30 : decode cJ2_getChar_3b067 30 = .ok (.ishl, 1) := by decide +kernel
theorem dJ2_getChar_3b067_31 : decode cJ2_getChar_3b067 31 = .ok (.istore_n 1, 1) := by decide +kernel
theorem dJ2_getChar_3b067_32 : decode cJ2_getChar_3b067 32 = .ok (.aload_n 0, 1) := by decide +kernel
theorem dJ2_getChar_3b067_33 : decode cJ2_getChar_3b067 33 = .ok (.iload_n 1, 1) := by decide +kernel
theorem dJ2_getChar_3b067_34 : decode cJ2_getChar_3b067 34 = .ok (.iinc 1 1, 3) := by decide +kernel
theorem dJ2_getChar_3b067_37 : decode cJ2_getChar_3b067 37 = .ok (.baload, 1) := by decide +kernel
theorem dJ2_getChar_3b067_38 : decode cJ2_getChar_3b067 38 = .ok (.sipush 255, 3) := by decide +kernel
theorem dJ2_getChar_3b067_41 : decode cJ2_getChar_3b067 41 = .ok (.iand, 1) := by decide +kernel
theorem dJ2_getChar_3b067_42 : decode cJ2_getChar_3b067 42 = .ok (.getstatic 59, 3) := by decide +kernel
theorem dJ2_getChar_3b067_45 : decode cJ2_getChar_3b067 45 = .ok (.ishl, 1) := by decide +kernel
theorem dJ2_getChar_3b067_46 : decode cJ2_getChar_3b067 46 = .ok (.aload_n 0, 1) := by decide +kernel
theorem dJ2_getChar_3b067_47 : decode cJ2_getChar_3b067 47 = .ok (.iload_n 1, 1) := by decide +kernel
theorem dJ2_getChar_3b067_48 : decode cJ2_getChar_3b067 48 = .ok (.baload, 1) := by decide +kernel
theorem dJ2_getChar_3b067_49 : decode cJ2_getChar_3b067 49 = .ok (.sipush 255, 3) := by decide +kernel
theorem dJ2_getChar_3b067_52 : decode cJ2_getChar_3b067 52 = .ok (.iand, 1) := by decide +kernel
theorem dJ2_getChar_3b067_53 : decode cJ2_getChar_3b067 53 = .ok (.getstatic 63, 3) := by decide +kernel
theorem dJ2_getChar_3b067_56 : decode cJ2_getChar_3b067 56 = .ok (.ishl, 1) := by decide +kernel
theorem dJ2_getChar_3b067_57 : decode cJ2_getChar_3b067 57 = .ok (.ior, 1) := by decide +kernel
theorem dJ2_getChar_3b067_58 : decode cJ2_getChar_3b067 58 = .ok (.i2c, 1) := by decide +kernel
theorem dJ2_getChar_3b067_59 : decode cJ2_getChar_3b067 59 = .ok (.ireturn, 1) := by decide +kernel
theorem dJ2_length_9d52b_0 : decode cJ2_length_9d52b 0 = .ok (.aload_n 0, 1) := by decide +kernel
theorem dJ2_length_9d52b_1 : decode cJ2_length_9d52b 1 = .ok (.arraylength, 1) := by decide +kernel
theorem dJ2_length_9d52b_2 : decode cJ2_length_9d52b 2 = .ok (.iconst 1, 1) := by decide +kernel
theorem dJ2_length_9d52b_3 : decode cJ2_length_9d52b 3 = .ok (.ishr, 1) := by decide +kernel
theorem dJ2_length_9d52b_4 : decode cJ2_length_9d52b 4 = .ok (.ireturn, 1) := by decide +kernel
theorem dJ2_indexOf_4cfef_0 : decode cJ2_indexOf_4cfef 0 = .ok (.iload_n 2, 1) := by decide +kernel
theorem dJ2_indexOf_4cfef_1 : decode cJ2_indexOf_4cfef 1 = .ok (.iconst 0, 1) := by decide +kernel
theorem dJ2_indexOf_4cfef_2 : decode cJ2_indexOf_4cfef 2 = .ok (.invokestatic 224, 3) := by decide +kernel
theorem dJ2_indexOf_4cfef_5 : decode cJ2_indexOf_4cfef 5 = .ok (.istore_n 2, 1) := by decide +kernel
theorem dJ2_indexOf_4cfef_6 : decode cJ2_indexOf_4cfef 6 = .ok (.iload_n 3, 1) := by decide +kernel
theorem dJ2_indexOf_4cfef_7 : decode cJ2_indexOf_4cfef 7 = .ok (.aload_n 0, 1) := by decide +kernel
theorem dJ2_indexOf_4cfef_8 : decode cJ2_indexOf_4cfef 8 = .ok (.arraylength, 1) := by decide +kernel
theorem dJ2_indexOf_4cfef_9 : decode cJ2_indexOf_4cfef 9 = .ok (.iconst 1, 1) := by decide +kernel
theorem dJ2_indexOf_4cfef_10 : decode cJ2_indexOf_4cfef 10 = .ok (.ishr, 1) := by decide +kernel
theorem dJ2_indexOf_4cfef_11 : decode cJ2_indexOf_4cfef 11 = .ok (.invokestatic 183, 3) := by decide +kernel
theorem dJ2_indexOf_4cfef_14 : decode cJ2_indexOf_4cfef 14 = .ok (.istore_n 3, 1) := by decide +kernel
theorem dJ2_indexOf_4cfef_15 : decode cJ2_indexOf_4cfef 15 = .ok (.iload_n 2, 1) := by decide +kernel
theorem dJ2_indexOf_4cfef_16 : decode cJ2_indexOf_4cfef 16 = .ok (.iload_n 3, 1) := by decide +kernel
theorem dJ2_indexOf_4cfef_17 : decode cJ2_indexOf_4cfef 17 = .ok (.if_icmp .lt 5, 3) := by decide +kernel
theorem dJ2_indexOf_4cfef_20 : decode cJ2_indexOf_4cfef 20 = .ok (.iconst (-1), 1) := by decide +kernel
theorem dJ2_indexOf_4cfef_21 : decode cJ2_indexOf_4cfef 21 = .ok (.ireturn, 1) := by decide +kernel
theorem dJ2_indexOf_4cfef_22 : decode cJ2_indexOf_4cfef 22 = .ok (.iload_n 1, 1) := by decide +kernel
theorem dJ2_indexOf_4cfef_23 : decode cJ2_indexOf_4cfef 23 = .ok (.ldc 227, 2) := by decide +kernel
theorem dJ2_indexOf_4cfef_25 : decode cJ2_indexOf_4cfef 25 = .ok (.if_icmp .ge 11, 3) := by decide +kernel
theorem dJ2_indexOf_4cfef_28 : decode cJ2_indexOf_4cfef 28 = .ok (.aload_n 0, 1) := by decide +kernel
theorem dJ2_indexOf_4cfef_29 : decode cJ2_indexOf_4cfef 29 = .ok (.iload_n 1, 1) := by decide +kernel
theorem dJ2_indexOf_4cfef_30 : decode cJ2_indexOf_4cfef 30 = .ok (.iload_n 2, 1) := by decide +kernel
theorem dJ2_indexOf_4cfef_31 : decode cJ2_indexOf_4cfef 31 = .ok (.iload_n 3, 1) := by decide +kernel
theorem dJ2_indexOf_4cfef_32 : decode cJ2_indexOf_4cfef 32 = .ok (.invokestatic 228, 3) := by decide +kernel
theorem dJ2_indexOf_4cfef_35 : decode cJ2_indexOf_4cfef 35 = .ok (.ireturn, 1) := by decide +kernel
theorem dJ2_indexOf_4cfef_36 : decode cJ2_indexOf_4cfef 36 = .ok (.aload_n 0, 1) := by decide +kernel
theorem dJ2_indexOf_4cfef_37 : decode cJ2_indexOf_4cfef 37 = .ok (.iload_n 1, 1) := by decide +kernel
theorem dJ2_indexOf_4cfef_38 : decode cJ2_indexOf_4cfef 38 = .ok (.iload_n 2, 1) := by decide +kernel
theorem dJ2_indexOf_4cfef_39 : decode cJ2_indexOf_4cfef 39 = .ok (.iload_n 3, 1) := by decide +kernel
theorem dJ2_indexOf_4cfef_40 : decode cJ2_indexOf_4cfef 40 = .ok (.invokestatic 232, 3) := by decide +kernel
theorem dJ2_indexOf_4cfef_43 : decode cJ2_indexOf_4cfef 43 = .ok (.ireturn, 1) := by decide +kernel
theorem dJ2_indexOfChar_4cfef_0 : decode cJ2_indexOfChar_4cfef 0 = .ok (.iload_n 2, 1) := by decide +kernel
theorem dJ2_indexOfChar_4cfef_1 : decode cJ2_indexOfChar_4cfef 1 = .ok (.iload_n 3, 1) := by decide +kernel
theorem dJ2_indexOfChar_4cfef_2 : decode cJ2_indexOfChar_4cfef 2 = .ok (.aload_n 0, 1) := by decide +kernel
theorem dJ2_indexOfChar_4cfef_3 : decode cJ2_indexOfChar_4cfef 3 = .ok (.invokestatic 96, 3) := by decide +kernel
theorem dJ2_indexOfChar_4cfef_6 : decode cJ2_indexOfChar_4cfef 6 = .ok (.aload_n 0, 1) := by decide +kernel
theorem dJ2_indexOfChar_4cfef_7 : decode cJ2_indexOfChar_4cfef 7 = .ok (.iload_n 1, 1) := by decide +kernel
theorem dJ2_indexOfChar_4cfef_8 : decode cJ2_indexOfChar_4cfef 8 = .ok (.iload_n 2, 1) := by decide +kernel
theorem dJ2_indexOfChar_4cfef_9 : decode cJ2_indexOfChar_4cfef 9 = .ok (.iload_n 3, 1) := by decide +kernel
theorem dJ2_indexOfChar_4cfef_10 : decode cJ2_indexOfChar_4cfef 10 = .ok (.invokestatic 244, 3) := by decide +kernel
theorem dJ2_indexOfChar_4cfef_13 : decode cJ2_indexOfChar_4cfef 13 = .ok (.ireturn, 1) := by decide +kernel
theorem dJ2_indexOfCharUnsafe_4cfef_0 : decode cJ2_indexOfCharUnsafe_4cfef 0 = .ok (.iload_n 2, 1) := by decide +kernel
theorem dJ2_indexOfCharUnsafe_4cfef_1 : decode cJ2_indexOfCharUnsafe_4cfef 1 = .ok (.istore 4, 2) := by decide +kernel
theorem dJ2_indexOfCharUnsafe_4cfef_3 : decode cJ2_indexOfCharUnsafe_4cfef 3 = .ok (.iload 4, 2) := by decide +kernel
theorem dJ2_indexOfCharUnsafe_4cfef_5 : decode cJ2_indexOfCharUnsafe_4cfef 5 = .ok (.iload_n 3, 1) := by decide +kernel
theorem dJ2_indexOfCharUnsafe_4cfef_6 : decode cJ2_indexOfCharUnsafe_4cfef 6 = .ok (.if_icmp .ge 22, 3) := by decide +kernel
theorem dJ2_indexOfCharUnsafe_4cfef_9 : decode cJ2_indexOfCharUnsafe_4cfef 9 = .ok (.aload_n 0, 1) := by decide +kernel
theorem dJ2_indexOfCharUnsafe_4cfef_10 : decode cJ2_indexOfCharUnsafe_4cfef 10 = .ok (.iload 4, 2) := by decide +kernel
theorem dJ2_indexOfCharUnsafe_4cfef_12 : decode cJ2_indexOfCharUnsafe_4cfef 12 = .ok (.invokestatic 71, 3) := by decide +kernel
theorem dJ2_indexOfCharUnsafe_4cfef_15 : decode cJ2_indexOfCharUnsafe_4cfef 15 = .ok (.iload_n 1, 1) := by decide +kernel
theorem dJ2_indexOfCharUnsafe_4cfef_16 : decode cJ2_indexOfCharUnsafe_4cfef 16 = .ok (.if_icmp .ne 6, 3) := by decide +kernel
theorem dJ2_indexOfCharUnsafe_4cfef_19 : decode cJ2_indexOfCharUnsafe_4cfef 19 = .ok (.iload 4, 2) := by decide +kernel
theorem dJ2_indexOfCharUnsafe_4cfef_21 : decode cJ2_indexOfCharUnsafe_4cfef 21 = .ok (.ireturn, 1) := by decide +kernel
theorem dJ2_indexOfCharUnsafe_4cfef_22 : decode cJ2_indexOfCharUnsafe_4cfef 22 = .ok (.iinc 4 1, 3) := by decide +kernel
theorem dJ2_indexOfCharUnsafe_4cfef_25 : decode cJ2_indexOfCharUnsafe_4cfef 25 = .ok (.goto (-22), 3) := by decide +kernel
theorem dJ2_indexOfCharUnsafe_4cfef_28 : decode cJ2_indexOfCharUnsafe_4cfef 28 = .ok (.iconst (-1), 1) := by decide +kernel
theorem dJ2_indexOfCharUnsafe_4cfef_29 : decode cJ2_indexOfCharUnsafe_4cfef 29 = .ok (.ireturn, 1) := by decide +kernel
theorem dJ2_indexOfSupplementary_4cfef_0 : decode cJ2_indexOfSupplementary_4cfef 0 = .ok (.iload_n 1, 1) := by decide +kernel
theorem dJ2_indexOfSupplementary_4cfef_1 : decode cJ2_indexOfSupplementary_4cfef 1 = .ok (.invokestatic 164, 3) := by decide +kernel
theorem dJ2_indexOfSupplementary_4cfef_4 : decode cJ2_indexOfSupplementary_4cfef 4 = .ok (.ifCond .eq 65, 3) := by decide +kernel
theorem dJ2_indexOfSupplementary_4cfef_7 : decode cJ2_indexOfSupplementary_4cfef 7 = .ok (.iload_n 1, 1) := by decide +kernel
theorem dJ2_indexOfSupplementary_4cfef_8 : decode cJ2_indexOfSupplementary_4cfef 8 = .ok (.invokestatic 157, 3) := by decide +kernel
theorem dJ2_indexOfSupplementary_4cfef_11 : decode cJ2_indexOfSupplementary_4cfef 11 = .ok (.istore 4, 2) := by decide +kernel
theorem dJ2_indexOfSupplementary_4cfef_13 : decode cJ2_indexOfSupplementary_4cfef 13 = .ok (.iload_n 1, 1) := by decide +kernel
theorem dJ2_indexOfSupplementary_4cfef_14 : decode cJ2_indexOfSupplementary_4cfef 14 = .ok (.invokestatic 161, 3) := by decide +kernel
theorem dJ2_indexOfSupplementary_4cfef_17 : decode cJ2_indexOfSupplementary_4cfef 17 = .ok (.istore 5, 2) := by decide +kernel
theorem dJ2_indexOfSupplementary_4cfef_19 : decode cJ2_indexOfSupplementary_4cfef 19 = .ok (.iload_n 2, 1) := by decide +kernel
theorem dJ2_indexOfSupplementary_4cfef_20 : decode cJ2_indexOfSupplementary_4cfef 20 = .ok (.iload_n 3, 1) := by decide +kernel
theorem dJ2_indexOfSupplementary_4cfef_21 : decode cJ2_indexOfSupplementary_4cfef 21 = .ok (.aload_n 0, 1) := by decide +kernel
theorem dJ2_indexOfSupplementary_4cfef_22 : decode cJ2_indexOfSupplementary_4cfef 22 = .ok (.invokestatic 96, 3) := by decide +kernel
theorem dJ2_indexOfSupplementary_4cfef_25 : decode cJ2_indexOfSupplementary_4cfef 25 = .ok (.iload_n 2, 1) := by decide +kernel
theorem dJ2_indexOfSupplementary_4cfef_26 : decode cJ2_indexOfSupplementary_4cfef 26 = .ok (.istore 6, 2) := by decide +kernel
theorem dJ2_indexOfSupplementary_4cfef_28 : decode cJ2_indexOfSupplementary_4cfef 28 = .ok (.iload 6, 2) := by decide +kernel
theorem dJ2_indexOfSupplementary_4cfef_30 : decode cJ2_indexOfSupplementary_4cfef 30 = .ok (.iload_n 3, 1) := by decide +kernel
theorem dJ2_indexOfSupplementary_4cfef_31 : decode cJ2_indexOfSupplementary_4cfef 31 = .ok (.iconst 1, 1) := by decide +kernel
theorem dJ2_indexOfSupplementary_4cfef_32 : decode cJ2_indexOfSupplementary_4cfef 32 = .ok (.isub, 1) := by decide +kernel
theorem dJ2_indexOfSupplementary_4cfef_33 : decode cJ2_indexOfSupplementary_4cfef 33 = .ok (.if_icmp .ge 36, 3) := by decide +kernel
theorem dJ2_indexOfSupplementary_4cfef_36 : decode cJ2_indexOfSupplementary_4cfef 36 = .ok (.aload_n 0, 1) := by decide +kernel
theorem dJ2_indexOfSupplementary_4cfef_37 : decode cJ2_indexOfSupplementary_4cfef 37 = .ok (.iload 6, 2) := by decide +kernel
theorem dJ2_indexOfSupplementary_4cfef_39 : decode cJ2_indexOfSupplementary_4cfef 39 = .ok (.invokestatic 71, 3) := by decide +kernel
theorem dJ2_indexOfSupplementary_4cfef_42 : decode cJ2_indexOfSupplementary_4cfef 42 = .ok (.iload 4, 2) := by decide +kernel
theorem dJ2_indexOfSupplementary_4cfef_44 : decode cJ2_indexOfSupplementary_4cfef 44 = .ok (.if_icmp .ne 19, 3) := by decide +kernel
theorem dJ2_indexOfSupplementary_4cfef_47 : decode cJ2_indexOfSupplementary_4cfef 47 = .ok (.aload_n 0, 1) := by decide +kernel
theorem dJ2_indexOfSupplementary_4cfef_48 : decode cJ2_indexOfSupplementary_4cfef 48 = .ok (.iload 6, 2) := by decide +kernel
theorem dJ2_indexOfSupplementary_4cfef_50 : decode cJ2_indexOfSupplementary_4cfef 50 = .ok (.iconst 1, 1) := by decide +kernel
theorem dJ2_indexOfSupplementary_4cfef_51 : decode cJ2_indexOfSupplementary_4cfef 51 = .ok (.iadd, 1) := by decide +kernel
theorem dJ2_indexOfSupplementary_4cfef_52 : decode cJ2_indexOfSupplementary_4cfef 52 = .ok (.invokestatic 71, 3) := by decide +kernel
theorem dJ2_indexOfSupplementary_4cfef_55 : decode cJ2_indexOfSupplementary_4cfef 55 = .ok (.iload 5, 2) := by decide +kernel
theorem dJ2_indexOfSupplementary_4cfef_57 : decode cJ2_indexOfSupplementary_4cfef 57 = .ok (.if_icmp .ne 6, 3) := by decide +kernel
theorem dJ2_indexOfSupplementary_4cfef_60 : decode cJ2_indexOfSupplementary_4cfef 60 = .ok (.iload 6, 2) := by decide +kernel
theorem dJ2_indexOfSupplementary_4cfef_62 : decode cJ2_indexOfSupplementary_4cfef 62 = .ok (.ireturn, 1) := by decide +kernel
theorem dJ2_indexOfSupplementary_4cfef_63 : decode cJ2_indexOfSupplementary_4cfef 63 = .ok (.iinc 6 1, 3) := by decide +kernel
theorem dJ2_indexOfSupplementary_4cfef_66 : decode cJ2_indexOfSupplementary_4cfef 66 = .ok (.goto (-38), 3) := by decide +kernel
theorem dJ2_indexOfSupplementary_4cfef_69 : decode cJ2_indexOfSupplementary_4cfef 69 = .ok (.iconst (-1), 1) := by decide +kernel
theorem dJ2_indexOfSupplementary_4cfef_70 : decode cJ2_indexOfSupplementary_4cfef 70 = .ok (.ireturn, 1) := by decide +kernel
theorem dJ2_checkBoundsBeginEnd_d044e_0 : decode cJ2_checkBoundsBeginEnd_d044e 0 = .ok (.iload_n 0, 1) := by decide +kernel
theorem dJ2_checkBoundsBeginEnd_d044e_1 : decode cJ2_checkBoundsBeginEnd_d044e 1 = .ok (.iload_n 1, 1) := by decide +kernel
theorem dJ2_checkBoundsBeginEnd_d044e_2 : decode cJ2_checkBoundsBeginEnd_d044e 2 = .ok (.aload_n 2, 1) := by decide +kernel
theorem dJ2_checkBoundsBeginEnd_d044e_3 : decode cJ2_checkBoundsBeginEnd_d044e 3 = .ok (.invokestatic 48, 3) := by decide +kernel
theorem dJ2_checkBoundsBeginEnd_d044e_6 : decode cJ2_checkBoundsBeginEnd_d044e 6 = .ok (.invokestatic 241, 3) := by decide +kernel
theorem dJ2_checkBoundsBeginEnd_d044e_9 : decode cJ2_checkBoundsBeginEnd_d044e 9 = .ok (.return_, 1) := by decide +kernel
theorem dJ7_fill_53178_0 : decode cJ7_fill_53178 0 = .ok (.iconst 0, 1) := by decide +kernel
theorem dJ7_fill_53178_1 : decode cJ7_fill_53178 1 = .ok (.istore_n 2, 1) := by decide +kernel
theorem dJ7_fill_53178_2 : decode cJ7_fill_53178 2 = .ok (.aload_n 0, 1) := by decide +kernel
theorem dJ7_fill_53178_3 : decode cJ7_fill_53178 3 = .ok (.arraylength, 1) := by decide +kernel
theorem dJ7_fill_53178_4 : decode cJ7_fill_53178 4 = .ok (.istore_n 3, 1) := by decide +kernel
theorem dJ7_fill_53178_5 : decode cJ7_fill_53178 5 = .ok (.iload_n 2, 1) := by decide +kernel
theorem dJ7_fill_53178_6 : decode cJ7_fill_53178 6 = .ok (.iload_n 3, 1) := by decide +kernel
theorem dJ7_fill_53178_7 : decode cJ7_fill_53178 7 = .ok (.if_icmp .ge 13, 3) := by decide +kernel
theorem dJ7_fill_53178_10 : decode cJ7_fill_53178 10 = .ok (.aload_n 0, 1) := by decide +kernel
theorem dJ7_fill_53178_11 : decode cJ7_fill_53178 11 = .ok (.iload_n 2, 1) := by decide +kernel
theorem dJ7_fill_53178_12 : decode cJ7_fill_53178 12 = .ok (.iload_n 1, 1) := by decide +kernel
theorem dJ7_fill_53178_13 : decode cJ7_fill_53178 13 = .ok (.iastore, 1) := by decide +kernel
theorem dJ7_fill_53178_14 : decode cJ7_fill_53178 14 = .ok (.iinc 2 1, 3) := by decide +kernel
theorem dJ7_fill_53178_17 : decode cJ7_fill_53178 17 = .ok (.goto (-12), 3) := by decide +kernel
theorem dJ7_fill_53178_20 : decode cJ7_fill_53178 20 = .ok (.return_, 1) := by decide +kernel
theorem dJ3_checkFromToIndex_8c36e_0 : decode cJ3_checkFromToIndex_8c36e 0 = .ok (.iload_n 0, 1) := by decide +kernel
theorem dJ3_checkFromToIndex_8c36e_1 : decode cJ3_checkFromToIndex_8c36e 1 = .ok (.ifCond .lt 13, 3) := by decide +kernel
theorem dJ3_checkFromToIndex_8c36e_4 : decode cJ3_checkFromToIndex_8c36e 4 = .ok (.iload_n 0, 1) := by decide +kernel
theorem dJ3_checkFromToIndex_8c36e_5 : decode cJ3_checkFromToIndex_8c36e 5 = .ok (.iload_n 1, 1) := by decide +kernel
theorem dJ3_checkFromToIndex_8c36e_6 : decode cJ3_checkFromToIndex_8c36e 6 = .ok (.if_icmp .gt 8, 3) := by decide +kernel
theorem dJ3_checkFromToIndex_8c36e_9 : decode cJ3_checkFromToIndex_8c36e 9 = .ok (.iload_n 1, 1) := by decide +kernel
theorem dJ3_checkFromToIndex_8c36e_10 : decode cJ3_checkFromToIndex_8c36e 10 = .ok (.iload_n 2, 1) := by decide +kernel
theorem dJ3_checkFromToIndex_8c36e_11 : decode cJ3_checkFromToIndex_8c36e 11 = .ok (.if_icmp .le 11, 3) := by decide +kernel
theorem dJ3_checkFromToIndex_8c36e_14 : decode cJ3_checkFromToIndex_8c36e 14 = .ok (.aload_n 3, 1) := by decide +kernel
theorem dJ3_checkFromToIndex_8c36e_15 : decode cJ3_checkFromToIndex_8c36e 15 = .ok (.iload_n 0, 1) := by decide +kernel
theorem dJ3_checkFromToIndex_8c36e_16 : decode cJ3_checkFromToIndex_8c36e 16 = .ok (.iload_n 1, 1) := by decide +kernel
theorem dJ3_checkFromToIndex_8c36e_17 : decode cJ3_checkFromToIndex_8c36e 17 = .ok (.iload_n 2, 1) := by decide +kernel
theorem dJ3_checkFromToIndex_8c36e_18 : decode cJ3_checkFromToIndex_8c36e 18 = .ok (.invokestatic 99, 3) := by decide +kernel
theorem dJ3_checkFromToIndex_8c36e_21 : decode cJ3_checkFromToIndex_8c36e 21 = .ok (.athrow, 1) := by decide +kernel
theorem dJ3_checkFromToIndex_8c36e_22 : decode cJ3_checkFromToIndex_8c36e 22 = .ok (.iload_n 0, 1) := by decide +kernel
theorem dJ3_checkFromToIndex_8c36e_23 : decode cJ3_checkFromToIndex_8c36e 23 = .ok (.ireturn, 1) := by decide +kernel
