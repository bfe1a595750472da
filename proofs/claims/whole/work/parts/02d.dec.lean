theorem dX6_init_0 : decode cX6_init 0 = .ok (.aload_n 0, 1) := by decide +kernel
theorem dX6_init_1 : decode cX6_init 1 = .ok (.invokespecial 1, 3) := by decide +kernel
theorem dX6_init_4 : decode cX6_init 4 = .ok (.aload_n 0, 1) := by decide +kernel
theorem dX6_init_5 : decode cX6_init 5 = .ok (.sipush 238, 3) := by decide +kernel
theorem dX6_init_8 : decode cX6_init 8 = .ok (.newarray .int, 2) := by decide +kernel
theorem dX6_init_10 : decode cX6_init 10 = .ok (.putfield 7, 3) := by decide +kernel
theorem dX6_init_13 : decode cX6_init 13 = .ok (.aload_n 0, 1) := by decide +kernel
theorem dX6_init_14 : decode cX6_init 14 = .ok (.sipush 1904, 3) := by decide +kernel
theorem dX6_init_17 : decode cX6_init 17 = .ok (.newarray .int, 2) := by decide +kernel
theorem dX6_init_19 : decode cX6_init 19 = .ok (.putfield 13, 3) := by decide +kernel
theorem dX6_init_22 : decode cX6_init 22 = .ok (.aload_n 0, 1) := by decide +kernel
theorem dX6_init_23 : decode cX6_init 23 = .ok (.bipush 40, 2) := by decide +kernel
theorem dX6_init_25 : decode cX6_init 25 = .ok (.newarray .int, 2) := by decide +kernel
theorem dX6_init_27 : decode cX6_init 27 = .ok (.putfield 16, 3) := by decide +kernel
theorem dX6_init_30 : decode cX6_init 30 = .ok (.aload_n 0, 1) := by decide +kernel
theorem dX6_init_31 : decode cX6_init 31 = .ok (.sipush 360, 3) := by decide +kernel
theorem dX6_init_34 : decode cX6_init 34 = .ok (.newarray .int, 2) := by decide +kernel
theorem dX6_init_36 : decode cX6_init 36 = .ok (.putfield 19, 3) := by decide +kernel
theorem dX6_init_39 : decode cX6_init 39 = .ok (.aload_n 0, 1) := by decide +kernel
theorem dX6_init_40 : decode cX6_init 40 = .ok (.bipush 6, 2) := by decide +kernel
theorem dX6_init_42 : decode cX6_init 42 = .ok (.newarray .int, 2) := by decide +kernel
theorem dX6_init_44 : decode cX6_init 44 = .ok (.putfield 22, 3) := by decide +kernel
theorem dX6_init_47 : decode cX6_init 47 = .ok (.aload_n 0, 1) := by decide +kernel
theorem dX6_init_48 : decode cX6_init 48 = .ok (.bipush 6, 2) := by decide +kernel
theorem dX6_init_50 : decode cX6_init 50 = .ok (.newarray .int, 2) := by decide +kernel
theorem dX6_init_52 : decode cX6_init 52 = .ok (.putfield 25, 3) := by decide +kernel
theorem dX6_init_55 : decode cX6_init 55 = .ok (.aload_n 0, 1) := by decide +kernel
theorem dX6_init_56 : decode cX6_init 56 = .ok (.bipush 6, 2) := by decide +kernel
theorem dX6_init_58 : decode cX6_init 58 = .ok (.newarray .int, 2) := by decide +kernel
theorem dX6_init_60 : decode cX6_init 60 = .ok (.putfield 28, 3) := by decide +kernel
theorem dX6_init_63 : decode cX6_init 63 = .ok (.aload_n 0, 1) := by decide +kernel
theorem dX6_init_64 : decode cX6_init 64 = .ok (.bipush 6, 2) := by decide +kernel
theorem dX6_init_66 : decode cX6_init 66 = .ok (.newarray .int, 2) := by decide +kernel
theorem dX6_init_68 : decode cX6_init 68 = .ok (.putfield 31, 3) := by decide +kernel
theorem dX6_init_71 : decode cX6_init 71 = .ok (.aload_n 0, 1) := by decide +kernel
theorem dX6_init_72 : decode cX6_init 72 = .ok (.iconst 1, 1) := by decide +kernel
theorem dX6_init_73 : decode cX6_init 73 = .ok (.invokevirtual 34, 3) := by decide +kernel
theorem dX6_init_76 : decode cX6_init 76 = .ok (.return_, 1) := by decide +kernel
theorem dX6_in_0 : decode cX6_in 0 = .ok (.iload_n 0, 1) := by decide +kernel
theorem dX6_in_1 : decode cX6_in 1 = .ok (.iload_n 1, 1) := by decide +kernel
theorem dX6_in_2 : decode cX6_in 2 = .ok (.if_icmp .lt 12, 3) := by decide +kernel
theorem dX6_in_5 : decode cX6_in 5 = .ok (.iload_n 0, 1) := by decide +kernel
theorem dX6_in_6 : decode cX6_in 6 = .ok (.iload_n 2, 1) := by decide +kernel
theorem dX6_in_7 : decode cX6_in 7 = .ok (.if_icmp .gt 7, 3) := by decide +kernel
theorem dX6_in_10 : decode cX6_in 10 = .ok (.iconst 1, 1) := by decide +kernel
theorem dX6_in_11 : decode cX6_in 11 = .ok (.goto 4, 3) := by decide +kernel
theorem dX6_in_14 : decode cX6_in 14 = .ok (.iconst 0, 1) := by decide +kernel
theorem dX6_in_15 : decode cX6_in 15 = .ok (.ireturn, 1) := by decide +kernel
theorem dX6_has_0 : decode cX6_has 0 = .ok (.iload_n 0, 1) := by decide +kernel
theorem dX6_has_1 : decode cX6_has 1 = .ok (.iload_n 1, 1) := by decide +kernel
theorem dX6_has_2 : decode cX6_has 2 = .ok (.ishr, 1) := by decide +kernel
theorem dX6_has_3 : decode cX6_has 3 = .ok (.iconst 1, 1) := by decide +kernel
theorem dX6_has_4 : decode cX6_has 4 = .ok (.iand, 1) := by decide +kernel
theorem dX6_has_5 : decode cX6_has 5 = .ok (.iconst 1, 1) := by decide +kernel
theorem dX6_has_6 : decode cX6_has 6 = .ok (.if_icmp .ne 7, 3) := by decide +kernel
theorem dX6_has_9 : decode cX6_has 9 = .ok (.iconst 1, 1) := by decide +kernel
theorem dX6_has_10 : decode cX6_has 10 = .ok (.goto 4, 3) := by decide +kernel
theorem dX6_has_13 : decode cX6_has 13 = .ok (.iconst 0, 1) := by decide +kernel
theorem dX6_has_14 : decode cX6_has 14 = .ok (.ireturn, 1) := by decide +kernel
theorem dX6_bitCount_0 : decode cX6_bitCount 0 = .ok (.iconst 0, 1) := by decide +kernel
theorem dX6_bitCount_1 : decode cX6_bitCount 1 = .ok (.istore_n 1, 1) := by decide +kernel
theorem dX6_bitCount_2 : decode cX6_bitCount 2 = .ok (.iconst 0, 1) := by decide +kernel
theorem dX6_bitCount_3 : decode cX6_bitCount 3 = .ok (.istore_n 2, 1) := by decide +kernel
theorem dX6_bitCount_4 : decode cX6_bitCount 4 = .ok (.iload_n 2, 1) := by decide +kernel
theorem dX6_bitCount_5 : decode cX6_bitCount 5 = .ok (.bipush 10, 2) := by decide +kernel
theorem dX6_bitCount_7 : decode cX6_bitCount 7 = .ok (.if_icmp .ge 17, 3) := by decide +kernel
theorem dX6_bitCount_10 : decode cX6_bitCount 10 = .ok (.iload_n 1, 1) := by decide +kernel
theorem dX6_bitCount_11 : decode cX6_bitCount 11 = .ok (.iload_n 0, 1) := by decide +kernel
theorem dX6_bitCount_12 : decode cX6_bitCount 12 = .ok (.iload_n 2, 1) := by decide +kernel
theorem dX6_bitCount_13 : decode cX6_bitCount 13 = .ok (.ishr, 1) := by decide +kernel
theorem dX6_bitCount_14 : decode cX6_bitCount 14 = .ok (.iconst 1, 1) := by decide +kernel
theorem dX6_bitCount_15 : decode cX6_bitCount 15 = .ok (.iand, 1) := by decide +kernel
theorem dX6_bitCount_16 : decode cX6_bitCount 16 = .ok (.iadd, 1) := by decide +kernel
theorem dX6_bitCount_17 : decode cX6_bitCount 17 = .ok (.istore_n 1, 1) := by decide +kernel
theorem dX6_bitCount_18 : decode cX6_bitCount 18 = .ok (.iinc 2 1, 3) := by decide +kernel
theorem dX6_bitCount_21 : decode cX6_bitCount 21 = .ok (.goto (-17), 3) := by decide +kernel
theorem dX6_bitCount_24 : decode cX6_bitCount 24 = .ok (.iload_n 1, 1) := by decide +kernel
theorem dX6_bitCount_25 : decode cX6_bitCount 25 = .ok (.ireturn, 1) := by decide +kernel
theorem dX6_reset_0 : decode cX6_reset 0 = .ok (.iconst 0, 1) := by decide +kernel
theorem dX6_reset_1 : decode cX6_reset 1 = .ok (.istore_n 2, 1) := by decide +kernel
theorem dX6_reset_2 : decode cX6_reset 2 = .ok (.iload_n 2, 1) := by decide +kernel
theorem dX6_reset_3 : decode cX6_reset 3 = .ok (.sipush 238, 3) := by decide +kernel
theorem dX6_reset_6 : decode cX6_reset 6 = .ok (.if_icmp .ge 33, 3) := by decide +kernel
theorem dX6_reset_9 : decode cX6_reset 9 = .ok (.aload_n 0, 1) := by decide +kernel
theorem dX6_reset_10 : decode cX6_reset 10 = .ok (.getfield 7, 3) := by decide +kernel
theorem dX6_reset_13 : decode cX6_reset 13 = .ok (.iload_n 2, 1) := by decide +kernel
theorem dX6_reset_14 : decode cX6_reset 14 = .ok (.iload_n 2, 1) := by decide +kernel
theorem dX6_reset_15 : decode cX6_reset 15 = .ok (.bipush 10, 2) := by decide +kernel
theorem dX6_reset_17 : decode cX6_reset 17 = .ok (.if_icmp .lt 14, 3) := by decide +kernel
theorem dX6_reset_20 : decode cX6_reset 20 = .ok (.iload_n 2, 1) := by decide +kernel
theorem dX6_reset_21 : decode cX6_reset 21 = .ok (.bipush 70, 2) := by decide +kernel
theorem dX6_reset_23 : decode cX6_reset 23 = .ok (.if_icmp .ge 8, 3) := by decide +kernel
theorem dX6_reset_26 : decode cX6_reset 26 = .ok (.bipush (-9), 2) := by decide +kernel
theorem dX6_reset_28 : decode cX6_reset 28 = .ok (.goto 4, 3) := by decide +kernel
theorem dX6_reset_31 : decode cX6_reset 31 = .ok (.iconst 0, 1) := by decide +kernel
theorem dX6_reset_32 : decode cX6_reset 32 = .ok (.iastore, 1) := by decide +kernel
theorem dX6_reset_33 : decode cX6_reset 33 = .ok (.iinc 2 1, 3) := by decide +kernel
theorem dX6_reset_36 : decode cX6_reset 36 = .ok (.goto (-34), 3) := by decide +kernel
theorem dX6_reset_39 : decode cX6_reset 39 = .ok (.aload_n 0, 1) := by decide +kernel
theorem dX6_reset_40 : decode cX6_reset 40 = .ok (.getfield 7, 3) := by decide +kernel
theorem dX6_reset_43 : decode cX6_reset 43 = .ok (.iconst 0, 1) := by decide +kernel
theorem dX6_reset_44 : decode cX6_reset 44 = .ok (.iload_n 1, 1) := by decide +kernel
theorem dX6_reset_45 : decode cX6_reset 45 = .ok (.iastore, 1) := by decide +kernel
theorem dX6_reset_46 : decode cX6_reset 46 = .ok (.return_, 1) := by decide +kernel
theorem dX6_save_0 : decode cX6_save 0 = .ok (.aload_n 0, 1) := by decide +kernel
theorem dX6_save_1 : decode cX6_save 1 = .ok (.getfield 38, 3) := by decide +kernel
theorem dX6_save_4 : decode cX6_save 4 = .ok (.bipush 8, 2) := by decide +kernel
theorem dX6_save_6 : decode cX6_save 6 = .ok (.if_icmp .ne 44, 3) := by decide +kernel
theorem dX6_save_9 : decode cX6_save 9 = .ok (.iconst 0, 1) := by decide +kernel
theorem dX6_save_10 : decode cX6_save 10 = .ok (.istore_n 1, 1) := by decide +kernel
theorem dX6_save_11 : decode cX6_save 11 = .ok (.iload_n 1, 1) := by decide +kernel
theorem dX6_save_12 : decode cX6_save 12 = .ok (.sipush 1666, 3) := by decide +kernel
theorem dX6_save_15 : decode cX6_save 15 = .ok (.if_icmp .ge 25, 3) := by decide +kernel
theorem dX6_save_18 : decode cX6_save 18 = .ok (.aload_n 0, 1) := by decide +kernel
theorem dX6_save_19 : decode cX6_save 19 = .ok (.getfield 13, 3) := by decide +kernel
theorem dX6_save_22 : decode cX6_save 22 = .ok (.iload_n 1, 1) := by decide +kernel
theorem dX6_save_23 : decode cX6_save 23 = .ok (.aload_n 0, 1) := by decide +kernel
theorem dX6_save_24 : decode cX6_save 24 = .ok (.getfield 13, 3) := by decide +kernel
theorem dX6_save_27 : decode cX6_save 27 = .ok (.iload_n 1, 1) := by decide +kernel
theorem dX6_save_28 : decode cX6_save 28 = .ok (.sipush 238, 3) := by decide +kernel
theorem dX6_save_31 : decode cX6_save 31 = .ok (.iadd, 1) := by decide +kernel
theorem dX6_save_32 : decode cX6_save 32 = .ok (.iaload, 1) := by decide +kernel
theorem dX6_save_33 : decode cX6_save 33 = .ok (.iastore, 1) := by decide +kernel
theorem dX6_save_34 : decode cX6_save 34 = .ok (.iinc 1 1, 3) := by decide +kernel
theorem dX6_save_37 : decode cX6_save 37 = .ok (.goto (-26), 3) := by decide +kernel
theorem dX6_save_40 : decode cX6_save 40 = .ok (.aload_n 0, 1) := by decide +kernel
theorem dX6_save_41 : decode cX6_save 41 = .ok (.dup, 1) := by decide +kernel
theorem dX6_save_42 : decode cX6_save 42 = .ok (.getfield 38, 3) := by decide +kernel
theorem dX6_save_45 : decode cX6_save 45 = .ok (.iconst 1, 1) := by decide +kernel
theorem dX6_save_46 : decode cX6_save 46 = .ok (.isub, 1) := by decide +kernel
theorem dX6_save_47 : decode cX6_save 47 = .ok (.putfield 38, 3) := by decide +kernel
theorem dX6_save_50 : decode cX6_save 50 = .ok (.iconst 0, 1) := by decide +kernel
theorem dX6_save_51 : decode cX6_save 51 = .ok (.istore_n 1, 1) := by decide +kernel
theorem dX6_save_52 : decode cX6_save 52 = .ok (.iload_n 1, 1) := by decide +kernel
theorem dX6_save_53 : decode cX6_save 53 = .ok (.sipush 238, 3) := by decide +kernel
theorem dX6_save_56 : decode cX6_save 56 = .ok (.if_icmp .ge 30, 3) := by decide +kernel
theorem dX6_save_59 : decode cX6_save 59 = .ok (.aload_n 0, 1) := by decide +kernel
theorem dX6_save_60 : decode cX6_save 60 = .ok (.getfield 13, 3) := by decide +kernel
theorem dX6_save_63 : decode cX6_save 63 = .ok (.sipush 238, 3) := by decide +kernel
theorem dX6_save_66 : decode cX6_save 66 = .ok (.aload_n 0, 1) := by decide +kernel
theorem dX6_save_67 : decode cX6_save 67 = .ok (.getfield 38, 3) := by decide +kernel
theorem dX6_save_70 : decode cX6_save 70 = .ok (.imul, 1) := by decide +kernel
theorem dX6_save_71 : decode cX6_save 71 = .ok (.iload_n 1, 1) := by decide +kernel
theorem dX6_save_72 : decode cX6_save 72 = .ok (.iadd, 1) := by decide +kernel
theorem dX6_save_73 : decode cX6_save 73 = .ok (.aload_n 0, 1) := by decide +kernel
theorem dX6_save_74 : decode cX6_save 74 = .ok (.getfield 7, 3) := by decide +kernel
theorem dX6_save_77 : decode cX6_save 77 = .ok (.iload_n 1, 1) := by decide +kernel
theorem dX6_save_78 : decode cX6_save 78 = .ok (.iaload, 1) := by decide +kernel
theorem dX6_save_79 : decode cX6_save 79 = .ok (.iastore, 1) := by decide +kernel
theorem dX6_save_80 : decode cX6_save 80 = .ok (.iinc 1 1, 3) := by decide +kernel
theorem dX6_save_83 : decode cX6_save 83 = .ok (.goto (-31), 3) := by decide +kernel
theorem dX6_save_86 : decode cX6_save 86 = .ok (.aload_n 0, 1) := by decide +kernel
theorem dX6_save_87 : decode cX6_save 87 = .ok (.dup, 1) := by decide +kernel
theorem dX6_save_88 : decode cX6_save 88 = .ok (.getfield 38, 3) := by decide +kernel
theorem dX6_save_91 : decode cX6_save 91 = .ok (.iconst 1, 1) := by decide +kernel
theorem dX6_save_92 : decode cX6_save 92 = .ok (.iadd, 1) := by decide +kernel
theorem dX6_save_93 : decode cX6_save 93 = .ok (.putfield 38, 3) := by decide +kernel
theorem dX6_save_96 : decode cX6_save 96 = .ok (.return_, 1) := by decide +kernel
theorem dX6_undo_0 : decode cX6_undo 0 = .ok (.aload_n 0, 1) := by decide +kernel
theorem dX6_undo_1 : decode cX6_undo 1 = .ok (.getfield 38, 3) := by decide +kernel
theorem dX6_undo_4 : decode cX6_undo 4 = .ok (.ifCond .ne 6, 3) := by decide +kernel
theorem dX6_undo_7 : decode cX6_undo 7 = .ok (.bipush (-2), 2) := by decide +kernel
theorem dX6_undo_9 : decode cX6_undo 9 = .ok (.ireturn, 1) := by decide +kernel
theorem dX6_undo_10 : decode cX6_undo 10 = .ok (.aload_n 0, 1) := by decide +kernel
theorem dX6_undo_11 : decode cX6_undo 11 = .ok (.dup, 1) := by decide +kernel
theorem dX6_undo_12 : decode cX6_undo 12 = .ok (.getfield 38, 3) := by decide +kernel
theorem dX6_undo_15 : decode cX6_undo 15 = .ok (.iconst 1, 1) := by decide +kernel
theorem dX6_undo_16 : decode cX6_undo 16 = .ok (.isub, 1) := by decide +kernel
theorem dX6_undo_17 : decode cX6_undo 17 = .ok (.putfield 38, 3) := by decide +kernel
theorem dX6_undo_20 : decode cX6_undo 20 = .ok (.iconst 0, 1) := by decide +kernel
theorem dX6_undo_21 : decode cX6_undo 21 = .ok (.istore_n 1, 1) := by decide +kernel
theorem dX6_undo_22 : decode cX6_undo 22 = .ok (.iload_n 1, 1) := by decide +kernel
theorem dX6_undo_23 : decode cX6_undo 23 = .ok (.sipush 238, 3) := by decide +kernel
theorem dX6_undo_26 : decode cX6_undo 26 = .ok (.if_icmp .ge 30, 3) := by decide +kernel
theorem dX6_undo_29 : decode cX6_undo 29 = .ok (.aload_n 0, 1) := by decide +kernel
theorem dX6_undo_30 : decode cX6_undo 30 = .ok (.getfield 7, 3) := by decide +kernel
theorem dX6_undo_33 : decode cX6_undo 33 = .ok (.iload_n 1, 1) := by decide +kernel
theorem dX6_undo_34 : decode cX6_undo 34 = .ok (.aload_n 0, 1) := by decide +kernel
theorem dX6_undo_35 : decode cX6_undo 35 = .ok (.getfield 13, 3) := by decide +kernel
theorem dX6_undo_38 : decode cX6_undo 38 = .ok (.sipush 238, 3) := by decide +kernel
theorem dX6_undo_41 : decode cX6_undo 41 = .ok (.aload_n 0, 1) := by decide +kernel
theorem dX6_undo_42 : decode cX6_undo 42 = .ok (.getfield 38, 3) := by decide +kernel
theorem dX6_undo_45 : decode cX6_undo 45 = .ok (.imul, 1) := by decide +kernel
theorem dX6_undo_46 : decode cX6_undo 46 = .ok (.iload_n 1, 1) := by decide +kernel
theorem dX6_undo_47 : decode cX6_undo 47 = .ok (.iadd, 1) := by decide +kernel
theorem dX6_undo_48 : decode cX6_undo 48 = .ok (.iaload, 1) := by decide +kernel
theorem dX6_undo_49 : decode cX6_undo 49 = .ok (.iastore, 1) := by decide +kernel
theorem dX6_undo_50 : decode cX6_undo 50 = .ok (.iinc 1 1, 3) := by decide +kernel
theorem dX6_undo_53 : decode cX6_undo 53 = .ok (.goto (-31), 3) := by decide +kernel
theorem dX6_undo_56 : decode cX6_undo 56 = .ok (.aload_n 0, 1) := by decide +kernel
theorem dX6_undo_57 : decode cX6_undo 57 = .ok (.getfield 38, 3) := by decide +kernel
theorem dX6_undo_60 : decode cX6_undo 60 = .ok (.ireturn, 1) := by decide +kernel
theorem dX6_isServer_0 : decode cX6_isServer 0 = .ok (.iload_n 1, 1) := by decide +kernel
theorem dX6_isServer_1 : decode cX6_isServer 1 = .ok (.iconst 0, 1) := by decide +kernel
theorem dX6_isServer_2 : decode cX6_isServer 2 = .ok (.aload_n 0, 1) := by decide +kernel
theorem dX6_isServer_3 : decode cX6_isServer 3 = .ok (.getfield 7, 3) := by decide +kernel
theorem dX6_isServer_6 : decode cX6_isServer 6 = .ok (.iconst 0, 1) := by decide +kernel
theorem dX6_isServer_7 : decode cX6_isServer 7 = .ok (.iaload, 1) := by decide +kernel
theorem dX6_isServer_8 : decode cX6_isServer 8 = .ok (.iconst 1, 1) := by decide +kernel
theorem dX6_isServer_9 : decode cX6_isServer 9 = .ok (.isub, 1) := by decide +kernel
theorem dX6_isServer_10 : decode cX6_isServer 10 = .ok (.invokestatic 42, 3) := by decide +kernel
theorem dX6_isServer_13 : decode cX6_isServer 13 = .ok (.ireturn, 1) := by decide +kernel
theorem dX6_areServers_0 : decode cX6_areServers 0 = .ok (.aload_n 0, 1) := by decide +kernel
theorem dX6_areServers_1 : decode cX6_areServers 1 = .ok (.iload_n 1, 1) := by decide +kernel
theorem dX6_areServers_2 : decode cX6_areServers 2 = .ok (.invokevirtual 46, 3) := by decide +kernel
theorem dX6_areServers_5 : decode cX6_areServers 5 = .ok (.ifCond .eq 15, 3) := by decide +kernel
theorem dX6_areServers_8 : decode cX6_areServers 8 = .ok (.aload_n 0, 1) := by decide +kernel
theorem dX6_areServers_9 : decode cX6_areServers 9 = .ok (.iload_n 2, 1) := by decide +kernel
theorem dX6_areServers_10 : decode cX6_areServers 10 = .ok (.invokevirtual 46, 3) := by decide +kernel
theorem dX6_areServers_13 : decode cX6_areServers 13 = .ok (.ifCond .eq 7, 3) := by decide +kernel
theorem dX6_areServers_16 : decode cX6_areServers 16 = .ok (.iconst 1, 1) := by decide +kernel
theorem dX6_areServers_17 : decode cX6_areServers 17 = .ok (.goto 4, 3) := by decide +kernel
theorem dX6_areServers_20 : decode cX6_areServers 20 = .ok (.iconst 0, 1) := by decide +kernel
theorem dX6_areServers_21 : decode cX6_areServers 21 = .ok (.ireturn, 1) := by decide +kernel
theorem dX6_isNick_0 : decode cX6_isNick 0 = .ok (.iload_n 0, 1) := by decide +kernel
theorem dX6_isNick_1 : decode cX6_isNick 1 = .ok (.iconst 0, 1) := by decide +kernel
theorem dX6_isNick_2 : decode cX6_isNick 2 = .ok (.bipush 9, 2) := by decide +kernel
theorem dX6_isNick_4 : decode cX6_isNick 4 = .ok (.invokestatic 42, 3) := by decide +kernel
theorem dX6_isNick_7 : decode cX6_isNick 7 = .ok (.ireturn, 1) := by decide +kernel
theorem dX6_isChannel_0 : decode cX6_isChannel 0 = .ok (.iload_n 0, 1) := by decide +kernel
theorem dX6_isChannel_1 : decode cX6_isChannel 1 = .ok (.iconst 0, 1) := by decide +kernel
theorem dX6_isChannel_2 : decode cX6_isChannel 2 = .ok (.iconst 3, 1) := by decide +kernel
theorem dX6_isChannel_3 : decode cX6_isChannel 3 = .ok (.invokestatic 42, 3) := by decide +kernel
theorem dX6_isChannel_6 : decode cX6_isChannel 6 = .ok (.ireturn, 1) := by decide +kernel
theorem dX6_network_0 : decode cX6_network 0 = .ok (.iconst 1, 1) := by decide +kernel
theorem dX6_network_1 : decode cX6_network 1 = .ok (.iload_n 1, 1) := by decide +kernel
theorem dX6_network_2 : decode cX6_network 2 = .ok (.ishl, 1) := by decide +kernel
theorem dX6_network_3 : decode cX6_network 3 = .ok (.istore_n 2, 1) := by decide +kernel
theorem dX6_network_4 : decode cX6_network 4 = .ok (.iconst 0, 1) := by decide +kernel
theorem dX6_network_5 : decode cX6_network 5 = .ok (.istore_n 3, 1) := by decide +kernel
theorem dX6_network_6 : decode cX6_network 6 = .ok (.iload_n 3, 1) := by decide +kernel
theorem dX6_network_7 : decode cX6_network 7 = .ok (.bipush 6, 2) := by decide +kernel
theorem dX6_network_9 : decode cX6_network 9 = .ok (.if_icmp .ge 54, 3) := by decide +kernel
theorem dX6_network_12 : decode cX6_network 12 = .ok (.iconst 0, 1) := by decide +kernel
theorem dX6_network_13 : decode cX6_network 13 = .ok (.istore 4, 2) := by decide +kernel
theorem dX6_network_15 : decode cX6_network 15 = .ok (.iload 4, 2) := by decide +kernel
theorem dX6_network_17 : decode cX6_network 17 = .ok (.aload_n 0, 1) := by decide +kernel
theorem dX6_network_18 : decode cX6_network 18 = .ok (.getfield 7, 3) := by decide +kernel
theorem dX6_network_21 : decode cX6_network 21 = .ok (.iconst 0, 1) := by decide +kernel
theorem dX6_network_22 : decode cX6_network 22 = .ok (.iaload, 1) := by decide +kernel
theorem dX6_network_23 : decode cX6_network 23 = .ok (.if_icmp .ge 34, 3) := by decide +kernel
theorem dX6_network_26 : decode cX6_network 26 = .ok (.iload_n 2, 1) := by decide +kernel
theorem dX6_network_27 : decode cX6_network 27 = .ok (.iload_n 2, 1) := by decide +kernel
theorem dX6_network_28 : decode cX6_network 28 = .ok (.iload 4, 2) := by decide +kernel
theorem dX6_network_30 : decode cX6_network 30 = .ok (.invokestatic 50, 3) := by decide +kernel
theorem dX6_network_33 : decode cX6_network 33 = .ok (.ifCond .eq 15, 3) := by decide +kernel
theorem dX6_network_36 : decode cX6_network 36 = .ok (.aload_n 0, 1) := by decide +kernel
theorem dX6_network_37 : decode cX6_network 37 = .ok (.getfield 7, 3) := by decide +kernel
theorem dX6_network_40 : decode cX6_network 40 = .ok (.iconst 4, 1) := by decide +kernel
theorem dX6_network_41 : decode cX6_network 41 = .ok (.iload 4, 2) := by decide +kernel
theorem dX6_network_43 : decode cX6_network 43 = .ok (.iadd, 1) := by decide +kernel
theorem dX6_network_44 : decode cX6_network 44 = .ok (.iaload, 1) := by decide +kernel
theorem dX6_network_45 : decode cX6_network 45 = .ok (.goto 4, 3) := by decide +kernel
theorem dX6_network_48 : decode cX6_network 48 = .ok (.iconst 0, 1) := by decide +kernel
theorem dX6_network_49 : decode cX6_network 49 = .ok (.ior, 1) := by decide +kernel
theorem dX6_network_50 : decode cX6_network 50 = .ok (.istore_n 2, 1) := by decide +kernel
theorem dX6_network_51 : decode cX6_network 51 = .ok (.iinc 4 1, 3) := by decide +kernel
theorem dX6_network_54 : decode cX6_network 54 = .ok (.goto (-39), 3) := by decide +kernel
theorem dX6_network_57 : decode cX6_network 57 = .ok (.iinc 3 1, 3) := by decide +kernel
theorem dX6_network_60 : decode cX6_network 60 = .ok (.goto (-54), 3) := by decide +kernel
theorem dX6_network_63 : decode cX6_network 63 = .ok (.iload_n 2, 1) := by decide +kernel
theorem dX6_network_64 : decode cX6_network 64 = .ok (.ireturn, 1) := by decide +kernel
theorem dX6_areConnected_0 : decode cX6_areConnected 0 = .ok (.aload_n 0, 1) := by decide +kernel
theorem dX6_areConnected_1 : decode cX6_areConnected 1 = .ok (.iload_n 1, 1) := by decide +kernel
theorem dX6_areConnected_2 : decode cX6_areConnected 2 = .ok (.invokevirtual 54, 3) := by decide +kernel
theorem dX6_areConnected_5 : decode cX6_areConnected 5 = .ok (.iload_n 2, 1) := by decide +kernel
theorem dX6_areConnected_6 : decode cX6_areConnected 6 = .ok (.invokestatic 50, 3) := by decide +kernel
theorem dX6_areConnected_9 : decode cX6_areConnected 9 = .ok (.ireturn, 1) := by decide +kernel
theorem dX6_areLinked_0 : decode cX6_areLinked 0 = .ok (.aload_n 0, 1) := by decide +kernel
theorem dX6_areLinked_1 : decode cX6_areLinked 1 = .ok (.getfield 7, 3) := by decide +kernel
theorem dX6_areLinked_4 : decode cX6_areLinked 4 = .ok (.iconst 4, 1) := by decide +kernel
theorem dX6_areLinked_5 : decode cX6_areLinked 5 = .ok (.iload_n 1, 1) := by decide +kernel
theorem dX6_areLinked_6 : decode cX6_areLinked 6 = .ok (.iadd, 1) := by decide +kernel
theorem dX6_areLinked_7 : decode cX6_areLinked 7 = .ok (.iaload, 1) := by decide +kernel
theorem dX6_areLinked_8 : decode cX6_areLinked 8 = .ok (.iload_n 2, 1) := by decide +kernel
theorem dX6_areLinked_9 : decode cX6_areLinked 9 = .ok (.invokestatic 50, 3) := by decide +kernel
theorem dX6_areLinked_12 : decode cX6_areLinked 12 = .ok (.ireturn, 1) := by decide +kernel
theorem dX6_setLink_0 : decode cX6_setLink 0 = .ok (.aload_n 0, 1) := by decide +kernel
theorem dX6_setLink_1 : decode cX6_setLink 1 = .ok (.getfield 7, 3) := by decide +kernel
theorem dX6_setLink_4 : decode cX6_setLink 4 = .ok (.iconst 4, 1) := by decide +kernel
theorem dX6_setLink_5 : decode cX6_setLink 5 = .ok (.iload_n 1, 1) := by decide +kernel
theorem dX6_setLink_6 : decode cX6_setLink 6 = .ok (.iadd, 1) := by decide +kernel
theorem dX6_setLink_7 : decode cX6_setLink 7 = .ok (.aload_n 0, 1) := by decide +kernel
theorem dX6_setLink_8 : decode cX6_setLink 8 = .ok (.getfield 7, 3) := by decide +kernel
theorem dX6_setLink_11 : decode cX6_setLink 11 = .ok (.iconst 4, 1) := by decide +kernel
theorem dX6_setLink_12 : decode cX6_setLink 12 = .ok (.iload_n 1, 1) := by decide +kernel
theorem dX6_setLink_13 : decode cX6_setLink 13 = .ok (.iadd, 1) := by decide +kernel
theorem dX6_setLink_14 : decode cX6_setLink 14 = .ok (.iaload, 1) := by decide +kernel
theorem dX6_setLink_15 : decode cX6_setLink 15 = .ok (.iconst 1, 1) := by decide +kernel
theorem dX6_setLink_16 : decode cX6_setLink 16 = .ok (.iload_n 2, 1) := by decide +kernel
theorem dX6_setLink_17 : decode cX6_setLink 17 = .ok (.ishl, 1) := by decide +kernel
theorem dX6_setLink_18 : decode cX6_setLink 18 = .ok (.iconst (-1), 1) := by decide +kernel
theorem dX6_setLink_19 : decode cX6_setLink 19 = .ok (.ixor, 1) := by decide +kernel
theorem dX6_setLink_20 : decode cX6_setLink 20 = .ok (.iand, 1) := by decide +kernel
theorem dX6_setLink_21 : decode cX6_setLink 21 = .ok (.iload_n 3, 1) := by decide +kernel
theorem dX6_setLink_22 : decode cX6_setLink 22 = .ok (.ifCond .eq 9, 3) := by decide +kernel
theorem dX6_setLink_25 : decode cX6_setLink 25 = .ok (.iconst 1, 1) := by decide +kernel
theorem dX6_setLink_26 : decode cX6_setLink 26 = .ok (.iload_n 2, 1) := by decide +kernel
theorem dX6_setLink_27 : decode cX6_setLink 27 = .ok (.ishl, 1) := by decide +kernel
theorem dX6_setLink_28 : decode cX6_setLink 28 = .ok (.goto 4, 3) := by decide +kernel
theorem dX6_setLink_31 : decode cX6_setLink 31 = .ok (.iconst 0, 1) := by decide +kernel
theorem dX6_setLink_32 : decode cX6_setLink 32 = .ok (.ior, 1) := by decide +kernel
theorem dX6_setLink_33 : decode cX6_setLink 33 = .ok (.iastore, 1) := by decide +kernel
theorem dX6_setLink_34 : decode cX6_setLink 34 = .ok (.aload_n 0, 1) := by decide +kernel
theorem dX6_setLink_35 : decode cX6_setLink 35 = .ok (.getfield 7, 3) := by decide +kernel
theorem dX6_setLink_38 : decode cX6_setLink 38 = .ok (.iconst 4, 1) := by decide +kernel
theorem dX6_setLink_39 : decode cX6_setLink 39 = .ok (.iload_n 2, 1) := by decide +kernel
theorem dX6_setLink_40 : decode cX6_setLink 40 = .ok (.iadd, 1) := by decide +kernel
theorem dX6_setLink_41 : decode cX6_setLink 41 = .ok (.aload_n 0, 1) := by decide +kernel
theorem dX6_setLink_42 : decode cX6_setLink 42 = .ok (.getfield 7, 3) := by decide +kernel
theorem dX6_setLink_45 : decode cX6_setLink 45 = .ok (.iconst 4, 1) := by decide +kernel
theorem dX6_setLink_46 : decode cX6_setLink 46 = .ok (.iload_n 2, 1) := by decide +kernel
theorem dX6_setLink_47 : decode cX6_setLink 47 = .ok (.iadd, 1) := by decide +kernel
theorem dX6_setLink_48 : decode cX6_setLink 48 = .ok (.iaload, 1) := by decide +kernel
theorem dX6_setLink_49 : decode cX6_setLink 49 = .ok (.iconst 1, 1) := by decide +kernel
theorem dX6_setLink_50 : decode cX6_setLink 50 = .ok (.iload_n 1, 1) := by decide +kernel
theorem dX6_setLink_51 : decode cX6_setLink 51 = .ok (.ishl, 1) := by decide +kernel
theorem dX6_setLink_52 : decode cX6_setLink 52 = .ok (.iconst (-1), 1) := by decide +kernel
theorem dX6_setLink_53 : decode cX6_setLink 53 = .ok (.ixor, 1) := by decide +kernel
theorem dX6_setLink_54 : decode cX6_setLink 54 = .ok (.iand, 1) := by decide +kernel
theorem dX6_setLink_55 : decode cX6_setLink 55 = .ok (.iload_n 3, 1) := by decide +kernel
theorem dX6_setLink_56 : decode cX6_setLink 56 = .ok (.ifCond .eq 9, 3) := by decide +kernel
theorem dX6_setLink_59 : decode cX6_setLink 59 = .ok (.iconst 1, 1) := by decide +kernel
theorem dX6_setLink_60 : decode cX6_setLink 60 = .ok (.iload_n 1, 1) := by decide +kernel
theorem dX6_setLink_61 : decode cX6_setLink 61 = .ok (.ishl, 1) := by decide +kernel
theorem dX6_setLink_62 : decode cX6_setLink 62 = .ok (.goto 4, 3) := by decide +kernel
theorem dX6_setLink_65 : decode cX6_setLink 65 = .ok (.iconst 0, 1) := by decide +kernel
theorem dX6_setLink_66 : decode cX6_setLink 66 = .ok (.ior, 1) := by decide +kernel
theorem dX6_setLink_67 : decode cX6_setLink 67 = .ok (.iastore, 1) := by decide +kernel
theorem dX6_setLink_68 : decode cX6_setLink 68 = .ok (.return_, 1) := by decide +kernel
theorem dX6_userCell_0 : decode cX6_userCell 0 = .ok (.bipush 10, 2) := by decide +kernel
theorem dX6_userCell_2 : decode cX6_userCell 2 = .ok (.iload_n 0, 1) := by decide +kernel
theorem dX6_userCell_3 : decode cX6_userCell 3 = .ok (.imul, 1) := by decide +kernel
theorem dX6_userCell_4 : decode cX6_userCell 4 = .ok (.iload_n 1, 1) := by decide +kernel
theorem dX6_userCell_5 : decode cX6_userCell 5 = .ok (.iadd, 1) := by decide +kernel
theorem dX6_userCell_6 : decode cX6_userCell 6 = .ok (.ireturn, 1) := by decide +kernel
theorem dX6_isUser_0 : decode cX6_isUser 0 = .ok (.aload_n 0, 1) := by decide +kernel
theorem dX6_isUser_1 : decode cX6_isUser 1 = .ok (.getfield 7, 3) := by decide +kernel
theorem dX6_isUser_4 : decode cX6_isUser 4 = .ok (.bipush 10, 2) := by decide +kernel
theorem dX6_isUser_6 : decode cX6_isUser 6 = .ok (.iload_n 1, 1) := by decide +kernel
theorem dX6_isUser_7 : decode cX6_isUser 7 = .ok (.iload_n 2, 1) := by decide +kernel
theorem dX6_isUser_8 : decode cX6_isUser 8 = .ok (.invokestatic 58, 3) := by decide +kernel
theorem dX6_isUser_11 : decode cX6_isUser 11 = .ok (.iadd, 1) := by decide +kernel
theorem dX6_isUser_12 : decode cX6_isUser 12 = .ok (.iaload, 1) := by decide +kernel
theorem dX6_isUser_13 : decode cX6_isUser 13 = .ok (.bipush (-9), 2) := by decide +kernel
theorem dX6_isUser_15 : decode cX6_isUser 15 = .ok (.if_icmp .eq 7, 3) := by decide +kernel
theorem dX6_isUser_18 : decode cX6_isUser 18 = .ok (.iconst 1, 1) := by decide +kernel
theorem dX6_isUser_19 : decode cX6_isUser 19 = .ok (.goto 4, 3) := by decide +kernel
theorem dX6_isUser_22 : decode cX6_isUser 22 = .ok (.iconst 0, 1) := by decide +kernel
theorem dX6_isUser_23 : decode cX6_isUser 23 = .ok (.ireturn, 1) := by decide +kernel
theorem dX6_homeIn_0 : decode cX6_homeIn 0 = .ok (.bipush (-9), 2) := by decide +kernel
theorem dX6_homeIn_2 : decode cX6_homeIn 2 = .ok (.istore_n 3, 1) := by decide +kernel
theorem dX6_homeIn_3 : decode cX6_homeIn 3 = .ok (.iconst 0, 1) := by decide +kernel
theorem dX6_homeIn_4 : decode cX6_homeIn 4 = .ok (.istore 4, 2) := by decide +kernel
theorem dX6_homeIn_6 : decode cX6_homeIn 6 = .ok (.iload 4, 2) := by decide +kernel
theorem dX6_homeIn_8 : decode cX6_homeIn 8 = .ok (.aload_n 0, 1) := by decide +kernel
theorem dX6_homeIn_9 : decode cX6_homeIn 9 = .ok (.getfield 7, 3) := by decide +kernel
theorem dX6_homeIn_12 : decode cX6_homeIn 12 = .ok (.iconst 0, 1) := by decide +kernel
theorem dX6_homeIn_13 : decode cX6_homeIn 13 = .ok (.iaload, 1) := by decide +kernel
theorem dX6_homeIn_14 : decode cX6_homeIn 14 = .ok (.if_icmp .ge 35, 3) := by decide +kernel
theorem dX6_homeIn_17 : decode cX6_homeIn 17 = .ok (.iload_n 1, 1) := by decide +kernel
theorem dX6_homeIn_18 : decode cX6_homeIn 18 = .ok (.iload 4, 2) := by decide +kernel
theorem dX6_homeIn_20 : decode cX6_homeIn 20 = .ok (.invokestatic 50, 3) := by decide +kernel
theorem dX6_homeIn_23 : decode cX6_homeIn 23 = .ok (.ifCond .eq 18, 3) := by decide +kernel
theorem dX6_homeIn_26 : decode cX6_homeIn 26 = .ok (.aload_n 0, 1) := by decide +kernel
theorem dX6_homeIn_27 : decode cX6_homeIn 27 = .ok (.iload 4, 2) := by decide +kernel
theorem dX6_homeIn_29 : decode cX6_homeIn 29 = .ok (.iload_n 2, 1) := by decide +kernel
theorem dX6_homeIn_30 : decode cX6_homeIn 30 = .ok (.invokevirtual 62, 3) := by decide +kernel
theorem dX6_homeIn_33 : decode cX6_homeIn 33 = .ok (.ifCond .eq 8, 3) := by decide +kernel
theorem dX6_homeIn_36 : decode cX6_homeIn 36 = .ok (.iload 4, 2) := by decide +kernel
theorem dX6_homeIn_38 : decode cX6_homeIn 38 = .ok (.goto 4, 3) := by decide +kernel
theorem dX6_homeIn_41 : decode cX6_homeIn 41 = .ok (.iload_n 3, 1) := by decide +kernel
theorem dX6_homeIn_42 : decode cX6_homeIn 42 = .ok (.istore_n 3, 1) := by decide +kernel
theorem dX6_homeIn_43 : decode cX6_homeIn 43 = .ok (.iinc 4 1, 3) := by decide +kernel
theorem dX6_homeIn_46 : decode cX6_homeIn 46 = .ok (.goto (-40), 3) := by decide +kernel
theorem dX6_homeIn_49 : decode cX6_homeIn 49 = .ok (.iload_n 3, 1) := by decide +kernel
theorem dX6_homeIn_50 : decode cX6_homeIn 50 = .ok (.ireturn, 1) := by decide +kernel
theorem dX6_nicksIn_0 : decode cX6_nicksIn 0 = .ok (.iconst 0, 1) := by decide +kernel
theorem dX6_nicksIn_1 : decode cX6_nicksIn 1 = .ok (.istore 4, 2) := by decide +kernel
theorem dX6_nicksIn_3 : decode cX6_nicksIn 3 = .ok (.iconst 0, 1) := by decide +kernel
theorem dX6_nicksIn_4 : decode cX6_nicksIn 4 = .ok (.istore 5, 2) := by decide +kernel
theorem dX6_nicksIn_6 : decode cX6_nicksIn 6 = .ok (.iload 5, 2) := by decide +kernel
theorem dX6_nicksIn_8 : decode cX6_nicksIn 8 = .ok (.aload_n 0, 1) := by decide +kernel
theorem dX6_nicksIn_9 : decode cX6_nicksIn 9 = .ok (.getfield 7, 3) := by decide +kernel
theorem dX6_nicksIn_12 : decode cX6_nicksIn 12 = .ok (.iconst 0, 1) := by decide +kernel
theorem dX6_nicksIn_13 : decode cX6_nicksIn 13 = .ok (.iaload, 1) := by decide +kernel
theorem dX6_nicksIn_14 : decode cX6_nicksIn 14 = .ok (.if_icmp .ge 105, 3) := by decide +kernel
theorem dX6_nicksIn_17 : decode cX6_nicksIn 17 = .ok (.iconst 0, 1) := by decide +kernel
theorem dX6_nicksIn_18 : decode cX6_nicksIn 18 = .ok (.istore 6, 2) := by decide +kernel
theorem dX6_nicksIn_20 : decode cX6_nicksIn 20 = .ok (.iload 6, 2) := by decide +kernel
theorem dX6_nicksIn_22 : decode cX6_nicksIn 22 = .ok (.bipush 10, 2) := by decide +kernel
theorem dX6_nicksIn_24 : decode cX6_nicksIn 24 = .ok (.if_icmp .ge 89, 3) := by decide +kernel
theorem dX6_nicksIn_27 : decode cX6_nicksIn 27 = .ok (.iload 5, 2) := by decide +kernel
theorem dX6_nicksIn_29 : decode cX6_nicksIn 29 = .ok (.iload 6, 2) := by decide +kernel
theorem dX6_nicksIn_31 : decode cX6_nicksIn 31 = .ok (.invokestatic 58, 3) := by decide +kernel
theorem dX6_nicksIn_34 : decode cX6_nicksIn 34 = .ok (.istore 7, 2) := by decide +kernel
theorem dX6_nicksIn_36 : decode cX6_nicksIn 36 = .ok (.iload_n 2, 1) := by decide +kernel
theorem dX6_nicksIn_37 : decode cX6_nicksIn 37 = .ok (.bipush 10, 2) := by decide +kernel
theorem dX6_nicksIn_39 : decode cX6_nicksIn 39 = .ok (.if_icmp .ne 26, 3) := by decide +kernel
theorem dX6_nicksIn_42 : decode cX6_nicksIn 42 = .ok (.aload_n 0, 1) := by decide +kernel
theorem dX6_nicksIn_43 : decode cX6_nicksIn 43 = .ok (.getfield 7, 3) := by decide +kernel
theorem dX6_nicksIn_46 : decode cX6_nicksIn 46 = .ok (.bipush 10, 2) := by decide +kernel
theorem dX6_nicksIn_48 : decode cX6_nicksIn 48 = .ok (.iload 7, 2) := by decide +kernel
theorem dX6_nicksIn_50 : decode cX6_nicksIn 50 = .ok (.iadd, 1) := by decide +kernel
theorem dX6_nicksIn_51 : decode cX6_nicksIn 51 = .ok (.iaload, 1) := by decide +kernel
theorem dX6_nicksIn_52 : decode cX6_nicksIn 52 = .ok (.bipush (-9), 2) := by decide +kernel
theorem dX6_nicksIn_54 : decode cX6_nicksIn 54 = .ok (.if_icmp .eq 7, 3) := by decide +kernel
theorem dX6_nicksIn_57 : decode cX6_nicksIn 57 = .ok (.iconst 1, 1) := by decide +kernel
theorem dX6_nicksIn_58 : decode cX6_nicksIn 58 = .ok (.goto 20, 3) := by decide +kernel
theorem dX6_nicksIn_61 : decode cX6_nicksIn 61 = .ok (.iconst 0, 1) := by decide +kernel
theorem dX6_nicksIn_62 : decode cX6_nicksIn 62 = .ok (.goto 16, 3) := by decide +kernel
theorem dX6_nicksIn_65 : decode cX6_nicksIn 65 = .ok (.aload_n 0, 1) := by decide +kernel
theorem dX6_nicksIn_66 : decode cX6_nicksIn 66 = .ok (.getfield 7, 3) := by decide +kernel
theorem dX6_nicksIn_69 : decode cX6_nicksIn 69 = .ok (.iload_n 2, 1) := by decide +kernel
theorem dX6_nicksIn_70 : decode cX6_nicksIn 70 = .ok (.iload 7, 2) := by decide +kernel
theorem dX6_nicksIn_72 : decode cX6_nicksIn 72 = .ok (.iadd, 1) := by decide +kernel
theorem dX6_nicksIn_73 : decode cX6_nicksIn 73 = .ok (.iaload, 1) := by decide +kernel
theorem dX6_nicksIn_74 : decode cX6_nicksIn 74 = .ok (.iload_n 3, 1) := by decide +kernel
theorem dX6_nicksIn_75 : decode cX6_nicksIn 75 = .ok (.invokestatic 50, 3) := by decide +kernel
theorem dX6_nicksIn_78 : decode cX6_nicksIn 78 = .ok (.istore 8, 2) := by decide +kernel
theorem dX6_nicksIn_80 : decode cX6_nicksIn 80 = .ok (.iload 4, 2) := by decide +kernel
theorem dX6_nicksIn_82 : decode cX6_nicksIn 82 = .ok (.iload_n 1, 1) := by decide +kernel
theorem dX6_nicksIn_83 : decode cX6_nicksIn 83 = .ok (.iload 5, 2) := by decide +kernel
theorem dX6_nicksIn_85 : decode cX6_nicksIn 85 = .ok (.invokestatic 50, 3) := by decide +kernel
theorem dX6_nicksIn_88 : decode cX6_nicksIn 88 = .ok (.ifCond .eq 15, 3) := by decide +kernel
theorem dX6_nicksIn_91 : decode cX6_nicksIn 91 = .ok (.iload 8, 2) := by decide +kernel
theorem dX6_nicksIn_93 : decode cX6_nicksIn 93 = .ok (.ifCond .eq 10, 3) := by decide +kernel
theorem dX6_nicksIn_96 : decode cX6_nicksIn 96 = .ok (.iconst 1, 1) := by decide +kernel
theorem dX6_nicksIn_97 : decode cX6_nicksIn 97 = .ok (.iload 6, 2) := by decide +kernel
theorem dX6_nicksIn_99 : decode cX6_nicksIn 99 = .ok (.ishl, 1) := by decide +kernel
theorem dX6_nicksIn_100 : decode cX6_nicksIn 100 = .ok (.goto 4, 3) := by decide +kernel
theorem dX6_nicksIn_103 : decode cX6_nicksIn 103 = .ok (.iconst 0, 1) := by decide +kernel
theorem dX6_nicksIn_104 : decode cX6_nicksIn 104 = .ok (.ior, 1) := by decide +kernel
theorem dX6_nicksIn_105 : decode cX6_nicksIn 105 = .ok (.istore 4, 2) := by decide +kernel
theorem dX6_nicksIn_107 : decode cX6_nicksIn 107 = .ok (.iinc 6 1, 3) := by decide +kernel
theorem dX6_nicksIn_110 : decode cX6_nicksIn 110 = .ok (.goto (-90), 3) := by decide +kernel
theorem dX6_nicksIn_113 : decode cX6_nicksIn 113 = .ok (.iinc 5 1, 3) := by decide +kernel
theorem dX6_nicksIn_116 : decode cX6_nicksIn 116 = .ok (.goto (-110), 3) := by decide +kernel
theorem dX6_nicksIn_119 : decode cX6_nicksIn 119 = .ok (.iload 4, 2) := by decide +kernel
theorem dX6_nicksIn_121 : decode cX6_nicksIn 121 = .ok (.ireturn, 1) := by decide +kernel
theorem dX6_membersIn_0 : decode cX6_membersIn 0 = .ok (.aload_n 0, 1) := by decide +kernel
theorem dX6_membersIn_1 : decode cX6_membersIn 1 = .ok (.iload_n 1, 1) := by decide +kernel
theorem dX6_membersIn_2 : decode cX6_membersIn 2 = .ok (.bipush 70, 2) := by decide +kernel
theorem dX6_membersIn_4 : decode cX6_membersIn 4 = .ok (.iload_n 2, 1) := by decide +kernel
theorem dX6_membersIn_5 : decode cX6_membersIn 5 = .ok (.invokevirtual 65, 3) := by decide +kernel
theorem dX6_membersIn_8 : decode cX6_membersIn 8 = .ok (.ireturn, 1) := by decide +kernel
theorem dX6_removeUser_0 : decode cX6_removeUser 0 = .ok (.iload_n 1, 1) := by decide +kernel
theorem dX6_removeUser_1 : decode cX6_removeUser 1 = .ok (.iload_n 2, 1) := by decide +kernel
theorem dX6_removeUser_2 : decode cX6_removeUser 2 = .ok (.invokestatic 58, 3) := by decide +kernel
theorem dX6_removeUser_5 : decode cX6_removeUser 5 = .ok (.istore_n 3, 1) := by decide +kernel
theorem dX6_removeUser_6 : decode cX6_removeUser 6 = .ok (.aload_n 0, 1) := by decide +kernel
theorem dX6_removeUser_7 : decode cX6_removeUser 7 = .ok (.getfield 7, 3) := by decide +kernel
theorem dX6_removeUser_10 : decode cX6_removeUser 10 = .ok (.bipush 10, 2) := by decide +kernel
theorem dX6_removeUser_12 : decode cX6_removeUser 12 = .ok (.iload_n 3, 1) := by decide +kernel
theorem dX6_removeUser_13 : decode cX6_removeUser 13 = .ok (.iadd, 1) := by decide +kernel
theorem dX6_removeUser_14 : decode cX6_removeUser 14 = .ok (.bipush (-9), 2) := by decide +kernel
theorem dX6_removeUser_16 : decode cX6_removeUser 16 = .ok (.iastore, 1) := by decide +kernel
theorem dX6_removeUser_17 : decode cX6_removeUser 17 = .ok (.aload_n 0, 1) := by decide +kernel
theorem dX6_removeUser_18 : decode cX6_removeUser 18 = .ok (.getfield 7, 3) := by decide +kernel
theorem dX6_removeUser_21 : decode cX6_removeUser 21 = .ok (.bipush 70, 2) := by decide +kernel
theorem dX6_removeUser_23 : decode cX6_removeUser 23 = .ok (.iload_n 3, 1) := by decide +kernel
theorem dX6_removeUser_24 : decode cX6_removeUser 24 = .ok (.iadd, 1) := by decide +kernel
theorem dX6_removeUser_25 : decode cX6_removeUser 25 = .ok (.iconst 0, 1) := by decide +kernel
theorem dX6_removeUser_26 : decode cX6_removeUser 26 = .ok (.iastore, 1) := by decide +kernel
theorem dX6_removeUser_27 : decode cX6_removeUser 27 = .ok (.aload_n 0, 1) := by decide +kernel
theorem dX6_removeUser_28 : decode cX6_removeUser 28 = .ok (.getfield 7, 3) := by decide +kernel
theorem dX6_removeUser_31 : decode cX6_removeUser 31 = .ok (.sipush 130, 3) := by decide +kernel
theorem dX6_removeUser_34 : decode cX6_removeUser 34 = .ok (.iload_n 3, 1) := by decide +kernel
theorem dX6_removeUser_35 : decode cX6_removeUser 35 = .ok (.iadd, 1) := by decide +kernel
theorem dX6_removeUser_36 : decode cX6_removeUser 36 = .ok (.iconst 0, 1) := by decide +kernel
theorem dX6_removeUser_37 : decode cX6_removeUser 37 = .ok (.iastore, 1) := by decide +kernel
theorem dX6_removeUser_38 : decode cX6_removeUser 38 = .ok (.return_, 1) := by decide +kernel
theorem dX6_createServers_0 : decode cX6_createServers 0 = .ok (.iload_n 1, 1) := by decide +kernel
theorem dX6_createServers_1 : decode cX6_createServers 1 = .ok (.iconst 1, 1) := by decide +kernel
theorem dX6_createServers_2 : decode cX6_createServers 2 = .ok (.bipush 6, 2) := by decide +kernel
theorem dX6_createServers_4 : decode cX6_createServers 4 = .ok (.invokestatic 42, 3) := by decide +kernel
theorem dX6_createServers_7 : decode cX6_createServers 7 = .ok (.ifCond .ne 5, 3) := by decide +kernel
theorem dX6_createServers_10 : decode cX6_createServers 10 = .ok (.iconst (-1), 1) := by decide +kernel
theorem dX6_createServers_11 : decode cX6_createServers 11 = .ok (.ireturn, 1) := by decide +kernel
theorem dX6_createServers_12 : decode cX6_createServers 12 = .ok (.aload_n 0, 1) := by decide +kernel
theorem dX6_createServers_13 : decode cX6_createServers 13 = .ok (.invokevirtual 69, 3) := by decide +kernel
theorem dX6_createServers_16 : decode cX6_createServers 16 = .ok (.iconst 0, 1) := by decide +kernel
theorem dX6_createServers_17 : decode cX6_createServers 17 = .ok (.istore_n 2, 1) := by decide +kernel
theorem dX6_createServers_18 : decode cX6_createServers 18 = .ok (.bipush 10, 2) := by decide +kernel
theorem dX6_createServers_20 : decode cX6_createServers 20 = .ok (.istore_n 3, 1) := by decide +kernel
theorem dX6_createServers_21 : decode cX6_createServers 21 = .ok (.iload_n 3, 1) := by decide +kernel
theorem dX6_createServers_22 : decode cX6_createServers 22 = .ok (.bipush 70, 2) := by decide +kernel
theorem dX6_createServers_24 : decode cX6_createServers 24 = .ok (.if_icmp .ge 28, 3) := by decide +kernel
theorem dX6_createServers_27 : decode cX6_createServers 27 = .ok (.iload_n 2, 1) := by decide +kernel
theorem dX6_createServers_28 : decode cX6_createServers 28 = .ok (.aload_n 0, 1) := by decide +kernel
theorem dX6_createServers_29 : decode cX6_createServers 29 = .ok (.getfield 7, 3) := by decide +kernel
theorem dX6_createServers_32 : decode cX6_createServers 32 = .ok (.iload_n 3, 1) := by decide +kernel
theorem dX6_createServers_33 : decode cX6_createServers 33 = .ok (.iaload, 1) := by decide +kernel
theorem dX6_createServers_34 : decode cX6_createServers 34 = .ok (.bipush (-9), 2) := by decide +kernel
theorem dX6_createServers_36 : decode cX6_createServers 36 = .ok (.if_icmp .ne 7, 3) := by decide +kernel
theorem dX6_createServers_39 : decode cX6_createServers 39 = .ok (.iconst 0, 1) := by decide +kernel
theorem dX6_createServers_40 : decode cX6_createServers 40 = .ok (.goto 4, 3) := by decide +kernel
theorem dX6_createServers_43 : decode cX6_createServers 43 = .ok (.iconst 1, 1) := by decide +kernel
theorem dX6_createServers_44 : decode cX6_createServers 44 = .ok (.iadd, 1) := by decide +kernel
theorem dX6_createServers_45 : decode cX6_createServers 45 = .ok (.istore_n 2, 1) := by decide +kernel
theorem dX6_createServers_46 : decode cX6_createServers 46 = .ok (.iinc 3 1, 3) := by decide +kernel
theorem dX6_createServers_49 : decode cX6_createServers 49 = .ok (.goto (-28), 3) := by decide +kernel
theorem dX6_createServers_52 : decode cX6_createServers 52 = .ok (.aload_n 0, 1) := by decide +kernel
theorem dX6_createServers_53 : decode cX6_createServers 53 = .ok (.iload_n 1, 1) := by decide +kernel
theorem dX6_createServers_54 : decode cX6_createServers 54 = .ok (.invokevirtual 34, 3) := by decide +kernel
theorem dX6_createServers_57 : decode cX6_createServers 57 = .ok (.iload_n 2, 1) := by decide +kernel
theorem dX6_createServers_58 : decode cX6_createServers 58 = .ok (.ireturn, 1) := by decide +kernel
theorem dX6_setChannel_0 : decode cX6_setChannel 0 = .ok (.iconst 0, 1) := by decide +kernel
theorem dX6_setChannel_1 : decode cX6_setChannel 1 = .ok (.istore 5, 2) := by decide +kernel
theorem dX6_setChannel_3 : decode cX6_setChannel 3 = .ok (.iload 5, 2) := by decide +kernel
theorem dX6_setChannel_5 : decode cX6_setChannel 5 = .ok (.aload_n 0, 1) := by decide +kernel
theorem dX6_setChannel_6 : decode cX6_setChannel 6 = .ok (.getfield 7, 3) := by decide +kernel
theorem dX6_setChannel_9 : decode cX6_setChannel 9 = .ok (.iconst 0, 1) := by decide +kernel
theorem dX6_setChannel_10 : decode cX6_setChannel 10 = .ok (.iaload, 1) := by decide +kernel
theorem dX6_setChannel_11 : decode cX6_setChannel 11 = .ok (.if_icmp .ge 51, 3) := by decide +kernel
theorem dX6_setChannel_14 : decode cX6_setChannel 14 = .ok (.iload_n 1, 1) := by decide +kernel
theorem dX6_setChannel_15 : decode cX6_setChannel 15 = .ok (.iload 5, 2) := by decide +kernel
theorem dX6_setChannel_17 : decode cX6_setChannel 17 = .ok (.invokestatic 50, 3) := by decide +kernel
theorem dX6_setChannel_20 : decode cX6_setChannel 20 = .ok (.ifCond .eq 36, 3) := by decide +kernel
theorem dX6_setChannel_23 : decode cX6_setChannel 23 = .ok (.aload_n 0, 1) := by decide +kernel
theorem dX6_setChannel_24 : decode cX6_setChannel 24 = .ok (.getfield 7, 3) := by decide +kernel
theorem dX6_setChannel_27 : decode cX6_setChannel 27 = .ok (.sipush 190, 3) := by decide +kernel
theorem dX6_setChannel_30 : decode cX6_setChannel 30 = .ok (.iconst 4, 1) := by decide +kernel
theorem dX6_setChannel_31 : decode cX6_setChannel 31 = .ok (.iload 5, 2) := by decide +kernel
theorem dX6_setChannel_33 : decode cX6_setChannel 33 = .ok (.imul, 1) := by decide +kernel
theorem dX6_setChannel_34 : decode cX6_setChannel 34 = .ok (.iadd, 1) := by decide +kernel
theorem dX6_setChannel_35 : decode cX6_setChannel 35 = .ok (.iload_n 2, 1) := by decide +kernel
theorem dX6_setChannel_36 : decode cX6_setChannel 36 = .ok (.iadd, 1) := by decide +kernel
theorem dX6_setChannel_37 : decode cX6_setChannel 37 = .ok (.iload_n 3, 1) := by decide +kernel
theorem dX6_setChannel_38 : decode cX6_setChannel 38 = .ok (.iastore, 1) := by decide +kernel
theorem dX6_setChannel_39 : decode cX6_setChannel 39 = .ok (.aload_n 0, 1) := by decide +kernel
theorem dX6_setChannel_40 : decode cX6_setChannel 40 = .ok (.getfield 7, 3) := by decide +kernel
theorem dX6_setChannel_43 : decode cX6_setChannel 43 = .ok (.sipush 214, 3) := by decide +kernel
theorem dX6_setChannel_46 : decode cX6_setChannel 46 = .ok (.iconst 4, 1) := by decide +kernel
theorem dX6_setChannel_47 : decode cX6_setChannel 47 = .ok (.iload 5, 2) := by decide +kernel
theorem dX6_setChannel_49 : decode cX6_setChannel 49 = .ok (.imul, 1) := by decide +kernel
theorem dX6_setChannel_50 : decode cX6_setChannel 50 = .ok (.iadd, 1) := by decide +kernel
theorem dX6_setChannel_51 : decode cX6_setChannel 51 = .ok (.iload_n 2, 1) := by decide +kernel
theorem dX6_setChannel_52 : decode cX6_setChannel 52 = .ok (.iadd, 1) := by decide +kernel
theorem dX6_setChannel_53 : decode cX6_setChannel 53 = .ok (.iload 4, 2) := by decide +kernel
theorem dX6_setChannel_55 : decode cX6_setChannel 55 = .ok (.iastore, 1) := by decide +kernel
theorem dX6_setChannel_56 : decode cX6_setChannel 56 = .ok (.iinc 5 1, 3) := by decide +kernel
theorem dX6_setChannel_59 : decode cX6_setChannel 59 = .ok (.goto (-56), 3) := by decide +kernel
theorem dX6_setChannel_62 : decode cX6_setChannel 62 = .ok (.return_, 1) := by decide +kernel
theorem dX6_mergeNicks_0 : decode cX6_mergeNicks 0 = .ok (.iconst 0, 1) := by decide +kernel
theorem dX6_mergeNicks_1 : decode cX6_mergeNicks 1 = .ok (.istore_n 3, 1) := by decide +kernel
theorem dX6_mergeNicks_2 : decode cX6_mergeNicks 2 = .ok (.iconst 0, 1) := by decide +kernel
theorem dX6_mergeNicks_3 : decode cX6_mergeNicks 3 = .ok (.istore 4, 2) := by decide +kernel
theorem dX6_mergeNicks_5 : decode cX6_mergeNicks 5 = .ok (.iload 4, 2) := by decide +kernel
theorem dX6_mergeNicks_7 : decode cX6_mergeNicks 7 = .ok (.bipush 10, 2) := by decide +kernel
theorem dX6_mergeNicks_9 : decode cX6_mergeNicks 9 = .ok (.if_icmp .ge 111, 3) := by decide +kernel
theorem dX6_mergeNicks_12 : decode cX6_mergeNicks 12 = .ok (.aload_n 0, 1) := by decide +kernel
theorem dX6_mergeNicks_13 : decode cX6_mergeNicks 13 = .ok (.iload_n 1, 1) := by decide +kernel
theorem dX6_mergeNicks_14 : decode cX6_mergeNicks 14 = .ok (.iload 4, 2) := by decide +kernel
theorem dX6_mergeNicks_16 : decode cX6_mergeNicks 16 = .ok (.invokevirtual 72, 3) := by decide +kernel
theorem dX6_mergeNicks_19 : decode cX6_mergeNicks 19 = .ok (.istore 5, 2) := by decide +kernel
theorem dX6_mergeNicks_21 : decode cX6_mergeNicks 21 = .ok (.aload_n 0, 1) := by decide +kernel
theorem dX6_mergeNicks_22 : decode cX6_mergeNicks 22 = .ok (.iload_n 2, 1) := by decide +kernel
theorem dX6_mergeNicks_23 : decode cX6_mergeNicks 23 = .ok (.iload 4, 2) := by decide +kernel
theorem dX6_mergeNicks_25 : decode cX6_mergeNicks 25 = .ok (.invokevirtual 72, 3) := by decide +kernel
theorem dX6_mergeNicks_28 : decode cX6_mergeNicks 28 = .ok (.istore 6, 2) := by decide +kernel
theorem dX6_mergeNicks_30 : decode cX6_mergeNicks 30 = .ok (.iload 5, 2) := by decide +kernel
theorem dX6_mergeNicks_32 : decode cX6_mergeNicks 32 = .ok (.bipush (-9), 2) := by decide +kernel
theorem dX6_mergeNicks_34 : decode cX6_mergeNicks 34 = .ok (.if_icmp .eq 80, 3) := by decide +kernel
theorem dX6_mergeNicks_37 : decode cX6_mergeNicks 37 = .ok (.iload 6, 2) := by decide +kernel
theorem dX6_mergeNicks_39 : decode cX6_mergeNicks 39 = .ok (.bipush (-9), 2) := by decide +kernel
theorem dX6_mergeNicks_41 : decode cX6_mergeNicks 41 = .ok (.if_icmp .eq 73, 3) := by decide +kernel
theorem dX6_mergeNicks_44 : decode cX6_mergeNicks 44 = .ok (.aload_n 0, 1) := by decide +kernel
theorem dX6_mergeNicks_45 : decode cX6_mergeNicks 45 = .ok (.getfield 7, 3) := by decide +kernel
theorem dX6_mergeNicks_48 : decode cX6_mergeNicks 48 = .ok (.bipush 10, 2) := by decide +kernel
theorem dX6_mergeNicks_50 : decode cX6_mergeNicks 50 = .ok (.iload 5, 2) := by decide +kernel
theorem dX6_mergeNicks_52 : decode cX6_mergeNicks 52 = .ok (.iload 4, 2) := by decide +kernel
theorem dX6_mergeNicks_54 : decode cX6_mergeNicks 54 = .ok (.invokestatic 58, 3) := by decide +kernel
theorem dX6_mergeNicks_57 : decode cX6_mergeNicks 57 = .ok (.iadd, 1) := by decide +kernel
theorem dX6_mergeNicks_58 : decode cX6_mergeNicks 58 = .ok (.iaload, 1) := by decide +kernel
theorem dX6_mergeNicks_59 : decode cX6_mergeNicks 59 = .ok (.istore 7, 2) := by decide +kernel
theorem dX6_mergeNicks_61 : decode cX6_mergeNicks 61 = .ok (.aload_n 0, 1) := by decide +kernel
theorem dX6_mergeNicks_62 : decode cX6_mergeNicks 62 = .ok (.getfield 7, 3) := by decide +kernel
theorem dX6_mergeNicks_65 : decode cX6_mergeNicks 65 = .ok (.bipush 10, 2) := by decide +kernel
theorem dX6_mergeNicks_67 : decode cX6_mergeNicks 67 = .ok (.iload 6, 2) := by decide +kernel
theorem dX6_mergeNicks_69 : decode cX6_mergeNicks 69 = .ok (.iload 4, 2) := by decide +kernel
theorem dX6_mergeNicks_71 : decode cX6_mergeNicks 71 = .ok (.invokestatic 58, 3) := by decide +kernel
theorem dX6_mergeNicks_74 : decode cX6_mergeNicks 74 = .ok (.iadd, 1) := by decide +kernel
theorem dX6_mergeNicks_75 : decode cX6_mergeNicks 75 = .ok (.iaload, 1) := by decide +kernel
theorem dX6_mergeNicks_76 : decode cX6_mergeNicks 76 = .ok (.istore 8, 2) := by decide +kernel
theorem dX6_mergeNicks_78 : decode cX6_mergeNicks 78 = .ok (.iload 7, 2) := by decide +kernel
theorem dX6_mergeNicks_80 : decode cX6_mergeNicks 80 = .ok (.iload 8, 2) := by decide +kernel
theorem dX6_mergeNicks_82 : decode cX6_mergeNicks 82 = .ok (.if_icmp .lt 14, 3) := by decide +kernel
theorem dX6_mergeNicks_85 : decode cX6_mergeNicks 85 = .ok (.aload_n 0, 1) := by decide +kernel
theorem dX6_mergeNicks_86 : decode cX6_mergeNicks 86 = .ok (.iload 5, 2) := by decide +kernel
theorem dX6_mergeNicks_88 : decode cX6_mergeNicks 88 = .ok (.iload 4, 2) := by decide +kernel
theorem dX6_mergeNicks_90 : decode cX6_mergeNicks 90 = .ok (.invokevirtual 75, 3) := by decide +kernel
theorem dX6_mergeNicks_93 : decode cX6_mergeNicks 93 = .ok (.iinc 3 1, 3) := by decide +kernel
theorem dX6_mergeNicks_96 : decode cX6_mergeNicks 96 = .ok (.iload 8, 2) := by decide +kernel
theorem dX6_mergeNicks_98 : decode cX6_mergeNicks 98 = .ok (.iload 7, 2) := by decide +kernel
theorem dX6_mergeNicks_100 : decode cX6_mergeNicks 100 = .ok (.if_icmp .lt 14, 3) := by decide +kernel
theorem dX6_mergeNicks_103 : decode cX6_mergeNicks 103 = .ok (.aload_n 0, 1) := by decide +kernel
theorem dX6_mergeNicks_104 : decode cX6_mergeNicks 104 = .ok (.iload 6, 2) := by decide +kernel
theorem dX6_mergeNicks_106 : decode cX6_mergeNicks 106 = .ok (.iload 4, 2) := by decide +kernel
theorem dX6_mergeNicks_108 : decode cX6_mergeNicks 108 = .ok (.invokevirtual 75, 3) := by decide +kernel
theorem dX6_mergeNicks_111 : decode cX6_mergeNicks 111 = .ok (.iinc 3 1, 3) := by decide +kernel
theorem dX6_mergeNicks_114 : decode cX6_mergeNicks 114 = .ok (.iinc 4 1, 3) := by decide +kernel
theorem dX6_mergeNicks_117 : decode cX6_mergeNicks 117 = .ok (.goto (-112), 3) := by decide +kernel
theorem dX6_mergeNicks_120 : decode cX6_mergeNicks 120 = .ok (.iload_n 3, 1) := by decide +kernel
theorem dX6_mergeNicks_121 : decode cX6_mergeNicks 121 = .ok (.ireturn, 1) := by decide +kernel
theorem dX6_depriveAll_0 : decode cX6_depriveAll 0 = .ok (.aload_n 0, 1) := by decide +kernel
theorem dX6_depriveAll_1 : decode cX6_depriveAll 1 = .ok (.getfield 7, 3) := by decide +kernel
theorem dX6_depriveAll_4 : decode cX6_depriveAll 4 = .ok (.iconst 2, 1) := by decide +kernel
theorem dX6_depriveAll_5 : decode cX6_depriveAll 5 = .ok (.dup2, 1) := by decide +kernel
theorem dX6_depriveAll_6 : decode cX6_depriveAll 6 = .ok (.iaload, 1) := by decide +kernel
theorem dX6_depriveAll_7 : decode cX6_depriveAll 7 = .ok (.aload_n 0, 1) := by decide +kernel
theorem dX6_depriveAll_8 : decode cX6_depriveAll 8 = .ok (.iload_n 1, 1) := by decide +kernel
theorem dX6_depriveAll_9 : decode cX6_depriveAll 9 = .ok (.sipush 130, 3) := by decide +kernel
theorem dX6_depriveAll_12 : decode cX6_depriveAll 12 = .ok (.iload_n 2, 1) := by decide +kernel
theorem dX6_depriveAll_13 : decode cX6_depriveAll 13 = .ok (.invokevirtual 65, 3) := by decide +kernel
theorem dX6_depriveAll_16 : decode cX6_depriveAll 16 = .ok (.invokestatic 79, 3) := by decide +kernel
theorem dX6_depriveAll_19 : decode cX6_depriveAll 19 = .ok (.iadd, 1) := by decide +kernel
theorem dX6_depriveAll_20 : decode cX6_depriveAll 20 = .ok (.iastore, 1) := by decide +kernel
theorem dX6_depriveAll_21 : decode cX6_depriveAll 21 = .ok (.iconst 0, 1) := by decide +kernel
theorem dX6_depriveAll_22 : decode cX6_depriveAll 22 = .ok (.istore_n 3, 1) := by decide +kernel
theorem dX6_depriveAll_23 : decode cX6_depriveAll 23 = .ok (.iload_n 3, 1) := by decide +kernel
theorem dX6_depriveAll_24 : decode cX6_depriveAll 24 = .ok (.aload_n 0, 1) := by decide +kernel
theorem dX6_depriveAll_25 : decode cX6_depriveAll 25 = .ok (.getfield 7, 3) := by decide +kernel
theorem dX6_depriveAll_28 : decode cX6_depriveAll 28 = .ok (.iconst 0, 1) := by decide +kernel
theorem dX6_depriveAll_29 : decode cX6_depriveAll 29 = .ok (.iaload, 1) := by decide +kernel
theorem dX6_depriveAll_30 : decode cX6_depriveAll 30 = .ok (.if_icmp .ge 60, 3) := by decide +kernel
theorem dX6_depriveAll_33 : decode cX6_depriveAll 33 = .ok (.iconst 0, 1) := by decide +kernel
theorem dX6_depriveAll_34 : decode cX6_depriveAll 34 = .ok (.istore 4, 2) := by decide +kernel
theorem dX6_depriveAll_36 : decode cX6_depriveAll 36 = .ok (.iload 4, 2) := by decide +kernel
theorem dX6_depriveAll_38 : decode cX6_depriveAll 38 = .ok (.bipush 10, 2) := by decide +kernel
theorem dX6_depriveAll_40 : decode cX6_depriveAll 40 = .ok (.if_icmp .ge 44, 3) := by decide +kernel
theorem dX6_depriveAll_43 : decode cX6_depriveAll 43 = .ok (.aload_n 0, 1) := by decide +kernel
theorem dX6_depriveAll_44 : decode cX6_depriveAll 44 = .ok (.getfield 7, 3) := by decide +kernel
theorem dX6_depriveAll_47 : decode cX6_depriveAll 47 = .ok (.sipush 130, 3) := by decide +kernel
theorem dX6_depriveAll_50 : decode cX6_depriveAll 50 = .ok (.iload_n 3, 1) := by decide +kernel
theorem dX6_depriveAll_51 : decode cX6_depriveAll 51 = .ok (.iload 4, 2) := by decide +kernel
theorem dX6_depriveAll_53 : decode cX6_depriveAll 53 = .ok (.invokestatic 58, 3) := by decide +kernel
theorem dX6_depriveAll_56 : decode cX6_depriveAll 56 = .ok (.iadd, 1) := by decide +kernel
theorem dX6_depriveAll_57 : decode cX6_depriveAll 57 = .ok (.dup2, 1) := by decide +kernel
theorem dX6_depriveAll_58 : decode cX6_depriveAll 58 = .ok (.iaload, 1) := by decide +kernel
theorem dX6_depriveAll_59 : decode cX6_depriveAll 59 = .ok (.iload_n 1, 1) := by decide +kernel
theorem dX6_depriveAll_60 : decode cX6_depriveAll 60 = .ok (.iload_n 3, 1) := by decide +kernel
theorem dX6_depriveAll_61 : decode cX6_depriveAll 61 = .ok (.invokestatic 50, 3) := by decide +kernel
theorem dX6_depriveAll_64 : decode cX6_depriveAll 64 = .ok (.ifCond .eq 11, 3) := by decide +kernel
theorem dX6_depriveAll_67 : decode cX6_depriveAll 67 = .ok (.iconst 1, 1) := by decide +kernel
theorem dX6_depriveAll_68 : decode cX6_depriveAll 68 = .ok (.iload_n 2, 1) := by decide +kernel
theorem dX6_depriveAll_69 : decode cX6_depriveAll 69 = .ok (.ishl, 1) := by decide +kernel
theorem dX6_depriveAll_70 : decode cX6_depriveAll 70 = .ok (.iconst (-1), 1) := by decide +kernel
theorem dX6_depriveAll_71 : decode cX6_depriveAll 71 = .ok (.ixor, 1) := by decide +kernel
theorem dX6_depriveAll_72 : decode cX6_depriveAll 72 = .ok (.goto 4, 3) := by decide +kernel
theorem dX6_depriveAll_75 : decode cX6_depriveAll 75 = .ok (.iconst (-1), 1) := by decide +kernel
theorem dX6_depriveAll_76 : decode cX6_depriveAll 76 = .ok (.iand, 1) := by decide +kernel
theorem dX6_depriveAll_77 : decode cX6_depriveAll 77 = .ok (.iastore, 1) := by decide +kernel
theorem dX6_depriveAll_78 : decode cX6_depriveAll 78 = .ok (.iinc 4 1, 3) := by decide +kernel
theorem dX6_depriveAll_81 : decode cX6_depriveAll 81 = .ok (.goto (-45), 3) := by decide +kernel
theorem dX6_depriveAll_84 : decode cX6_depriveAll 84 = .ok (.iinc 3 1, 3) := by decide +kernel
theorem dX6_depriveAll_87 : decode cX6_depriveAll 87 = .ok (.goto (-64), 3) := by decide +kernel
theorem dX6_depriveAll_90 : decode cX6_depriveAll 90 = .ok (.return_, 1) := by decide +kernel
theorem dX6_mergeChannel_0 : decode cX6_mergeChannel 0 = .ok (.aload_n 0, 1) := by decide +kernel
theorem dX6_mergeChannel_1 : decode cX6_mergeChannel 1 = .ok (.iload_n 1, 1) := by decide +kernel
theorem dX6_mergeChannel_2 : decode cX6_mergeChannel 2 = .ok (.invokevirtual 54, 3) := by decide +kernel
theorem dX6_mergeChannel_5 : decode cX6_mergeChannel 5 = .ok (.istore 4, 2) := by decide +kernel
theorem dX6_mergeChannel_7 : decode cX6_mergeChannel 7 = .ok (.aload_n 0, 1) := by decide +kernel
theorem dX6_mergeChannel_8 : decode cX6_mergeChannel 8 = .ok (.iload_n 2, 1) := by decide +kernel
theorem dX6_mergeChannel_9 : decode cX6_mergeChannel 9 = .ok (.invokevirtual 54, 3) := by decide +kernel
theorem dX6_mergeChannel_12 : decode cX6_mergeChannel 12 = .ok (.istore 5, 2) := by decide +kernel
theorem dX6_mergeChannel_14 : decode cX6_mergeChannel 14 = .ok (.aload_n 0, 1) := by decide +kernel
theorem dX6_mergeChannel_15 : decode cX6_mergeChannel 15 = .ok (.iload 4, 2) := by decide +kernel
theorem dX6_mergeChannel_17 : decode cX6_mergeChannel 17 = .ok (.iload_n 3, 1) := by decide +kernel
theorem dX6_mergeChannel_18 : decode cX6_mergeChannel 18 = .ok (.invokevirtual 82, 3) := by decide +kernel
theorem dX6_mergeChannel_21 : decode cX6_mergeChannel 21 = .ok (.ifCond .eq 7, 3) := by decide +kernel
theorem dX6_mergeChannel_24 : decode cX6_mergeChannel 24 = .ok (.iconst 1, 1) := by decide +kernel
theorem dX6_mergeChannel_25 : decode cX6_mergeChannel 25 = .ok (.goto 4, 3) := by decide +kernel
theorem dX6_mergeChannel_28 : decode cX6_mergeChannel 28 = .ok (.iconst 0, 1) := by decide +kernel
theorem dX6_mergeChannel_29 : decode cX6_mergeChannel 29 = .ok (.istore 6, 2) := by decide +kernel
theorem dX6_mergeChannel_31 : decode cX6_mergeChannel 31 = .ok (.aload_n 0, 1) := by decide +kernel
theorem dX6_mergeChannel_32 : decode cX6_mergeChannel 32 = .ok (.iload 5, 2) := by decide +kernel
theorem dX6_mergeChannel_34 : decode cX6_mergeChannel 34 = .ok (.iload_n 3, 1) := by decide +kernel
theorem dX6_mergeChannel_35 : decode cX6_mergeChannel 35 = .ok (.invokevirtual 82, 3) := by decide +kernel
theorem dX6_mergeChannel_38 : decode cX6_mergeChannel 38 = .ok (.ifCond .eq 7, 3) := by decide +kernel
theorem dX6_mergeChannel_41 : decode cX6_mergeChannel 41 = .ok (.iconst 1, 1) := by decide +kernel
theorem dX6_mergeChannel_42 : decode cX6_mergeChannel 42 = .ok (.goto 4, 3) := by decide +kernel
theorem dX6_mergeChannel_45 : decode cX6_mergeChannel 45 = .ok (.iconst 0, 1) := by decide +kernel
theorem dX6_mergeChannel_46 : decode cX6_mergeChannel 46 = .ok (.istore 7, 2) := by decide +kernel
theorem dX6_mergeChannel_48 : decode cX6_mergeChannel 48 = .ok (.aload_n 0, 1) := by decide +kernel
theorem dX6_mergeChannel_49 : decode cX6_mergeChannel 49 = .ok (.getfield 7, 3) := by decide +kernel
theorem dX6_mergeChannel_52 : decode cX6_mergeChannel 52 = .ok (.sipush 190, 3) := by decide +kernel
theorem dX6_mergeChannel_55 : decode cX6_mergeChannel 55 = .ok (.iconst 4, 1) := by decide +kernel
theorem dX6_mergeChannel_56 : decode cX6_mergeChannel 56 = .ok (.iload_n 1, 1) := by decide +kernel
theorem dX6_mergeChannel_57 : decode cX6_mergeChannel 57 = .ok (.imul, 1) := by decide +kernel
theorem dX6_mergeChannel_58 : decode cX6_mergeChannel 58 = .ok (.iadd, 1) := by decide +kernel
theorem dX6_mergeChannel_59 : decode cX6_mergeChannel 59 = .ok (.iload_n 3, 1) := by decide +kernel
theorem dX6_mergeChannel_60 : decode cX6_mergeChannel 60 = .ok (.iadd, 1) := by decide +kernel
theorem dX6_mergeChannel_61 : decode cX6_mergeChannel 61 = .ok (.iaload, 1) := by decide +kernel
theorem dX6_mergeChannel_62 : decode cX6_mergeChannel 62 = .ok (.istore 8, 2) := by decide +kernel
theorem dX6_mergeChannel_64 : decode cX6_mergeChannel 64 = .ok (.aload_n 0, 1) := by decide +kernel
theorem dX6_mergeChannel_65 : decode cX6_mergeChannel 65 = .ok (.getfield 7, 3) := by decide +kernel
theorem dX6_mergeChannel_68 : decode cX6_mergeChannel 68 = .ok (.sipush 190, 3) := by decide +kernel
theorem dX6_mergeChannel_71 : decode cX6_mergeChannel 71 = .ok (.iconst 4, 1) := by decide +kernel
theorem dX6_mergeChannel_72 : decode cX6_mergeChannel 72 = .ok (.iload_n 2, 1) := by decide +kernel
theorem dX6_mergeChannel_73 : decode cX6_mergeChannel 73 = .ok (.imul, 1) := by decide +kernel
theorem dX6_mergeChannel_74 : decode cX6_mergeChannel 74 = .ok (.iadd, 1) := by decide +kernel
theorem dX6_mergeChannel_75 : decode cX6_mergeChannel 75 = .ok (.iload_n 3, 1) := by decide +kernel
theorem dX6_mergeChannel_76 : decode cX6_mergeChannel 76 = .ok (.iadd, 1) := by decide +kernel
theorem dX6_mergeChannel_77 : decode cX6_mergeChannel 77 = .ok (.iaload, 1) := by decide +kernel
theorem dX6_mergeChannel_78 : decode cX6_mergeChannel 78 = .ok (.istore 9, 2) := by decide +kernel
theorem dX6_mergeChannel_80 : decode cX6_mergeChannel 80 = .ok (.aload_n 0, 1) := by decide +kernel
theorem dX6_mergeChannel_81 : decode cX6_mergeChannel 81 = .ok (.getfield 7, 3) := by decide +kernel
theorem dX6_mergeChannel_84 : decode cX6_mergeChannel 84 = .ok (.sipush 214, 3) := by decide +kernel
theorem dX6_mergeChannel_87 : decode cX6_mergeChannel 87 = .ok (.iconst 4, 1) := by decide +kernel
theorem dX6_mergeChannel_88 : decode cX6_mergeChannel 88 = .ok (.iload_n 1, 1) := by decide +kernel
theorem dX6_mergeChannel_89 : decode cX6_mergeChannel 89 = .ok (.imul, 1) := by decide +kernel
theorem dX6_mergeChannel_90 : decode cX6_mergeChannel 90 = .ok (.iadd, 1) := by decide +kernel
theorem dX6_mergeChannel_91 : decode cX6_mergeChannel 91 = .ok (.iload_n 3, 1) := by decide +kernel
theorem dX6_mergeChannel_92 : decode cX6_mergeChannel 92 = .ok (.iadd, 1) := by decide +kernel
theorem dX6_mergeChannel_93 : decode cX6_mergeChannel 93 = .ok (.iaload, 1) := by decide +kernel
theorem dX6_mergeChannel_94 : decode cX6_mergeChannel 94 = .ok (.istore 10, 2) := by decide +kernel
theorem dX6_mergeChannel_96 : decode cX6_mergeChannel 96 = .ok (.aload_n 0, 1) := by decide +kernel
theorem dX6_mergeChannel_97 : decode cX6_mergeChannel 97 = .ok (.getfield 7, 3) := by decide +kernel
theorem dX6_mergeChannel_100 : decode cX6_mergeChannel 100 = .ok (.sipush 214, 3) := by decide +kernel
theorem dX6_mergeChannel_103 : decode cX6_mergeChannel 103 = .ok (.iconst 4, 1) := by decide +kernel
theorem dX6_mergeChannel_104 : decode cX6_mergeChannel 104 = .ok (.iload_n 2, 1) := by decide +kernel
theorem dX6_mergeChannel_105 : decode cX6_mergeChannel 105 = .ok (.imul, 1) := by decide +kernel
theorem dX6_mergeChannel_106 : decode cX6_mergeChannel 106 = .ok (.iadd, 1) := by decide +kernel
theorem dX6_mergeChannel_107 : decode cX6_mergeChannel 107 = .ok (.iload_n 3, 1) := by decide +kernel
theorem dX6_mergeChannel_108 : decode cX6_mergeChannel 108 = .ok (.iadd, 1) := by decide +kernel
theorem dX6_mergeChannel_109 : decode cX6_mergeChannel 109 = .ok (.iaload, 1) := by decide +kernel
theorem dX6_mergeChannel_110 : decode cX6_mergeChannel 110 = .ok (.istore 11, 2) := by decide +kernel
theorem dX6_mergeChannel_112 : decode cX6_mergeChannel 112 = .ok (.iload 6, 2) := by decide +kernel
theorem dX6_mergeChannel_114 : decode cX6_mergeChannel 114 = .ok (.ifCond .eq 35, 3) := by decide +kernel
theorem dX6_mergeChannel_117 : decode cX6_mergeChannel 117 = .ok (.iload 7, 2) := by decide +kernel
theorem dX6_mergeChannel_119 : decode cX6_mergeChannel 119 = .ok (.ifCond .eq 30, 3) := by decide +kernel
theorem dX6_mergeChannel_122 : decode cX6_mergeChannel 122 = .ok (.iload 8, 2) := by decide +kernel
theorem dX6_mergeChannel_124 : decode cX6_mergeChannel 124 = .ok (.iload 9, 2) := by decide +kernel
theorem dX6_mergeChannel_126 : decode cX6_mergeChannel 126 = .ok (.if_icmp .ne 23, 3) := by decide +kernel
theorem dX6_mergeChannel_129 : decode cX6_mergeChannel 129 = .ok (.aload_n 0, 1) := by decide +kernel
theorem dX6_mergeChannel_130 : decode cX6_mergeChannel 130 = .ok (.iload 4, 2) := by decide +kernel
theorem dX6_mergeChannel_132 : decode cX6_mergeChannel 132 = .ok (.iload 5, 2) := by decide +kernel
theorem dX6_mergeChannel_134 : decode cX6_mergeChannel 134 = .ok (.ior, 1) := by decide +kernel
theorem dX6_mergeChannel_135 : decode cX6_mergeChannel 135 = .ok (.iload_n 3, 1) := by decide +kernel
theorem dX6_mergeChannel_136 : decode cX6_mergeChannel 136 = .ok (.iload 8, 2) := by decide +kernel
theorem dX6_mergeChannel_138 : decode cX6_mergeChannel 138 = .ok (.iload 10, 2) := by decide +kernel
theorem dX6_mergeChannel_140 : decode cX6_mergeChannel 140 = .ok (.iload 11, 2) := by decide +kernel
theorem dX6_mergeChannel_142 : decode cX6_mergeChannel 142 = .ok (.ior, 1) := by decide +kernel
theorem dX6_mergeChannel_143 : decode cX6_mergeChannel 143 = .ok (.invokevirtual 85, 3) := by decide +kernel
theorem dX6_mergeChannel_146 : decode cX6_mergeChannel 146 = .ok (.goto 108, 3) := by decide +kernel
theorem dX6_mergeChannel_149 : decode cX6_mergeChannel 149 = .ok (.iload 6, 2) := by decide +kernel
theorem dX6_mergeChannel_151 : decode cX6_mergeChannel 151 = .ok (.ifCond .eq 58, 3) := by decide +kernel
theorem dX6_mergeChannel_154 : decode cX6_mergeChannel 154 = .ok (.iload 7, 2) := by decide +kernel
theorem dX6_mergeChannel_156 : decode cX6_mergeChannel 156 = .ok (.ifCond .eq 10, 3) := by decide +kernel
theorem dX6_mergeChannel_159 : decode cX6_mergeChannel 159 = .ok (.iload 8, 2) := by decide +kernel
theorem dX6_mergeChannel_161 : decode cX6_mergeChannel 161 = .ok (.iload 9, 2) := by decide +kernel
theorem dX6_mergeChannel_163 : decode cX6_mergeChannel 163 = .ok (.if_icmp .ge 46, 3) := by decide +kernel
theorem dX6_mergeChannel_166 : decode cX6_mergeChannel 166 = .ok (.aload_n 0, 1) := by decide +kernel
theorem dX6_mergeChannel_167 : decode cX6_mergeChannel 167 = .ok (.iload 4, 2) := by decide +kernel
theorem dX6_mergeChannel_169 : decode cX6_mergeChannel 169 = .ok (.iload 5, 2) := by decide +kernel
theorem dX6_mergeChannel_171 : decode cX6_mergeChannel 171 = .ok (.ior, 1) := by decide +kernel
theorem dX6_mergeChannel_172 : decode cX6_mergeChannel 172 = .ok (.iload_n 3, 1) := by decide +kernel
theorem dX6_mergeChannel_173 : decode cX6_mergeChannel 173 = .ok (.iload 8, 2) := by decide +kernel
theorem dX6_mergeChannel_175 : decode cX6_mergeChannel 175 = .ok (.iload 10, 2) := by decide +kernel
theorem dX6_mergeChannel_177 : decode cX6_mergeChannel 177 = .ok (.invokevirtual 85, 3) := by decide +kernel
theorem dX6_mergeChannel_180 : decode cX6_mergeChannel 180 = .ok (.iload 7, 2) := by decide +kernel
theorem dX6_mergeChannel_182 : decode cX6_mergeChannel 182 = .ok (.ifCond .eq 72, 3) := by decide +kernel
theorem dX6_mergeChannel_185 : decode cX6_mergeChannel 185 = .ok (.aload_n 0, 1) := by decide +kernel
theorem dX6_mergeChannel_186 : decode cX6_mergeChannel 186 = .ok (.iload 5, 2) := by decide +kernel
theorem dX6_mergeChannel_188 : decode cX6_mergeChannel 188 = .ok (.iload_n 3, 1) := by decide +kernel
theorem dX6_mergeChannel_189 : decode cX6_mergeChannel 189 = .ok (.invokevirtual 89, 3) := by decide +kernel
theorem dX6_mergeChannel_192 : decode cX6_mergeChannel 192 = .ok (.aload_n 0, 1) := by decide +kernel
theorem dX6_mergeChannel_193 : decode cX6_mergeChannel 193 = .ok (.getfield 7, 3) := by decide +kernel
theorem dX6_mergeChannel_196 : decode cX6_mergeChannel 196 = .ok (.iconst 3, 1) := by decide +kernel
theorem dX6_mergeChannel_197 : decode cX6_mergeChannel 197 = .ok (.dup2, 1) := by decide +kernel
theorem dX6_mergeChannel_198 : decode cX6_mergeChannel 198 = .ok (.iaload, 1) := by decide +kernel
theorem dX6_mergeChannel_199 : decode cX6_mergeChannel 199 = .ok (.iload 11, 2) := by decide +kernel
theorem dX6_mergeChannel_201 : decode cX6_mergeChannel 201 = .ok (.invokestatic 79, 3) := by decide +kernel
theorem dX6_mergeChannel_204 : decode cX6_mergeChannel 204 = .ok (.iadd, 1) := by decide +kernel
theorem dX6_mergeChannel_205 : decode cX6_mergeChannel 205 = .ok (.iastore, 1) := by decide +kernel
theorem dX6_mergeChannel_206 : decode cX6_mergeChannel 206 = .ok (.goto 48, 3) := by decide +kernel
theorem dX6_mergeChannel_209 : decode cX6_mergeChannel 209 = .ok (.iload 7, 2) := by decide +kernel
theorem dX6_mergeChannel_211 : decode cX6_mergeChannel 211 = .ok (.ifCond .eq 43, 3) := by decide +kernel
theorem dX6_mergeChannel_214 : decode cX6_mergeChannel 214 = .ok (.aload_n 0, 1) := by decide +kernel
theorem dX6_mergeChannel_215 : decode cX6_mergeChannel 215 = .ok (.iload 4, 2) := by decide +kernel
theorem dX6_mergeChannel_217 : decode cX6_mergeChannel 217 = .ok (.iload 5, 2) := by decide +kernel
theorem dX6_mergeChannel_219 : decode cX6_mergeChannel 219 = .ok (.ior, 1) := by decide +kernel
theorem dX6_mergeChannel_220 : decode cX6_mergeChannel 220 = .ok (.iload_n 3, 1) := by decide +kernel
theorem dX6_mergeChannel_221 : decode cX6_mergeChannel 221 = .ok (.iload 9, 2) := by decide +kernel
theorem dX6_mergeChannel_223 : decode cX6_mergeChannel 223 = .ok (.iload 11, 2) := by decide +kernel
theorem dX6_mergeChannel_225 : decode cX6_mergeChannel 225 = .ok (.invokevirtual 85, 3) := by decide +kernel
theorem dX6_mergeChannel_228 : decode cX6_mergeChannel 228 = .ok (.iload 6, 2) := by decide +kernel
theorem dX6_mergeChannel_230 : decode cX6_mergeChannel 230 = .ok (.ifCond .eq 24, 3) := by decide +kernel
theorem dX6_mergeChannel_233 : decode cX6_mergeChannel 233 = .ok (.aload_n 0, 1) := by decide +kernel
theorem dX6_mergeChannel_234 : decode cX6_mergeChannel 234 = .ok (.iload 4, 2) := by decide +kernel
theorem dX6_mergeChannel_236 : decode cX6_mergeChannel 236 = .ok (.iload_n 3, 1) := by decide +kernel
theorem dX6_mergeChannel_237 : decode cX6_mergeChannel 237 = .ok (.invokevirtual 89, 3) := by decide +kernel
theorem dX6_mergeChannel_240 : decode cX6_mergeChannel 240 = .ok (.aload_n 0, 1) := by decide +kernel
theorem dX6_mergeChannel_241 : decode cX6_mergeChannel 241 = .ok (.getfield 7, 3) := by decide +kernel
theorem dX6_mergeChannel_244 : decode cX6_mergeChannel 244 = .ok (.iconst 3, 1) := by decide +kernel
theorem dX6_mergeChannel_245 : decode cX6_mergeChannel 245 = .ok (.dup2, 1) := by decide +kernel
theorem dX6_mergeChannel_246 : decode cX6_mergeChannel 246 = .ok (.iaload, 1) := by decide +kernel
theorem dX6_mergeChannel_247 : decode cX6_mergeChannel 247 = .ok (.iload 10, 2) := by decide +kernel
theorem dX6_mergeChannel_249 : decode cX6_mergeChannel 249 = .ok (.invokestatic 79, 3) := by decide +kernel
theorem dX6_mergeChannel_252 : decode cX6_mergeChannel 252 = .ok (.iadd, 1) := by decide +kernel
theorem dX6_mergeChannel_253 : decode cX6_mergeChannel 253 = .ok (.iastore, 1) := by decide +kernel
theorem dX6_mergeChannel_254 : decode cX6_mergeChannel 254 = .ok (.return_, 1) := by decide +kernel
theorem dX6_connect_0 : decode cX6_connect 0 = .ok (.aload_n 0, 1) := by decide +kernel
theorem dX6_connect_1 : decode cX6_connect 1 = .ok (.iload_n 1, 1) := by decide +kernel
theorem dX6_connect_2 : decode cX6_connect 2 = .ok (.iload_n 2, 1) := by decide +kernel
theorem dX6_connect_3 : decode cX6_connect 3 = .ok (.invokevirtual 92, 3) := by decide +kernel
theorem dX6_connect_6 : decode cX6_connect 6 = .ok (.ifCond .eq 8, 3) := by decide +kernel
theorem dX6_connect_9 : decode cX6_connect 9 = .ok (.iload_n 1, 1) := by decide +kernel
theorem dX6_connect_10 : decode cX6_connect 10 = .ok (.iload_n 2, 1) := by decide +kernel
theorem dX6_connect_11 : decode cX6_connect 11 = .ok (.if_icmp .ne 5, 3) := by decide +kernel
theorem dX6_connect_14 : decode cX6_connect 14 = .ok (.iconst (-1), 1) := by decide +kernel
theorem dX6_connect_15 : decode cX6_connect 15 = .ok (.ireturn, 1) := by decide +kernel
theorem dX6_connect_16 : decode cX6_connect 16 = .ok (.aload_n 0, 1) := by decide +kernel
theorem dX6_connect_17 : decode cX6_connect 17 = .ok (.iload_n 1, 1) := by decide +kernel
theorem dX6_connect_18 : decode cX6_connect 18 = .ok (.iload_n 2, 1) := by decide +kernel
theorem dX6_connect_19 : decode cX6_connect 19 = .ok (.invokevirtual 95, 3) := by decide +kernel
theorem dX6_connect_22 : decode cX6_connect 22 = .ok (.ifCond .eq 6, 3) := by decide +kernel
theorem dX6_connect_25 : decode cX6_connect 25 = .ok (.bipush (-2), 2) := by decide +kernel
theorem dX6_connect_27 : decode cX6_connect 27 = .ok (.ireturn, 1) := by decide +kernel
theorem dX6_connect_28 : decode cX6_connect 28 = .ok (.aload_n 0, 1) := by decide +kernel
theorem dX6_connect_29 : decode cX6_connect 29 = .ok (.invokevirtual 69, 3) := by decide +kernel
theorem dX6_connect_32 : decode cX6_connect 32 = .ok (.aload_n 0, 1) := by decide +kernel
theorem dX6_connect_33 : decode cX6_connect 33 = .ok (.getfield 7, 3) := by decide +kernel
theorem dX6_connect_36 : decode cX6_connect 36 = .ok (.iconst 2, 1) := by decide +kernel
theorem dX6_connect_37 : decode cX6_connect 37 = .ok (.iconst 0, 1) := by decide +kernel
theorem dX6_connect_38 : decode cX6_connect 38 = .ok (.iastore, 1) := by decide +kernel
theorem dX6_connect_39 : decode cX6_connect 39 = .ok (.aload_n 0, 1) := by decide +kernel
theorem dX6_connect_40 : decode cX6_connect 40 = .ok (.getfield 7, 3) := by decide +kernel
theorem dX6_connect_43 : decode cX6_connect 43 = .ok (.iconst 3, 1) := by decide +kernel
theorem dX6_connect_44 : decode cX6_connect 44 = .ok (.iconst 0, 1) := by decide +kernel
theorem dX6_connect_45 : decode cX6_connect 45 = .ok (.iastore, 1) := by decide +kernel
theorem dX6_connect_46 : decode cX6_connect 46 = .ok (.aload_n 0, 1) := by decide +kernel
theorem dX6_connect_47 : decode cX6_connect 47 = .ok (.aload_n 0, 1) := by decide +kernel
theorem dX6_connect_48 : decode cX6_connect 48 = .ok (.iload_n 1, 1) := by decide +kernel
theorem dX6_connect_49 : decode cX6_connect 49 = .ok (.invokevirtual 54, 3) := by decide +kernel
theorem dX6_connect_52 : decode cX6_connect 52 = .ok (.aload_n 0, 1) := by decide +kernel
theorem dX6_connect_53 : decode cX6_connect 53 = .ok (.iload_n 2, 1) := by decide +kernel
theorem dX6_connect_54 : decode cX6_connect 54 = .ok (.invokevirtual 54, 3) := by decide +kernel
theorem dX6_connect_57 : decode cX6_connect 57 = .ok (.invokevirtual 98, 3) := by decide +kernel
theorem dX6_connect_60 : decode cX6_connect 60 = .ok (.istore_n 3, 1) := by decide +kernel
theorem dX6_connect_61 : decode cX6_connect 61 = .ok (.iconst 0, 1) := by decide +kernel
theorem dX6_connect_62 : decode cX6_connect 62 = .ok (.istore 4, 2) := by decide +kernel
theorem dX6_connect_64 : decode cX6_connect 64 = .ok (.iload 4, 2) := by decide +kernel
theorem dX6_connect_66 : decode cX6_connect 66 = .ok (.iconst 4, 1) := by decide +kernel
theorem dX6_connect_67 : decode cX6_connect 67 = .ok (.if_icmp .ge 17, 3) := by decide +kernel
theorem dX6_connect_70 : decode cX6_connect 70 = .ok (.aload_n 0, 1) := by decide +kernel
theorem dX6_connect_71 : decode cX6_connect 71 = .ok (.iload_n 1, 1) := by decide +kernel
theorem dX6_connect_72 : decode cX6_connect 72 = .ok (.iload_n 2, 1) := by decide +kernel
theorem dX6_connect_73 : decode cX6_connect 73 = .ok (.iload 4, 2) := by decide +kernel
theorem dX6_connect_75 : decode cX6_connect 75 = .ok (.invokevirtual 101, 3) := by decide +kernel
theorem dX6_connect_78 : decode cX6_connect 78 = .ok (.iinc 4 1, 3) := by decide +kernel
theorem dX6_connect_81 : decode cX6_connect 81 = .ok (.goto (-17), 3) := by decide +kernel
theorem dX6_connect_84 : decode cX6_connect 84 = .ok (.aload_n 0, 1) := by decide +kernel
theorem dX6_connect_85 : decode cX6_connect 85 = .ok (.iload_n 1, 1) := by decide +kernel
theorem dX6_connect_86 : decode cX6_connect 86 = .ok (.iload_n 2, 1) := by decide +kernel
theorem dX6_connect_87 : decode cX6_connect 87 = .ok (.iconst 1, 1) := by decide +kernel
theorem dX6_connect_88 : decode cX6_connect 88 = .ok (.invokevirtual 105, 3) := by decide +kernel
theorem dX6_connect_91 : decode cX6_connect 91 = .ok (.iload_n 3, 1) := by decide +kernel
theorem dX6_connect_92 : decode cX6_connect 92 = .ok (.ireturn, 1) := by decide +kernel
theorem dX6_disconnect_0 : decode cX6_disconnect 0 = .ok (.aload_n 0, 1) := by decide +kernel
theorem dX6_disconnect_1 : decode cX6_disconnect 1 = .ok (.iload_n 1, 1) := by decide +kernel
theorem dX6_disconnect_2 : decode cX6_disconnect 2 = .ok (.iload_n 2, 1) := by decide +kernel
theorem dX6_disconnect_3 : decode cX6_disconnect 3 = .ok (.invokevirtual 92, 3) := by decide +kernel
theorem dX6_disconnect_6 : decode cX6_disconnect 6 = .ok (.ifCond .eq 8, 3) := by decide +kernel
theorem dX6_disconnect_9 : decode cX6_disconnect 9 = .ok (.iload_n 1, 1) := by decide +kernel
theorem dX6_disconnect_10 : decode cX6_disconnect 10 = .ok (.iload_n 2, 1) := by decide +kernel
theorem dX6_disconnect_11 : decode cX6_disconnect 11 = .ok (.if_icmp .ne 5, 3) := by decide +kernel
theorem dX6_disconnect_14 : decode cX6_disconnect 14 = .ok (.iconst (-1), 1) := by decide +kernel
theorem dX6_disconnect_15 : decode cX6_disconnect 15 = .ok (.ireturn, 1) := by decide +kernel
theorem dX6_disconnect_16 : decode cX6_disconnect 16 = .ok (.aload_n 0, 1) := by decide +kernel
theorem dX6_disconnect_17 : decode cX6_disconnect 17 = .ok (.iload_n 1, 1) := by decide +kernel
theorem dX6_disconnect_18 : decode cX6_disconnect 18 = .ok (.iload_n 2, 1) := by decide +kernel
theorem dX6_disconnect_19 : decode cX6_disconnect 19 = .ok (.invokevirtual 109, 3) := by decide +kernel
theorem dX6_disconnect_22 : decode cX6_disconnect 22 = .ok (.ifCond .ne 6, 3) := by decide +kernel
theorem dX6_disconnect_25 : decode cX6_disconnect 25 = .ok (.bipush (-2), 2) := by decide +kernel
theorem dX6_disconnect_27 : decode cX6_disconnect 27 = .ok (.ireturn, 1) := by decide +kernel
theorem dX6_disconnect_28 : decode cX6_disconnect 28 = .ok (.aload_n 0, 1) := by decide +kernel
theorem dX6_disconnect_29 : decode cX6_disconnect 29 = .ok (.invokevirtual 69, 3) := by decide +kernel
theorem dX6_disconnect_32 : decode cX6_disconnect 32 = .ok (.aload_n 0, 1) := by decide +kernel
theorem dX6_disconnect_33 : decode cX6_disconnect 33 = .ok (.iload_n 1, 1) := by decide +kernel
theorem dX6_disconnect_34 : decode cX6_disconnect 34 = .ok (.iload_n 2, 1) := by decide +kernel
theorem dX6_disconnect_35 : decode cX6_disconnect 35 = .ok (.iconst 0, 1) := by decide +kernel
theorem dX6_disconnect_36 : decode cX6_disconnect 36 = .ok (.invokevirtual 105, 3) := by decide +kernel
theorem dX6_disconnect_39 : decode cX6_disconnect 39 = .ok (.aload_n 0, 1) := by decide +kernel
theorem dX6_disconnect_40 : decode cX6_disconnect 40 = .ok (.iload_n 1, 1) := by decide +kernel
theorem dX6_disconnect_41 : decode cX6_disconnect 41 = .ok (.invokevirtual 54, 3) := by decide +kernel
theorem dX6_disconnect_44 : decode cX6_disconnect 44 = .ok (.invokestatic 79, 3) := by decide +kernel
theorem dX6_disconnect_47 : decode cX6_disconnect 47 = .ok (.ireturn, 1) := by decide +kernel
theorem dX6_advance_0 : decode cX6_advance 0 = .ok (.iload_n 1, 1) := by decide +kernel
theorem dX6_advance_1 : decode cX6_advance 1 = .ok (.iconst 1, 1) := by decide +kernel
theorem dX6_advance_2 : decode cX6_advance 2 = .ok (.sipush 999, 3) := by decide +kernel
theorem dX6_advance_5 : decode cX6_advance 5 = .ok (.invokestatic 42, 3) := by decide +kernel
theorem dX6_advance_8 : decode cX6_advance 8 = .ok (.ifCond .ne 5, 3) := by decide +kernel
theorem dX6_advance_11 : decode cX6_advance 11 = .ok (.iconst (-1), 1) := by decide +kernel
theorem dX6_advance_12 : decode cX6_advance 12 = .ok (.ireturn, 1) := by decide +kernel
theorem dX6_advance_13 : decode cX6_advance 13 = .ok (.aload_n 0, 1) := by decide +kernel
theorem dX6_advance_14 : decode cX6_advance 14 = .ok (.getfield 7, 3) := by decide +kernel
theorem dX6_advance_17 : decode cX6_advance 17 = .ok (.iconst 1, 1) := by decide +kernel
theorem dX6_advance_18 : decode cX6_advance 18 = .ok (.iaload, 1) := by decide +kernel
theorem dX6_advance_19 : decode cX6_advance 19 = .ok (.iload_n 1, 1) := by decide +kernel
theorem dX6_advance_20 : decode cX6_advance 20 = .ok (.iadd, 1) := by decide +kernel
theorem dX6_advance_21 : decode cX6_advance 21 = .ok (.sipush 9999, 3) := by decide +kernel
theorem dX6_advance_24 : decode cX6_advance 24 = .ok (.if_icmp .le 6, 3) := by decide +kernel
theorem dX6_advance_27 : decode cX6_advance 27 = .ok (.bipush (-3), 2) := by decide +kernel
theorem dX6_advance_29 : decode cX6_advance 29 = .ok (.ireturn, 1) := by decide +kernel
theorem dX6_advance_30 : decode cX6_advance 30 = .ok (.aload_n 0, 1) := by decide +kernel
theorem dX6_advance_31 : decode cX6_advance 31 = .ok (.invokevirtual 69, 3) := by decide +kernel
theorem dX6_advance_34 : decode cX6_advance 34 = .ok (.aload_n 0, 1) := by decide +kernel
theorem dX6_advance_35 : decode cX6_advance 35 = .ok (.getfield 7, 3) := by decide +kernel
theorem dX6_advance_38 : decode cX6_advance 38 = .ok (.iconst 1, 1) := by decide +kernel
theorem dX6_advance_39 : decode cX6_advance 39 = .ok (.dup2, 1) := by decide +kernel
theorem dX6_advance_40 : decode cX6_advance 40 = .ok (.iaload, 1) := by decide +kernel
theorem dX6_advance_41 : decode cX6_advance 41 = .ok (.iload_n 1, 1) := by decide +kernel
theorem dX6_advance_42 : decode cX6_advance 42 = .ok (.iadd, 1) := by decide +kernel
theorem dX6_advance_43 : decode cX6_advance 43 = .ok (.iastore, 1) := by decide +kernel
theorem dX6_advance_44 : decode cX6_advance 44 = .ok (.aload_n 0, 1) := by decide +kernel
theorem dX6_advance_45 : decode cX6_advance 45 = .ok (.getfield 7, 3) := by decide +kernel
theorem dX6_advance_48 : decode cX6_advance 48 = .ok (.iconst 1, 1) := by decide +kernel
theorem dX6_advance_49 : decode cX6_advance 49 = .ok (.iaload, 1) := by decide +kernel
theorem dX6_advance_50 : decode cX6_advance 50 = .ok (.ireturn, 1) := by decide +kernel
theorem dX6_time_0 : decode cX6_time 0 = .ok (.aload_n 0, 1) := by decide +kernel
theorem dX6_time_1 : decode cX6_time 1 = .ok (.getfield 7, 3) := by decide +kernel
theorem dX6_time_4 : decode cX6_time 4 = .ok (.iconst 1, 1) := by decide +kernel
theorem dX6_time_5 : decode cX6_time 5 = .ok (.iaload, 1) := by decide +kernel
theorem dX6_time_6 : decode cX6_time 6 = .ok (.ireturn, 1) := by decide +kernel
theorem dX6_hops_0 : decode cX6_hops 0 = .ok (.aload_n 0, 1) := by decide +kernel
theorem dX6_hops_1 : decode cX6_hops 1 = .ok (.iload_n 1, 1) := by decide +kernel
theorem dX6_hops_2 : decode cX6_hops 2 = .ok (.iload_n 2, 1) := by decide +kernel
theorem dX6_hops_3 : decode cX6_hops 3 = .ok (.invokevirtual 92, 3) := by decide +kernel
theorem dX6_hops_6 : decode cX6_hops 6 = .ok (.ifCond .ne 5, 3) := by decide +kernel
theorem dX6_hops_9 : decode cX6_hops 9 = .ok (.iconst (-1), 1) := by decide +kernel
theorem dX6_hops_10 : decode cX6_hops 10 = .ok (.ireturn, 1) := by decide +kernel
theorem dX6_hops_11 : decode cX6_hops 11 = .ok (.aload_n 0, 1) := by decide +kernel
theorem dX6_hops_12 : decode cX6_hops 12 = .ok (.iload_n 1, 1) := by decide +kernel
theorem dX6_hops_13 : decode cX6_hops 13 = .ok (.iload_n 2, 1) := by decide +kernel
theorem dX6_hops_14 : decode cX6_hops 14 = .ok (.invokevirtual 95, 3) := by decide +kernel
theorem dX6_hops_17 : decode cX6_hops 17 = .ok (.ifCond .ne 6, 3) := by decide +kernel
theorem dX6_hops_20 : decode cX6_hops 20 = .ok (.bipush (-9), 2) := by decide +kernel
theorem dX6_hops_22 : decode cX6_hops 22 = .ok (.ireturn, 1) := by decide +kernel
theorem dX6_hops_23 : decode cX6_hops 23 = .ok (.iconst 1, 1) := by decide +kernel
theorem dX6_hops_24 : decode cX6_hops 24 = .ok (.iload_n 1, 1) := by decide +kernel
theorem dX6_hops_25 : decode cX6_hops 25 = .ok (.ishl, 1) := by decide +kernel
theorem dX6_hops_26 : decode cX6_hops 26 = .ok (.istore_n 3, 1) := by decide +kernel
theorem dX6_hops_27 : decode cX6_hops 27 = .ok (.iconst 0, 1) := by decide +kernel
theorem dX6_hops_28 : decode cX6_hops 28 = .ok (.istore 4, 2) := by decide +kernel
theorem dX6_hops_30 : decode cX6_hops 30 = .ok (.iload_n 3, 1) := by decide +kernel
theorem dX6_hops_31 : decode cX6_hops 31 = .ok (.iload_n 2, 1) := by decide +kernel
theorem dX6_hops_32 : decode cX6_hops 32 = .ok (.invokestatic 50, 3) := by decide +kernel
theorem dX6_hops_35 : decode cX6_hops 35 = .ok (.ifCond .ne 62, 3) := by decide +kernel
theorem dX6_hops_38 : decode cX6_hops 38 = .ok (.iload_n 3, 1) := by decide +kernel
theorem dX6_hops_39 : decode cX6_hops 39 = .ok (.istore 5, 2) := by decide +kernel
theorem dX6_hops_41 : decode cX6_hops 41 = .ok (.iconst 0, 1) := by decide +kernel
theorem dX6_hops_42 : decode cX6_hops 42 = .ok (.istore 6, 2) := by decide +kernel
theorem dX6_hops_44 : decode cX6_hops 44 = .ok (.iload 6, 2) := by decide +kernel
theorem dX6_hops_46 : decode cX6_hops 46 = .ok (.aload_n 0, 1) := by decide +kernel
theorem dX6_hops_47 : decode cX6_hops 47 = .ok (.getfield 7, 3) := by decide +kernel
theorem dX6_hops_50 : decode cX6_hops 50 = .ok (.iconst 0, 1) := by decide +kernel
theorem dX6_hops_51 : decode cX6_hops 51 = .ok (.iaload, 1) := by decide +kernel
theorem dX6_hops_52 : decode cX6_hops 52 = .ok (.if_icmp .ge 36, 3) := by decide +kernel
theorem dX6_hops_55 : decode cX6_hops 55 = .ok (.iload 5, 2) := by decide +kernel
theorem dX6_hops_57 : decode cX6_hops 57 = .ok (.iload_n 3, 1) := by decide +kernel
theorem dX6_hops_58 : decode cX6_hops 58 = .ok (.iload 6, 2) := by decide +kernel
theorem dX6_hops_60 : decode cX6_hops 60 = .ok (.invokestatic 50, 3) := by decide +kernel
theorem dX6_hops_63 : decode cX6_hops 63 = .ok (.ifCond .eq 15, 3) := by decide +kernel
theorem dX6_hops_66 : decode cX6_hops 66 = .ok (.aload_n 0, 1) := by decide +kernel
theorem dX6_hops_67 : decode cX6_hops 67 = .ok (.getfield 7, 3) := by decide +kernel
theorem dX6_hops_70 : decode cX6_hops 70 = .ok (.iconst 4, 1) := by decide +kernel
theorem dX6_hops_71 : decode cX6_hops 71 = .ok (.iload 6, 2) := by decide +kernel
theorem dX6_hops_73 : decode cX6_hops 73 = .ok (.iadd, 1) := by decide +kernel
theorem dX6_hops_74 : decode cX6_hops 74 = .ok (.iaload, 1) := by decide +kernel
theorem dX6_hops_75 : decode cX6_hops 75 = .ok (.goto 4, 3) := by decide +kernel
theorem dX6_hops_78 : decode cX6_hops 78 = .ok (.iconst 0, 1) := by decide +kernel
theorem dX6_hops_79 : decode cX6_hops 79 = .ok (.ior, 1) := by decide +kernel
theorem dX6_hops_80 : decode cX6_hops 80 = .ok (.istore 5, 2) := by decide +kernel
theorem dX6_hops_82 : decode cX6_hops 82 = .ok (.iinc 6 1, 3) := by decide +kernel
theorem dX6_hops_85 : decode cX6_hops 85 = .ok (.goto (-41), 3) := by decide +kernel
theorem dX6_hops_88 : decode cX6_hops 88 = .ok (.iload 5, 2) := by decide +kernel
theorem dX6_hops_90 : decode cX6_hops 90 = .ok (.istore_n 3, 1) := by decide +kernel
theorem dX6_hops_91 : decode cX6_hops 91 = .ok (.iinc 4 1, 3) := by decide +kernel
theorem dX6_hops_94 : decode cX6_hops 94 = .ok (.goto (-64), 3) := by decide +kernel
theorem dX6_hops_97 : decode cX6_hops 97 = .ok (.iload 4, 2) := by decide +kernel
theorem dX6_hops_99 : decode cX6_hops 99 = .ok (.ireturn, 1) := by decide +kernel
theorem dX6_isPlace_0 : decode cX6_isPlace 0 = .ok (.aload_n 0, 1) := by decide +kernel
theorem dX6_isPlace_1 : decode cX6_isPlace 1 = .ok (.iload_n 1, 1) := by decide +kernel
theorem dX6_isPlace_2 : decode cX6_isPlace 2 = .ok (.invokevirtual 46, 3) := by decide +kernel
theorem dX6_isPlace_5 : decode cX6_isPlace 5 = .ok (.ifCond .eq 14, 3) := by decide +kernel
theorem dX6_isPlace_8 : decode cX6_isPlace 8 = .ok (.iload_n 2, 1) := by decide +kernel
theorem dX6_isPlace_9 : decode cX6_isPlace 9 = .ok (.invokestatic 112, 3) := by decide +kernel
theorem dX6_isPlace_12 : decode cX6_isPlace 12 = .ok (.ifCond .eq 7, 3) := by decide +kernel
theorem dX6_isPlace_15 : decode cX6_isPlace 15 = .ok (.iconst 1, 1) := by decide +kernel
theorem dX6_isPlace_16 : decode cX6_isPlace 16 = .ok (.goto 4, 3) := by decide +kernel
theorem dX6_isPlace_19 : decode cX6_isPlace 19 = .ok (.iconst 0, 1) := by decide +kernel
theorem dX6_isPlace_20 : decode cX6_isPlace 20 = .ok (.ireturn, 1) := by decide +kernel
theorem dX6_signOn_0 : decode cX6_signOn 0 = .ok (.aload_n 0, 1) := by decide +kernel
theorem dX6_signOn_1 : decode cX6_signOn 1 = .ok (.iload_n 1, 1) := by decide +kernel
theorem dX6_signOn_2 : decode cX6_signOn 2 = .ok (.iload_n 2, 1) := by decide +kernel
theorem dX6_signOn_3 : decode cX6_signOn 3 = .ok (.invokevirtual 115, 3) := by decide +kernel
theorem dX6_signOn_6 : decode cX6_signOn 6 = .ok (.ifCond .ne 5, 3) := by decide +kernel
theorem dX6_signOn_9 : decode cX6_signOn 9 = .ok (.iconst (-1), 1) := by decide +kernel
theorem dX6_signOn_10 : decode cX6_signOn 10 = .ok (.ireturn, 1) := by decide +kernel
theorem dX6_signOn_11 : decode cX6_signOn 11 = .ok (.aload_n 0, 1) := by decide +kernel
theorem dX6_signOn_12 : decode cX6_signOn 12 = .ok (.iload_n 1, 1) := by decide +kernel
theorem dX6_signOn_13 : decode cX6_signOn 13 = .ok (.invokevirtual 54, 3) := by decide +kernel
theorem dX6_signOn_16 : decode cX6_signOn 16 = .ok (.istore_n 3, 1) := by decide +kernel
theorem dX6_signOn_17 : decode cX6_signOn 17 = .ok (.aload_n 0, 1) := by decide +kernel
theorem dX6_signOn_18 : decode cX6_signOn 18 = .ok (.iload_n 3, 1) := by decide +kernel
theorem dX6_signOn_19 : decode cX6_signOn 19 = .ok (.iload_n 2, 1) := by decide +kernel
theorem dX6_signOn_20 : decode cX6_signOn 20 = .ok (.invokevirtual 72, 3) := by decide +kernel
theorem dX6_signOn_23 : decode cX6_signOn 23 = .ok (.bipush (-9), 2) := by decide +kernel
theorem dX6_signOn_25 : decode cX6_signOn 25 = .ok (.if_icmp .eq 6, 3) := by decide +kernel
theorem dX6_signOn_28 : decode cX6_signOn 28 = .ok (.bipush (-2), 2) := by decide +kernel
theorem dX6_signOn_30 : decode cX6_signOn 30 = .ok (.ireturn, 1) := by decide +kernel
theorem dX6_signOn_31 : decode cX6_signOn 31 = .ok (.aload_n 0, 1) := by decide +kernel
theorem dX6_signOn_32 : decode cX6_signOn 32 = .ok (.invokevirtual 69, 3) := by decide +kernel
theorem dX6_signOn_35 : decode cX6_signOn 35 = .ok (.aload_n 0, 1) := by decide +kernel
theorem dX6_signOn_36 : decode cX6_signOn 36 = .ok (.getfield 7, 3) := by decide +kernel
theorem dX6_signOn_39 : decode cX6_signOn 39 = .ok (.bipush 10, 2) := by decide +kernel
theorem dX6_signOn_41 : decode cX6_signOn 41 = .ok (.iload_n 1, 1) := by decide +kernel
theorem dX6_signOn_42 : decode cX6_signOn 42 = .ok (.iload_n 2, 1) := by decide +kernel
theorem dX6_signOn_43 : decode cX6_signOn 43 = .ok (.invokestatic 58, 3) := by decide +kernel
theorem dX6_signOn_46 : decode cX6_signOn 46 = .ok (.iadd, 1) := by decide +kernel
theorem dX6_signOn_47 : decode cX6_signOn 47 = .ok (.aload_n 0, 1) := by decide +kernel
theorem dX6_signOn_48 : decode cX6_signOn 48 = .ok (.getfield 7, 3) := by decide +kernel
theorem dX6_signOn_51 : decode cX6_signOn 51 = .ok (.iconst 1, 1) := by decide +kernel
theorem dX6_signOn_52 : decode cX6_signOn 52 = .ok (.iaload, 1) := by decide +kernel
theorem dX6_signOn_53 : decode cX6_signOn 53 = .ok (.iastore, 1) := by decide +kernel
theorem dX6_signOn_54 : decode cX6_signOn 54 = .ok (.aload_n 0, 1) := by decide +kernel
theorem dX6_signOn_55 : decode cX6_signOn 55 = .ok (.iload_n 3, 1) := by decide +kernel
theorem dX6_signOn_56 : decode cX6_signOn 56 = .ok (.bipush 10, 2) := by decide +kernel
theorem dX6_signOn_58 : decode cX6_signOn 58 = .ok (.iconst 0, 1) := by decide +kernel
theorem dX6_signOn_59 : decode cX6_signOn 59 = .ok (.invokevirtual 65, 3) := by decide +kernel
theorem dX6_signOn_62 : decode cX6_signOn 62 = .ok (.invokestatic 79, 3) := by decide +kernel
theorem dX6_signOn_65 : decode cX6_signOn 65 = .ok (.ireturn, 1) := by decide +kernel
theorem dX6_signOff_0 : decode cX6_signOff 0 = .ok (.aload_n 0, 1) := by decide +kernel
theorem dX6_signOff_1 : decode cX6_signOff 1 = .ok (.iload_n 1, 1) := by decide +kernel
theorem dX6_signOff_2 : decode cX6_signOff 2 = .ok (.iload_n 2, 1) := by decide +kernel
theorem dX6_signOff_3 : decode cX6_signOff 3 = .ok (.invokevirtual 115, 3) := by decide +kernel
theorem dX6_signOff_6 : decode cX6_signOff 6 = .ok (.ifCond .ne 5, 3) := by decide +kernel
theorem dX6_signOff_9 : decode cX6_signOff 9 = .ok (.iconst (-1), 1) := by decide +kernel
theorem dX6_signOff_10 : decode cX6_signOff 10 = .ok (.ireturn, 1) := by decide +kernel
theorem dX6_signOff_11 : decode cX6_signOff 11 = .ok (.aload_n 0, 1) := by decide +kernel
theorem dX6_signOff_12 : decode cX6_signOff 12 = .ok (.iload_n 1, 1) := by decide +kernel
theorem dX6_signOff_13 : decode cX6_signOff 13 = .ok (.iload_n 2, 1) := by decide +kernel
theorem dX6_signOff_14 : decode cX6_signOff 14 = .ok (.invokevirtual 62, 3) := by decide +kernel
theorem dX6_signOff_17 : decode cX6_signOff 17 = .ok (.ifCond .ne 6, 3) := by decide +kernel
theorem dX6_signOff_20 : decode cX6_signOff 20 = .ok (.bipush (-2), 2) := by decide +kernel
theorem dX6_signOff_22 : decode cX6_signOff 22 = .ok (.ireturn, 1) := by decide +kernel
theorem dX6_signOff_23 : decode cX6_signOff 23 = .ok (.aload_n 0, 1) := by decide +kernel
theorem dX6_signOff_24 : decode cX6_signOff 24 = .ok (.invokevirtual 69, 3) := by decide +kernel
theorem dX6_signOff_27 : decode cX6_signOff 27 = .ok (.aload_n 0, 1) := by decide +kernel
theorem dX6_signOff_28 : decode cX6_signOff 28 = .ok (.getfield 7, 3) := by decide +kernel
theorem dX6_signOff_31 : decode cX6_signOff 31 = .ok (.bipush 70, 2) := by decide +kernel
theorem dX6_signOff_33 : decode cX6_signOff 33 = .ok (.iload_n 1, 1) := by decide +kernel
theorem dX6_signOff_34 : decode cX6_signOff 34 = .ok (.iload_n 2, 1) := by decide +kernel
theorem dX6_signOff_35 : decode cX6_signOff 35 = .ok (.invokestatic 58, 3) := by decide +kernel
theorem dX6_signOff_38 : decode cX6_signOff 38 = .ok (.iadd, 1) := by decide +kernel
theorem dX6_signOff_39 : decode cX6_signOff 39 = .ok (.iaload, 1) := by decide +kernel
theorem dX6_signOff_40 : decode cX6_signOff 40 = .ok (.invokestatic 79, 3) := by decide +kernel
theorem dX6_signOff_43 : decode cX6_signOff 43 = .ok (.istore_n 3, 1) := by decide +kernel
theorem dX6_signOff_44 : decode cX6_signOff 44 = .ok (.aload_n 0, 1) := by decide +kernel
theorem dX6_signOff_45 : decode cX6_signOff 45 = .ok (.iload_n 1, 1) := by decide +kernel
theorem dX6_signOff_46 : decode cX6_signOff 46 = .ok (.iload_n 2, 1) := by decide +kernel
theorem dX6_signOff_47 : decode cX6_signOff 47 = .ok (.invokevirtual 75, 3) := by decide +kernel
theorem dX6_signOff_50 : decode cX6_signOff 50 = .ok (.iload_n 3, 1) := by decide +kernel
theorem dX6_signOff_51 : decode cX6_signOff 51 = .ok (.ireturn, 1) := by decide +kernel
theorem dX6_changeNick_0 : decode cX6_changeNick 0 = .ok (.aload_n 0, 1) := by decide +kernel
theorem dX6_changeNick_1 : decode cX6_changeNick 1 = .ok (.iload_n 1, 1) := by decide +kernel
theorem dX6_changeNick_2 : decode cX6_changeNick 2 = .ok (.iload_n 2, 1) := by decide +kernel
theorem dX6_changeNick_3 : decode cX6_changeNick 3 = .ok (.invokevirtual 115, 3) := by decide +kernel
theorem dX6_changeNick_6 : decode cX6_changeNick 6 = .ok (.ifCond .eq 10, 3) := by decide +kernel
theorem dX6_changeNick_9 : decode cX6_changeNick 9 = .ok (.iload_n 3, 1) := by decide +kernel
theorem dX6_changeNick_10 : decode cX6_changeNick 10 = .ok (.invokestatic 112, 3) := by decide +kernel
theorem dX6_changeNick_13 : decode cX6_changeNick 13 = .ok (.ifCond .ne 5, 3) := by decide +kernel
theorem dX6_changeNick_16 : decode cX6_changeNick 16 = .ok (.iconst (-1), 1) := by decide +kernel
theorem dX6_changeNick_17 : decode cX6_changeNick 17 = .ok (.ireturn, 1) := by decide +kernel
theorem dX6_changeNick_18 : decode cX6_changeNick 18 = .ok (.aload_n 0, 1) := by decide +kernel
theorem dX6_changeNick_19 : decode cX6_changeNick 19 = .ok (.iload_n 1, 1) := by decide +kernel
theorem dX6_changeNick_20 : decode cX6_changeNick 20 = .ok (.iload_n 2, 1) := by decide +kernel
theorem dX6_changeNick_21 : decode cX6_changeNick 21 = .ok (.invokevirtual 62, 3) := by decide +kernel
theorem dX6_changeNick_24 : decode cX6_changeNick 24 = .ok (.ifCond .eq 18, 3) := by decide +kernel
theorem dX6_changeNick_27 : decode cX6_changeNick 27 = .ok (.aload_n 0, 1) := by decide +kernel
theorem dX6_changeNick_28 : decode cX6_changeNick 28 = .ok (.aload_n 0, 1) := by decide +kernel
theorem dX6_changeNick_29 : decode cX6_changeNick 29 = .ok (.iload_n 1, 1) := by decide +kernel
theorem dX6_changeNick_30 : decode cX6_changeNick 30 = .ok (.invokevirtual 54, 3) := by decide +kernel
theorem dX6_changeNick_33 : decode cX6_changeNick 33 = .ok (.iload_n 3, 1) := by decide +kernel
theorem dX6_changeNick_34 : decode cX6_changeNick 34 = .ok (.invokevirtual 72, 3) := by decide +kernel
theorem dX6_changeNick_37 : decode cX6_changeNick 37 = .ok (.bipush (-9), 2) := by decide +kernel
theorem dX6_changeNick_39 : decode cX6_changeNick 39 = .ok (.if_icmp .eq 6, 3) := by decide +kernel
theorem dX6_changeNick_42 : decode cX6_changeNick 42 = .ok (.bipush (-2), 2) := by decide +kernel
theorem dX6_changeNick_44 : decode cX6_changeNick 44 = .ok (.ireturn, 1) := by decide +kernel
theorem dX6_changeNick_45 : decode cX6_changeNick 45 = .ok (.aload_n 0, 1) := by decide +kernel
theorem dX6_changeNick_46 : decode cX6_changeNick 46 = .ok (.invokevirtual 69, 3) := by decide +kernel
theorem dX6_changeNick_49 : decode cX6_changeNick 49 = .ok (.iload_n 1, 1) := by decide +kernel
theorem dX6_changeNick_50 : decode cX6_changeNick 50 = .ok (.iload_n 2, 1) := by decide +kernel
theorem dX6_changeNick_51 : decode cX6_changeNick 51 = .ok (.invokestatic 58, 3) := by decide +kernel
theorem dX6_changeNick_54 : decode cX6_changeNick 54 = .ok (.istore 4, 2) := by decide +kernel
theorem dX6_changeNick_56 : decode cX6_changeNick 56 = .ok (.iload_n 1, 1) := by decide +kernel
theorem dX6_changeNick_57 : decode cX6_changeNick 57 = .ok (.iload_n 3, 1) := by decide +kernel
theorem dX6_changeNick_58 : decode cX6_changeNick 58 = .ok (.invokestatic 58, 3) := by decide +kernel
theorem dX6_changeNick_61 : decode cX6_changeNick 61 = .ok (.istore 5, 2) := by decide +kernel
theorem dX6_changeNick_63 : decode cX6_changeNick 63 = .ok (.aload_n 0, 1) := by decide +kernel
theorem dX6_changeNick_64 : decode cX6_changeNick 64 = .ok (.getfield 7, 3) := by decide +kernel
theorem dX6_changeNick_67 : decode cX6_changeNick 67 = .ok (.bipush 10, 2) := by decide +kernel
theorem dX6_changeNick_69 : decode cX6_changeNick 69 = .ok (.iload 4, 2) := by decide +kernel
theorem dX6_changeNick_71 : decode cX6_changeNick 71 = .ok (.iadd, 1) := by decide +kernel
theorem dX6_changeNick_72 : decode cX6_changeNick 72 = .ok (.iaload, 1) := by decide +kernel
theorem dX6_changeNick_73 : decode cX6_changeNick 73 = .ok (.istore 6, 2) := by decide +kernel
theorem dX6_changeNick_75 : decode cX6_changeNick 75 = .ok (.aload_n 0, 1) := by decide +kernel
theorem dX6_changeNick_76 : decode cX6_changeNick 76 = .ok (.getfield 7, 3) := by decide +kernel
theorem dX6_changeNick_79 : decode cX6_changeNick 79 = .ok (.bipush 10, 2) := by decide +kernel
theorem dX6_changeNick_81 : decode cX6_changeNick 81 = .ok (.iload 5, 2) := by decide +kernel
theorem dX6_changeNick_83 : decode cX6_changeNick 83 = .ok (.iadd, 1) := by decide +kernel
theorem dX6_changeNick_84 : decode cX6_changeNick 84 = .ok (.aload_n 0, 1) := by decide +kernel
theorem dX6_changeNick_85 : decode cX6_changeNick 85 = .ok (.getfield 7, 3) := by decide +kernel
theorem dX6_changeNick_88 : decode cX6_changeNick 88 = .ok (.iconst 1, 1) := by decide +kernel
theorem dX6_changeNick_89 : decode cX6_changeNick 89 = .ok (.iaload, 1) := by decide +kernel
theorem dX6_changeNick_90 : decode cX6_changeNick 90 = .ok (.iastore, 1) := by decide +kernel
theorem dX6_changeNick_91 : decode cX6_changeNick 91 = .ok (.aload_n 0, 1) := by decide +kernel
theorem dX6_changeNick_92 : decode cX6_changeNick 92 = .ok (.getfield 7, 3) := by decide +kernel
theorem dX6_changeNick_95 : decode cX6_changeNick 95 = .ok (.bipush 70, 2) := by decide +kernel
theorem dX6_changeNick_97 : decode cX6_changeNick 97 = .ok (.iload 5, 2) := by decide +kernel
theorem dX6_changeNick_99 : decode cX6_changeNick 99 = .ok (.iadd, 1) := by decide +kernel
theorem dX6_changeNick_100 : decode cX6_changeNick 100 = .ok (.aload_n 0, 1) := by decide +kernel
theorem dX6_changeNick_101 : decode cX6_changeNick 101 = .ok (.getfield 7, 3) := by decide +kernel
theorem dX6_changeNick_104 : decode cX6_changeNick 104 = .ok (.bipush 70, 2) := by decide +kernel
theorem dX6_changeNick_106 : decode cX6_changeNick 106 = .ok (.iload 4, 2) := by decide +kernel
theorem dX6_changeNick_108 : decode cX6_changeNick 108 = .ok (.iadd, 1) := by decide +kernel
theorem dX6_changeNick_109 : decode cX6_changeNick 109 = .ok (.iaload, 1) := by decide +kernel
theorem dX6_changeNick_110 : decode cX6_changeNick 110 = .ok (.iastore, 1) := by decide +kernel
theorem dX6_changeNick_111 : decode cX6_changeNick 111 = .ok (.aload_n 0, 1) := by decide +kernel
theorem dX6_changeNick_112 : decode cX6_changeNick 112 = .ok (.getfield 7, 3) := by decide +kernel
theorem dX6_changeNick_115 : decode cX6_changeNick 115 = .ok (.sipush 130, 3) := by decide +kernel
theorem dX6_changeNick_118 : decode cX6_changeNick 118 = .ok (.iload 5, 2) := by decide +kernel
theorem dX6_changeNick_120 : decode cX6_changeNick 120 = .ok (.iadd, 1) := by decide +kernel
theorem dX6_changeNick_121 : decode cX6_changeNick 121 = .ok (.aload_n 0, 1) := by decide +kernel
theorem dX6_changeNick_122 : decode cX6_changeNick 122 = .ok (.getfield 7, 3) := by decide +kernel
theorem dX6_changeNick_125 : decode cX6_changeNick 125 = .ok (.sipush 130, 3) := by decide +kernel
theorem dX6_changeNick_128 : decode cX6_changeNick 128 = .ok (.iload 4, 2) := by decide +kernel
theorem dX6_changeNick_130 : decode cX6_changeNick 130 = .ok (.iadd, 1) := by decide +kernel
theorem dX6_changeNick_131 : decode cX6_changeNick 131 = .ok (.iaload, 1) := by decide +kernel
theorem dX6_changeNick_132 : decode cX6_changeNick 132 = .ok (.iastore, 1) := by decide +kernel
theorem dX6_changeNick_133 : decode cX6_changeNick 133 = .ok (.aload_n 0, 1) := by decide +kernel
theorem dX6_changeNick_134 : decode cX6_changeNick 134 = .ok (.iload_n 1, 1) := by decide +kernel
theorem dX6_changeNick_135 : decode cX6_changeNick 135 = .ok (.iload_n 2, 1) := by decide +kernel
theorem dX6_changeNick_136 : decode cX6_changeNick 136 = .ok (.invokevirtual 75, 3) := by decide +kernel
theorem dX6_changeNick_139 : decode cX6_changeNick 139 = .ok (.iload 6, 2) := by decide +kernel
theorem dX6_changeNick_141 : decode cX6_changeNick 141 = .ok (.ireturn, 1) := by decide +kernel
theorem dX6_homeServer_0 : decode cX6_homeServer 0 = .ok (.aload_n 0, 1) := by decide +kernel
theorem dX6_homeServer_1 : decode cX6_homeServer 1 = .ok (.iload_n 1, 1) := by decide +kernel
theorem dX6_homeServer_2 : decode cX6_homeServer 2 = .ok (.iload_n 2, 1) := by decide +kernel
theorem dX6_homeServer_3 : decode cX6_homeServer 3 = .ok (.invokevirtual 115, 3) := by decide +kernel
theorem dX6_homeServer_6 : decode cX6_homeServer 6 = .ok (.ifCond .eq 16, 3) := by decide +kernel
theorem dX6_homeServer_9 : decode cX6_homeServer 9 = .ok (.aload_n 0, 1) := by decide +kernel
theorem dX6_homeServer_10 : decode cX6_homeServer 10 = .ok (.aload_n 0, 1) := by decide +kernel
theorem dX6_homeServer_11 : decode cX6_homeServer 11 = .ok (.iload_n 1, 1) := by decide +kernel
theorem dX6_homeServer_12 : decode cX6_homeServer 12 = .ok (.invokevirtual 54, 3) := by decide +kernel
theorem dX6_homeServer_15 : decode cX6_homeServer 15 = .ok (.iload_n 2, 1) := by decide +kernel
theorem dX6_homeServer_16 : decode cX6_homeServer 16 = .ok (.invokevirtual 72, 3) := by decide +kernel
theorem dX6_homeServer_19 : decode cX6_homeServer 19 = .ok (.goto 4, 3) := by decide +kernel
theorem dX6_homeServer_22 : decode cX6_homeServer 22 = .ok (.iconst (-1), 1) := by decide +kernel
theorem dX6_homeServer_23 : decode cX6_homeServer 23 = .ok (.ireturn, 1) := by decide +kernel
theorem dX6_userTimestamp_0 : decode cX6_userTimestamp 0 = .ok (.aload_n 0, 1) := by decide +kernel
theorem dX6_userTimestamp_1 : decode cX6_userTimestamp 1 = .ok (.iload_n 1, 1) := by decide +kernel
theorem dX6_userTimestamp_2 : decode cX6_userTimestamp 2 = .ok (.iload_n 2, 1) := by decide +kernel
theorem dX6_userTimestamp_3 : decode cX6_userTimestamp 3 = .ok (.invokevirtual 115, 3) := by decide +kernel
theorem dX6_userTimestamp_6 : decode cX6_userTimestamp 6 = .ok (.ifCond .ne 5, 3) := by decide +kernel
theorem dX6_userTimestamp_9 : decode cX6_userTimestamp 9 = .ok (.iconst (-1), 1) := by decide +kernel
theorem dX6_userTimestamp_10 : decode cX6_userTimestamp 10 = .ok (.ireturn, 1) := by decide +kernel
theorem dX6_userTimestamp_11 : decode cX6_userTimestamp 11 = .ok (.aload_n 0, 1) := by decide +kernel
theorem dX6_userTimestamp_12 : decode cX6_userTimestamp 12 = .ok (.aload_n 0, 1) := by decide +kernel
theorem dX6_userTimestamp_13 : decode cX6_userTimestamp 13 = .ok (.iload_n 1, 1) := by decide +kernel
theorem dX6_userTimestamp_14 : decode cX6_userTimestamp 14 = .ok (.invokevirtual 54, 3) := by decide +kernel
theorem dX6_userTimestamp_17 : decode cX6_userTimestamp 17 = .ok (.iload_n 2, 1) := by decide +kernel
theorem dX6_userTimestamp_18 : decode cX6_userTimestamp 18 = .ok (.invokevirtual 72, 3) := by decide +kernel
theorem dX6_userTimestamp_21 : decode cX6_userTimestamp 21 = .ok (.istore_n 3, 1) := by decide +kernel
theorem dX6_userTimestamp_22 : decode cX6_userTimestamp 22 = .ok (.iload_n 3, 1) := by decide +kernel
theorem dX6_userTimestamp_23 : decode cX6_userTimestamp 23 = .ok (.bipush (-9), 2) := by decide +kernel
theorem dX6_userTimestamp_25 : decode cX6_userTimestamp 25 = .ok (.if_icmp .ne 8, 3) := by decide +kernel
theorem dX6_userTimestamp_28 : decode cX6_userTimestamp 28 = .ok (.bipush (-9), 2) := by decide +kernel
theorem dX6_userTimestamp_30 : decode cX6_userTimestamp 30 = .ok (.goto 16, 3) := by decide +kernel
theorem dX6_userTimestamp_33 : decode cX6_userTimestamp 33 = .ok (.aload_n 0, 1) := by decide +kernel
theorem dX6_userTimestamp_34 : decode cX6_userTimestamp 34 = .ok (.getfield 7, 3) := by decide +kernel
theorem dX6_userTimestamp_37 : decode cX6_userTimestamp 37 = .ok (.bipush 10, 2) := by decide +kernel
theorem dX6_userTimestamp_39 : decode cX6_userTimestamp 39 = .ok (.iload_n 3, 1) := by decide +kernel
theorem dX6_userTimestamp_40 : decode cX6_userTimestamp 40 = .ok (.iload_n 2, 1) := by decide +kernel
theorem dX6_userTimestamp_41 : decode cX6_userTimestamp 41 = .ok (.invokestatic 58, 3) := by decide +kernel
theorem dX6_userTimestamp_44 : decode cX6_userTimestamp 44 = .ok (.iadd, 1) := by decide +kernel
theorem dX6_userTimestamp_45 : decode cX6_userTimestamp 45 = .ok (.iaload, 1) := by decide +kernel
theorem dX6_userTimestamp_46 : decode cX6_userTimestamp 46 = .ok (.ireturn, 1) := by decide +kernel
theorem dX6_visibleUsers_0 : decode cX6_visibleUsers 0 = .ok (.aload_n 0, 1) := by decide +kernel
theorem dX6_visibleUsers_1 : decode cX6_visibleUsers 1 = .ok (.iload_n 1, 1) := by decide +kernel
theorem dX6_visibleUsers_2 : decode cX6_visibleUsers 2 = .ok (.invokevirtual 46, 3) := by decide +kernel
theorem dX6_visibleUsers_5 : decode cX6_visibleUsers 5 = .ok (.ifCond .eq 18, 3) := by decide +kernel
theorem dX6_visibleUsers_8 : decode cX6_visibleUsers 8 = .ok (.aload_n 0, 1) := by decide +kernel
theorem dX6_visibleUsers_9 : decode cX6_visibleUsers 9 = .ok (.aload_n 0, 1) := by decide +kernel
theorem dX6_visibleUsers_10 : decode cX6_visibleUsers 10 = .ok (.iload_n 1, 1) := by decide +kernel
theorem dX6_visibleUsers_11 : decode cX6_visibleUsers 11 = .ok (.invokevirtual 54, 3) := by decide +kernel
theorem dX6_visibleUsers_14 : decode cX6_visibleUsers 14 = .ok (.bipush 10, 2) := by decide +kernel
theorem dX6_visibleUsers_16 : decode cX6_visibleUsers 16 = .ok (.iconst 0, 1) := by decide +kernel
theorem dX6_visibleUsers_17 : decode cX6_visibleUsers 17 = .ok (.invokevirtual 65, 3) := by decide +kernel
theorem dX6_visibleUsers_20 : decode cX6_visibleUsers 20 = .ok (.goto 4, 3) := by decide +kernel
theorem dX6_visibleUsers_23 : decode cX6_visibleUsers 23 = .ok (.iconst (-1), 1) := by decide +kernel
theorem dX6_visibleUsers_24 : decode cX6_visibleUsers 24 = .ok (.ireturn, 1) := by decide +kernel
theorem dX6_isMember_0 : decode cX6_isMember 0 = .ok (.aload_n 0, 1) := by decide +kernel
theorem dX6_isMember_1 : decode cX6_isMember 1 = .ok (.iload_n 1, 1) := by decide +kernel
theorem dX6_isMember_2 : decode cX6_isMember 2 = .ok (.iload_n 2, 1) := by decide +kernel
theorem dX6_isMember_3 : decode cX6_isMember 3 = .ok (.invokevirtual 62, 3) := by decide +kernel
theorem dX6_isMember_6 : decode cX6_isMember 6 = .ok (.ifCond .eq 27, 3) := by decide +kernel
theorem dX6_isMember_9 : decode cX6_isMember 9 = .ok (.aload_n 0, 1) := by decide +kernel
theorem dX6_isMember_10 : decode cX6_isMember 10 = .ok (.getfield 7, 3) := by decide +kernel
theorem dX6_isMember_13 : decode cX6_isMember 13 = .ok (.bipush 70, 2) := by decide +kernel
theorem dX6_isMember_15 : decode cX6_isMember 15 = .ok (.iload_n 1, 1) := by decide +kernel
theorem dX6_isMember_16 : decode cX6_isMember 16 = .ok (.iload_n 2, 1) := by decide +kernel
theorem dX6_isMember_17 : decode cX6_isMember 17 = .ok (.invokestatic 58, 3) := by decide +kernel
theorem dX6_isMember_20 : decode cX6_isMember 20 = .ok (.iadd, 1) := by decide +kernel
theorem dX6_isMember_21 : decode cX6_isMember 21 = .ok (.iaload, 1) := by decide +kernel
theorem dX6_isMember_22 : decode cX6_isMember 22 = .ok (.iload_n 3, 1) := by decide +kernel
theorem dX6_isMember_23 : decode cX6_isMember 23 = .ok (.invokestatic 50, 3) := by decide +kernel
theorem dX6_isMember_26 : decode cX6_isMember 26 = .ok (.ifCond .eq 7, 3) := by decide +kernel
theorem dX6_isMember_29 : decode cX6_isMember 29 = .ok (.iconst 1, 1) := by decide +kernel
theorem dX6_isMember_30 : decode cX6_isMember 30 = .ok (.goto 4, 3) := by decide +kernel
theorem dX6_isMember_33 : decode cX6_isMember 33 = .ok (.iconst 0, 1) := by decide +kernel
theorem dX6_isMember_34 : decode cX6_isMember 34 = .ok (.ireturn, 1) := by decide +kernel
theorem dX6_isOperator_0 : decode cX6_isOperator 0 = .ok (.aload_n 0, 1) := by decide +kernel
theorem dX6_isOperator_1 : decode cX6_isOperator 1 = .ok (.iload_n 1, 1) := by decide +kernel
theorem dX6_isOperator_2 : decode cX6_isOperator 2 = .ok (.iload_n 2, 1) := by decide +kernel
theorem dX6_isOperator_3 : decode cX6_isOperator 3 = .ok (.invokevirtual 62, 3) := by decide +kernel
theorem dX6_isOperator_6 : decode cX6_isOperator 6 = .ok (.ifCond .eq 28, 3) := by decide +kernel
theorem dX6_isOperator_9 : decode cX6_isOperator 9 = .ok (.aload_n 0, 1) := by decide +kernel
theorem dX6_isOperator_10 : decode cX6_isOperator 10 = .ok (.getfield 7, 3) := by decide +kernel
theorem dX6_isOperator_13 : decode cX6_isOperator 13 = .ok (.sipush 130, 3) := by decide +kernel
theorem dX6_isOperator_16 : decode cX6_isOperator 16 = .ok (.iload_n 1, 1) := by decide +kernel
theorem dX6_isOperator_17 : decode cX6_isOperator 17 = .ok (.iload_n 2, 1) := by decide +kernel
theorem dX6_isOperator_18 : decode cX6_isOperator 18 = .ok (.invokestatic 58, 3) := by decide +kernel
theorem dX6_isOperator_21 : decode cX6_isOperator 21 = .ok (.iadd, 1) := by decide +kernel
theorem dX6_isOperator_22 : decode cX6_isOperator 22 = .ok (.iaload, 1) := by decide +kernel
theorem dX6_isOperator_23 : decode cX6_isOperator 23 = .ok (.iload_n 3, 1) := by decide +kernel
theorem dX6_isOperator_24 : decode cX6_isOperator 24 = .ok (.invokestatic 50, 3) := by decide +kernel
theorem dX6_isOperator_27 : decode cX6_isOperator 27 = .ok (.ifCond .eq 7, 3) := by decide +kernel
theorem dX6_isOperator_30 : decode cX6_isOperator 30 = .ok (.iconst 1, 1) := by decide +kernel
theorem dX6_isOperator_31 : decode cX6_isOperator 31 = .ok (.goto 4, 3) := by decide +kernel
theorem dX6_isOperator_34 : decode cX6_isOperator 34 = .ok (.iconst 0, 1) := by decide +kernel
theorem dX6_isOperator_35 : decode cX6_isOperator 35 = .ok (.ireturn, 1) := by decide +kernel
theorem dX6_memberCount_0 : decode cX6_memberCount 0 = .ok (.aload_n 0, 1) := by decide +kernel
theorem dX6_memberCount_1 : decode cX6_memberCount 1 = .ok (.aload_n 0, 1) := by decide +kernel
theorem dX6_memberCount_2 : decode cX6_memberCount 2 = .ok (.iload_n 1, 1) := by decide +kernel
theorem dX6_memberCount_3 : decode cX6_memberCount 3 = .ok (.invokevirtual 54, 3) := by decide +kernel
theorem dX6_memberCount_6 : decode cX6_memberCount 6 = .ok (.iload_n 2, 1) := by decide +kernel
theorem dX6_memberCount_7 : decode cX6_memberCount 7 = .ok (.invokevirtual 82, 3) := by decide +kernel
theorem dX6_memberCount_10 : decode cX6_memberCount 10 = .ok (.invokestatic 79, 3) := by decide +kernel
theorem dX6_memberCount_13 : decode cX6_memberCount 13 = .ok (.ireturn, 1) := by decide +kernel
theorem dX6_join_0 : decode cX6_join 0 = .ok (.aload_n 0, 1) := by decide +kernel
theorem dX6_join_1 : decode cX6_join 1 = .ok (.iload_n 1, 1) := by decide +kernel
theorem dX6_join_2 : decode cX6_join 2 = .ok (.iload_n 2, 1) := by decide +kernel
theorem dX6_join_3 : decode cX6_join 3 = .ok (.invokevirtual 115, 3) := by decide +kernel
theorem dX6_join_6 : decode cX6_join 6 = .ok (.ifCond .eq 10, 3) := by decide +kernel
theorem dX6_join_9 : decode cX6_join 9 = .ok (.iload_n 3, 1) := by decide +kernel
theorem dX6_join_10 : decode cX6_join 10 = .ok (.invokestatic 118, 3) := by decide +kernel
theorem dX6_join_13 : decode cX6_join 13 = .ok (.ifCond .ne 5, 3) := by decide +kernel
theorem dX6_join_16 : decode cX6_join 16 = .ok (.iconst (-1), 1) := by decide +kernel
theorem dX6_join_17 : decode cX6_join 17 = .ok (.ireturn, 1) := by decide +kernel
theorem dX6_join_18 : decode cX6_join 18 = .ok (.aload_n 0, 1) := by decide +kernel
theorem dX6_join_19 : decode cX6_join 19 = .ok (.iload_n 1, 1) := by decide +kernel
theorem dX6_join_20 : decode cX6_join 20 = .ok (.iload_n 2, 1) := by decide +kernel
theorem dX6_join_21 : decode cX6_join 21 = .ok (.invokevirtual 62, 3) := by decide +kernel
theorem dX6_join_24 : decode cX6_join 24 = .ok (.ifCond .eq 13, 3) := by decide +kernel
theorem dX6_join_27 : decode cX6_join 27 = .ok (.aload_n 0, 1) := by decide +kernel
theorem dX6_join_28 : decode cX6_join 28 = .ok (.iload_n 1, 1) := by decide +kernel
theorem dX6_join_29 : decode cX6_join 29 = .ok (.iload_n 2, 1) := by decide +kernel
theorem dX6_join_30 : decode cX6_join 30 = .ok (.iload_n 3, 1) := by decide +kernel
theorem dX6_join_31 : decode cX6_join 31 = .ok (.invokevirtual 121, 3) := by decide +kernel
theorem dX6_join_34 : decode cX6_join 34 = .ok (.ifCond .eq 6, 3) := by decide +kernel
theorem dX6_join_37 : decode cX6_join 37 = .ok (.bipush (-2), 2) := by decide +kernel
theorem dX6_join_39 : decode cX6_join 39 = .ok (.ireturn, 1) := by decide +kernel
theorem dX6_join_40 : decode cX6_join 40 = .ok (.aload_n 0, 1) := by decide +kernel
theorem dX6_join_41 : decode cX6_join 41 = .ok (.invokevirtual 69, 3) := by decide +kernel
theorem dX6_join_44 : decode cX6_join 44 = .ok (.iload_n 1, 1) := by decide +kernel
theorem dX6_join_45 : decode cX6_join 45 = .ok (.iload_n 2, 1) := by decide +kernel
theorem dX6_join_46 : decode cX6_join 46 = .ok (.invokestatic 58, 3) := by decide +kernel
theorem dX6_join_49 : decode cX6_join 49 = .ok (.istore 4, 2) := by decide +kernel
theorem dX6_join_51 : decode cX6_join 51 = .ok (.aload_n 0, 1) := by decide +kernel
theorem dX6_join_52 : decode cX6_join 52 = .ok (.iload_n 1, 1) := by decide +kernel
theorem dX6_join_53 : decode cX6_join 53 = .ok (.iload_n 3, 1) := by decide +kernel
theorem dX6_join_54 : decode cX6_join 54 = .ok (.invokevirtual 124, 3) := by decide +kernel
theorem dX6_join_57 : decode cX6_join 57 = .ok (.ifCond .ne 37, 3) := by decide +kernel
theorem dX6_join_60 : decode cX6_join 60 = .ok (.aload_n 0, 1) := by decide +kernel
theorem dX6_join_61 : decode cX6_join 61 = .ok (.aload_n 0, 1) := by decide +kernel
theorem dX6_join_62 : decode cX6_join 62 = .ok (.iload_n 1, 1) := by decide +kernel
theorem dX6_join_63 : decode cX6_join 63 = .ok (.invokevirtual 54, 3) := by decide +kernel
theorem dX6_join_66 : decode cX6_join 66 = .ok (.iload_n 3, 1) := by decide +kernel
theorem dX6_join_67 : decode cX6_join 67 = .ok (.aload_n 0, 1) := by decide +kernel
theorem dX6_join_68 : decode cX6_join 68 = .ok (.getfield 7, 3) := by decide +kernel
theorem dX6_join_71 : decode cX6_join 71 = .ok (.iconst 1, 1) := by decide +kernel
theorem dX6_join_72 : decode cX6_join 72 = .ok (.iaload, 1) := by decide +kernel
theorem dX6_join_73 : decode cX6_join 73 = .ok (.iconst 0, 1) := by decide +kernel
theorem dX6_join_74 : decode cX6_join 74 = .ok (.invokevirtual 85, 3) := by decide +kernel
theorem dX6_join_77 : decode cX6_join 77 = .ok (.aload_n 0, 1) := by decide +kernel
theorem dX6_join_78 : decode cX6_join 78 = .ok (.getfield 7, 3) := by decide +kernel
theorem dX6_join_81 : decode cX6_join 81 = .ok (.sipush 130, 3) := by decide +kernel
theorem dX6_join_84 : decode cX6_join 84 = .ok (.iload 4, 2) := by decide +kernel
theorem dX6_join_86 : decode cX6_join 86 = .ok (.iadd, 1) := by decide +kernel
theorem dX6_join_87 : decode cX6_join 87 = .ok (.dup2, 1) := by decide +kernel
theorem dX6_join_88 : decode cX6_join 88 = .ok (.iaload, 1) := by decide +kernel
theorem dX6_join_89 : decode cX6_join 89 = .ok (.iconst 1, 1) := by decide +kernel
theorem dX6_join_90 : decode cX6_join 90 = .ok (.iload_n 3, 1) := by decide +kernel
theorem dX6_join_91 : decode cX6_join 91 = .ok (.ishl, 1) := by decide +kernel
theorem dX6_join_92 : decode cX6_join 92 = .ok (.ior, 1) := by decide +kernel
theorem dX6_join_93 : decode cX6_join 93 = .ok (.iastore, 1) := by decide +kernel
theorem dX6_join_94 : decode cX6_join 94 = .ok (.aload_n 0, 1) := by decide +kernel
theorem dX6_join_95 : decode cX6_join 95 = .ok (.getfield 7, 3) := by decide +kernel
theorem dX6_join_98 : decode cX6_join 98 = .ok (.bipush 70, 2) := by decide +kernel
theorem dX6_join_100 : decode cX6_join 100 = .ok (.iload 4, 2) := by decide +kernel
theorem dX6_join_102 : decode cX6_join 102 = .ok (.iadd, 1) := by decide +kernel
theorem dX6_join_103 : decode cX6_join 103 = .ok (.dup2, 1) := by decide +kernel
theorem dX6_join_104 : decode cX6_join 104 = .ok (.iaload, 1) := by decide +kernel
theorem dX6_join_105 : decode cX6_join 105 = .ok (.iconst 1, 1) := by decide +kernel
theorem dX6_join_106 : decode cX6_join 106 = .ok (.iload_n 3, 1) := by decide +kernel
theorem dX6_join_107 : decode cX6_join 107 = .ok (.ishl, 1) := by decide +kernel
theorem dX6_join_108 : decode cX6_join 108 = .ok (.ior, 1) := by decide +kernel
theorem dX6_join_109 : decode cX6_join 109 = .ok (.iastore, 1) := by decide +kernel
theorem dX6_join_110 : decode cX6_join 110 = .ok (.aload_n 0, 1) := by decide +kernel
theorem dX6_join_111 : decode cX6_join 111 = .ok (.iload_n 1, 1) := by decide +kernel
theorem dX6_join_112 : decode cX6_join 112 = .ok (.iload_n 3, 1) := by decide +kernel
theorem dX6_join_113 : decode cX6_join 113 = .ok (.invokevirtual 124, 3) := by decide +kernel
theorem dX6_join_116 : decode cX6_join 116 = .ok (.ireturn, 1) := by decide +kernel
theorem dX6_leave_0 : decode cX6_leave 0 = .ok (.aload_n 0, 1) := by decide +kernel
theorem dX6_leave_1 : decode cX6_leave 1 = .ok (.getfield 7, 3) := by decide +kernel
theorem dX6_leave_4 : decode cX6_leave 4 = .ok (.bipush 70, 2) := by decide +kernel
theorem dX6_leave_6 : decode cX6_leave 6 = .ok (.iload_n 1, 1) := by decide +kernel
theorem dX6_leave_7 : decode cX6_leave 7 = .ok (.iload_n 2, 1) := by decide +kernel
theorem dX6_leave_8 : decode cX6_leave 8 = .ok (.invokestatic 58, 3) := by decide +kernel
theorem dX6_leave_11 : decode cX6_leave 11 = .ok (.iadd, 1) := by decide +kernel
theorem dX6_leave_12 : decode cX6_leave 12 = .ok (.dup2, 1) := by decide +kernel
theorem dX6_leave_13 : decode cX6_leave 13 = .ok (.iaload, 1) := by decide +kernel
theorem dX6_leave_14 : decode cX6_leave 14 = .ok (.iconst 1, 1) := by decide +kernel
theorem dX6_leave_15 : decode cX6_leave 15 = .ok (.iload_n 3, 1) := by decide +kernel
theorem dX6_leave_16 : decode cX6_leave 16 = .ok (.ishl, 1) := by decide +kernel
theorem dX6_leave_17 : decode cX6_leave 17 = .ok (.iconst (-1), 1) := by decide +kernel
theorem dX6_leave_18 : decode cX6_leave 18 = .ok (.ixor, 1) := by decide +kernel
theorem dX6_leave_19 : decode cX6_leave 19 = .ok (.iand, 1) := by decide +kernel
theorem dX6_leave_20 : decode cX6_leave 20 = .ok (.iastore, 1) := by decide +kernel
theorem dX6_leave_21 : decode cX6_leave 21 = .ok (.aload_n 0, 1) := by decide +kernel
theorem dX6_leave_22 : decode cX6_leave 22 = .ok (.getfield 7, 3) := by decide +kernel
theorem dX6_leave_25 : decode cX6_leave 25 = .ok (.sipush 130, 3) := by decide +kernel
theorem dX6_leave_28 : decode cX6_leave 28 = .ok (.iload_n 1, 1) := by decide +kernel
theorem dX6_leave_29 : decode cX6_leave 29 = .ok (.iload_n 2, 1) := by decide +kernel
theorem dX6_leave_30 : decode cX6_leave 30 = .ok (.invokestatic 58, 3) := by decide +kernel
theorem dX6_leave_33 : decode cX6_leave 33 = .ok (.iadd, 1) := by decide +kernel
theorem dX6_leave_34 : decode cX6_leave 34 = .ok (.dup2, 1) := by decide +kernel
theorem dX6_leave_35 : decode cX6_leave 35 = .ok (.iaload, 1) := by decide +kernel
theorem dX6_leave_36 : decode cX6_leave 36 = .ok (.iconst 1, 1) := by decide +kernel
theorem dX6_leave_37 : decode cX6_leave 37 = .ok (.iload_n 3, 1) := by decide +kernel
theorem dX6_leave_38 : decode cX6_leave 38 = .ok (.ishl, 1) := by decide +kernel
theorem dX6_leave_39 : decode cX6_leave 39 = .ok (.iconst (-1), 1) := by decide +kernel
theorem dX6_leave_40 : decode cX6_leave 40 = .ok (.ixor, 1) := by decide +kernel
theorem dX6_leave_41 : decode cX6_leave 41 = .ok (.iand, 1) := by decide +kernel
theorem dX6_leave_42 : decode cX6_leave 42 = .ok (.iastore, 1) := by decide +kernel
theorem dX6_leave_43 : decode cX6_leave 43 = .ok (.return_, 1) := by decide +kernel
theorem dX6_part_0 : decode cX6_part 0 = .ok (.aload_n 0, 1) := by decide +kernel
theorem dX6_part_1 : decode cX6_part 1 = .ok (.iload_n 1, 1) := by decide +kernel
theorem dX6_part_2 : decode cX6_part 2 = .ok (.iload_n 2, 1) := by decide +kernel
theorem dX6_part_3 : decode cX6_part 3 = .ok (.invokevirtual 115, 3) := by decide +kernel
theorem dX6_part_6 : decode cX6_part 6 = .ok (.ifCond .eq 10, 3) := by decide +kernel
theorem dX6_part_9 : decode cX6_part 9 = .ok (.iload_n 3, 1) := by decide +kernel
theorem dX6_part_10 : decode cX6_part 10 = .ok (.invokestatic 118, 3) := by decide +kernel
theorem dX6_part_13 : decode cX6_part 13 = .ok (.ifCond .ne 5, 3) := by decide +kernel
theorem dX6_part_16 : decode cX6_part 16 = .ok (.iconst (-1), 1) := by decide +kernel
theorem dX6_part_17 : decode cX6_part 17 = .ok (.ireturn, 1) := by decide +kernel
theorem dX6_part_18 : decode cX6_part 18 = .ok (.aload_n 0, 1) := by decide +kernel
theorem dX6_part_19 : decode cX6_part 19 = .ok (.iload_n 1, 1) := by decide +kernel
theorem dX6_part_20 : decode cX6_part 20 = .ok (.iload_n 2, 1) := by decide +kernel
theorem dX6_part_21 : decode cX6_part 21 = .ok (.iload_n 3, 1) := by decide +kernel
theorem dX6_part_22 : decode cX6_part 22 = .ok (.invokevirtual 121, 3) := by decide +kernel
theorem dX6_part_25 : decode cX6_part 25 = .ok (.ifCond .ne 6, 3) := by decide +kernel
theorem dX6_part_28 : decode cX6_part 28 = .ok (.bipush (-2), 2) := by decide +kernel
theorem dX6_part_30 : decode cX6_part 30 = .ok (.ireturn, 1) := by decide +kernel
theorem dX6_part_31 : decode cX6_part 31 = .ok (.aload_n 0, 1) := by decide +kernel
theorem dX6_part_32 : decode cX6_part 32 = .ok (.invokevirtual 69, 3) := by decide +kernel
theorem dX6_part_35 : decode cX6_part 35 = .ok (.aload_n 0, 1) := by decide +kernel
theorem dX6_part_36 : decode cX6_part 36 = .ok (.iload_n 1, 1) := by decide +kernel
theorem dX6_part_37 : decode cX6_part 37 = .ok (.iload_n 2, 1) := by decide +kernel
theorem dX6_part_38 : decode cX6_part 38 = .ok (.iload_n 3, 1) := by decide +kernel
theorem dX6_part_39 : decode cX6_part 39 = .ok (.invokevirtual 127, 3) := by decide +kernel
theorem dX6_part_42 : decode cX6_part 42 = .ok (.aload_n 0, 1) := by decide +kernel
theorem dX6_part_43 : decode cX6_part 43 = .ok (.iload_n 1, 1) := by decide +kernel
theorem dX6_part_44 : decode cX6_part 44 = .ok (.iload_n 3, 1) := by decide +kernel
theorem dX6_part_45 : decode cX6_part 45 = .ok (.invokevirtual 124, 3) := by decide +kernel
theorem dX6_part_48 : decode cX6_part 48 = .ok (.ireturn, 1) := by decide +kernel
theorem dX6_kick_0 : decode cX6_kick 0 = .ok (.aload_n 0, 1) := by decide +kernel
theorem dX6_kick_1 : decode cX6_kick 1 = .ok (.iload_n 1, 1) := by decide +kernel
theorem dX6_kick_2 : decode cX6_kick 2 = .ok (.iload_n 2, 1) := by decide +kernel
theorem dX6_kick_3 : decode cX6_kick 3 = .ok (.invokevirtual 115, 3) := by decide +kernel
theorem dX6_kick_6 : decode cX6_kick 6 = .ok (.ifCond .eq 18, 3) := by decide +kernel
theorem dX6_kick_9 : decode cX6_kick 9 = .ok (.iload_n 3, 1) := by decide +kernel
theorem dX6_kick_10 : decode cX6_kick 10 = .ok (.invokestatic 118, 3) := by decide +kernel
theorem dX6_kick_13 : decode cX6_kick 13 = .ok (.ifCond .eq 11, 3) := by decide +kernel
theorem dX6_kick_16 : decode cX6_kick 16 = .ok (.iload 4, 2) := by decide +kernel
theorem dX6_kick_18 : decode cX6_kick 18 = .ok (.invokestatic 112, 3) := by decide +kernel
theorem dX6_kick_21 : decode cX6_kick 21 = .ok (.ifCond .ne 5, 3) := by decide +kernel
theorem dX6_kick_24 : decode cX6_kick 24 = .ok (.iconst (-1), 1) := by decide +kernel
theorem dX6_kick_25 : decode cX6_kick 25 = .ok (.ireturn, 1) := by decide +kernel
theorem dX6_kick_26 : decode cX6_kick 26 = .ok (.aload_n 0, 1) := by decide +kernel
theorem dX6_kick_27 : decode cX6_kick 27 = .ok (.iload_n 1, 1) := by decide +kernel
theorem dX6_kick_28 : decode cX6_kick 28 = .ok (.iload_n 2, 1) := by decide +kernel
theorem dX6_kick_29 : decode cX6_kick 29 = .ok (.iload_n 3, 1) := by decide +kernel
theorem dX6_kick_30 : decode cX6_kick 30 = .ok (.invokevirtual 130, 3) := by decide +kernel
theorem dX6_kick_33 : decode cX6_kick 33 = .ok (.ifCond .eq 21, 3) := by decide +kernel
theorem dX6_kick_36 : decode cX6_kick 36 = .ok (.aload_n 0, 1) := by decide +kernel
theorem dX6_kick_37 : decode cX6_kick 37 = .ok (.aload_n 0, 1) := by decide +kernel
theorem dX6_kick_38 : decode cX6_kick 38 = .ok (.iload_n 1, 1) := by decide +kernel
theorem dX6_kick_39 : decode cX6_kick 39 = .ok (.invokevirtual 54, 3) := by decide +kernel
theorem dX6_kick_42 : decode cX6_kick 42 = .ok (.iload_n 3, 1) := by decide +kernel
theorem dX6_kick_43 : decode cX6_kick 43 = .ok (.invokevirtual 82, 3) := by decide +kernel
theorem dX6_kick_46 : decode cX6_kick 46 = .ok (.iload 4, 2) := by decide +kernel
theorem dX6_kick_48 : decode cX6_kick 48 = .ok (.invokestatic 50, 3) := by decide +kernel
theorem dX6_kick_51 : decode cX6_kick 51 = .ok (.ifCond .ne 6, 3) := by decide +kernel
theorem dX6_kick_54 : decode cX6_kick 54 = .ok (.bipush (-2), 2) := by decide +kernel
theorem dX6_kick_56 : decode cX6_kick 56 = .ok (.ireturn, 1) := by decide +kernel
theorem dX6_kick_57 : decode cX6_kick 57 = .ok (.aload_n 0, 1) := by decide +kernel
theorem dX6_kick_58 : decode cX6_kick 58 = .ok (.invokevirtual 69, 3) := by decide +kernel
theorem dX6_kick_61 : decode cX6_kick 61 = .ok (.aload_n 0, 1) := by decide +kernel
theorem dX6_kick_62 : decode cX6_kick 62 = .ok (.aload_n 0, 1) := by decide +kernel
theorem dX6_kick_63 : decode cX6_kick 63 = .ok (.aload_n 0, 1) := by decide +kernel
theorem dX6_kick_64 : decode cX6_kick 64 = .ok (.iload_n 1, 1) := by decide +kernel
theorem dX6_kick_65 : decode cX6_kick 65 = .ok (.invokevirtual 54, 3) := by decide +kernel
theorem dX6_kick_68 : decode cX6_kick 68 = .ok (.iload 4, 2) := by decide +kernel
theorem dX6_kick_70 : decode cX6_kick 70 = .ok (.invokevirtual 72, 3) := by decide +kernel
theorem dX6_kick_73 : decode cX6_kick 73 = .ok (.iload 4, 2) := by decide +kernel
theorem dX6_kick_75 : decode cX6_kick 75 = .ok (.iload_n 3, 1) := by decide +kernel
theorem dX6_kick_76 : decode cX6_kick 76 = .ok (.invokevirtual 127, 3) := by decide +kernel
theorem dX6_kick_79 : decode cX6_kick 79 = .ok (.aload_n 0, 1) := by decide +kernel
theorem dX6_kick_80 : decode cX6_kick 80 = .ok (.iload_n 1, 1) := by decide +kernel
theorem dX6_kick_81 : decode cX6_kick 81 = .ok (.iload_n 3, 1) := by decide +kernel
theorem dX6_kick_82 : decode cX6_kick 82 = .ok (.invokevirtual 124, 3) := by decide +kernel
theorem dX6_kick_85 : decode cX6_kick 85 = .ok (.ireturn, 1) := by decide +kernel
theorem dX6_appendCharacter_0 : decode cX6_appendCharacter 0 = .ok (.iload_n 1, 1) := by decide +kernel
theorem dX6_appendCharacter_1 : decode cX6_appendCharacter 1 = .ok (.iconst 0, 1) := by decide +kernel
theorem dX6_appendCharacter_2 : decode cX6_appendCharacter 2 = .ok (.sipush 255, 3) := by decide +kernel
theorem dX6_appendCharacter_5 : decode cX6_appendCharacter 5 = .ok (.invokestatic 42, 3) := by decide +kernel
theorem dX6_appendCharacter_8 : decode cX6_appendCharacter 8 = .ok (.ifCond .ne 5, 3) := by decide +kernel
theorem dX6_appendCharacter_11 : decode cX6_appendCharacter 11 = .ok (.iconst (-1), 1) := by decide +kernel
theorem dX6_appendCharacter_12 : decode cX6_appendCharacter 12 = .ok (.ireturn, 1) := by decide +kernel
theorem dX6_appendCharacter_13 : decode cX6_appendCharacter 13 = .ok (.aload_n 0, 1) := by decide +kernel
theorem dX6_appendCharacter_14 : decode cX6_appendCharacter 14 = .ok (.getfield 133, 3) := by decide +kernel
theorem dX6_appendCharacter_17 : decode cX6_appendCharacter 17 = .ok (.bipush 40, 2) := by decide +kernel
theorem dX6_appendCharacter_19 : decode cX6_appendCharacter 19 = .ok (.if_icmp .ne 6, 3) := by decide +kernel
theorem dX6_appendCharacter_22 : decode cX6_appendCharacter 22 = .ok (.bipush (-3), 2) := by decide +kernel
theorem dX6_appendCharacter_24 : decode cX6_appendCharacter 24 = .ok (.ireturn, 1) := by decide +kernel
theorem dX6_appendCharacter_25 : decode cX6_appendCharacter 25 = .ok (.aload_n 0, 1) := by decide +kernel
theorem dX6_appendCharacter_26 : decode cX6_appendCharacter 26 = .ok (.getfield 16, 3) := by decide +kernel
theorem dX6_appendCharacter_29 : decode cX6_appendCharacter 29 = .ok (.aload_n 0, 1) := by decide +kernel
theorem dX6_appendCharacter_30 : decode cX6_appendCharacter 30 = .ok (.getfield 133, 3) := by decide +kernel
theorem dX6_appendCharacter_33 : decode cX6_appendCharacter 33 = .ok (.iload_n 1, 1) := by decide +kernel
theorem dX6_appendCharacter_34 : decode cX6_appendCharacter 34 = .ok (.iastore, 1) := by decide +kernel
theorem dX6_appendCharacter_35 : decode cX6_appendCharacter 35 = .ok (.aload_n 0, 1) := by decide +kernel
theorem dX6_appendCharacter_36 : decode cX6_appendCharacter 36 = .ok (.dup, 1) := by decide +kernel
theorem dX6_appendCharacter_37 : decode cX6_appendCharacter 37 = .ok (.getfield 133, 3) := by decide +kernel
theorem dX6_appendCharacter_40 : decode cX6_appendCharacter 40 = .ok (.iconst 1, 1) := by decide +kernel
theorem dX6_appendCharacter_41 : decode cX6_appendCharacter 41 = .ok (.iadd, 1) := by decide +kernel
theorem dX6_appendCharacter_42 : decode cX6_appendCharacter 42 = .ok (.putfield 133, 3) := by decide +kernel
theorem dX6_appendCharacter_45 : decode cX6_appendCharacter 45 = .ok (.aload_n 0, 1) := by decide +kernel
theorem dX6_appendCharacter_46 : decode cX6_appendCharacter 46 = .ok (.getfield 133, 3) := by decide +kernel
theorem dX6_appendCharacter_49 : decode cX6_appendCharacter 49 = .ok (.ireturn, 1) := by decide +kernel
theorem dX6_clearText_0 : decode cX6_clearText 0 = .ok (.aload_n 0, 1) := by decide +kernel
theorem dX6_clearText_1 : decode cX6_clearText 1 = .ok (.getfield 133, 3) := by decide +kernel
theorem dX6_clearText_4 : decode cX6_clearText 4 = .ok (.istore_n 1, 1) := by decide +kernel
theorem dX6_clearText_5 : decode cX6_clearText 5 = .ok (.aload_n 0, 1) := by decide +kernel
theorem dX6_clearText_6 : decode cX6_clearText 6 = .ok (.iconst 0, 1) := by decide +kernel
theorem dX6_clearText_7 : decode cX6_clearText 7 = .ok (.putfield 133, 3) := by decide +kernel
theorem dX6_clearText_10 : decode cX6_clearText 10 = .ok (.iload_n 1, 1) := by decide +kernel
theorem dX6_clearText_11 : decode cX6_clearText 11 = .ok (.ireturn, 1) := by decide +kernel
theorem dX6_modeOf_0 : decode cX6_modeOf 0 = .ok (.iload_n 0, 1) := by decide +kernel
theorem dX6_modeOf_1 : decode cX6_modeOf 1 = .ok (.tableswitch 75 105 116 #[63, 75, 75, 75, 65, 67, 75, 69, 75, 75, 71, 73], 63) := by decide +kernel
theorem dX6_modeOf_64 : decode cX6_modeOf 64 = .ok (.iconst 0, 1) := by decide +kernel
theorem dX6_modeOf_65 : decode cX6_modeOf 65 = .ok (.ireturn, 1) := by decide +kernel
theorem dX6_modeOf_66 : decode cX6_modeOf 66 = .ok (.iconst 1, 1) := by decide +kernel
theorem dX6_modeOf_67 : decode cX6_modeOf 67 = .ok (.ireturn, 1) := by decide +kernel
theorem dX6_modeOf_68 : decode cX6_modeOf 68 = .ok (.iconst 2, 1) := by decide +kernel
theorem dX6_modeOf_69 : decode cX6_modeOf 69 = .ok (.ireturn, 1) := by decide +kernel
theorem dX6_modeOf_70 : decode cX6_modeOf 70 = .ok (.iconst 3, 1) := by decide +kernel
theorem dX6_modeOf_71 : decode cX6_modeOf 71 = .ok (.ireturn, 1) := by decide +kernel
theorem dX6_modeOf_72 : decode cX6_modeOf 72 = .ok (.iconst 4, 1) := by decide +kernel
theorem dX6_modeOf_73 : decode cX6_modeOf 73 = .ok (.ireturn, 1) := by decide +kernel
theorem dX6_modeOf_74 : decode cX6_modeOf 74 = .ok (.iconst 5, 1) := by decide +kernel
theorem dX6_modeOf_75 : decode cX6_modeOf 75 = .ok (.ireturn, 1) := by decide +kernel
theorem dX6_modeOf_76 : decode cX6_modeOf 76 = .ok (.bipush (-9), 2) := by decide +kernel
theorem dX6_modeOf_78 : decode cX6_modeOf 78 = .ok (.ireturn, 1) := by decide +kernel
theorem dX6_isSign_0 : decode cX6_isSign 0 = .ok (.iload_n 0, 1) := by decide +kernel
theorem dX6_isSign_1 : decode cX6_isSign 1 = .ok (.bipush 43, 2) := by decide +kernel
theorem dX6_isSign_3 : decode cX6_isSign 3 = .ok (.if_icmp .eq 9, 3) := by decide +kernel
theorem dX6_isSign_6 : decode cX6_isSign 6 = .ok (.iload_n 0, 1) := by decide +kernel
theorem dX6_isSign_7 : decode cX6_isSign 7 = .ok (.bipush 45, 2) := by decide +kernel
theorem dX6_isSign_9 : decode cX6_isSign 9 = .ok (.if_icmp .ne 7, 3) := by decide +kernel
theorem dX6_isSign_12 : decode cX6_isSign 12 = .ok (.iconst 1, 1) := by decide +kernel
theorem dX6_isSign_13 : decode cX6_isSign 13 = .ok (.goto 4, 3) := by decide +kernel
theorem dX6_isSign_16 : decode cX6_isSign 16 = .ok (.iconst 0, 1) := by decide +kernel
theorem dX6_isSign_17 : decode cX6_isSign 17 = .ok (.ireturn, 1) := by decide +kernel
theorem dX6_check_0 : decode cX6_check 0 = .ok (.aload_n 0, 1) := by decide +kernel
theorem dX6_check_1 : decode cX6_check 1 = .ok (.iconst 0, 1) := by decide +kernel
theorem dX6_check_2 : decode cX6_check 2 = .ok (.putfield 136, 3) := by decide +kernel
theorem dX6_check_5 : decode cX6_check 5 = .ok (.iconst 1, 1) := by decide +kernel
theorem dX6_check_6 : decode cX6_check 6 = .ok (.istore_n 2, 1) := by decide +kernel
theorem dX6_check_7 : decode cX6_check 7 = .ok (.iconst 0, 1) := by decide +kernel
theorem dX6_check_8 : decode cX6_check 8 = .ok (.istore_n 3, 1) := by decide +kernel
theorem dX6_check_9 : decode cX6_check 9 = .ok (.iconst 0, 1) := by decide +kernel
theorem dX6_check_10 : decode cX6_check 10 = .ok (.istore 4, 2) := by decide +kernel
theorem dX6_check_12 : decode cX6_check 12 = .ok (.iload 4, 2) := by decide +kernel
theorem dX6_check_14 : decode cX6_check 14 = .ok (.aload_n 0, 1) := by decide +kernel
theorem dX6_check_15 : decode cX6_check 15 = .ok (.getfield 133, 3) := by decide +kernel
theorem dX6_check_18 : decode cX6_check 18 = .ok (.if_icmp .ge 158, 3) := by decide +kernel
theorem dX6_check_21 : decode cX6_check 21 = .ok (.aload_n 0, 1) := by decide +kernel
theorem dX6_check_22 : decode cX6_check 22 = .ok (.getfield 16, 3) := by decide +kernel
theorem dX6_check_25 : decode cX6_check 25 = .ok (.iload 4, 2) := by decide +kernel
theorem dX6_check_27 : decode cX6_check 27 = .ok (.iaload, 1) := by decide +kernel
theorem dX6_check_28 : decode cX6_check 28 = .ok (.istore 5, 2) := by decide +kernel
theorem dX6_check_30 : decode cX6_check 30 = .ok (.iload 5, 2) := by decide +kernel
theorem dX6_check_32 : decode cX6_check 32 = .ok (.invokestatic 139, 3) := by decide +kernel
theorem dX6_check_35 : decode cX6_check 35 = .ok (.ifCond .eq 14, 3) := by decide +kernel
theorem dX6_check_38 : decode cX6_check 38 = .ok (.iload_n 2, 1) := by decide +kernel
theorem dX6_check_39 : decode cX6_check 39 = .ok (.ifCond .eq 10, 3) := by decide +kernel
theorem dX6_check_42 : decode cX6_check 42 = .ok (.iconst 0, 1) := by decide +kernel
theorem dX6_check_43 : decode cX6_check 43 = .ok (.istore_n 2, 1) := by decide +kernel
theorem dX6_check_44 : decode cX6_check 44 = .ok (.iconst 1, 1) := by decide +kernel
theorem dX6_check_45 : decode cX6_check 45 = .ok (.istore_n 3, 1) := by decide +kernel
theorem dX6_check_46 : decode cX6_check 46 = .ok (.goto 124, 3) := by decide +kernel
theorem dX6_check_49 : decode cX6_check 49 = .ok (.iload_n 3, 1) := by decide +kernel
theorem dX6_check_50 : decode cX6_check 50 = .ok (.ifCond .eq 117, 3) := by decide +kernel
theorem dX6_check_53 : decode cX6_check 53 = .ok (.iload 5, 2) := by decide +kernel
theorem dX6_check_55 : decode cX6_check 55 = .ok (.bipush 111, 2) := by decide +kernel
theorem dX6_check_57 : decode cX6_check 57 = .ok (.if_icmp .eq 13, 3) := by decide +kernel
theorem dX6_check_60 : decode cX6_check 60 = .ok (.iload 5, 2) := by decide +kernel
theorem dX6_check_62 : decode cX6_check 62 = .ok (.invokestatic 142, 3) := by decide +kernel
theorem dX6_check_65 : decode cX6_check 65 = .ok (.bipush (-9), 2) := by decide +kernel
theorem dX6_check_67 : decode cX6_check 67 = .ok (.if_icmp .eq 100, 3) := by decide +kernel
theorem dX6_check_70 : decode cX6_check 70 = .ok (.iload 4, 2) := by decide +kernel
theorem dX6_check_72 : decode cX6_check 72 = .ok (.iload 5, 2) := by decide +kernel
theorem dX6_check_74 : decode cX6_check 74 = .ok (.bipush 111, 2) := by decide +kernel
theorem dX6_check_76 : decode cX6_check 76 = .ok (.if_icmp .ne 7, 3) := by decide +kernel
theorem dX6_check_79 : decode cX6_check 79 = .ok (.iconst 1, 1) := by decide +kernel
theorem dX6_check_80 : decode cX6_check 80 = .ok (.goto 4, 3) := by decide +kernel
theorem dX6_check_83 : decode cX6_check 83 = .ok (.iconst 0, 1) := by decide +kernel
theorem dX6_check_84 : decode cX6_check 84 = .ok (.iadd, 1) := by decide +kernel
theorem dX6_check_85 : decode cX6_check 85 = .ok (.istore 4, 2) := by decide +kernel
theorem dX6_check_87 : decode cX6_check 87 = .ok (.iload 5, 2) := by decide +kernel
theorem dX6_check_89 : decode cX6_check 89 = .ok (.bipush 111, 2) := by decide +kernel
theorem dX6_check_91 : decode cX6_check 91 = .ok (.if_icmp .ne 46, 3) := by decide +kernel
theorem dX6_check_94 : decode cX6_check 94 = .ok (.iload 4, 2) := by decide +kernel
theorem dX6_check_96 : decode cX6_check 96 = .ok (.aload_n 0, 1) := by decide +kernel
theorem dX6_check_97 : decode cX6_check 97 = .ok (.getfield 133, 3) := by decide +kernel
theorem dX6_check_100 : decode cX6_check 100 = .ok (.if_icmp .ge 41, 3) := by decide +kernel
theorem dX6_check_103 : decode cX6_check 103 = .ok (.aload_n 0, 1) := by decide +kernel
theorem dX6_check_104 : decode cX6_check 104 = .ok (.getfield 16, 3) := by decide +kernel
theorem dX6_check_107 : decode cX6_check 107 = .ok (.iload 4, 2) := by decide +kernel
theorem dX6_check_109 : decode cX6_check 109 = .ok (.iaload, 1) := by decide +kernel
theorem dX6_check_110 : decode cX6_check 110 = .ok (.bipush 48, 2) := by decide +kernel
theorem dX6_check_112 : decode cX6_check 112 = .ok (.bipush 57, 2) := by decide +kernel
theorem dX6_check_114 : decode cX6_check 114 = .ok (.invokestatic 42, 3) := by decide +kernel
theorem dX6_check_117 : decode cX6_check 117 = .ok (.ifCond .eq 24, 3) := by decide +kernel
theorem dX6_check_120 : decode cX6_check 120 = .ok (.iload_n 1, 1) := by decide +kernel
theorem dX6_check_121 : decode cX6_check 121 = .ok (.aload_n 0, 1) := by decide +kernel
theorem dX6_check_122 : decode cX6_check 122 = .ok (.getfield 16, 3) := by decide +kernel
theorem dX6_check_125 : decode cX6_check 125 = .ok (.iload 4, 2) := by decide +kernel
theorem dX6_check_127 : decode cX6_check 127 = .ok (.iaload, 1) := by decide +kernel
theorem dX6_check_128 : decode cX6_check 128 = .ok (.bipush 48, 2) := by decide +kernel
theorem dX6_check_130 : decode cX6_check 130 = .ok (.isub, 1) := by decide +kernel
theorem dX6_check_131 : decode cX6_check 131 = .ok (.invokestatic 50, 3) := by decide +kernel
theorem dX6_check_134 : decode cX6_check 134 = .ok (.ifCond .eq 7, 3) := by decide +kernel
theorem dX6_check_137 : decode cX6_check 137 = .ok (.iconst 1, 1) := by decide +kernel
theorem dX6_check_138 : decode cX6_check 138 = .ok (.goto 4, 3) := by decide +kernel
theorem dX6_check_141 : decode cX6_check 141 = .ok (.iconst 0, 1) := by decide +kernel
theorem dX6_check_142 : decode cX6_check 142 = .ok (.istore 6, 2) := by decide +kernel
theorem dX6_check_144 : decode cX6_check 144 = .ok (.iload 6, 2) := by decide +kernel
theorem dX6_check_146 : decode cX6_check 146 = .ok (.ifCond .ne 6, 3) := by decide +kernel
theorem dX6_check_149 : decode cX6_check 149 = .ok (.iload 4, 2) := by decide +kernel
theorem dX6_check_151 : decode cX6_check 151 = .ok (.ireturn, 1) := by decide +kernel
theorem dX6_check_152 : decode cX6_check 152 = .ok (.iconst 1, 1) := by decide +kernel
theorem dX6_check_153 : decode cX6_check 153 = .ok (.istore_n 2, 1) := by decide +kernel
theorem dX6_check_154 : decode cX6_check 154 = .ok (.aload_n 0, 1) := by decide +kernel
theorem dX6_check_155 : decode cX6_check 155 = .ok (.dup, 1) := by decide +kernel
theorem dX6_check_156 : decode cX6_check 156 = .ok (.getfield 136, 3) := by decide +kernel
theorem dX6_check_159 : decode cX6_check 159 = .ok (.iconst 1, 1) := by decide +kernel
theorem dX6_check_160 : decode cX6_check 160 = .ok (.iadd, 1) := by decide +kernel
theorem dX6_check_161 : decode cX6_check 161 = .ok (.putfield 136, 3) := by decide +kernel
theorem dX6_check_164 : decode cX6_check 164 = .ok (.goto 6, 3) := by decide +kernel
theorem dX6_check_167 : decode cX6_check 167 = .ok (.iload 4, 2) := by decide +kernel
theorem dX6_check_169 : decode cX6_check 169 = .ok (.ireturn, 1) := by decide +kernel
theorem dX6_check_170 : decode cX6_check 170 = .ok (.iinc 4 1, 3) := by decide +kernel
theorem dX6_check_173 : decode cX6_check 173 = .ok (.goto (-161), 3) := by decide +kernel
theorem dX6_check_176 : decode cX6_check 176 = .ok (.aload_n 0, 1) := by decide +kernel
theorem dX6_check_177 : decode cX6_check 177 = .ok (.getfield 136, 3) := by decide +kernel
theorem dX6_check_180 : decode cX6_check 180 = .ok (.ifCond .le 12, 3) := by decide +kernel
theorem dX6_check_183 : decode cX6_check 183 = .ok (.iload_n 2, 1) := by decide +kernel
theorem dX6_check_184 : decode cX6_check 184 = .ok (.ifCond .eq 8, 3) := by decide +kernel
theorem dX6_check_187 : decode cX6_check 187 = .ok (.bipush (-9), 2) := by decide +kernel
theorem dX6_check_189 : decode cX6_check 189 = .ok (.goto 7, 3) := by decide +kernel
theorem dX6_check_192 : decode cX6_check 192 = .ok (.aload_n 0, 1) := by decide +kernel
theorem dX6_check_193 : decode cX6_check 193 = .ok (.getfield 133, 3) := by decide +kernel
theorem dX6_check_196 : decode cX6_check 196 = .ok (.ireturn, 1) := by decide +kernel
theorem dX6_setOperator_0 : decode cX6_setOperator 0 = .ok (.sipush 130, 3) := by decide +kernel
theorem dX6_setOperator_3 : decode cX6_setOperator 3 = .ok (.iload_n 1, 1) := by decide +kernel
theorem dX6_setOperator_4 : decode cX6_setOperator 4 = .ok (.iload_n 2, 1) := by decide +kernel
theorem dX6_setOperator_5 : decode cX6_setOperator 5 = .ok (.invokestatic 58, 3) := by decide +kernel
theorem dX6_setOperator_8 : decode cX6_setOperator 8 = .ok (.iadd, 1) := by decide +kernel
theorem dX6_setOperator_9 : decode cX6_setOperator 9 = .ok (.istore 5, 2) := by decide +kernel
theorem dX6_setOperator_11 : decode cX6_setOperator 11 = .ok (.aload_n 0, 1) := by decide +kernel
theorem dX6_setOperator_12 : decode cX6_setOperator 12 = .ok (.getfield 7, 3) := by decide +kernel
theorem dX6_setOperator_15 : decode cX6_setOperator 15 = .ok (.iload 5, 2) := by decide +kernel
theorem dX6_setOperator_17 : decode cX6_setOperator 17 = .ok (.aload_n 0, 1) := by decide +kernel
theorem dX6_setOperator_18 : decode cX6_setOperator 18 = .ok (.getfield 7, 3) := by decide +kernel
theorem dX6_setOperator_21 : decode cX6_setOperator 21 = .ok (.iload 5, 2) := by decide +kernel
theorem dX6_setOperator_23 : decode cX6_setOperator 23 = .ok (.iaload, 1) := by decide +kernel
theorem dX6_setOperator_24 : decode cX6_setOperator 24 = .ok (.iconst 1, 1) := by decide +kernel
theorem dX6_setOperator_25 : decode cX6_setOperator 25 = .ok (.iload_n 3, 1) := by decide +kernel
theorem dX6_setOperator_26 : decode cX6_setOperator 26 = .ok (.ishl, 1) := by decide +kernel
theorem dX6_setOperator_27 : decode cX6_setOperator 27 = .ok (.iconst (-1), 1) := by decide +kernel
theorem dX6_setOperator_28 : decode cX6_setOperator 28 = .ok (.ixor, 1) := by decide +kernel
theorem dX6_setOperator_29 : decode cX6_setOperator 29 = .ok (.iand, 1) := by decide +kernel
theorem dX6_setOperator_30 : decode cX6_setOperator 30 = .ok (.iload 4, 2) := by decide +kernel
theorem dX6_setOperator_32 : decode cX6_setOperator 32 = .ok (.ifCond .eq 9, 3) := by decide +kernel
theorem dX6_setOperator_35 : decode cX6_setOperator 35 = .ok (.iconst 1, 1) := by decide +kernel
theorem dX6_setOperator_36 : decode cX6_setOperator 36 = .ok (.iload_n 3, 1) := by decide +kernel
theorem dX6_setOperator_37 : decode cX6_setOperator 37 = .ok (.ishl, 1) := by decide +kernel
theorem dX6_setOperator_38 : decode cX6_setOperator 38 = .ok (.goto 4, 3) := by decide +kernel
theorem dX6_setOperator_41 : decode cX6_setOperator 41 = .ok (.iconst 0, 1) := by decide +kernel
theorem dX6_setOperator_42 : decode cX6_setOperator 42 = .ok (.ior, 1) := by decide +kernel
theorem dX6_setOperator_43 : decode cX6_setOperator 43 = .ok (.iastore, 1) := by decide +kernel
theorem dX6_setOperator_44 : decode cX6_setOperator 44 = .ok (.return_, 1) := by decide +kernel
theorem dX6_applyText_0 : decode cX6_applyText 0 = .ok (.aload_n 0, 1) := by decide +kernel
theorem dX6_applyText_1 : decode cX6_applyText 1 = .ok (.iload_n 1, 1) := by decide +kernel
theorem dX6_applyText_2 : decode cX6_applyText 2 = .ok (.invokevirtual 54, 3) := by decide +kernel
theorem dX6_applyText_5 : decode cX6_applyText 5 = .ok (.istore_n 3, 1) := by decide +kernel
theorem dX6_applyText_6 : decode cX6_applyText 6 = .ok (.aload_n 0, 1) := by decide +kernel
theorem dX6_applyText_7 : decode cX6_applyText 7 = .ok (.getfield 7, 3) := by decide +kernel
theorem dX6_applyText_10 : decode cX6_applyText 10 = .ok (.sipush 214, 3) := by decide +kernel
theorem dX6_applyText_13 : decode cX6_applyText 13 = .ok (.iconst 4, 1) := by decide +kernel
theorem dX6_applyText_14 : decode cX6_applyText 14 = .ok (.iload_n 1, 1) := by decide +kernel
theorem dX6_applyText_15 : decode cX6_applyText 15 = .ok (.imul, 1) := by decide +kernel
theorem dX6_applyText_16 : decode cX6_applyText 16 = .ok (.iadd, 1) := by decide +kernel
theorem dX6_applyText_17 : decode cX6_applyText 17 = .ok (.iload_n 2, 1) := by decide +kernel
theorem dX6_applyText_18 : decode cX6_applyText 18 = .ok (.iadd, 1) := by decide +kernel
theorem dX6_applyText_19 : decode cX6_applyText 19 = .ok (.iaload, 1) := by decide +kernel
theorem dX6_applyText_20 : decode cX6_applyText 20 = .ok (.istore 4, 2) := by decide +kernel
theorem dX6_applyText_22 : decode cX6_applyText 22 = .ok (.iconst 1, 1) := by decide +kernel
theorem dX6_applyText_23 : decode cX6_applyText 23 = .ok (.istore 5, 2) := by decide +kernel
theorem dX6_applyText_25 : decode cX6_applyText 25 = .ok (.iconst 0, 1) := by decide +kernel
theorem dX6_applyText_26 : decode cX6_applyText 26 = .ok (.istore 6, 2) := by decide +kernel
theorem dX6_applyText_28 : decode cX6_applyText 28 = .ok (.iload 6, 2) := by decide +kernel
theorem dX6_applyText_30 : decode cX6_applyText 30 = .ok (.aload_n 0, 1) := by decide +kernel
theorem dX6_applyText_31 : decode cX6_applyText 31 = .ok (.getfield 133, 3) := by decide +kernel
theorem dX6_applyText_34 : decode cX6_applyText 34 = .ok (.if_icmp .ge 124, 3) := by decide +kernel
theorem dX6_applyText_37 : decode cX6_applyText 37 = .ok (.aload_n 0, 1) := by decide +kernel
theorem dX6_applyText_38 : decode cX6_applyText 38 = .ok (.getfield 16, 3) := by decide +kernel
theorem dX6_applyText_41 : decode cX6_applyText 41 = .ok (.iload 6, 2) := by decide +kernel
theorem dX6_applyText_43 : decode cX6_applyText 43 = .ok (.iaload, 1) := by decide +kernel
theorem dX6_applyText_44 : decode cX6_applyText 44 = .ok (.istore 7, 2) := by decide +kernel
theorem dX6_applyText_46 : decode cX6_applyText 46 = .ok (.iload 7, 2) := by decide +kernel
theorem dX6_applyText_48 : decode cX6_applyText 48 = .ok (.invokestatic 142, 3) := by decide +kernel
theorem dX6_applyText_51 : decode cX6_applyText 51 = .ok (.istore 8, 2) := by decide +kernel
theorem dX6_applyText_53 : decode cX6_applyText 53 = .ok (.iload 7, 2) := by decide +kernel
theorem dX6_applyText_55 : decode cX6_applyText 55 = .ok (.invokestatic 139, 3) := by decide +kernel
theorem dX6_applyText_58 : decode cX6_applyText 58 = .ok (.ifCond .eq 18, 3) := by decide +kernel
theorem dX6_applyText_61 : decode cX6_applyText 61 = .ok (.iload 7, 2) := by decide +kernel
theorem dX6_applyText_63 : decode cX6_applyText 63 = .ok (.bipush 43, 2) := by decide +kernel
theorem dX6_applyText_65 : decode cX6_applyText 65 = .ok (.if_icmp .ne 7, 3) := by decide +kernel
theorem dX6_applyText_68 : decode cX6_applyText 68 = .ok (.iconst 1, 1) := by decide +kernel
theorem dX6_applyText_69 : decode cX6_applyText 69 = .ok (.goto 9, 3) := by decide +kernel
theorem dX6_applyText_72 : decode cX6_applyText 72 = .ok (.iconst 0, 1) := by decide +kernel
theorem dX6_applyText_73 : decode cX6_applyText 73 = .ok (.goto 5, 3) := by decide +kernel
theorem dX6_applyText_76 : decode cX6_applyText 76 = .ok (.iload 5, 2) := by decide +kernel
theorem dX6_applyText_78 : decode cX6_applyText 78 = .ok (.istore 5, 2) := by decide +kernel
theorem dX6_applyText_80 : decode cX6_applyText 80 = .ok (.iload 8, 2) := by decide +kernel
theorem dX6_applyText_82 : decode cX6_applyText 82 = .ok (.bipush (-9), 2) := by decide +kernel
theorem dX6_applyText_84 : decode cX6_applyText 84 = .ok (.if_icmp .ne 8, 3) := by decide +kernel
theorem dX6_applyText_87 : decode cX6_applyText 87 = .ok (.iload 4, 2) := by decide +kernel
theorem dX6_applyText_89 : decode cX6_applyText 89 = .ok (.goto 27, 3) := by decide +kernel
theorem dX6_applyText_92 : decode cX6_applyText 92 = .ok (.iload 5, 2) := by decide +kernel
theorem dX6_applyText_94 : decode cX6_applyText 94 = .ok (.ifCond .eq 13, 3) := by decide +kernel
theorem dX6_applyText_97 : decode cX6_applyText 97 = .ok (.iload 4, 2) := by decide +kernel
theorem dX6_applyText_99 : decode cX6_applyText 99 = .ok (.iconst 1, 1) := by decide +kernel
theorem dX6_applyText_100 : decode cX6_applyText 100 = .ok (.iload 8, 2) := by decide +kernel
theorem dX6_applyText_102 : decode cX6_applyText 102 = .ok (.ishl, 1) := by decide +kernel
theorem dX6_applyText_103 : decode cX6_applyText 103 = .ok (.ior, 1) := by decide +kernel
theorem dX6_applyText_104 : decode cX6_applyText 104 = .ok (.goto 12, 3) := by decide +kernel
theorem dX6_applyText_107 : decode cX6_applyText 107 = .ok (.iload 4, 2) := by decide +kernel
theorem dX6_applyText_109 : decode cX6_applyText 109 = .ok (.iconst 1, 1) := by decide +kernel
theorem dX6_applyText_110 : decode cX6_applyText 110 = .ok (.iload 8, 2) := by decide +kernel
theorem dX6_applyText_112 : decode cX6_applyText 112 = .ok (.ishl, 1) := by decide +kernel
theorem dX6_applyText_113 : decode cX6_applyText 113 = .ok (.iconst (-1), 1) := by decide +kernel
theorem dX6_applyText_114 : decode cX6_applyText 114 = .ok (.ixor, 1) := by decide +kernel
theorem dX6_applyText_115 : decode cX6_applyText 115 = .ok (.iand, 1) := by decide +kernel
theorem dX6_applyText_116 : decode cX6_applyText 116 = .ok (.istore 4, 2) := by decide +kernel
theorem dX6_applyText_118 : decode cX6_applyText 118 = .ok (.iload 7, 2) := by decide +kernel
theorem dX6_applyText_120 : decode cX6_applyText 120 = .ok (.bipush 48, 2) := by decide +kernel
theorem dX6_applyText_122 : decode cX6_applyText 122 = .ok (.bipush 57, 2) := by decide +kernel
theorem dX6_applyText_124 : decode cX6_applyText 124 = .ok (.invokestatic 42, 3) := by decide +kernel
theorem dX6_applyText_127 : decode cX6_applyText 127 = .ok (.ifCond .eq 25, 3) := by decide +kernel
theorem dX6_applyText_130 : decode cX6_applyText 130 = .ok (.aload_n 0, 1) := by decide +kernel
theorem dX6_applyText_131 : decode cX6_applyText 131 = .ok (.aload_n 0, 1) := by decide +kernel
theorem dX6_applyText_132 : decode cX6_applyText 132 = .ok (.iload_n 3, 1) := by decide +kernel
theorem dX6_applyText_133 : decode cX6_applyText 133 = .ok (.iload 7, 2) := by decide +kernel
theorem dX6_applyText_135 : decode cX6_applyText 135 = .ok (.bipush 48, 2) := by decide +kernel
theorem dX6_applyText_137 : decode cX6_applyText 137 = .ok (.isub, 1) := by decide +kernel
theorem dX6_applyText_138 : decode cX6_applyText 138 = .ok (.invokevirtual 72, 3) := by decide +kernel
theorem dX6_applyText_141 : decode cX6_applyText 141 = .ok (.iload 7, 2) := by decide +kernel
theorem dX6_applyText_143 : decode cX6_applyText 143 = .ok (.bipush 48, 2) := by decide +kernel
theorem dX6_applyText_145 : decode cX6_applyText 145 = .ok (.isub, 1) := by decide +kernel
theorem dX6_applyText_146 : decode cX6_applyText 146 = .ok (.iload_n 2, 1) := by decide +kernel
theorem dX6_applyText_147 : decode cX6_applyText 147 = .ok (.iload 5, 2) := by decide +kernel
theorem dX6_applyText_149 : decode cX6_applyText 149 = .ok (.invokevirtual 145, 3) := by decide +kernel
theorem dX6_applyText_152 : decode cX6_applyText 152 = .ok (.iinc 6 1, 3) := by decide +kernel
theorem dX6_applyText_155 : decode cX6_applyText 155 = .ok (.goto (-127), 3) := by decide +kernel
theorem dX6_applyText_158 : decode cX6_applyText 158 = .ok (.aload_n 0, 1) := by decide +kernel
theorem dX6_applyText_159 : decode cX6_applyText 159 = .ok (.iload_n 3, 1) := by decide +kernel
theorem dX6_applyText_160 : decode cX6_applyText 160 = .ok (.iload_n 2, 1) := by decide +kernel
theorem dX6_applyText_161 : decode cX6_applyText 161 = .ok (.aload_n 0, 1) := by decide +kernel
theorem dX6_applyText_162 : decode cX6_applyText 162 = .ok (.getfield 7, 3) := by decide +kernel
theorem dX6_applyText_165 : decode cX6_applyText 165 = .ok (.sipush 190, 3) := by decide +kernel
theorem dX6_applyText_168 : decode cX6_applyText 168 = .ok (.iconst 4, 1) := by decide +kernel
theorem dX6_applyText_169 : decode cX6_applyText 169 = .ok (.iload_n 1, 1) := by decide +kernel
theorem dX6_applyText_170 : decode cX6_applyText 170 = .ok (.imul, 1) := by decide +kernel
theorem dX6_applyText_171 : decode cX6_applyText 171 = .ok (.iadd, 1) := by decide +kernel
theorem dX6_applyText_172 : decode cX6_applyText 172 = .ok (.iload_n 2, 1) := by decide +kernel
theorem dX6_applyText_173 : decode cX6_applyText 173 = .ok (.iadd, 1) := by decide +kernel
theorem dX6_applyText_174 : decode cX6_applyText 174 = .ok (.iaload, 1) := by decide +kernel
theorem dX6_applyText_175 : decode cX6_applyText 175 = .ok (.iload 4, 2) := by decide +kernel
theorem dX6_applyText_177 : decode cX6_applyText 177 = .ok (.invokevirtual 85, 3) := by decide +kernel
theorem dX6_applyText_180 : decode cX6_applyText 180 = .ok (.return_, 1) := by decide +kernel
theorem dX6_applyModes_0 : decode cX6_applyModes 0 = .ok (.aload_n 0, 1) := by decide +kernel
theorem dX6_applyModes_1 : decode cX6_applyModes 1 = .ok (.iload_n 1, 1) := by decide +kernel
theorem dX6_applyModes_2 : decode cX6_applyModes 2 = .ok (.iload_n 2, 1) := by decide +kernel
theorem dX6_applyModes_3 : decode cX6_applyModes 3 = .ok (.invokevirtual 115, 3) := by decide +kernel
theorem dX6_applyModes_6 : decode cX6_applyModes 6 = .ok (.ifCond .eq 10, 3) := by decide +kernel
theorem dX6_applyModes_9 : decode cX6_applyModes 9 = .ok (.iload_n 3, 1) := by decide +kernel
theorem dX6_applyModes_10 : decode cX6_applyModes 10 = .ok (.invokestatic 118, 3) := by decide +kernel
theorem dX6_applyModes_13 : decode cX6_applyModes 13 = .ok (.ifCond .ne 5, 3) := by decide +kernel
theorem dX6_applyModes_16 : decode cX6_applyModes 16 = .ok (.iconst (-1), 1) := by decide +kernel
theorem dX6_applyModes_17 : decode cX6_applyModes 17 = .ok (.ireturn, 1) := by decide +kernel
theorem dX6_applyModes_18 : decode cX6_applyModes 18 = .ok (.aload_n 0, 1) := by decide +kernel
theorem dX6_applyModes_19 : decode cX6_applyModes 19 = .ok (.iload_n 1, 1) := by decide +kernel
theorem dX6_applyModes_20 : decode cX6_applyModes 20 = .ok (.iload_n 2, 1) := by decide +kernel
theorem dX6_applyModes_21 : decode cX6_applyModes 21 = .ok (.iload_n 3, 1) := by decide +kernel
theorem dX6_applyModes_22 : decode cX6_applyModes 22 = .ok (.invokevirtual 130, 3) := by decide +kernel
theorem dX6_applyModes_25 : decode cX6_applyModes 25 = .ok (.ifCond .ne 6, 3) := by decide +kernel
theorem dX6_applyModes_28 : decode cX6_applyModes 28 = .ok (.bipush (-2), 2) := by decide +kernel
theorem dX6_applyModes_30 : decode cX6_applyModes 30 = .ok (.ireturn, 1) := by decide +kernel
theorem dX6_applyModes_31 : decode cX6_applyModes 31 = .ok (.aload_n 0, 1) := by decide +kernel
theorem dX6_applyModes_32 : decode cX6_applyModes 32 = .ok (.aload_n 0, 1) := by decide +kernel
theorem dX6_applyModes_33 : decode cX6_applyModes 33 = .ok (.aload_n 0, 1) := by decide +kernel
theorem dX6_applyModes_34 : decode cX6_applyModes 34 = .ok (.iload_n 1, 1) := by decide +kernel
theorem dX6_applyModes_35 : decode cX6_applyModes 35 = .ok (.invokevirtual 54, 3) := by decide +kernel
theorem dX6_applyModes_38 : decode cX6_applyModes 38 = .ok (.iload_n 3, 1) := by decide +kernel
theorem dX6_applyModes_39 : decode cX6_applyModes 39 = .ok (.invokevirtual 82, 3) := by decide +kernel
theorem dX6_applyModes_42 : decode cX6_applyModes 42 = .ok (.invokevirtual 149, 3) := by decide +kernel
theorem dX6_applyModes_45 : decode cX6_applyModes 45 = .ok (.istore 4, 2) := by decide +kernel
theorem dX6_applyModes_47 : decode cX6_applyModes 47 = .ok (.iload 4, 2) := by decide +kernel
theorem dX6_applyModes_49 : decode cX6_applyModes 49 = .ok (.bipush (-9), 2) := by decide +kernel
theorem dX6_applyModes_51 : decode cX6_applyModes 51 = .ok (.if_icmp .eq 9, 3) := by decide +kernel
theorem dX6_applyModes_54 : decode cX6_applyModes 54 = .ok (.bipush (-10), 2) := by decide +kernel
theorem dX6_applyModes_56 : decode cX6_applyModes 56 = .ok (.iload 4, 2) := by decide +kernel
theorem dX6_applyModes_58 : decode cX6_applyModes 58 = .ok (.isub, 1) := by decide +kernel
theorem dX6_applyModes_59 : decode cX6_applyModes 59 = .ok (.ireturn, 1) := by decide +kernel
theorem dX6_applyModes_60 : decode cX6_applyModes 60 = .ok (.aload_n 0, 1) := by decide +kernel
theorem dX6_applyModes_61 : decode cX6_applyModes 61 = .ok (.invokevirtual 69, 3) := by decide +kernel
theorem dX6_applyModes_64 : decode cX6_applyModes 64 = .ok (.aload_n 0, 1) := by decide +kernel
theorem dX6_applyModes_65 : decode cX6_applyModes 65 = .ok (.iload_n 1, 1) := by decide +kernel
theorem dX6_applyModes_66 : decode cX6_applyModes 66 = .ok (.iload_n 3, 1) := by decide +kernel
theorem dX6_applyModes_67 : decode cX6_applyModes 67 = .ok (.invokevirtual 152, 3) := by decide +kernel
theorem dX6_applyModes_70 : decode cX6_applyModes 70 = .ok (.aload_n 0, 1) := by decide +kernel
theorem dX6_applyModes_71 : decode cX6_applyModes 71 = .ok (.iconst 0, 1) := by decide +kernel
theorem dX6_applyModes_72 : decode cX6_applyModes 72 = .ok (.putfield 133, 3) := by decide +kernel
theorem dX6_applyModes_75 : decode cX6_applyModes 75 = .ok (.aload_n 0, 1) := by decide +kernel
theorem dX6_applyModes_76 : decode cX6_applyModes 76 = .ok (.getfield 136, 3) := by decide +kernel
theorem dX6_applyModes_79 : decode cX6_applyModes 79 = .ok (.ireturn, 1) := by decide +kernel
theorem dX6_members_0 : decode cX6_members 0 = .ok (.aload_n 0, 1) := by decide +kernel
theorem dX6_members_1 : decode cX6_members 1 = .ok (.iload_n 1, 1) := by decide +kernel
theorem dX6_members_2 : decode cX6_members 2 = .ok (.invokevirtual 46, 3) := by decide +kernel
theorem dX6_members_5 : decode cX6_members 5 = .ok (.ifCond .eq 23, 3) := by decide +kernel
theorem dX6_members_8 : decode cX6_members 8 = .ok (.iload_n 2, 1) := by decide +kernel
theorem dX6_members_9 : decode cX6_members 9 = .ok (.invokestatic 118, 3) := by decide +kernel
theorem dX6_members_12 : decode cX6_members 12 = .ok (.ifCond .eq 16, 3) := by decide +kernel
theorem dX6_members_15 : decode cX6_members 15 = .ok (.aload_n 0, 1) := by decide +kernel
theorem dX6_members_16 : decode cX6_members 16 = .ok (.aload_n 0, 1) := by decide +kernel
theorem dX6_members_17 : decode cX6_members 17 = .ok (.iload_n 1, 1) := by decide +kernel
theorem dX6_members_18 : decode cX6_members 18 = .ok (.invokevirtual 54, 3) := by decide +kernel
theorem dX6_members_21 : decode cX6_members 21 = .ok (.iload_n 2, 1) := by decide +kernel
theorem dX6_members_22 : decode cX6_members 22 = .ok (.invokevirtual 82, 3) := by decide +kernel
theorem dX6_members_25 : decode cX6_members 25 = .ok (.goto 4, 3) := by decide +kernel
theorem dX6_members_28 : decode cX6_members 28 = .ok (.iconst (-1), 1) := by decide +kernel
theorem dX6_members_29 : decode cX6_members 29 = .ok (.ireturn, 1) := by decide +kernel
theorem dX6_operators_0 : decode cX6_operators 0 = .ok (.aload_n 0, 1) := by decide +kernel
theorem dX6_operators_1 : decode cX6_operators 1 = .ok (.iload_n 1, 1) := by decide +kernel
theorem dX6_operators_2 : decode cX6_operators 2 = .ok (.invokevirtual 46, 3) := by decide +kernel
theorem dX6_operators_5 : decode cX6_operators 5 = .ok (.ifCond .eq 26, 3) := by decide +kernel
theorem dX6_operators_8 : decode cX6_operators 8 = .ok (.iload_n 2, 1) := by decide +kernel
theorem dX6_operators_9 : decode cX6_operators 9 = .ok (.invokestatic 118, 3) := by decide +kernel
theorem dX6_operators_12 : decode cX6_operators 12 = .ok (.ifCond .eq 19, 3) := by decide +kernel
theorem dX6_operators_15 : decode cX6_operators 15 = .ok (.aload_n 0, 1) := by decide +kernel
theorem dX6_operators_16 : decode cX6_operators 16 = .ok (.aload_n 0, 1) := by decide +kernel
theorem dX6_operators_17 : decode cX6_operators 17 = .ok (.iload_n 1, 1) := by decide +kernel
theorem dX6_operators_18 : decode cX6_operators 18 = .ok (.invokevirtual 54, 3) := by decide +kernel
theorem dX6_operators_21 : decode cX6_operators 21 = .ok (.sipush 130, 3) := by decide +kernel
theorem dX6_operators_24 : decode cX6_operators 24 = .ok (.iload_n 2, 1) := by decide +kernel
theorem dX6_operators_25 : decode cX6_operators 25 = .ok (.invokevirtual 65, 3) := by decide +kernel
theorem dX6_operators_28 : decode cX6_operators 28 = .ok (.goto 4, 3) := by decide +kernel
theorem dX6_operators_31 : decode cX6_operators 31 = .ok (.iconst (-1), 1) := by decide +kernel
theorem dX6_operators_32 : decode cX6_operators 32 = .ok (.ireturn, 1) := by decide +kernel
theorem dX6_valueOf_0 : decode cX6_valueOf 0 = .ok (.aload_n 0, 1) := by decide +kernel
theorem dX6_valueOf_1 : decode cX6_valueOf 1 = .ok (.iload_n 2, 1) := by decide +kernel
theorem dX6_valueOf_2 : decode cX6_valueOf 2 = .ok (.invokevirtual 46, 3) := by decide +kernel
theorem dX6_valueOf_5 : decode cX6_valueOf 5 = .ok (.ifCond .eq 10, 3) := by decide +kernel
theorem dX6_valueOf_8 : decode cX6_valueOf 8 = .ok (.iload_n 3, 1) := by decide +kernel
theorem dX6_valueOf_9 : decode cX6_valueOf 9 = .ok (.invokestatic 118, 3) := by decide +kernel
theorem dX6_valueOf_12 : decode cX6_valueOf 12 = .ok (.ifCond .ne 5, 3) := by decide +kernel
theorem dX6_valueOf_15 : decode cX6_valueOf 15 = .ok (.iconst (-1), 1) := by decide +kernel
theorem dX6_valueOf_16 : decode cX6_valueOf 16 = .ok (.ireturn, 1) := by decide +kernel
theorem dX6_valueOf_17 : decode cX6_valueOf 17 = .ok (.aload_n 0, 1) := by decide +kernel
theorem dX6_valueOf_18 : decode cX6_valueOf 18 = .ok (.iload_n 2, 1) := by decide +kernel
theorem dX6_valueOf_19 : decode cX6_valueOf 19 = .ok (.iload_n 3, 1) := by decide +kernel
theorem dX6_valueOf_20 : decode cX6_valueOf 20 = .ok (.invokevirtual 124, 3) := by decide +kernel
theorem dX6_valueOf_23 : decode cX6_valueOf 23 = .ok (.ifCond .ne 8, 3) := by decide +kernel
theorem dX6_valueOf_26 : decode cX6_valueOf 26 = .ok (.bipush (-9), 2) := by decide +kernel
theorem dX6_valueOf_28 : decode cX6_valueOf 28 = .ok (.goto 15, 3) := by decide +kernel
theorem dX6_valueOf_31 : decode cX6_valueOf 31 = .ok (.aload_n 0, 1) := by decide +kernel
theorem dX6_valueOf_32 : decode cX6_valueOf 32 = .ok (.getfield 7, 3) := by decide +kernel
theorem dX6_valueOf_35 : decode cX6_valueOf 35 = .ok (.iload_n 1, 1) := by decide +kernel
theorem dX6_valueOf_36 : decode cX6_valueOf 36 = .ok (.iconst 4, 1) := by decide +kernel
theorem dX6_valueOf_37 : decode cX6_valueOf 37 = .ok (.iload_n 2, 1) := by decide +kernel
theorem dX6_valueOf_38 : decode cX6_valueOf 38 = .ok (.imul, 1) := by decide +kernel
theorem dX6_valueOf_39 : decode cX6_valueOf 39 = .ok (.iadd, 1) := by decide +kernel
theorem dX6_valueOf_40 : decode cX6_valueOf 40 = .ok (.iload_n 3, 1) := by decide +kernel
theorem dX6_valueOf_41 : decode cX6_valueOf 41 = .ok (.iadd, 1) := by decide +kernel
theorem dX6_valueOf_42 : decode cX6_valueOf 42 = .ok (.iaload, 1) := by decide +kernel
theorem dX6_valueOf_43 : decode cX6_valueOf 43 = .ok (.ireturn, 1) := by decide +kernel
theorem dX6_modes_0 : decode cX6_modes 0 = .ok (.aload_n 0, 1) := by decide +kernel
theorem dX6_modes_1 : decode cX6_modes 1 = .ok (.sipush 214, 3) := by decide +kernel
theorem dX6_modes_4 : decode cX6_modes 4 = .ok (.iload_n 1, 1) := by decide +kernel
theorem dX6_modes_5 : decode cX6_modes 5 = .ok (.iload_n 2, 1) := by decide +kernel
theorem dX6_modes_6 : decode cX6_modes 6 = .ok (.invokevirtual 155, 3) := by decide +kernel
theorem dX6_modes_9 : decode cX6_modes 9 = .ok (.ireturn, 1) := by decide +kernel
theorem dX6_channelTimestamp_0 : decode cX6_channelTimestamp 0 = .ok (.aload_n 0, 1) := by decide +kernel
theorem dX6_channelTimestamp_1 : decode cX6_channelTimestamp 1 = .ok (.sipush 190, 3) := by decide +kernel
theorem dX6_channelTimestamp_4 : decode cX6_channelTimestamp 4 = .ok (.iload_n 1, 1) := by decide +kernel
theorem dX6_channelTimestamp_5 : decode cX6_channelTimestamp 5 = .ok (.iload_n 2, 1) := by decide +kernel
theorem dX6_channelTimestamp_6 : decode cX6_channelTimestamp 6 = .ok (.invokevirtual 155, 3) := by decide +kernel
theorem dX6_channelTimestamp_9 : decode cX6_channelTimestamp 9 = .ok (.ireturn, 1) := by decide +kernel
theorem dX6_lastDeprived_0 : decode cX6_lastDeprived 0 = .ok (.aload_n 0, 1) := by decide +kernel
theorem dX6_lastDeprived_1 : decode cX6_lastDeprived 1 = .ok (.getfield 7, 3) := by decide +kernel
theorem dX6_lastDeprived_4 : decode cX6_lastDeprived 4 = .ok (.iconst 2, 1) := by decide +kernel
theorem dX6_lastDeprived_5 : decode cX6_lastDeprived 5 = .ok (.iaload, 1) := by decide +kernel
theorem dX6_lastDeprived_6 : decode cX6_lastDeprived 6 = .ok (.ireturn, 1) := by decide +kernel
theorem dX6_lastDropped_0 : decode cX6_lastDropped 0 = .ok (.aload_n 0, 1) := by decide +kernel
theorem dX6_lastDropped_1 : decode cX6_lastDropped 1 = .ok (.getfield 7, 3) := by decide +kernel
theorem dX6_lastDropped_4 : decode cX6_lastDropped 4 = .ok (.iconst 3, 1) := by decide +kernel
theorem dX6_lastDropped_5 : decode cX6_lastDropped 5 = .ok (.iaload, 1) := by decide +kernel
theorem dX6_lastDropped_6 : decode cX6_lastDropped 6 = .ok (.ireturn, 1) := by decide +kernel
theorem dX6_burstOf_0 : decode cX6_burstOf 0 = .ok (.aload_n 0, 1) := by decide +kernel
theorem dX6_burstOf_1 : decode cX6_burstOf 1 = .ok (.iload_n 1, 1) := by decide +kernel
theorem dX6_burstOf_2 : decode cX6_burstOf 2 = .ok (.invokevirtual 54, 3) := by decide +kernel
theorem dX6_burstOf_5 : decode cX6_burstOf 5 = .ok (.istore_n 2, 1) := by decide +kernel
theorem dX6_burstOf_6 : decode cX6_burstOf 6 = .ok (.iload_n 2, 1) := by decide +kernel
theorem dX6_burstOf_7 : decode cX6_burstOf 7 = .ok (.invokestatic 79, 3) := by decide +kernel
theorem dX6_burstOf_10 : decode cX6_burstOf 10 = .ok (.aload_n 0, 1) := by decide +kernel
theorem dX6_burstOf_11 : decode cX6_burstOf 11 = .ok (.iload_n 2, 1) := by decide +kernel
theorem dX6_burstOf_12 : decode cX6_burstOf 12 = .ok (.bipush 10, 2) := by decide +kernel
theorem dX6_burstOf_14 : decode cX6_burstOf 14 = .ok (.iconst 0, 1) := by decide +kernel
theorem dX6_burstOf_15 : decode cX6_burstOf 15 = .ok (.invokevirtual 65, 3) := by decide +kernel
theorem dX6_burstOf_18 : decode cX6_burstOf 18 = .ok (.invokestatic 79, 3) := by decide +kernel
theorem dX6_burstOf_21 : decode cX6_burstOf 21 = .ok (.iadd, 1) := by decide +kernel
theorem dX6_burstOf_22 : decode cX6_burstOf 22 = .ok (.istore_n 3, 1) := by decide +kernel
theorem dX6_burstOf_23 : decode cX6_burstOf 23 = .ok (.iconst 0, 1) := by decide +kernel
theorem dX6_burstOf_24 : decode cX6_burstOf 24 = .ok (.istore 4, 2) := by decide +kernel
theorem dX6_burstOf_26 : decode cX6_burstOf 26 = .ok (.iload 4, 2) := by decide +kernel
theorem dX6_burstOf_28 : decode cX6_burstOf 28 = .ok (.iconst 4, 1) := by decide +kernel
theorem dX6_burstOf_29 : decode cX6_burstOf 29 = .ok (.if_icmp .ge 56, 3) := by decide +kernel
theorem dX6_burstOf_32 : decode cX6_burstOf 32 = .ok (.aload_n 0, 1) := by decide +kernel
theorem dX6_burstOf_33 : decode cX6_burstOf 33 = .ok (.iload_n 2, 1) := by decide +kernel
theorem dX6_burstOf_34 : decode cX6_burstOf 34 = .ok (.iload 4, 2) := by decide +kernel
theorem dX6_burstOf_36 : decode cX6_burstOf 36 = .ok (.invokevirtual 82, 3) := by decide +kernel
theorem dX6_burstOf_39 : decode cX6_burstOf 39 = .ok (.invokestatic 79, 3) := by decide +kernel
theorem dX6_burstOf_42 : decode cX6_burstOf 42 = .ok (.istore 5, 2) := by decide +kernel
theorem dX6_burstOf_44 : decode cX6_burstOf 44 = .ok (.iload_n 3, 1) := by decide +kernel
theorem dX6_burstOf_45 : decode cX6_burstOf 45 = .ok (.iload 5, 2) := by decide +kernel
theorem dX6_burstOf_47 : decode cX6_burstOf 47 = .ok (.iadd, 1) := by decide +kernel
theorem dX6_burstOf_48 : decode cX6_burstOf 48 = .ok (.istore_n 3, 1) := by decide +kernel
theorem dX6_burstOf_49 : decode cX6_burstOf 49 = .ok (.iload_n 3, 1) := by decide +kernel
theorem dX6_burstOf_50 : decode cX6_burstOf 50 = .ok (.iload 5, 2) := by decide +kernel
theorem dX6_burstOf_52 : decode cX6_burstOf 52 = .ok (.ifCond .le 24, 3) := by decide +kernel
theorem dX6_burstOf_55 : decode cX6_burstOf 55 = .ok (.aload_n 0, 1) := by decide +kernel
theorem dX6_burstOf_56 : decode cX6_burstOf 56 = .ok (.getfield 7, 3) := by decide +kernel
theorem dX6_burstOf_59 : decode cX6_burstOf 59 = .ok (.sipush 214, 3) := by decide +kernel
theorem dX6_burstOf_62 : decode cX6_burstOf 62 = .ok (.iconst 4, 1) := by decide +kernel
theorem dX6_burstOf_63 : decode cX6_burstOf 63 = .ok (.iload_n 1, 1) := by decide +kernel
theorem dX6_burstOf_64 : decode cX6_burstOf 64 = .ok (.imul, 1) := by decide +kernel
theorem dX6_burstOf_65 : decode cX6_burstOf 65 = .ok (.iadd, 1) := by decide +kernel
theorem dX6_burstOf_66 : decode cX6_burstOf 66 = .ok (.iload 4, 2) := by decide +kernel
theorem dX6_burstOf_68 : decode cX6_burstOf 68 = .ok (.iadd, 1) := by decide +kernel
theorem dX6_burstOf_69 : decode cX6_burstOf 69 = .ok (.iaload, 1) := by decide +kernel
theorem dX6_burstOf_70 : decode cX6_burstOf 70 = .ok (.invokestatic 79, 3) := by decide +kernel
theorem dX6_burstOf_73 : decode cX6_burstOf 73 = .ok (.goto 4, 3) := by decide +kernel
theorem dX6_burstOf_76 : decode cX6_burstOf 76 = .ok (.iconst 0, 1) := by decide +kernel
theorem dX6_burstOf_77 : decode cX6_burstOf 77 = .ok (.iadd, 1) := by decide +kernel
theorem dX6_burstOf_78 : decode cX6_burstOf 78 = .ok (.istore_n 3, 1) := by decide +kernel
theorem dX6_burstOf_79 : decode cX6_burstOf 79 = .ok (.iinc 4 1, 3) := by decide +kernel
theorem dX6_burstOf_82 : decode cX6_burstOf 82 = .ok (.goto (-56), 3) := by decide +kernel
theorem dX6_burstOf_85 : decode cX6_burstOf 85 = .ok (.iload_n 3, 1) := by decide +kernel
theorem dX6_burstOf_86 : decode cX6_burstOf 86 = .ok (.ireturn, 1) := by decide +kernel
theorem dX6_forecastError_0 : decode cX6_forecastError 0 = .ok (.aload_n 0, 1) := by decide +kernel
theorem dX6_forecastError_1 : decode cX6_forecastError 1 = .ok (.iload_n 1, 1) := by decide +kernel
theorem dX6_forecastError_2 : decode cX6_forecastError 2 = .ok (.iload_n 2, 1) := by decide +kernel
theorem dX6_forecastError_3 : decode cX6_forecastError 3 = .ok (.invokevirtual 92, 3) := by decide +kernel
theorem dX6_forecastError_6 : decode cX6_forecastError 6 = .ok (.ifCond .ne 7, 3) := by decide +kernel
theorem dX6_forecastError_9 : decode cX6_forecastError 9 = .ok (.iconst (-1), 1) := by decide +kernel
theorem dX6_forecastError_10 : decode cX6_forecastError 10 = .ok (.goto 18, 3) := by decide +kernel
theorem dX6_forecastError_13 : decode cX6_forecastError 13 = .ok (.aload_n 0, 1) := by decide +kernel
theorem dX6_forecastError_14 : decode cX6_forecastError 14 = .ok (.iload_n 1, 1) := by decide +kernel
theorem dX6_forecastError_15 : decode cX6_forecastError 15 = .ok (.iload_n 2, 1) := by decide +kernel
theorem dX6_forecastError_16 : decode cX6_forecastError 16 = .ok (.invokevirtual 95, 3) := by decide +kernel
theorem dX6_forecastError_19 : decode cX6_forecastError 19 = .ok (.ifCond .eq 8, 3) := by decide +kernel
theorem dX6_forecastError_22 : decode cX6_forecastError 22 = .ok (.bipush (-2), 2) := by decide +kernel
theorem dX6_forecastError_24 : decode cX6_forecastError 24 = .ok (.goto 4, 3) := by decide +kernel
theorem dX6_forecastError_27 : decode cX6_forecastError 27 = .ok (.iconst 0, 1) := by decide +kernel
theorem dX6_forecastError_28 : decode cX6_forecastError 28 = .ok (.ireturn, 1) := by decide +kernel
theorem dX6_burstSize_0 : decode cX6_burstSize 0 = .ok (.aload_n 0, 1) := by decide +kernel
theorem dX6_burstSize_1 : decode cX6_burstSize 1 = .ok (.iload_n 1, 1) := by decide +kernel
theorem dX6_burstSize_2 : decode cX6_burstSize 2 = .ok (.iload_n 2, 1) := by decide +kernel
theorem dX6_burstSize_3 : decode cX6_burstSize 3 = .ok (.invokevirtual 158, 3) := by decide +kernel
theorem dX6_burstSize_6 : decode cX6_burstSize 6 = .ok (.istore_n 3, 1) := by decide +kernel
theorem dX6_burstSize_7 : decode cX6_burstSize 7 = .ok (.iload_n 3, 1) := by decide +kernel
theorem dX6_burstSize_8 : decode cX6_burstSize 8 = .ok (.ifCond .ge 7, 3) := by decide +kernel
theorem dX6_burstSize_11 : decode cX6_burstSize 11 = .ok (.iload_n 3, 1) := by decide +kernel
theorem dX6_burstSize_12 : decode cX6_burstSize 12 = .ok (.goto 14, 3) := by decide +kernel
theorem dX6_burstSize_15 : decode cX6_burstSize 15 = .ok (.aload_n 0, 1) := by decide +kernel
theorem dX6_burstSize_16 : decode cX6_burstSize 16 = .ok (.iload_n 1, 1) := by decide +kernel
theorem dX6_burstSize_17 : decode cX6_burstSize 17 = .ok (.invokevirtual 161, 3) := by decide +kernel
theorem dX6_burstSize_20 : decode cX6_burstSize 20 = .ok (.aload_n 0, 1) := by decide +kernel
theorem dX6_burstSize_21 : decode cX6_burstSize 21 = .ok (.iload_n 2, 1) := by decide +kernel
theorem dX6_burstSize_22 : decode cX6_burstSize 22 = .ok (.invokevirtual 161, 3) := by decide +kernel
theorem dX6_burstSize_25 : decode cX6_burstSize 25 = .ok (.iadd, 1) := by decide +kernel
theorem dX6_burstSize_26 : decode cX6_burstSize 26 = .ok (.ireturn, 1) := by decide +kernel
theorem dX6_killsIfConnected_0 : decode cX6_killsIfConnected 0 = .ok (.aload_n 0, 1) := by decide +kernel
theorem dX6_killsIfConnected_1 : decode cX6_killsIfConnected 1 = .ok (.iload_n 1, 1) := by decide +kernel
theorem dX6_killsIfConnected_2 : decode cX6_killsIfConnected 2 = .ok (.iload_n 2, 1) := by decide +kernel
theorem dX6_killsIfConnected_3 : decode cX6_killsIfConnected 3 = .ok (.invokevirtual 158, 3) := by decide +kernel
theorem dX6_killsIfConnected_6 : decode cX6_killsIfConnected 6 = .ok (.istore_n 3, 1) := by decide +kernel
theorem dX6_killsIfConnected_7 : decode cX6_killsIfConnected 7 = .ok (.iload_n 3, 1) := by decide +kernel
theorem dX6_killsIfConnected_8 : decode cX6_killsIfConnected 8 = .ok (.ifCond .ge 5, 3) := by decide +kernel
theorem dX6_killsIfConnected_11 : decode cX6_killsIfConnected 11 = .ok (.iload_n 3, 1) := by decide +kernel
theorem dX6_killsIfConnected_12 : decode cX6_killsIfConnected 12 = .ok (.ireturn, 1) := by decide +kernel
theorem dX6_killsIfConnected_13 : decode cX6_killsIfConnected 13 = .ok (.aload_n 0, 1) := by decide +kernel
theorem dX6_killsIfConnected_14 : decode cX6_killsIfConnected 14 = .ok (.iconst 0, 1) := by decide +kernel
theorem dX6_killsIfConnected_15 : decode cX6_killsIfConnected 15 = .ok (.aload_n 0, 1) := by decide +kernel
theorem dX6_killsIfConnected_16 : decode cX6_killsIfConnected 16 = .ok (.iload_n 1, 1) := by decide +kernel
theorem dX6_killsIfConnected_17 : decode cX6_killsIfConnected 17 = .ok (.invokevirtual 54, 3) := by decide +kernel
theorem dX6_killsIfConnected_20 : decode cX6_killsIfConnected 20 = .ok (.invokevirtual 164, 3) := by decide +kernel
theorem dX6_killsIfConnected_23 : decode cX6_killsIfConnected 23 = .ok (.aload_n 0, 1) := by decide +kernel
theorem dX6_killsIfConnected_24 : decode cX6_killsIfConnected 24 = .ok (.iconst 1, 1) := by decide +kernel
theorem dX6_killsIfConnected_25 : decode cX6_killsIfConnected 25 = .ok (.aload_n 0, 1) := by decide +kernel
theorem dX6_killsIfConnected_26 : decode cX6_killsIfConnected 26 = .ok (.iload_n 2, 1) := by decide +kernel
theorem dX6_killsIfConnected_27 : decode cX6_killsIfConnected 27 = .ok (.invokevirtual 54, 3) := by decide +kernel
theorem dX6_killsIfConnected_30 : decode cX6_killsIfConnected 30 = .ok (.invokevirtual 164, 3) := by decide +kernel
theorem dX6_killsIfConnected_33 : decode cX6_killsIfConnected 33 = .ok (.aload_n 0, 1) := by decide +kernel
theorem dX6_killsIfConnected_34 : decode cX6_killsIfConnected 34 = .ok (.iconst 0, 1) := by decide +kernel
theorem dX6_killsIfConnected_35 : decode cX6_killsIfConnected 35 = .ok (.iconst 0, 1) := by decide +kernel
theorem dX6_killsIfConnected_36 : decode cX6_killsIfConnected 36 = .ok (.iconst 1, 1) := by decide +kernel
theorem dX6_killsIfConnected_37 : decode cX6_killsIfConnected 37 = .ok (.invokevirtual 167, 3) := by decide +kernel
theorem dX6_killsIfConnected_40 : decode cX6_killsIfConnected 40 = .ok (.ireturn, 1) := by decide +kernel
theorem dX6_usersOutside_0 : decode cX6_usersOutside 0 = .ok (.iconst 0, 1) := by decide +kernel
theorem dX6_usersOutside_1 : decode cX6_usersOutside 1 = .ok (.istore_n 2, 1) := by decide +kernel
theorem dX6_usersOutside_2 : decode cX6_usersOutside 2 = .ok (.iconst 0, 1) := by decide +kernel
theorem dX6_usersOutside_3 : decode cX6_usersOutside 3 = .ok (.istore_n 3, 1) := by decide +kernel
theorem dX6_usersOutside_4 : decode cX6_usersOutside 4 = .ok (.iload_n 3, 1) := by decide +kernel
theorem dX6_usersOutside_5 : decode cX6_usersOutside 5 = .ok (.aload_n 0, 1) := by decide +kernel
theorem dX6_usersOutside_6 : decode cX6_usersOutside 6 = .ok (.getfield 7, 3) := by decide +kernel
theorem dX6_usersOutside_9 : decode cX6_usersOutside 9 = .ok (.iconst 0, 1) := by decide +kernel
theorem dX6_usersOutside_10 : decode cX6_usersOutside 10 = .ok (.iaload, 1) := by decide +kernel
theorem dX6_usersOutside_11 : decode cX6_usersOutside 11 = .ok (.if_icmp .ge 37, 3) := by decide +kernel
theorem dX6_usersOutside_14 : decode cX6_usersOutside 14 = .ok (.iload_n 2, 1) := by decide +kernel
theorem dX6_usersOutside_15 : decode cX6_usersOutside 15 = .ok (.iload_n 1, 1) := by decide +kernel
theorem dX6_usersOutside_16 : decode cX6_usersOutside 16 = .ok (.iload_n 3, 1) := by decide +kernel
theorem dX6_usersOutside_17 : decode cX6_usersOutside 17 = .ok (.invokestatic 50, 3) := by decide +kernel
theorem dX6_usersOutside_20 : decode cX6_usersOutside 20 = .ok (.ifCond .eq 7, 3) := by decide +kernel
theorem dX6_usersOutside_23 : decode cX6_usersOutside 23 = .ok (.iconst 0, 1) := by decide +kernel
theorem dX6_usersOutside_24 : decode cX6_usersOutside 24 = .ok (.goto 16, 3) := by decide +kernel
theorem dX6_usersOutside_27 : decode cX6_usersOutside 27 = .ok (.aload_n 0, 1) := by decide +kernel
theorem dX6_usersOutside_28 : decode cX6_usersOutside 28 = .ok (.iconst 1, 1) := by decide +kernel
theorem dX6_usersOutside_29 : decode cX6_usersOutside 29 = .ok (.iload_n 3, 1) := by decide +kernel
theorem dX6_usersOutside_30 : decode cX6_usersOutside 30 = .ok (.ishl, 1) := by decide +kernel
theorem dX6_usersOutside_31 : decode cX6_usersOutside 31 = .ok (.bipush 10, 2) := by decide +kernel
theorem dX6_usersOutside_33 : decode cX6_usersOutside 33 = .ok (.iconst 0, 1) := by decide +kernel
theorem dX6_usersOutside_34 : decode cX6_usersOutside 34 = .ok (.invokevirtual 65, 3) := by decide +kernel
theorem dX6_usersOutside_37 : decode cX6_usersOutside 37 = .ok (.invokestatic 79, 3) := by decide +kernel
theorem dX6_usersOutside_40 : decode cX6_usersOutside 40 = .ok (.iadd, 1) := by decide +kernel
theorem dX6_usersOutside_41 : decode cX6_usersOutside 41 = .ok (.istore_n 2, 1) := by decide +kernel
theorem dX6_usersOutside_42 : decode cX6_usersOutside 42 = .ok (.iinc 3 1, 3) := by decide +kernel
theorem dX6_usersOutside_45 : decode cX6_usersOutside 45 = .ok (.goto (-41), 3) := by decide +kernel
theorem dX6_usersOutside_48 : decode cX6_usersOutside 48 = .ok (.iload_n 2, 1) := by decide +kernel
theorem dX6_usersOutside_49 : decode cX6_usersOutside 49 = .ok (.ireturn, 1) := by decide +kernel
theorem dX6_lostIfDisconnected_0 : decode cX6_lostIfDisconnected 0 = .ok (.aload_n 0, 1) := by decide +kernel
theorem dX6_lostIfDisconnected_1 : decode cX6_lostIfDisconnected 1 = .ok (.iload_n 1, 1) := by decide +kernel
theorem dX6_lostIfDisconnected_2 : decode cX6_lostIfDisconnected 2 = .ok (.iload_n 2, 1) := by decide +kernel
theorem dX6_lostIfDisconnected_3 : decode cX6_lostIfDisconnected 3 = .ok (.invokevirtual 92, 3) := by decide +kernel
theorem dX6_lostIfDisconnected_6 : decode cX6_lostIfDisconnected 6 = .ok (.ifCond .ne 5, 3) := by decide +kernel
theorem dX6_lostIfDisconnected_9 : decode cX6_lostIfDisconnected 9 = .ok (.iconst (-1), 1) := by decide +kernel
theorem dX6_lostIfDisconnected_10 : decode cX6_lostIfDisconnected 10 = .ok (.ireturn, 1) := by decide +kernel
theorem dX6_lostIfDisconnected_11 : decode cX6_lostIfDisconnected 11 = .ok (.aload_n 0, 1) := by decide +kernel
theorem dX6_lostIfDisconnected_12 : decode cX6_lostIfDisconnected 12 = .ok (.iload_n 1, 1) := by decide +kernel
theorem dX6_lostIfDisconnected_13 : decode cX6_lostIfDisconnected 13 = .ok (.iload_n 2, 1) := by decide +kernel
theorem dX6_lostIfDisconnected_14 : decode cX6_lostIfDisconnected 14 = .ok (.invokevirtual 109, 3) := by decide +kernel
theorem dX6_lostIfDisconnected_17 : decode cX6_lostIfDisconnected 17 = .ok (.ifCond .ne 6, 3) := by decide +kernel
theorem dX6_lostIfDisconnected_20 : decode cX6_lostIfDisconnected 20 = .ok (.bipush (-2), 2) := by decide +kernel
theorem dX6_lostIfDisconnected_22 : decode cX6_lostIfDisconnected 22 = .ok (.ireturn, 1) := by decide +kernel
theorem dX6_lostIfDisconnected_23 : decode cX6_lostIfDisconnected 23 = .ok (.aload_n 0, 1) := by decide +kernel
theorem dX6_lostIfDisconnected_24 : decode cX6_lostIfDisconnected 24 = .ok (.aload_n 0, 1) := by decide +kernel
theorem dX6_lostIfDisconnected_25 : decode cX6_lostIfDisconnected 25 = .ok (.iconst 0, 1) := by decide +kernel
theorem dX6_lostIfDisconnected_26 : decode cX6_lostIfDisconnected 26 = .ok (.invokevirtual 54, 3) := by decide +kernel
theorem dX6_lostIfDisconnected_29 : decode cX6_lostIfDisconnected 29 = .ok (.invokevirtual 170, 3) := by decide +kernel
theorem dX6_lostIfDisconnected_32 : decode cX6_lostIfDisconnected 32 = .ok (.istore_n 3, 1) := by decide +kernel
theorem dX6_lostIfDisconnected_33 : decode cX6_lostIfDisconnected 33 = .ok (.aload_n 0, 1) := by decide +kernel
theorem dX6_lostIfDisconnected_34 : decode cX6_lostIfDisconnected 34 = .ok (.iload_n 1, 1) := by decide +kernel
theorem dX6_lostIfDisconnected_35 : decode cX6_lostIfDisconnected 35 = .ok (.iload_n 2, 1) := by decide +kernel
theorem dX6_lostIfDisconnected_36 : decode cX6_lostIfDisconnected 36 = .ok (.iconst 0, 1) := by decide +kernel
theorem dX6_lostIfDisconnected_37 : decode cX6_lostIfDisconnected 37 = .ok (.invokevirtual 105, 3) := by decide +kernel
theorem dX6_lostIfDisconnected_40 : decode cX6_lostIfDisconnected 40 = .ok (.aload_n 0, 1) := by decide +kernel
theorem dX6_lostIfDisconnected_41 : decode cX6_lostIfDisconnected 41 = .ok (.aload_n 0, 1) := by decide +kernel
theorem dX6_lostIfDisconnected_42 : decode cX6_lostIfDisconnected 42 = .ok (.iconst 0, 1) := by decide +kernel
theorem dX6_lostIfDisconnected_43 : decode cX6_lostIfDisconnected 43 = .ok (.invokevirtual 54, 3) := by decide +kernel
theorem dX6_lostIfDisconnected_46 : decode cX6_lostIfDisconnected 46 = .ok (.invokevirtual 170, 3) := by decide +kernel
theorem dX6_lostIfDisconnected_49 : decode cX6_lostIfDisconnected 49 = .ok (.istore 4, 2) := by decide +kernel
theorem dX6_lostIfDisconnected_51 : decode cX6_lostIfDisconnected 51 = .ok (.aload_n 0, 1) := by decide +kernel
theorem dX6_lostIfDisconnected_52 : decode cX6_lostIfDisconnected 52 = .ok (.iload_n 1, 1) := by decide +kernel
theorem dX6_lostIfDisconnected_53 : decode cX6_lostIfDisconnected 53 = .ok (.iload_n 2, 1) := by decide +kernel
theorem dX6_lostIfDisconnected_54 : decode cX6_lostIfDisconnected 54 = .ok (.iconst 1, 1) := by decide +kernel
theorem dX6_lostIfDisconnected_55 : decode cX6_lostIfDisconnected 55 = .ok (.invokevirtual 105, 3) := by decide +kernel
theorem dX6_lostIfDisconnected_58 : decode cX6_lostIfDisconnected 58 = .ok (.iload 4, 2) := by decide +kernel
theorem dX6_lostIfDisconnected_60 : decode cX6_lostIfDisconnected 60 = .ok (.iload_n 3, 1) := by decide +kernel
theorem dX6_lostIfDisconnected_61 : decode cX6_lostIfDisconnected 61 = .ok (.isub, 1) := by decide +kernel
theorem dX6_lostIfDisconnected_62 : decode cX6_lostIfDisconnected 62 = .ok (.ireturn, 1) := by decide +kernel
theorem dX6_groupCell_0 : decode cX6_groupCell 0 = .ok (.bipush 60, 2) := by decide +kernel
theorem dX6_groupCell_2 : decode cX6_groupCell 2 = .ok (.iload_n 0, 1) := by decide +kernel
theorem dX6_groupCell_3 : decode cX6_groupCell 3 = .ok (.imul, 1) := by decide +kernel
theorem dX6_groupCell_4 : decode cX6_groupCell 4 = .ok (.bipush 10, 2) := by decide +kernel
theorem dX6_groupCell_6 : decode cX6_groupCell 6 = .ok (.iload_n 1, 1) := by decide +kernel
theorem dX6_groupCell_7 : decode cX6_groupCell 7 = .ok (.imul, 1) := by decide +kernel
theorem dX6_groupCell_8 : decode cX6_groupCell 8 = .ok (.iadd, 1) := by decide +kernel
theorem dX6_groupCell_9 : decode cX6_groupCell 9 = .ok (.ireturn, 1) := by decide +kernel
theorem dX6_readGroup_0 : decode cX6_readGroup 0 = .ok (.iconst 0, 1) := by decide +kernel
theorem dX6_readGroup_1 : decode cX6_readGroup 1 = .ok (.istore_n 3, 1) := by decide +kernel
theorem dX6_readGroup_2 : decode cX6_readGroup 2 = .ok (.iload_n 3, 1) := by decide +kernel
theorem dX6_readGroup_3 : decode cX6_readGroup 3 = .ok (.bipush 10, 2) := by decide +kernel
theorem dX6_readGroup_5 : decode cX6_readGroup 5 = .ok (.if_icmp .ge 55, 3) := by decide +kernel
theorem dX6_readGroup_8 : decode cX6_readGroup 8 = .ok (.aload_n 0, 1) := by decide +kernel
theorem dX6_readGroup_9 : decode cX6_readGroup 9 = .ok (.iload_n 2, 1) := by decide +kernel
theorem dX6_readGroup_10 : decode cX6_readGroup 10 = .ok (.iload_n 3, 1) := by decide +kernel
theorem dX6_readGroup_11 : decode cX6_readGroup 11 = .ok (.invokevirtual 72, 3) := by decide +kernel
theorem dX6_readGroup_14 : decode cX6_readGroup 14 = .ok (.istore 4, 2) := by decide +kernel
theorem dX6_readGroup_16 : decode cX6_readGroup 16 = .ok (.aload_n 0, 1) := by decide +kernel
theorem dX6_readGroup_17 : decode cX6_readGroup 17 = .ok (.getfield 19, 3) := by decide +kernel
theorem dX6_readGroup_20 : decode cX6_readGroup 20 = .ok (.iconst 0, 1) := by decide +kernel
theorem dX6_readGroup_21 : decode cX6_readGroup 21 = .ok (.iload_n 1, 1) := by decide +kernel
theorem dX6_readGroup_22 : decode cX6_readGroup 22 = .ok (.invokestatic 173, 3) := by decide +kernel
theorem dX6_readGroup_25 : decode cX6_readGroup 25 = .ok (.iload_n 3, 1) := by decide +kernel
theorem dX6_readGroup_26 : decode cX6_readGroup 26 = .ok (.iadd, 1) := by decide +kernel
theorem dX6_readGroup_27 : decode cX6_readGroup 27 = .ok (.iload 4, 2) := by decide +kernel
theorem dX6_readGroup_29 : decode cX6_readGroup 29 = .ok (.bipush (-9), 2) := by decide +kernel
theorem dX6_readGroup_31 : decode cX6_readGroup 31 = .ok (.if_icmp .ne 8, 3) := by decide +kernel
theorem dX6_readGroup_34 : decode cX6_readGroup 34 = .ok (.bipush (-9), 2) := by decide +kernel
theorem dX6_readGroup_36 : decode cX6_readGroup 36 = .ok (.goto 17, 3) := by decide +kernel
theorem dX6_readGroup_39 : decode cX6_readGroup 39 = .ok (.aload_n 0, 1) := by decide +kernel
theorem dX6_readGroup_40 : decode cX6_readGroup 40 = .ok (.getfield 7, 3) := by decide +kernel
theorem dX6_readGroup_43 : decode cX6_readGroup 43 = .ok (.bipush 10, 2) := by decide +kernel
theorem dX6_readGroup_45 : decode cX6_readGroup 45 = .ok (.iload 4, 2) := by decide +kernel
theorem dX6_readGroup_47 : decode cX6_readGroup 47 = .ok (.iload_n 3, 1) := by decide +kernel
theorem dX6_readGroup_48 : decode cX6_readGroup 48 = .ok (.invokestatic 58, 3) := by decide +kernel
theorem dX6_readGroup_51 : decode cX6_readGroup 51 = .ok (.iadd, 1) := by decide +kernel
theorem dX6_readGroup_52 : decode cX6_readGroup 52 = .ok (.iaload, 1) := by decide +kernel
theorem dX6_readGroup_53 : decode cX6_readGroup 53 = .ok (.iastore, 1) := by decide +kernel
theorem dX6_readGroup_54 : decode cX6_readGroup 54 = .ok (.iinc 3 1, 3) := by decide +kernel
theorem dX6_readGroup_57 : decode cX6_readGroup 57 = .ok (.goto (-55), 3) := by decide +kernel
theorem dX6_readGroup_60 : decode cX6_readGroup 60 = .ok (.return_, 1) := by decide +kernel
theorem dX6_mergeGroups_0 : decode cX6_mergeGroups 0 = .ok (.iconst 0, 1) := by decide +kernel
theorem dX6_mergeGroups_1 : decode cX6_mergeGroups 1 = .ok (.istore 4, 2) := by decide +kernel
theorem dX6_mergeGroups_3 : decode cX6_mergeGroups 3 = .ok (.iconst 0, 1) := by decide +kernel
theorem dX6_mergeGroups_4 : decode cX6_mergeGroups 4 = .ok (.istore 5, 2) := by decide +kernel
theorem dX6_mergeGroups_6 : decode cX6_mergeGroups 6 = .ok (.iload 5, 2) := by decide +kernel
theorem dX6_mergeGroups_8 : decode cX6_mergeGroups 8 = .ok (.bipush 10, 2) := by decide +kernel
theorem dX6_mergeGroups_10 : decode cX6_mergeGroups 10 = .ok (.if_icmp .ge 135, 3) := by decide +kernel
theorem dX6_mergeGroups_13 : decode cX6_mergeGroups 13 = .ok (.iload_n 1, 1) := by decide +kernel
theorem dX6_mergeGroups_14 : decode cX6_mergeGroups 14 = .ok (.iload_n 2, 1) := by decide +kernel
theorem dX6_mergeGroups_15 : decode cX6_mergeGroups 15 = .ok (.invokestatic 173, 3) := by decide +kernel
theorem dX6_mergeGroups_18 : decode cX6_mergeGroups 18 = .ok (.iload 5, 2) := by decide +kernel
theorem dX6_mergeGroups_20 : decode cX6_mergeGroups 20 = .ok (.iadd, 1) := by decide +kernel
theorem dX6_mergeGroups_21 : decode cX6_mergeGroups 21 = .ok (.istore 6, 2) := by decide +kernel
theorem dX6_mergeGroups_23 : decode cX6_mergeGroups 23 = .ok (.aload_n 0, 1) := by decide +kernel
theorem dX6_mergeGroups_24 : decode cX6_mergeGroups 24 = .ok (.getfield 19, 3) := by decide +kernel
theorem dX6_mergeGroups_27 : decode cX6_mergeGroups 27 = .ok (.iload 6, 2) := by decide +kernel
theorem dX6_mergeGroups_29 : decode cX6_mergeGroups 29 = .ok (.iaload, 1) := by decide +kernel
theorem dX6_mergeGroups_30 : decode cX6_mergeGroups 30 = .ok (.istore 7, 2) := by decide +kernel
theorem dX6_mergeGroups_32 : decode cX6_mergeGroups 32 = .ok (.aload_n 0, 1) := by decide +kernel
theorem dX6_mergeGroups_33 : decode cX6_mergeGroups 33 = .ok (.getfield 19, 3) := by decide +kernel
theorem dX6_mergeGroups_36 : decode cX6_mergeGroups 36 = .ok (.iload_n 1, 1) := by decide +kernel
theorem dX6_mergeGroups_37 : decode cX6_mergeGroups 37 = .ok (.iload_n 3, 1) := by decide +kernel
theorem dX6_mergeGroups_38 : decode cX6_mergeGroups 38 = .ok (.invokestatic 173, 3) := by decide +kernel
theorem dX6_mergeGroups_41 : decode cX6_mergeGroups 41 = .ok (.iload 5, 2) := by decide +kernel
theorem dX6_mergeGroups_43 : decode cX6_mergeGroups 43 = .ok (.iadd, 1) := by decide +kernel
theorem dX6_mergeGroups_44 : decode cX6_mergeGroups 44 = .ok (.iaload, 1) := by decide +kernel
theorem dX6_mergeGroups_45 : decode cX6_mergeGroups 45 = .ok (.istore 8, 2) := by decide +kernel
theorem dX6_mergeGroups_47 : decode cX6_mergeGroups 47 = .ok (.iload 4, 2) := by decide +kernel
theorem dX6_mergeGroups_49 : decode cX6_mergeGroups 49 = .ok (.iload 7, 2) := by decide +kernel
theorem dX6_mergeGroups_51 : decode cX6_mergeGroups 51 = .ok (.bipush (-9), 2) := by decide +kernel
theorem dX6_mergeGroups_53 : decode cX6_mergeGroups 53 = .ok (.if_icmp .eq 10, 3) := by decide +kernel
theorem dX6_mergeGroups_56 : decode cX6_mergeGroups 56 = .ok (.iload 8, 2) := by decide +kernel
theorem dX6_mergeGroups_58 : decode cX6_mergeGroups 58 = .ok (.bipush (-9), 2) := by decide +kernel
theorem dX6_mergeGroups_60 : decode cX6_mergeGroups 60 = .ok (.if_icmp .ne 7, 3) := by decide +kernel
theorem dX6_mergeGroups_63 : decode cX6_mergeGroups 63 = .ok (.iconst 0, 1) := by decide +kernel
theorem dX6_mergeGroups_64 : decode cX6_mergeGroups 64 = .ok (.goto 15, 3) := by decide +kernel
theorem dX6_mergeGroups_67 : decode cX6_mergeGroups 67 = .ok (.iload 7, 2) := by decide +kernel
theorem dX6_mergeGroups_69 : decode cX6_mergeGroups 69 = .ok (.iload 8, 2) := by decide +kernel
theorem dX6_mergeGroups_71 : decode cX6_mergeGroups 71 = .ok (.if_icmp .ne 7, 3) := by decide +kernel
theorem dX6_mergeGroups_74 : decode cX6_mergeGroups 74 = .ok (.iconst 2, 1) := by decide +kernel
theorem dX6_mergeGroups_75 : decode cX6_mergeGroups 75 = .ok (.goto 4, 3) := by decide +kernel
theorem dX6_mergeGroups_78 : decode cX6_mergeGroups 78 = .ok (.iconst 1, 1) := by decide +kernel
theorem dX6_mergeGroups_79 : decode cX6_mergeGroups 79 = .ok (.iadd, 1) := by decide +kernel
theorem dX6_mergeGroups_80 : decode cX6_mergeGroups 80 = .ok (.istore 4, 2) := by decide +kernel
theorem dX6_mergeGroups_82 : decode cX6_mergeGroups 82 = .ok (.aload_n 0, 1) := by decide +kernel
theorem dX6_mergeGroups_83 : decode cX6_mergeGroups 83 = .ok (.getfield 19, 3) := by decide +kernel
theorem dX6_mergeGroups_86 : decode cX6_mergeGroups 86 = .ok (.iload 6, 2) := by decide +kernel
theorem dX6_mergeGroups_88 : decode cX6_mergeGroups 88 = .ok (.iload 7, 2) := by decide +kernel
theorem dX6_mergeGroups_90 : decode cX6_mergeGroups 90 = .ok (.bipush (-9), 2) := by decide +kernel
theorem dX6_mergeGroups_92 : decode cX6_mergeGroups 92 = .ok (.if_icmp .ne 8, 3) := by decide +kernel
theorem dX6_mergeGroups_95 : decode cX6_mergeGroups 95 = .ok (.iload 8, 2) := by decide +kernel
theorem dX6_mergeGroups_97 : decode cX6_mergeGroups 97 = .ok (.goto 41, 3) := by decide +kernel
theorem dX6_mergeGroups_100 : decode cX6_mergeGroups 100 = .ok (.iload 8, 2) := by decide +kernel
theorem dX6_mergeGroups_102 : decode cX6_mergeGroups 102 = .ok (.bipush (-9), 2) := by decide +kernel
theorem dX6_mergeGroups_104 : decode cX6_mergeGroups 104 = .ok (.if_icmp .ne 8, 3) := by decide +kernel
theorem dX6_mergeGroups_107 : decode cX6_mergeGroups 107 = .ok (.iload 7, 2) := by decide +kernel
theorem dX6_mergeGroups_109 : decode cX6_mergeGroups 109 = .ok (.goto 29, 3) := by decide +kernel
theorem dX6_mergeGroups_112 : decode cX6_mergeGroups 112 = .ok (.iload 7, 2) := by decide +kernel
theorem dX6_mergeGroups_114 : decode cX6_mergeGroups 114 = .ok (.iload 8, 2) := by decide +kernel
theorem dX6_mergeGroups_116 : decode cX6_mergeGroups 116 = .ok (.if_icmp .ne 8, 3) := by decide +kernel
theorem dX6_mergeGroups_119 : decode cX6_mergeGroups 119 = .ok (.bipush (-9), 2) := by decide +kernel
theorem dX6_mergeGroups_121 : decode cX6_mergeGroups 121 = .ok (.goto 17, 3) := by decide +kernel
theorem dX6_mergeGroups_124 : decode cX6_mergeGroups 124 = .ok (.iload 7, 2) := by decide +kernel
theorem dX6_mergeGroups_126 : decode cX6_mergeGroups 126 = .ok (.iload 8, 2) := by decide +kernel
theorem dX6_mergeGroups_128 : decode cX6_mergeGroups 128 = .ok (.if_icmp .ge 8, 3) := by decide +kernel
theorem dX6_mergeGroups_131 : decode cX6_mergeGroups 131 = .ok (.iload 7, 2) := by decide +kernel
theorem dX6_mergeGroups_133 : decode cX6_mergeGroups 133 = .ok (.goto 5, 3) := by decide +kernel
theorem dX6_mergeGroups_136 : decode cX6_mergeGroups 136 = .ok (.iload 8, 2) := by decide +kernel
theorem dX6_mergeGroups_138 : decode cX6_mergeGroups 138 = .ok (.iastore, 1) := by decide +kernel
theorem dX6_mergeGroups_139 : decode cX6_mergeGroups 139 = .ok (.iinc 5 1, 3) := by decide +kernel
theorem dX6_mergeGroups_142 : decode cX6_mergeGroups 142 = .ok (.goto (-136), 3) := by decide +kernel
theorem dX6_mergeGroups_145 : decode cX6_mergeGroups 145 = .ok (.iload 4, 2) := by decide +kernel
theorem dX6_mergeGroups_147 : decode cX6_mergeGroups 147 = .ok (.ireturn, 1) := by decide +kernel
theorem dX6_readGroups_0 : decode cX6_readGroups 0 = .ok (.iconst 0, 1) := by decide +kernel
theorem dX6_readGroups_1 : decode cX6_readGroups 1 = .ok (.istore_n 1, 1) := by decide +kernel
theorem dX6_readGroups_2 : decode cX6_readGroups 2 = .ok (.iconst 0, 1) := by decide +kernel
theorem dX6_readGroups_3 : decode cX6_readGroups 3 = .ok (.istore_n 2, 1) := by decide +kernel
theorem dX6_readGroups_4 : decode cX6_readGroups 4 = .ok (.iconst 0, 1) := by decide +kernel
theorem dX6_readGroups_5 : decode cX6_readGroups 5 = .ok (.istore_n 3, 1) := by decide +kernel
theorem dX6_readGroups_6 : decode cX6_readGroups 6 = .ok (.iload_n 3, 1) := by decide +kernel
theorem dX6_readGroups_7 : decode cX6_readGroups 7 = .ok (.aload_n 0, 1) := by decide +kernel
theorem dX6_readGroups_8 : decode cX6_readGroups 8 = .ok (.getfield 7, 3) := by decide +kernel
theorem dX6_readGroups_11 : decode cX6_readGroups 11 = .ok (.iconst 0, 1) := by decide +kernel
theorem dX6_readGroups_12 : decode cX6_readGroups 12 = .ok (.iaload, 1) := by decide +kernel
theorem dX6_readGroups_13 : decode cX6_readGroups 13 = .ok (.if_icmp .ge 45, 3) := by decide +kernel
theorem dX6_readGroups_16 : decode cX6_readGroups 16 = .ok (.iload_n 2, 1) := by decide +kernel
theorem dX6_readGroups_17 : decode cX6_readGroups 17 = .ok (.iload_n 3, 1) := by decide +kernel
theorem dX6_readGroups_18 : decode cX6_readGroups 18 = .ok (.invokestatic 50, 3) := by decide +kernel
theorem dX6_readGroups_21 : decode cX6_readGroups 21 = .ok (.ifCond .ne 31, 3) := by decide +kernel
theorem dX6_readGroups_24 : decode cX6_readGroups 24 = .ok (.iload_n 2, 1) := by decide +kernel
theorem dX6_readGroups_25 : decode cX6_readGroups 25 = .ok (.aload_n 0, 1) := by decide +kernel
theorem dX6_readGroups_26 : decode cX6_readGroups 26 = .ok (.iload_n 3, 1) := by decide +kernel
theorem dX6_readGroups_27 : decode cX6_readGroups 27 = .ok (.invokevirtual 54, 3) := by decide +kernel
theorem dX6_readGroups_30 : decode cX6_readGroups 30 = .ok (.ior, 1) := by decide +kernel
theorem dX6_readGroups_31 : decode cX6_readGroups 31 = .ok (.istore_n 2, 1) := by decide +kernel
theorem dX6_readGroups_32 : decode cX6_readGroups 32 = .ok (.aload_n 0, 1) := by decide +kernel
theorem dX6_readGroups_33 : decode cX6_readGroups 33 = .ok (.getfield 22, 3) := by decide +kernel
theorem dX6_readGroups_36 : decode cX6_readGroups 36 = .ok (.iload_n 1, 1) := by decide +kernel
theorem dX6_readGroups_37 : decode cX6_readGroups 37 = .ok (.iload_n 3, 1) := by decide +kernel
theorem dX6_readGroups_38 : decode cX6_readGroups 38 = .ok (.iastore, 1) := by decide +kernel
theorem dX6_readGroups_39 : decode cX6_readGroups 39 = .ok (.aload_n 0, 1) := by decide +kernel
theorem dX6_readGroups_40 : decode cX6_readGroups 40 = .ok (.iload_n 1, 1) := by decide +kernel
theorem dX6_readGroups_41 : decode cX6_readGroups 41 = .ok (.aload_n 0, 1) := by decide +kernel
theorem dX6_readGroups_42 : decode cX6_readGroups 42 = .ok (.iload_n 3, 1) := by decide +kernel
theorem dX6_readGroups_43 : decode cX6_readGroups 43 = .ok (.invokevirtual 54, 3) := by decide +kernel
theorem dX6_readGroups_46 : decode cX6_readGroups 46 = .ok (.invokevirtual 164, 3) := by decide +kernel
theorem dX6_readGroups_49 : decode cX6_readGroups 49 = .ok (.iinc 1 1, 3) := by decide +kernel
theorem dX6_readGroups_52 : decode cX6_readGroups 52 = .ok (.iinc 3 1, 3) := by decide +kernel
theorem dX6_readGroups_55 : decode cX6_readGroups 55 = .ok (.goto (-49), 3) := by decide +kernel
theorem dX6_readGroups_58 : decode cX6_readGroups 58 = .ok (.iload_n 1, 1) := by decide +kernel
theorem dX6_readGroups_59 : decode cX6_readGroups 59 = .ok (.ireturn, 1) := by decide +kernel
theorem dX6_descend_0 : decode cX6_descend 0 = .ok (.iconst 0, 1) := by decide +kernel
theorem dX6_descend_1 : decode cX6_descend 1 = .ok (.istore_n 3, 1) := by decide +kernel
theorem dX6_descend_2 : decode cX6_descend 2 = .ok (.iload_n 3, 1) := by decide +kernel
theorem dX6_descend_3 : decode cX6_descend 3 = .ok (.bipush 60, 2) := by decide +kernel
theorem dX6_descend_5 : decode cX6_descend 5 = .ok (.if_icmp .ge 34, 3) := by decide +kernel
theorem dX6_descend_8 : decode cX6_descend 8 = .ok (.aload_n 0, 1) := by decide +kernel
theorem dX6_descend_9 : decode cX6_descend 9 = .ok (.getfield 19, 3) := by decide +kernel
theorem dX6_descend_12 : decode cX6_descend 12 = .ok (.bipush 60, 2) := by decide +kernel
theorem dX6_descend_14 : decode cX6_descend 14 = .ok (.iload_n 1, 1) := by decide +kernel
theorem dX6_descend_15 : decode cX6_descend 15 = .ok (.imul, 1) := by decide +kernel
theorem dX6_descend_16 : decode cX6_descend 16 = .ok (.bipush 60, 2) := by decide +kernel
theorem dX6_descend_18 : decode cX6_descend 18 = .ok (.iadd, 1) := by decide +kernel
theorem dX6_descend_19 : decode cX6_descend 19 = .ok (.iload_n 3, 1) := by decide +kernel
theorem dX6_descend_20 : decode cX6_descend 20 = .ok (.iadd, 1) := by decide +kernel
theorem dX6_descend_21 : decode cX6_descend 21 = .ok (.aload_n 0, 1) := by decide +kernel
theorem dX6_descend_22 : decode cX6_descend 22 = .ok (.getfield 19, 3) := by decide +kernel
theorem dX6_descend_25 : decode cX6_descend 25 = .ok (.bipush 60, 2) := by decide +kernel
theorem dX6_descend_27 : decode cX6_descend 27 = .ok (.iload_n 1, 1) := by decide +kernel
theorem dX6_descend_28 : decode cX6_descend 28 = .ok (.imul, 1) := by decide +kernel
theorem dX6_descend_29 : decode cX6_descend 29 = .ok (.iload_n 3, 1) := by decide +kernel
theorem dX6_descend_30 : decode cX6_descend 30 = .ok (.iadd, 1) := by decide +kernel
theorem dX6_descend_31 : decode cX6_descend 31 = .ok (.iaload, 1) := by decide +kernel
theorem dX6_descend_32 : decode cX6_descend 32 = .ok (.iastore, 1) := by decide +kernel
theorem dX6_descend_33 : decode cX6_descend 33 = .ok (.iinc 3 1, 3) := by decide +kernel
theorem dX6_descend_36 : decode cX6_descend 36 = .ok (.goto (-34), 3) := by decide +kernel
theorem dX6_descend_39 : decode cX6_descend 39 = .ok (.aload_n 0, 1) := by decide +kernel
theorem dX6_descend_40 : decode cX6_descend 40 = .ok (.getfield 31, 3) := by decide +kernel
theorem dX6_descend_43 : decode cX6_descend 43 = .ok (.iload_n 1, 1) := by decide +kernel
theorem dX6_descend_44 : decode cX6_descend 44 = .ok (.iconst 1, 1) := by decide +kernel
theorem dX6_descend_45 : decode cX6_descend 45 = .ok (.iadd, 1) := by decide +kernel
theorem dX6_descend_46 : decode cX6_descend 46 = .ok (.aload_n 0, 1) := by decide +kernel
theorem dX6_descend_47 : decode cX6_descend 47 = .ok (.getfield 31, 3) := by decide +kernel
theorem dX6_descend_50 : decode cX6_descend 50 = .ok (.iload_n 1, 1) := by decide +kernel
theorem dX6_descend_51 : decode cX6_descend 51 = .ok (.iaload, 1) := by decide +kernel
theorem dX6_descend_52 : decode cX6_descend 52 = .ok (.aload_n 0, 1) := by decide +kernel
theorem dX6_descend_53 : decode cX6_descend 53 = .ok (.iload_n 1, 1) := by decide +kernel
theorem dX6_descend_54 : decode cX6_descend 54 = .ok (.iconst 1, 1) := by decide +kernel
theorem dX6_descend_55 : decode cX6_descend 55 = .ok (.iadd, 1) := by decide +kernel
theorem dX6_descend_56 : decode cX6_descend 56 = .ok (.aload_n 0, 1) := by decide +kernel
theorem dX6_descend_57 : decode cX6_descend 57 = .ok (.getfield 25, 3) := by decide +kernel
theorem dX6_descend_60 : decode cX6_descend 60 = .ok (.iload_n 1, 1) := by decide +kernel
theorem dX6_descend_61 : decode cX6_descend 61 = .ok (.iaload, 1) := by decide +kernel
theorem dX6_descend_62 : decode cX6_descend 62 = .ok (.aload_n 0, 1) := by decide +kernel
theorem dX6_descend_63 : decode cX6_descend 63 = .ok (.getfield 28, 3) := by decide +kernel
theorem dX6_descend_66 : decode cX6_descend 66 = .ok (.iload_n 1, 1) := by decide +kernel
theorem dX6_descend_67 : decode cX6_descend 67 = .ok (.iaload, 1) := by decide +kernel
theorem dX6_descend_68 : decode cX6_descend 68 = .ok (.invokevirtual 167, 3) := by decide +kernel
theorem dX6_descend_71 : decode cX6_descend 71 = .ok (.iadd, 1) := by decide +kernel
theorem dX6_descend_72 : decode cX6_descend 72 = .ok (.iastore, 1) := by decide +kernel
theorem dX6_descend_73 : decode cX6_descend 73 = .ok (.iconst 0, 1) := by decide +kernel
theorem dX6_descend_74 : decode cX6_descend 74 = .ok (.istore_n 3, 1) := by decide +kernel
theorem dX6_descend_75 : decode cX6_descend 75 = .ok (.iload_n 3, 1) := by decide +kernel
theorem dX6_descend_76 : decode cX6_descend 76 = .ok (.bipush 10, 2) := by decide +kernel
theorem dX6_descend_78 : decode cX6_descend 78 = .ok (.if_icmp .ge 44, 3) := by decide +kernel
theorem dX6_descend_81 : decode cX6_descend 81 = .ok (.aload_n 0, 1) := by decide +kernel
theorem dX6_descend_82 : decode cX6_descend 82 = .ok (.getfield 19, 3) := by decide +kernel
theorem dX6_descend_85 : decode cX6_descend 85 = .ok (.iload_n 1, 1) := by decide +kernel
theorem dX6_descend_86 : decode cX6_descend 86 = .ok (.iconst 1, 1) := by decide +kernel
theorem dX6_descend_87 : decode cX6_descend 87 = .ok (.iadd, 1) := by decide +kernel
theorem dX6_descend_88 : decode cX6_descend 88 = .ok (.aload_n 0, 1) := by decide +kernel
theorem dX6_descend_89 : decode cX6_descend 89 = .ok (.getfield 28, 3) := by decide +kernel
theorem dX6_descend_92 : decode cX6_descend 92 = .ok (.iload_n 1, 1) := by decide +kernel
theorem dX6_descend_93 : decode cX6_descend 93 = .ok (.iaload, 1) := by decide +kernel
theorem dX6_descend_94 : decode cX6_descend 94 = .ok (.invokestatic 173, 3) := by decide +kernel
theorem dX6_descend_97 : decode cX6_descend 97 = .ok (.iload_n 3, 1) := by decide +kernel
theorem dX6_descend_98 : decode cX6_descend 98 = .ok (.iadd, 1) := by decide +kernel
theorem dX6_descend_99 : decode cX6_descend 99 = .ok (.aload_n 0, 1) := by decide +kernel
theorem dX6_descend_100 : decode cX6_descend 100 = .ok (.getfield 19, 3) := by decide +kernel
theorem dX6_descend_103 : decode cX6_descend 103 = .ok (.iload_n 1, 1) := by decide +kernel
theorem dX6_descend_104 : decode cX6_descend 104 = .ok (.iconst 1, 1) := by decide +kernel
theorem dX6_descend_105 : decode cX6_descend 105 = .ok (.iadd, 1) := by decide +kernel
theorem dX6_descend_106 : decode cX6_descend 106 = .ok (.iload_n 2, 1) := by decide +kernel
theorem dX6_descend_107 : decode cX6_descend 107 = .ok (.iconst 1, 1) := by decide +kernel
theorem dX6_descend_108 : decode cX6_descend 108 = .ok (.isub, 1) := by decide +kernel
theorem dX6_descend_109 : decode cX6_descend 109 = .ok (.invokestatic 173, 3) := by decide +kernel
theorem dX6_descend_112 : decode cX6_descend 112 = .ok (.iload_n 3, 1) := by decide +kernel
theorem dX6_descend_113 : decode cX6_descend 113 = .ok (.iadd, 1) := by decide +kernel
theorem dX6_descend_114 : decode cX6_descend 114 = .ok (.iaload, 1) := by decide +kernel
theorem dX6_descend_115 : decode cX6_descend 115 = .ok (.iastore, 1) := by decide +kernel
theorem dX6_descend_116 : decode cX6_descend 116 = .ok (.iinc 3 1, 3) := by decide +kernel
theorem dX6_descend_119 : decode cX6_descend 119 = .ok (.goto (-44), 3) := by decide +kernel
theorem dX6_descend_122 : decode cX6_descend 122 = .ok (.aload_n 0, 1) := by decide +kernel
theorem dX6_descend_123 : decode cX6_descend 123 = .ok (.getfield 25, 3) := by decide +kernel
theorem dX6_descend_126 : decode cX6_descend 126 = .ok (.iload_n 1, 1) := by decide +kernel
theorem dX6_descend_127 : decode cX6_descend 127 = .ok (.iconst 1, 1) := by decide +kernel
theorem dX6_descend_128 : decode cX6_descend 128 = .ok (.iadd, 1) := by decide +kernel
theorem dX6_descend_129 : decode cX6_descend 129 = .ok (.iconst 0, 1) := by decide +kernel
theorem dX6_descend_130 : decode cX6_descend 130 = .ok (.iastore, 1) := by decide +kernel
theorem dX6_descend_131 : decode cX6_descend 131 = .ok (.aload_n 0, 1) := by decide +kernel
theorem dX6_descend_132 : decode cX6_descend 132 = .ok (.getfield 28, 3) := by decide +kernel
theorem dX6_descend_135 : decode cX6_descend 135 = .ok (.iload_n 1, 1) := by decide +kernel
theorem dX6_descend_136 : decode cX6_descend 136 = .ok (.iconst 1, 1) := by decide +kernel
theorem dX6_descend_137 : decode cX6_descend 137 = .ok (.iadd, 1) := by decide +kernel
theorem dX6_descend_138 : decode cX6_descend 138 = .ok (.iconst 0, 1) := by decide +kernel
theorem dX6_descend_139 : decode cX6_descend 139 = .ok (.iastore, 1) := by decide +kernel
theorem dX6_descend_140 : decode cX6_descend 140 = .ok (.return_, 1) := by decide +kernel
theorem dX6_nextPair_0 : decode cX6_nextPair 0 = .ok (.aload_n 0, 1) := by decide +kernel
theorem dX6_nextPair_1 : decode cX6_nextPair 1 = .ok (.getfield 28, 3) := by decide +kernel
theorem dX6_nextPair_4 : decode cX6_nextPair 4 = .ok (.iload_n 1, 1) := by decide +kernel
theorem dX6_nextPair_5 : decode cX6_nextPair 5 = .ok (.dup2, 1) := by decide +kernel
theorem dX6_nextPair_6 : decode cX6_nextPair 6 = .ok (.iaload, 1) := by decide +kernel
theorem dX6_nextPair_7 : decode cX6_nextPair 7 = .ok (.iconst 1, 1) := by decide +kernel
theorem dX6_nextPair_8 : decode cX6_nextPair 8 = .ok (.iadd, 1) := by decide +kernel
theorem dX6_nextPair_9 : decode cX6_nextPair 9 = .ok (.iastore, 1) := by decide +kernel
theorem dX6_nextPair_10 : decode cX6_nextPair 10 = .ok (.aload_n 0, 1) := by decide +kernel
theorem dX6_nextPair_11 : decode cX6_nextPair 11 = .ok (.getfield 28, 3) := by decide +kernel
theorem dX6_nextPair_14 : decode cX6_nextPair 14 = .ok (.iload_n 1, 1) := by decide +kernel
theorem dX6_nextPair_15 : decode cX6_nextPair 15 = .ok (.iaload, 1) := by decide +kernel
theorem dX6_nextPair_16 : decode cX6_nextPair 16 = .ok (.iload_n 2, 1) := by decide +kernel
theorem dX6_nextPair_17 : decode cX6_nextPair 17 = .ok (.if_icmp .ne 27, 3) := by decide +kernel
theorem dX6_nextPair_20 : decode cX6_nextPair 20 = .ok (.aload_n 0, 1) := by decide +kernel
theorem dX6_nextPair_21 : decode cX6_nextPair 21 = .ok (.getfield 25, 3) := by decide +kernel
theorem dX6_nextPair_24 : decode cX6_nextPair 24 = .ok (.iload_n 1, 1) := by decide +kernel
theorem dX6_nextPair_25 : decode cX6_nextPair 25 = .ok (.dup2, 1) := by decide +kernel
theorem dX6_nextPair_26 : decode cX6_nextPair 26 = .ok (.iaload, 1) := by decide +kernel
theorem dX6_nextPair_27 : decode cX6_nextPair 27 = .ok (.iconst 1, 1) := by decide +kernel
theorem dX6_nextPair_28 : decode cX6_nextPair 28 = .ok (.iadd, 1) := by decide +kernel
theorem dX6_nextPair_29 : decode cX6_nextPair 29 = .ok (.iastore, 1) := by decide +kernel
theorem dX6_nextPair_30 : decode cX6_nextPair 30 = .ok (.aload_n 0, 1) := by decide +kernel
theorem dX6_nextPair_31 : decode cX6_nextPair 31 = .ok (.getfield 28, 3) := by decide +kernel
theorem dX6_nextPair_34 : decode cX6_nextPair 34 = .ok (.iload_n 1, 1) := by decide +kernel
theorem dX6_nextPair_35 : decode cX6_nextPair 35 = .ok (.aload_n 0, 1) := by decide +kernel
theorem dX6_nextPair_36 : decode cX6_nextPair 36 = .ok (.getfield 25, 3) := by decide +kernel
theorem dX6_nextPair_39 : decode cX6_nextPair 39 = .ok (.iload_n 1, 1) := by decide +kernel
theorem dX6_nextPair_40 : decode cX6_nextPair 40 = .ok (.iaload, 1) := by decide +kernel
theorem dX6_nextPair_41 : decode cX6_nextPair 41 = .ok (.iconst 1, 1) := by decide +kernel
theorem dX6_nextPair_42 : decode cX6_nextPair 42 = .ok (.iadd, 1) := by decide +kernel
theorem dX6_nextPair_43 : decode cX6_nextPair 43 = .ok (.iastore, 1) := by decide +kernel
theorem dX6_nextPair_44 : decode cX6_nextPair 44 = .ok (.aload_n 0, 1) := by decide +kernel
theorem dX6_nextPair_45 : decode cX6_nextPair 45 = .ok (.getfield 28, 3) := by decide +kernel
theorem dX6_nextPair_48 : decode cX6_nextPair 48 = .ok (.iload_n 1, 1) := by decide +kernel
theorem dX6_nextPair_49 : decode cX6_nextPair 49 = .ok (.iaload, 1) := by decide +kernel
theorem dX6_nextPair_50 : decode cX6_nextPair 50 = .ok (.iload_n 2, 1) := by decide +kernel
theorem dX6_nextPair_51 : decode cX6_nextPair 51 = .ok (.if_icmp .ge 7, 3) := by decide +kernel
theorem dX6_nextPair_54 : decode cX6_nextPair 54 = .ok (.iconst 1, 1) := by decide +kernel
theorem dX6_nextPair_55 : decode cX6_nextPair 55 = .ok (.goto 4, 3) := by decide +kernel
theorem dX6_nextPair_58 : decode cX6_nextPair 58 = .ok (.iconst 0, 1) := by decide +kernel
theorem dX6_nextPair_59 : decode cX6_nextPair 59 = .ok (.ireturn, 1) := by decide +kernel
theorem dX6_searchPlans_0 : decode cX6_searchPlans 0 = .ok (.aload_n 0, 1) := by decide +kernel
theorem dX6_searchPlans_1 : decode cX6_searchPlans 1 = .ok (.invokevirtual 176, 3) := by decide +kernel
theorem dX6_searchPlans_4 : decode cX6_searchPlans 4 = .ok (.istore_n 1, 1) := by decide +kernel
theorem dX6_searchPlans_5 : decode cX6_searchPlans 5 = .ok (.aload_n 0, 1) := by decide +kernel
theorem dX6_searchPlans_6 : decode cX6_searchPlans 6 = .ok (.iload_n 1, 1) := by decide +kernel
theorem dX6_searchPlans_7 : decode cX6_searchPlans 7 = .ok (.iconst 1, 1) := by decide +kernel
theorem dX6_searchPlans_8 : decode cX6_searchPlans 8 = .ok (.if_icmp .ne 7, 3) := by decide +kernel
theorem dX6_searchPlans_11 : decode cX6_searchPlans 11 = .ok (.iconst 0, 1) := by decide +kernel
theorem dX6_searchPlans_12 : decode cX6_searchPlans 12 = .ok (.goto 6, 3) := by decide +kernel
theorem dX6_searchPlans_15 : decode cX6_searchPlans 15 = .ok (.sipush 1000, 3) := by decide +kernel
theorem dX6_searchPlans_18 : decode cX6_searchPlans 18 = .ok (.putfield 180, 3) := by decide +kernel
theorem dX6_searchPlans_21 : decode cX6_searchPlans 21 = .ok (.aload_n 0, 1) := by decide +kernel
theorem dX6_searchPlans_22 : decode cX6_searchPlans 22 = .ok (.bipush (-9), 2) := by decide +kernel
theorem dX6_searchPlans_24 : decode cX6_searchPlans 24 = .ok (.putfield 183, 3) := by decide +kernel
theorem dX6_searchPlans_27 : decode cX6_searchPlans 27 = .ok (.iconst 0, 1) := by decide +kernel
theorem dX6_searchPlans_28 : decode cX6_searchPlans 28 = .ok (.istore_n 2, 1) := by decide +kernel
theorem dX6_searchPlans_29 : decode cX6_searchPlans 29 = .ok (.aload_n 0, 1) := by decide +kernel
theorem dX6_searchPlans_30 : decode cX6_searchPlans 30 = .ok (.getfield 25, 3) := by decide +kernel
theorem dX6_searchPlans_33 : decode cX6_searchPlans 33 = .ok (.iconst 0, 1) := by decide +kernel
theorem dX6_searchPlans_34 : decode cX6_searchPlans 34 = .ok (.iconst 0, 1) := by decide +kernel
theorem dX6_searchPlans_35 : decode cX6_searchPlans 35 = .ok (.iastore, 1) := by decide +kernel
theorem dX6_searchPlans_36 : decode cX6_searchPlans 36 = .ok (.aload_n 0, 1) := by decide +kernel
theorem dX6_searchPlans_37 : decode cX6_searchPlans 37 = .ok (.getfield 28, 3) := by decide +kernel
theorem dX6_searchPlans_40 : decode cX6_searchPlans 40 = .ok (.iconst 0, 1) := by decide +kernel
theorem dX6_searchPlans_41 : decode cX6_searchPlans 41 = .ok (.iconst 0, 1) := by decide +kernel
theorem dX6_searchPlans_42 : decode cX6_searchPlans 42 = .ok (.iastore, 1) := by decide +kernel
theorem dX6_searchPlans_43 : decode cX6_searchPlans 43 = .ok (.aload_n 0, 1) := by decide +kernel
theorem dX6_searchPlans_44 : decode cX6_searchPlans 44 = .ok (.getfield 31, 3) := by decide +kernel
theorem dX6_searchPlans_47 : decode cX6_searchPlans 47 = .ok (.iconst 0, 1) := by decide +kernel
theorem dX6_searchPlans_48 : decode cX6_searchPlans 48 = .ok (.iconst 0, 1) := by decide +kernel
theorem dX6_searchPlans_49 : decode cX6_searchPlans 49 = .ok (.iastore, 1) := by decide +kernel
theorem dX6_searchPlans_50 : decode cX6_searchPlans 50 = .ok (.iload_n 2, 1) := by decide +kernel
theorem dX6_searchPlans_51 : decode cX6_searchPlans 51 = .ok (.ifCond .lt 122, 3) := by decide +kernel
theorem dX6_searchPlans_54 : decode cX6_searchPlans 54 = .ok (.iload_n 1, 1) := by decide +kernel
theorem dX6_searchPlans_55 : decode cX6_searchPlans 55 = .ok (.iconst 1, 1) := by decide +kernel
theorem dX6_searchPlans_56 : decode cX6_searchPlans 56 = .ok (.if_icmp .le 117, 3) := by decide +kernel
theorem dX6_searchPlans_59 : decode cX6_searchPlans 59 = .ok (.aload_n 0, 1) := by decide +kernel
theorem dX6_searchPlans_60 : decode cX6_searchPlans 60 = .ok (.iload_n 2, 1) := by decide +kernel
theorem dX6_searchPlans_61 : decode cX6_searchPlans 61 = .ok (.iload_n 1, 1) := by decide +kernel
theorem dX6_searchPlans_62 : decode cX6_searchPlans 62 = .ok (.iload_n 2, 1) := by decide +kernel
theorem dX6_searchPlans_63 : decode cX6_searchPlans 63 = .ok (.isub, 1) := by decide +kernel
theorem dX6_searchPlans_64 : decode cX6_searchPlans 64 = .ok (.invokevirtual 186, 3) := by decide +kernel
theorem dX6_searchPlans_67 : decode cX6_searchPlans 67 = .ok (.ifCond .ne 9, 3) := by decide +kernel
theorem dX6_searchPlans_70 : decode cX6_searchPlans 70 = .ok (.iinc 2 (-1), 3) := by decide +kernel
theorem dX6_searchPlans_73 : decode cX6_searchPlans 73 = .ok (.goto (-23), 3) := by decide +kernel
theorem dX6_searchPlans_76 : decode cX6_searchPlans 76 = .ok (.aload_n 0, 1) := by decide +kernel
theorem dX6_searchPlans_77 : decode cX6_searchPlans 77 = .ok (.iload_n 2, 1) := by decide +kernel
theorem dX6_searchPlans_78 : decode cX6_searchPlans 78 = .ok (.iload_n 1, 1) := by decide +kernel
theorem dX6_searchPlans_79 : decode cX6_searchPlans 79 = .ok (.iload_n 2, 1) := by decide +kernel
theorem dX6_searchPlans_80 : decode cX6_searchPlans 80 = .ok (.isub, 1) := by decide +kernel
theorem dX6_searchPlans_81 : decode cX6_searchPlans 81 = .ok (.invokevirtual 189, 3) := by decide +kernel
theorem dX6_searchPlans_84 : decode cX6_searchPlans 84 = .ok (.iload_n 1, 1) := by decide +kernel
theorem dX6_searchPlans_85 : decode cX6_searchPlans 85 = .ok (.iload_n 2, 1) := by decide +kernel
theorem dX6_searchPlans_86 : decode cX6_searchPlans 86 = .ok (.isub, 1) := by decide +kernel
theorem dX6_searchPlans_87 : decode cX6_searchPlans 87 = .ok (.iconst 2, 1) := by decide +kernel
theorem dX6_searchPlans_88 : decode cX6_searchPlans 88 = .ok (.if_icmp .ne 7, 3) := by decide +kernel
theorem dX6_searchPlans_91 : decode cX6_searchPlans 91 = .ok (.iconst 1, 1) := by decide +kernel
theorem dX6_searchPlans_92 : decode cX6_searchPlans 92 = .ok (.goto 4, 3) := by decide +kernel
theorem dX6_searchPlans_95 : decode cX6_searchPlans 95 = .ok (.iconst 0, 1) := by decide +kernel
theorem dX6_searchPlans_96 : decode cX6_searchPlans 96 = .ok (.istore_n 3, 1) := by decide +kernel
theorem dX6_searchPlans_97 : decode cX6_searchPlans 97 = .ok (.iload_n 3, 1) := by decide +kernel
theorem dX6_searchPlans_98 : decode cX6_searchPlans 98 = .ok (.ifCond .eq 60, 3) := by decide +kernel
theorem dX6_searchPlans_101 : decode cX6_searchPlans 101 = .ok (.aload_n 0, 1) := by decide +kernel
theorem dX6_searchPlans_102 : decode cX6_searchPlans 102 = .ok (.getfield 31, 3) := by decide +kernel
theorem dX6_searchPlans_105 : decode cX6_searchPlans 105 = .ok (.iload_n 2, 1) := by decide +kernel
theorem dX6_searchPlans_106 : decode cX6_searchPlans 106 = .ok (.iconst 1, 1) := by decide +kernel
theorem dX6_searchPlans_107 : decode cX6_searchPlans 107 = .ok (.iadd, 1) := by decide +kernel
theorem dX6_searchPlans_108 : decode cX6_searchPlans 108 = .ok (.iaload, 1) := by decide +kernel
theorem dX6_searchPlans_109 : decode cX6_searchPlans 109 = .ok (.aload_n 0, 1) := by decide +kernel
theorem dX6_searchPlans_110 : decode cX6_searchPlans 110 = .ok (.getfield 180, 3) := by decide +kernel
theorem dX6_searchPlans_113 : decode cX6_searchPlans 113 = .ok (.if_icmp .ge 45, 3) := by decide +kernel
theorem dX6_searchPlans_116 : decode cX6_searchPlans 116 = .ok (.aload_n 0, 1) := by decide +kernel
theorem dX6_searchPlans_117 : decode cX6_searchPlans 117 = .ok (.aload_n 0, 1) := by decide +kernel
theorem dX6_searchPlans_118 : decode cX6_searchPlans 118 = .ok (.getfield 31, 3) := by decide +kernel
theorem dX6_searchPlans_121 : decode cX6_searchPlans 121 = .ok (.iload_n 2, 1) := by decide +kernel
theorem dX6_searchPlans_122 : decode cX6_searchPlans 122 = .ok (.iconst 1, 1) := by decide +kernel
theorem dX6_searchPlans_123 : decode cX6_searchPlans 123 = .ok (.iadd, 1) := by decide +kernel
theorem dX6_searchPlans_124 : decode cX6_searchPlans 124 = .ok (.iaload, 1) := by decide +kernel
theorem dX6_searchPlans_125 : decode cX6_searchPlans 125 = .ok (.putfield 180, 3) := by decide +kernel
theorem dX6_searchPlans_128 : decode cX6_searchPlans 128 = .ok (.aload_n 0, 1) := by decide +kernel
theorem dX6_searchPlans_129 : decode cX6_searchPlans 129 = .ok (.bipush 10, 2) := by decide +kernel
theorem dX6_searchPlans_131 : decode cX6_searchPlans 131 = .ok (.aload_n 0, 1) := by decide +kernel
theorem dX6_searchPlans_132 : decode cX6_searchPlans 132 = .ok (.getfield 22, 3) := by decide +kernel
theorem dX6_searchPlans_135 : decode cX6_searchPlans 135 = .ok (.aload_n 0, 1) := by decide +kernel
theorem dX6_searchPlans_136 : decode cX6_searchPlans 136 = .ok (.getfield 25, 3) := by decide +kernel
theorem dX6_searchPlans_139 : decode cX6_searchPlans 139 = .ok (.iconst 0, 1) := by decide +kernel
theorem dX6_searchPlans_140 : decode cX6_searchPlans 140 = .ok (.iaload, 1) := by decide +kernel
theorem dX6_searchPlans_141 : decode cX6_searchPlans 141 = .ok (.iaload, 1) := by decide +kernel
theorem dX6_searchPlans_142 : decode cX6_searchPlans 142 = .ok (.imul, 1) := by decide +kernel
theorem dX6_searchPlans_143 : decode cX6_searchPlans 143 = .ok (.aload_n 0, 1) := by decide +kernel
theorem dX6_searchPlans_144 : decode cX6_searchPlans 144 = .ok (.getfield 22, 3) := by decide +kernel
theorem dX6_searchPlans_147 : decode cX6_searchPlans 147 = .ok (.aload_n 0, 1) := by decide +kernel
theorem dX6_searchPlans_148 : decode cX6_searchPlans 148 = .ok (.getfield 28, 3) := by decide +kernel
theorem dX6_searchPlans_151 : decode cX6_searchPlans 151 = .ok (.iconst 0, 1) := by decide +kernel
theorem dX6_searchPlans_152 : decode cX6_searchPlans 152 = .ok (.iaload, 1) := by decide +kernel
theorem dX6_searchPlans_153 : decode cX6_searchPlans 153 = .ok (.iaload, 1) := by decide +kernel
theorem dX6_searchPlans_154 : decode cX6_searchPlans 154 = .ok (.iadd, 1) := by decide +kernel
theorem dX6_searchPlans_155 : decode cX6_searchPlans 155 = .ok (.putfield 183, 3) := by decide +kernel
theorem dX6_searchPlans_158 : decode cX6_searchPlans 158 = .ok (.iload_n 2, 1) := by decide +kernel
theorem dX6_searchPlans_159 : decode cX6_searchPlans 159 = .ok (.iload_n 3, 1) := by decide +kernel
theorem dX6_searchPlans_160 : decode cX6_searchPlans 160 = .ok (.ifCond .eq 7, 3) := by decide +kernel
theorem dX6_searchPlans_163 : decode cX6_searchPlans 163 = .ok (.iconst 0, 1) := by decide +kernel
theorem dX6_searchPlans_164 : decode cX6_searchPlans 164 = .ok (.goto 4, 3) := by decide +kernel
theorem dX6_searchPlans_167 : decode cX6_searchPlans 167 = .ok (.iconst 1, 1) := by decide +kernel
theorem dX6_searchPlans_168 : decode cX6_searchPlans 168 = .ok (.iadd, 1) := by decide +kernel
theorem dX6_searchPlans_169 : decode cX6_searchPlans 169 = .ok (.istore_n 2, 1) := by decide +kernel
theorem dX6_searchPlans_170 : decode cX6_searchPlans 170 = .ok (.goto (-120), 3) := by decide +kernel
theorem dX6_searchPlans_173 : decode cX6_searchPlans 173 = .ok (.return_, 1) := by decide +kernel
theorem dX6_fewestKills_0 : decode cX6_fewestKills 0 = .ok (.aload_n 0, 1) := by decide +kernel
theorem dX6_fewestKills_1 : decode cX6_fewestKills 1 = .ok (.invokevirtual 192, 3) := by decide +kernel
theorem dX6_fewestKills_4 : decode cX6_fewestKills 4 = .ok (.aload_n 0, 1) := by decide +kernel
theorem dX6_fewestKills_5 : decode cX6_fewestKills 5 = .ok (.getfield 180, 3) := by decide +kernel
theorem dX6_fewestKills_8 : decode cX6_fewestKills 8 = .ok (.ireturn, 1) := by decide +kernel
theorem dX6_bestFirstLink_0 : decode cX6_bestFirstLink 0 = .ok (.aload_n 0, 1) := by decide +kernel
theorem dX6_bestFirstLink_1 : decode cX6_bestFirstLink 1 = .ok (.invokevirtual 192, 3) := by decide +kernel
theorem dX6_bestFirstLink_4 : decode cX6_bestFirstLink 4 = .ok (.aload_n 0, 1) := by decide +kernel
theorem dX6_bestFirstLink_5 : decode cX6_bestFirstLink 5 = .ok (.getfield 183, 3) := by decide +kernel
theorem dX6_bestFirstLink_8 : decode cX6_bestFirstLink 8 = .ok (.ireturn, 1) := by decide +kernel
