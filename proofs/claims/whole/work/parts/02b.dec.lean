theorem dX4_init_0 : decode cX4_init 0 = .ok (.aload_n 0, 1) := by decide +kernel
theorem dX4_init_1 : decode cX4_init 1 = .ok (.invokespecial 3, 3) := by decide +kernel
theorem dX4_init_4 : decode cX4_init 4 = .ok (.aload_n 0, 1) := by decide +kernel
theorem dX4_init_5 : decode cX4_init 5 = .ok (.iconst 1, 1) := by decide +kernel
theorem dX4_init_6 : decode cX4_init 6 = .ok (.putfield 9, 3) := by decide +kernel
theorem dX4_init_9 : decode cX4_init 9 = .ok (.aload_n 0, 1) := by decide +kernel
theorem dX4_init_10 : decode cX4_init 10 = .ok (.iconst 0, 1) := by decide +kernel
theorem dX4_init_11 : decode cX4_init 11 = .ok (.putfield 15, 3) := by decide +kernel
theorem dX4_init_14 : decode cX4_init 14 = .ok (.aload_n 0, 1) := by decide +kernel
theorem dX4_init_15 : decode cX4_init 15 = .ok (.iconst 0, 1) := by decide +kernel
theorem dX4_init_16 : decode cX4_init 16 = .ok (.putfield 18, 3) := by decide +kernel
theorem dX4_init_19 : decode cX4_init 19 = .ok (.aload_n 0, 1) := by decide +kernel
theorem dX4_init_20 : decode cX4_init 20 = .ok (.iconst 0, 1) := by decide +kernel
theorem dX4_init_21 : decode cX4_init 21 = .ok (.putfield 21, 3) := by decide +kernel
theorem dX4_init_24 : decode cX4_init 24 = .ok (.aload_n 0, 1) := by decide +kernel
theorem dX4_init_25 : decode cX4_init 25 = .ok (.bipush 6, 2) := by decide +kernel
theorem dX4_init_27 : decode cX4_init 27 = .ok (.newarray .int, 2) := by decide +kernel
theorem dX4_init_29 : decode cX4_init 29 = .ok (.putfield 24, 3) := by decide +kernel
theorem dX4_init_32 : decode cX4_init 32 = .ok (.aload_n 0, 1) := by decide +kernel
theorem dX4_init_33 : decode cX4_init 33 = .ok (.bipush 60, 2) := by decide +kernel
theorem dX4_init_35 : decode cX4_init 35 = .ok (.newarray .int, 2) := by decide +kernel
theorem dX4_init_37 : decode cX4_init 37 = .ok (.putfield 28, 3) := by decide +kernel
theorem dX4_init_40 : decode cX4_init 40 = .ok (.aload_n 0, 1) := by decide +kernel
theorem dX4_init_41 : decode cX4_init 41 = .ok (.bipush 24, 2) := by decide +kernel
theorem dX4_init_43 : decode cX4_init 43 = .ok (.newarray .int, 2) := by decide +kernel
theorem dX4_init_45 : decode cX4_init 45 = .ok (.putfield 31, 3) := by decide +kernel
theorem dX4_init_48 : decode cX4_init 48 = .ok (.aload_n 0, 1) := by decide +kernel
theorem dX4_init_49 : decode cX4_init 49 = .ok (.bipush 24, 2) := by decide +kernel
theorem dX4_init_51 : decode cX4_init 51 = .ok (.newarray .int, 2) := by decide +kernel
theorem dX4_init_53 : decode cX4_init 53 = .ok (.putfield 34, 3) := by decide +kernel
theorem dX4_init_56 : decode cX4_init 56 = .ok (.aload_n 0, 1) := by decide +kernel
theorem dX4_init_57 : decode cX4_init 57 = .ok (.bipush 24, 2) := by decide +kernel
theorem dX4_init_59 : decode cX4_init 59 = .ok (.newarray .int, 2) := by decide +kernel
theorem dX4_init_61 : decode cX4_init 61 = .ok (.putfield 37, 3) := by decide +kernel
theorem dX4_init_64 : decode cX4_init 64 = .ok (.aload_n 0, 1) := by decide +kernel
theorem dX4_init_65 : decode cX4_init 65 = .ok (.bipush 24, 2) := by decide +kernel
theorem dX4_init_67 : decode cX4_init 67 = .ok (.newarray .int, 2) := by decide +kernel
theorem dX4_init_69 : decode cX4_init 69 = .ok (.putfield 40, 3) := by decide +kernel
theorem dX4_init_72 : decode cX4_init 72 = .ok (.aload_n 0, 1) := by decide +kernel
theorem dX4_init_73 : decode cX4_init 73 = .ok (.getfield 28, 3) := by decide +kernel
theorem dX4_init_76 : decode cX4_init 76 = .ok (.iconst (-1), 1) := by decide +kernel
theorem dX4_init_77 : decode cX4_init 77 = .ok (.invokestatic 43, 3) := by decide +kernel
theorem dX4_init_80 : decode cX4_init 80 = .ok (.return_, 1) := by decide +kernel
theorem dX4_reset_0 : decode cX4_reset 0 = .ok (.aload_n 0, 1) := by decide +kernel
theorem dX4_reset_1 : decode cX4_reset 1 = .ok (.iload_n 1, 1) := by decide +kernel
theorem dX4_reset_2 : decode cX4_reset 2 = .ok (.putfield 9, 3) := by decide +kernel
theorem dX4_reset_5 : decode cX4_reset 5 = .ok (.aload_n 0, 1) := by decide +kernel
theorem dX4_reset_6 : decode cX4_reset 6 = .ok (.iconst 0, 1) := by decide +kernel
theorem dX4_reset_7 : decode cX4_reset 7 = .ok (.putfield 15, 3) := by decide +kernel
theorem dX4_reset_10 : decode cX4_reset 10 = .ok (.aload_n 0, 1) := by decide +kernel
theorem dX4_reset_11 : decode cX4_reset 11 = .ok (.iconst 0, 1) := by decide +kernel
theorem dX4_reset_12 : decode cX4_reset 12 = .ok (.putfield 18, 3) := by decide +kernel
theorem dX4_reset_15 : decode cX4_reset 15 = .ok (.aload_n 0, 1) := by decide +kernel
theorem dX4_reset_16 : decode cX4_reset 16 = .ok (.iconst 0, 1) := by decide +kernel
theorem dX4_reset_17 : decode cX4_reset 17 = .ok (.putfield 21, 3) := by decide +kernel
theorem dX4_reset_20 : decode cX4_reset 20 = .ok (.aload_n 0, 1) := by decide +kernel
theorem dX4_reset_21 : decode cX4_reset 21 = .ok (.getfield 24, 3) := by decide +kernel
theorem dX4_reset_24 : decode cX4_reset 24 = .ok (.iconst 0, 1) := by decide +kernel
theorem dX4_reset_25 : decode cX4_reset 25 = .ok (.invokestatic 43, 3) := by decide +kernel
theorem dX4_reset_28 : decode cX4_reset 28 = .ok (.aload_n 0, 1) := by decide +kernel
theorem dX4_reset_29 : decode cX4_reset 29 = .ok (.getfield 28, 3) := by decide +kernel
theorem dX4_reset_32 : decode cX4_reset 32 = .ok (.iconst (-1), 1) := by decide +kernel
theorem dX4_reset_33 : decode cX4_reset 33 = .ok (.invokestatic 43, 3) := by decide +kernel
theorem dX4_reset_36 : decode cX4_reset 36 = .ok (.aload_n 0, 1) := by decide +kernel
theorem dX4_reset_37 : decode cX4_reset 37 = .ok (.getfield 31, 3) := by decide +kernel
theorem dX4_reset_40 : decode cX4_reset 40 = .ok (.iconst 0, 1) := by decide +kernel
theorem dX4_reset_41 : decode cX4_reset 41 = .ok (.invokestatic 43, 3) := by decide +kernel
theorem dX4_reset_44 : decode cX4_reset 44 = .ok (.aload_n 0, 1) := by decide +kernel
theorem dX4_reset_45 : decode cX4_reset 45 = .ok (.getfield 34, 3) := by decide +kernel
theorem dX4_reset_48 : decode cX4_reset 48 = .ok (.iconst 0, 1) := by decide +kernel
theorem dX4_reset_49 : decode cX4_reset 49 = .ok (.invokestatic 43, 3) := by decide +kernel
theorem dX4_reset_52 : decode cX4_reset 52 = .ok (.return_, 1) := by decide +kernel
theorem dX4_copyFrom_0 : decode cX4_copyFrom 0 = .ok (.aload_n 0, 1) := by decide +kernel
theorem dX4_copyFrom_1 : decode cX4_copyFrom 1 = .ok (.aload_n 1, 1) := by decide +kernel
theorem dX4_copyFrom_2 : decode cX4_copyFrom 2 = .ok (.getfield 9, 3) := by decide +kernel
theorem dX4_copyFrom_5 : decode cX4_copyFrom 5 = .ok (.putfield 9, 3) := by decide +kernel
theorem dX4_copyFrom_8 : decode cX4_copyFrom 8 = .ok (.aload_n 0, 1) := by decide +kernel
theorem dX4_copyFrom_9 : decode cX4_copyFrom 9 = .ok (.aload_n 1, 1) := by decide +kernel
theorem dX4_copyFrom_10 : decode cX4_copyFrom 10 = .ok (.getfield 15, 3) := by decide +kernel
theorem dX4_copyFrom_13 : decode cX4_copyFrom 13 = .ok (.putfield 15, 3) := by decide +kernel
theorem dX4_copyFrom_16 : decode cX4_copyFrom 16 = .ok (.aload_n 0, 1) := by decide +kernel
theorem dX4_copyFrom_17 : decode cX4_copyFrom 17 = .ok (.aload_n 1, 1) := by decide +kernel
theorem dX4_copyFrom_18 : decode cX4_copyFrom 18 = .ok (.getfield 18, 3) := by decide +kernel
theorem dX4_copyFrom_21 : decode cX4_copyFrom 21 = .ok (.putfield 18, 3) := by decide +kernel
theorem dX4_copyFrom_24 : decode cX4_copyFrom 24 = .ok (.aload_n 0, 1) := by decide +kernel
theorem dX4_copyFrom_25 : decode cX4_copyFrom 25 = .ok (.aload_n 1, 1) := by decide +kernel
theorem dX4_copyFrom_26 : decode cX4_copyFrom 26 = .ok (.getfield 21, 3) := by decide +kernel
theorem dX4_copyFrom_29 : decode cX4_copyFrom 29 = .ok (.putfield 21, 3) := by decide +kernel
theorem dX4_copyFrom_32 : decode cX4_copyFrom 32 = .ok (.aload_n 1, 1) := by decide +kernel
theorem dX4_copyFrom_33 : decode cX4_copyFrom 33 = .ok (.getfield 24, 3) := by decide +kernel
theorem dX4_copyFrom_36 : decode cX4_copyFrom 36 = .ok (.iconst 0, 1) := by decide +kernel
theorem dX4_copyFrom_37 : decode cX4_copyFrom 37 = .ok (.aload_n 0, 1) := by decide +kernel
theorem dX4_copyFrom_38 : decode cX4_copyFrom 38 = .ok (.getfield 24, 3) := by decide +kernel
theorem dX4_copyFrom_41 : decode cX4_copyFrom 41 = .ok (.iconst 0, 1) := by decide +kernel
theorem dX4_copyFrom_42 : decode cX4_copyFrom 42 = .ok (.bipush 6, 2) := by decide +kernel
theorem dX4_copyFrom_44 : decode cX4_copyFrom 44 = .ok (.invokestatic 49, 3) := by decide +kernel
theorem dX4_copyFrom_47 : decode cX4_copyFrom 47 = .ok (.aload_n 1, 1) := by decide +kernel
theorem dX4_copyFrom_48 : decode cX4_copyFrom 48 = .ok (.getfield 28, 3) := by decide +kernel
theorem dX4_copyFrom_51 : decode cX4_copyFrom 51 = .ok (.iconst 0, 1) := by decide +kernel
theorem dX4_copyFrom_52 : decode cX4_copyFrom 52 = .ok (.aload_n 0, 1) := by decide +kernel
theorem dX4_copyFrom_53 : decode cX4_copyFrom 53 = .ok (.getfield 28, 3) := by decide +kernel
theorem dX4_copyFrom_56 : decode cX4_copyFrom 56 = .ok (.iconst 0, 1) := by decide +kernel
theorem dX4_copyFrom_57 : decode cX4_copyFrom 57 = .ok (.bipush 60, 2) := by decide +kernel
theorem dX4_copyFrom_59 : decode cX4_copyFrom 59 = .ok (.invokestatic 49, 3) := by decide +kernel
theorem dX4_copyFrom_62 : decode cX4_copyFrom 62 = .ok (.aload_n 1, 1) := by decide +kernel
theorem dX4_copyFrom_63 : decode cX4_copyFrom 63 = .ok (.getfield 31, 3) := by decide +kernel
theorem dX4_copyFrom_66 : decode cX4_copyFrom 66 = .ok (.iconst 0, 1) := by decide +kernel
theorem dX4_copyFrom_67 : decode cX4_copyFrom 67 = .ok (.aload_n 0, 1) := by decide +kernel
theorem dX4_copyFrom_68 : decode cX4_copyFrom 68 = .ok (.getfield 31, 3) := by decide +kernel
theorem dX4_copyFrom_71 : decode cX4_copyFrom 71 = .ok (.iconst 0, 1) := by decide +kernel
theorem dX4_copyFrom_72 : decode cX4_copyFrom 72 = .ok (.bipush 24, 2) := by decide +kernel
theorem dX4_copyFrom_74 : decode cX4_copyFrom 74 = .ok (.invokestatic 49, 3) := by decide +kernel
theorem dX4_copyFrom_77 : decode cX4_copyFrom 77 = .ok (.aload_n 1, 1) := by decide +kernel
theorem dX4_copyFrom_78 : decode cX4_copyFrom 78 = .ok (.getfield 34, 3) := by decide +kernel
theorem dX4_copyFrom_81 : decode cX4_copyFrom 81 = .ok (.iconst 0, 1) := by decide +kernel
theorem dX4_copyFrom_82 : decode cX4_copyFrom 82 = .ok (.aload_n 0, 1) := by decide +kernel
theorem dX4_copyFrom_83 : decode cX4_copyFrom 83 = .ok (.getfield 34, 3) := by decide +kernel
theorem dX4_copyFrom_86 : decode cX4_copyFrom 86 = .ok (.iconst 0, 1) := by decide +kernel
theorem dX4_copyFrom_87 : decode cX4_copyFrom 87 = .ok (.bipush 24, 2) := by decide +kernel
theorem dX4_copyFrom_89 : decode cX4_copyFrom 89 = .ok (.invokestatic 49, 3) := by decide +kernel
theorem dX4_copyFrom_92 : decode cX4_copyFrom 92 = .ok (.aload_n 1, 1) := by decide +kernel
theorem dX4_copyFrom_93 : decode cX4_copyFrom 93 = .ok (.getfield 37, 3) := by decide +kernel
theorem dX4_copyFrom_96 : decode cX4_copyFrom 96 = .ok (.iconst 0, 1) := by decide +kernel
theorem dX4_copyFrom_97 : decode cX4_copyFrom 97 = .ok (.aload_n 0, 1) := by decide +kernel
theorem dX4_copyFrom_98 : decode cX4_copyFrom 98 = .ok (.getfield 37, 3) := by decide +kernel
theorem dX4_copyFrom_101 : decode cX4_copyFrom 101 = .ok (.iconst 0, 1) := by decide +kernel
theorem dX4_copyFrom_102 : decode cX4_copyFrom 102 = .ok (.bipush 24, 2) := by decide +kernel
theorem dX4_copyFrom_104 : decode cX4_copyFrom 104 = .ok (.invokestatic 49, 3) := by decide +kernel
theorem dX4_copyFrom_107 : decode cX4_copyFrom 107 = .ok (.aload_n 1, 1) := by decide +kernel
theorem dX4_copyFrom_108 : decode cX4_copyFrom 108 = .ok (.getfield 40, 3) := by decide +kernel
theorem dX4_copyFrom_111 : decode cX4_copyFrom 111 = .ok (.iconst 0, 1) := by decide +kernel
theorem dX4_copyFrom_112 : decode cX4_copyFrom 112 = .ok (.aload_n 0, 1) := by decide +kernel
theorem dX4_copyFrom_113 : decode cX4_copyFrom 113 = .ok (.getfield 40, 3) := by decide +kernel
theorem dX4_copyFrom_116 : decode cX4_copyFrom 116 = .ok (.iconst 0, 1) := by decide +kernel
theorem dX4_copyFrom_117 : decode cX4_copyFrom 117 = .ok (.bipush 24, 2) := by decide +kernel
theorem dX4_copyFrom_119 : decode cX4_copyFrom 119 = .ok (.invokestatic 49, 3) := by decide +kernel
theorem dX4_copyFrom_122 : decode cX4_copyFrom 122 = .ok (.return_, 1) := by decide +kernel
theorem dX4_userCell_0 : decode cX4_userCell 0 = .ok (.iload_n 0, 1) := by decide +kernel
theorem dX4_userCell_1 : decode cX4_userCell 1 = .ok (.bipush 10, 2) := by decide +kernel
theorem dX4_userCell_3 : decode cX4_userCell 3 = .ok (.imul, 1) := by decide +kernel
theorem dX4_userCell_4 : decode cX4_userCell 4 = .ok (.iload_n 1, 1) := by decide +kernel
theorem dX4_userCell_5 : decode cX4_userCell 5 = .ok (.iadd, 1) := by decide +kernel
theorem dX4_userCell_6 : decode cX4_userCell 6 = .ok (.ireturn, 1) := by decide +kernel
theorem dX4_channelCell_0 : decode cX4_channelCell 0 = .ok (.iload_n 0, 1) := by decide +kernel
theorem dX4_channelCell_1 : decode cX4_channelCell 1 = .ok (.iconst 4, 1) := by decide +kernel
theorem dX4_channelCell_2 : decode cX4_channelCell 2 = .ok (.imul, 1) := by decide +kernel
theorem dX4_channelCell_3 : decode cX4_channelCell 3 = .ok (.iload_n 1, 1) := by decide +kernel
theorem dX4_channelCell_4 : decode cX4_channelCell 4 = .ok (.iadd, 1) := by decide +kernel
theorem dX4_channelCell_5 : decode cX4_channelCell 5 = .ok (.ireturn, 1) := by decide +kernel
theorem dX4_hasServer_0 : decode cX4_hasServer 0 = .ok (.iload_n 1, 1) := by decide +kernel
theorem dX4_hasServer_1 : decode cX4_hasServer 1 = .ok (.ifCond .lt 15, 3) := by decide +kernel
theorem dX4_hasServer_4 : decode cX4_hasServer 4 = .ok (.iload_n 1, 1) := by decide +kernel
theorem dX4_hasServer_5 : decode cX4_hasServer 5 = .ok (.aload_n 0, 1) := by decide +kernel
theorem dX4_hasServer_6 : decode cX4_hasServer 6 = .ok (.getfield 9, 3) := by decide +kernel
theorem dX4_hasServer_9 : decode cX4_hasServer 9 = .ok (.if_icmp .ge 7, 3) := by decide +kernel
theorem dX4_hasServer_12 : decode cX4_hasServer 12 = .ok (.iconst 1, 1) := by decide +kernel
theorem dX4_hasServer_13 : decode cX4_hasServer 13 = .ok (.goto 4, 3) := by decide +kernel
theorem dX4_hasServer_16 : decode cX4_hasServer 16 = .ok (.iconst 0, 1) := by decide +kernel
theorem dX4_hasServer_17 : decode cX4_hasServer 17 = .ok (.ireturn, 1) := by decide +kernel
theorem dX4_hasServers_0 : decode cX4_hasServers 0 = .ok (.aload_n 0, 1) := by decide +kernel
theorem dX4_hasServers_1 : decode cX4_hasServers 1 = .ok (.iload_n 1, 1) := by decide +kernel
theorem dX4_hasServers_2 : decode cX4_hasServers 2 = .ok (.invokevirtual 55, 3) := by decide +kernel
theorem dX4_hasServers_5 : decode cX4_hasServers 5 = .ok (.ifCond .eq 15, 3) := by decide +kernel
theorem dX4_hasServers_8 : decode cX4_hasServers 8 = .ok (.aload_n 0, 1) := by decide +kernel
theorem dX4_hasServers_9 : decode cX4_hasServers 9 = .ok (.iload_n 2, 1) := by decide +kernel
theorem dX4_hasServers_10 : decode cX4_hasServers 10 = .ok (.invokevirtual 55, 3) := by decide +kernel
theorem dX4_hasServers_13 : decode cX4_hasServers 13 = .ok (.ifCond .eq 7, 3) := by decide +kernel
theorem dX4_hasServers_16 : decode cX4_hasServers 16 = .ok (.iconst 1, 1) := by decide +kernel
theorem dX4_hasServers_17 : decode cX4_hasServers 17 = .ok (.goto 4, 3) := by decide +kernel
theorem dX4_hasServers_20 : decode cX4_hasServers 20 = .ok (.iconst 0, 1) := by decide +kernel
theorem dX4_hasServers_21 : decode cX4_hasServers 21 = .ok (.ireturn, 1) := by decide +kernel
theorem dX4_areLinked_0 : decode cX4_areLinked 0 = .ok (.aload_n 0, 1) := by decide +kernel
theorem dX4_areLinked_1 : decode cX4_areLinked 1 = .ok (.getfield 24, 3) := by decide +kernel
theorem dX4_areLinked_4 : decode cX4_areLinked 4 = .ok (.iload_n 1, 1) := by decide +kernel
theorem dX4_areLinked_5 : decode cX4_areLinked 5 = .ok (.iaload, 1) := by decide +kernel
theorem dX4_areLinked_6 : decode cX4_areLinked 6 = .ok (.iload_n 2, 1) := by decide +kernel
theorem dX4_areLinked_7 : decode cX4_areLinked 7 = .ok (.invokestatic 59, 3) := by decide +kernel
theorem dX4_areLinked_10 : decode cX4_areLinked 10 = .ok (.ireturn, 1) := by decide +kernel
theorem dX4_link_0 : decode cX4_link 0 = .ok (.aload_n 0, 1) := by decide +kernel
theorem dX4_link_1 : decode cX4_link 1 = .ok (.getfield 24, 3) := by decide +kernel
theorem dX4_link_4 : decode cX4_link 4 = .ok (.iload_n 1, 1) := by decide +kernel
theorem dX4_link_5 : decode cX4_link 5 = .ok (.aload_n 0, 1) := by decide +kernel
theorem dX4_link_6 : decode cX4_link 6 = .ok (.getfield 24, 3) := by decide +kernel
theorem dX4_link_9 : decode cX4_link 9 = .ok (.iload_n 1, 1) := by decide +kernel
theorem dX4_link_10 : decode cX4_link 10 = .ok (.iaload, 1) := by decide +kernel
theorem dX4_link_11 : decode cX4_link 11 = .ok (.iload_n 2, 1) := by decide +kernel
theorem dX4_link_12 : decode cX4_link 12 = .ok (.iconst 1, 1) := by decide +kernel
theorem dX4_link_13 : decode cX4_link 13 = .ok (.invokestatic 63, 3) := by decide +kernel
theorem dX4_link_16 : decode cX4_link 16 = .ok (.iastore, 1) := by decide +kernel
theorem dX4_link_17 : decode cX4_link 17 = .ok (.aload_n 0, 1) := by decide +kernel
theorem dX4_link_18 : decode cX4_link 18 = .ok (.getfield 24, 3) := by decide +kernel
theorem dX4_link_21 : decode cX4_link 21 = .ok (.iload_n 2, 1) := by decide +kernel
theorem dX4_link_22 : decode cX4_link 22 = .ok (.aload_n 0, 1) := by decide +kernel
theorem dX4_link_23 : decode cX4_link 23 = .ok (.getfield 24, 3) := by decide +kernel
theorem dX4_link_26 : decode cX4_link 26 = .ok (.iload_n 2, 1) := by decide +kernel
theorem dX4_link_27 : decode cX4_link 27 = .ok (.iaload, 1) := by decide +kernel
theorem dX4_link_28 : decode cX4_link 28 = .ok (.iload_n 1, 1) := by decide +kernel
theorem dX4_link_29 : decode cX4_link 29 = .ok (.iconst 1, 1) := by decide +kernel
theorem dX4_link_30 : decode cX4_link 30 = .ok (.invokestatic 63, 3) := by decide +kernel
theorem dX4_link_33 : decode cX4_link 33 = .ok (.iastore, 1) := by decide +kernel
theorem dX4_link_34 : decode cX4_link 34 = .ok (.return_, 1) := by decide +kernel
theorem dX4_unlink_0 : decode cX4_unlink 0 = .ok (.aload_n 0, 1) := by decide +kernel
theorem dX4_unlink_1 : decode cX4_unlink 1 = .ok (.getfield 24, 3) := by decide +kernel
theorem dX4_unlink_4 : decode cX4_unlink 4 = .ok (.iload_n 1, 1) := by decide +kernel
theorem dX4_unlink_5 : decode cX4_unlink 5 = .ok (.aload_n 0, 1) := by decide +kernel
theorem dX4_unlink_6 : decode cX4_unlink 6 = .ok (.getfield 24, 3) := by decide +kernel
theorem dX4_unlink_9 : decode cX4_unlink 9 = .ok (.iload_n 1, 1) := by decide +kernel
theorem dX4_unlink_10 : decode cX4_unlink 10 = .ok (.iaload, 1) := by decide +kernel
theorem dX4_unlink_11 : decode cX4_unlink 11 = .ok (.iload_n 2, 1) := by decide +kernel
theorem dX4_unlink_12 : decode cX4_unlink 12 = .ok (.iconst 0, 1) := by decide +kernel
theorem dX4_unlink_13 : decode cX4_unlink 13 = .ok (.invokestatic 63, 3) := by decide +kernel
theorem dX4_unlink_16 : decode cX4_unlink 16 = .ok (.iastore, 1) := by decide +kernel
theorem dX4_unlink_17 : decode cX4_unlink 17 = .ok (.aload_n 0, 1) := by decide +kernel
theorem dX4_unlink_18 : decode cX4_unlink 18 = .ok (.getfield 24, 3) := by decide +kernel
theorem dX4_unlink_21 : decode cX4_unlink 21 = .ok (.iload_n 2, 1) := by decide +kernel
theorem dX4_unlink_22 : decode cX4_unlink 22 = .ok (.aload_n 0, 1) := by decide +kernel
theorem dX4_unlink_23 : decode cX4_unlink 23 = .ok (.getfield 24, 3) := by decide +kernel
theorem dX4_unlink_26 : decode cX4_unlink 26 = .ok (.iload_n 2, 1) := by decide +kernel
theorem dX4_unlink_27 : decode cX4_unlink 27 = .ok (.iaload, 1) := by decide +kernel
theorem dX4_unlink_28 : decode cX4_unlink 28 = .ok (.iload_n 1, 1) := by decide +kernel
theorem dX4_unlink_29 : decode cX4_unlink 29 = .ok (.iconst 0, 1) := by decide +kernel
theorem dX4_unlink_30 : decode cX4_unlink 30 = .ok (.invokestatic 63, 3) := by decide +kernel
theorem dX4_unlink_33 : decode cX4_unlink 33 = .ok (.iastore, 1) := by decide +kernel
theorem dX4_unlink_34 : decode cX4_unlink 34 = .ok (.return_, 1) := by decide +kernel
theorem dX4_withNeighbours_0 : decode cX4_withNeighbours 0 = .ok (.iload_n 1, 1) := by decide +kernel
theorem dX4_withNeighbours_1 : decode cX4_withNeighbours 1 = .ok (.istore_n 2, 1) := by decide +kernel
theorem dX4_withNeighbours_2 : decode cX4_withNeighbours 2 = .ok (.iconst 0, 1) := by decide +kernel
theorem dX4_withNeighbours_3 : decode cX4_withNeighbours 3 = .ok (.istore_n 3, 1) := by decide +kernel
theorem dX4_withNeighbours_4 : decode cX4_withNeighbours 4 = .ok (.iload_n 3, 1) := by decide +kernel
theorem dX4_withNeighbours_5 : decode cX4_withNeighbours 5 = .ok (.bipush 6, 2) := by decide +kernel
theorem dX4_withNeighbours_7 : decode cX4_withNeighbours 7 = .ok (.if_icmp .ge 26, 3) := by decide +kernel
theorem dX4_withNeighbours_10 : decode cX4_withNeighbours 10 = .ok (.iload_n 1, 1) := by decide +kernel
theorem dX4_withNeighbours_11 : decode cX4_withNeighbours 11 = .ok (.iload_n 3, 1) := by decide +kernel
theorem dX4_withNeighbours_12 : decode cX4_withNeighbours 12 = .ok (.invokestatic 59, 3) := by decide +kernel
theorem dX4_withNeighbours_15 : decode cX4_withNeighbours 15 = .ok (.ifCond .eq 12, 3) := by decide +kernel
theorem dX4_withNeighbours_18 : decode cX4_withNeighbours 18 = .ok (.iload_n 2, 1) := by decide +kernel
theorem dX4_withNeighbours_19 : decode cX4_withNeighbours 19 = .ok (.aload_n 0, 1) := by decide +kernel
theorem dX4_withNeighbours_20 : decode cX4_withNeighbours 20 = .ok (.getfield 24, 3) := by decide +kernel
theorem dX4_withNeighbours_23 : decode cX4_withNeighbours 23 = .ok (.iload_n 3, 1) := by decide +kernel
theorem dX4_withNeighbours_24 : decode cX4_withNeighbours 24 = .ok (.iaload, 1) := by decide +kernel
theorem dX4_withNeighbours_25 : decode cX4_withNeighbours 25 = .ok (.ior, 1) := by decide +kernel
theorem dX4_withNeighbours_26 : decode cX4_withNeighbours 26 = .ok (.istore_n 2, 1) := by decide +kernel
theorem dX4_withNeighbours_27 : decode cX4_withNeighbours 27 = .ok (.iinc 3 1, 3) := by decide +kernel
theorem dX4_withNeighbours_30 : decode cX4_withNeighbours 30 = .ok (.goto (-26), 3) := by decide +kernel
theorem dX4_withNeighbours_33 : decode cX4_withNeighbours 33 = .ok (.iload_n 2, 1) := by decide +kernel
theorem dX4_withNeighbours_34 : decode cX4_withNeighbours 34 = .ok (.ireturn, 1) := by decide +kernel
theorem dX4_networkOf_0 : decode cX4_networkOf 0 = .ok (.iconst 1, 1) := by decide +kernel
theorem dX4_networkOf_1 : decode cX4_networkOf 1 = .ok (.iload_n 1, 1) := by decide +kernel
theorem dX4_networkOf_2 : decode cX4_networkOf 2 = .ok (.ishl, 1) := by decide +kernel
theorem dX4_networkOf_3 : decode cX4_networkOf 3 = .ok (.istore_n 2, 1) := by decide +kernel
theorem dX4_networkOf_4 : decode cX4_networkOf 4 = .ok (.iconst 1, 1) := by decide +kernel
theorem dX4_networkOf_5 : decode cX4_networkOf 5 = .ok (.istore_n 3, 1) := by decide +kernel
theorem dX4_networkOf_6 : decode cX4_networkOf 6 = .ok (.iload_n 3, 1) := by decide +kernel
theorem dX4_networkOf_7 : decode cX4_networkOf 7 = .ok (.bipush 6, 2) := by decide +kernel
theorem dX4_networkOf_9 : decode cX4_networkOf 9 = .ok (.if_icmp .ge 15, 3) := by decide +kernel
theorem dX4_networkOf_12 : decode cX4_networkOf 12 = .ok (.aload_n 0, 1) := by decide +kernel
theorem dX4_networkOf_13 : decode cX4_networkOf 13 = .ok (.iload_n 2, 1) := by decide +kernel
theorem dX4_networkOf_14 : decode cX4_networkOf 14 = .ok (.invokevirtual 67, 3) := by decide +kernel
theorem dX4_networkOf_17 : decode cX4_networkOf 17 = .ok (.istore_n 2, 1) := by decide +kernel
theorem dX4_networkOf_18 : decode cX4_networkOf 18 = .ok (.iinc 3 1, 3) := by decide +kernel
theorem dX4_networkOf_21 : decode cX4_networkOf 21 = .ok (.goto (-15), 3) := by decide +kernel
theorem dX4_networkOf_24 : decode cX4_networkOf 24 = .ok (.iload_n 2, 1) := by decide +kernel
theorem dX4_networkOf_25 : decode cX4_networkOf 25 = .ok (.ireturn, 1) := by decide +kernel
theorem dX4_shareNetwork_0 : decode cX4_shareNetwork 0 = .ok (.aload_n 0, 1) := by decide +kernel
theorem dX4_shareNetwork_1 : decode cX4_shareNetwork 1 = .ok (.iload_n 1, 1) := by decide +kernel
theorem dX4_shareNetwork_2 : decode cX4_shareNetwork 2 = .ok (.invokevirtual 71, 3) := by decide +kernel
theorem dX4_shareNetwork_5 : decode cX4_shareNetwork 5 = .ok (.iload_n 2, 1) := by decide +kernel
theorem dX4_shareNetwork_6 : decode cX4_shareNetwork 6 = .ok (.invokestatic 59, 3) := by decide +kernel
theorem dX4_shareNetwork_9 : decode cX4_shareNetwork 9 = .ok (.ireturn, 1) := by decide +kernel
theorem dX4_hasUser_0 : decode cX4_hasUser 0 = .ok (.aload_n 0, 1) := by decide +kernel
theorem dX4_hasUser_1 : decode cX4_hasUser 1 = .ok (.getfield 28, 3) := by decide +kernel
theorem dX4_hasUser_4 : decode cX4_hasUser 4 = .ok (.iload_n 1, 1) := by decide +kernel
theorem dX4_hasUser_5 : decode cX4_hasUser 5 = .ok (.iload_n 2, 1) := by decide +kernel
theorem dX4_hasUser_6 : decode cX4_hasUser 6 = .ok (.invokestatic 74, 3) := by decide +kernel
theorem dX4_hasUser_9 : decode cX4_hasUser 9 = .ok (.iaload, 1) := by decide +kernel
theorem dX4_hasUser_10 : decode cX4_hasUser 10 = .ok (.iconst (-1), 1) := by decide +kernel
theorem dX4_hasUser_11 : decode cX4_hasUser 11 = .ok (.if_icmp .eq 7, 3) := by decide +kernel
theorem dX4_hasUser_14 : decode cX4_hasUser 14 = .ok (.iconst 1, 1) := by decide +kernel
theorem dX4_hasUser_15 : decode cX4_hasUser 15 = .ok (.goto 4, 3) := by decide +kernel
theorem dX4_hasUser_18 : decode cX4_hasUser 18 = .ok (.iconst 0, 1) := by decide +kernel
theorem dX4_hasUser_19 : decode cX4_hasUser 19 = .ok (.ireturn, 1) := by decide +kernel
theorem dX4_timeOfUser_0 : decode cX4_timeOfUser 0 = .ok (.aload_n 0, 1) := by decide +kernel
theorem dX4_timeOfUser_1 : decode cX4_timeOfUser 1 = .ok (.getfield 28, 3) := by decide +kernel
theorem dX4_timeOfUser_4 : decode cX4_timeOfUser 4 = .ok (.iload_n 1, 1) := by decide +kernel
theorem dX4_timeOfUser_5 : decode cX4_timeOfUser 5 = .ok (.iload_n 2, 1) := by decide +kernel
theorem dX4_timeOfUser_6 : decode cX4_timeOfUser 6 = .ok (.invokestatic 74, 3) := by decide +kernel
theorem dX4_timeOfUser_9 : decode cX4_timeOfUser 9 = .ok (.iaload, 1) := by decide +kernel
theorem dX4_timeOfUser_10 : decode cX4_timeOfUser 10 = .ok (.ireturn, 1) := by decide +kernel
theorem dX4_homeIn_0 : decode cX4_homeIn 0 = .ok (.iconst 0, 1) := by decide +kernel
theorem dX4_homeIn_1 : decode cX4_homeIn 1 = .ok (.istore_n 3, 1) := by decide +kernel
theorem dX4_homeIn_2 : decode cX4_homeIn 2 = .ok (.iload_n 3, 1) := by decide +kernel
theorem dX4_homeIn_3 : decode cX4_homeIn 3 = .ok (.bipush 6, 2) := by decide +kernel
theorem dX4_homeIn_5 : decode cX4_homeIn 5 = .ok (.if_icmp .ge 28, 3) := by decide +kernel
theorem dX4_homeIn_8 : decode cX4_homeIn 8 = .ok (.iload_n 1, 1) := by decide +kernel
theorem dX4_homeIn_9 : decode cX4_homeIn 9 = .ok (.iload_n 3, 1) := by decide +kernel
theorem dX4_homeIn_10 : decode cX4_homeIn 10 = .ok (.invokestatic 59, 3) := by decide +kernel
theorem dX4_homeIn_13 : decode cX4_homeIn 13 = .ok (.ifCond .eq 14, 3) := by decide +kernel
theorem dX4_homeIn_16 : decode cX4_homeIn 16 = .ok (.aload_n 0, 1) := by decide +kernel
theorem dX4_homeIn_17 : decode cX4_homeIn 17 = .ok (.iload_n 3, 1) := by decide +kernel
theorem dX4_homeIn_18 : decode cX4_homeIn 18 = .ok (.iload_n 2, 1) := by decide +kernel
theorem dX4_homeIn_19 : decode cX4_homeIn 19 = .ok (.invokevirtual 78, 3) := by decide +kernel
theorem dX4_homeIn_22 : decode cX4_homeIn 22 = .ok (.ifCond .eq 5, 3) := by decide +kernel
theorem dX4_homeIn_25 : decode cX4_homeIn 25 = .ok (.iload_n 3, 1) := by decide +kernel
theorem dX4_homeIn_26 : decode cX4_homeIn 26 = .ok (.ireturn, 1) := by decide +kernel
theorem dX4_homeIn_27 : decode cX4_homeIn 27 = .ok (.iinc 3 1, 3) := by decide +kernel
theorem dX4_homeIn_30 : decode cX4_homeIn 30 = .ok (.goto (-28), 3) := by decide +kernel
theorem dX4_homeIn_33 : decode cX4_homeIn 33 = .ok (.iconst (-1), 1) := by decide +kernel
theorem dX4_homeIn_34 : decode cX4_homeIn 34 = .ok (.ireturn, 1) := by decide +kernel
theorem dX4_timeOfNick_0 : decode cX4_timeOfNick 0 = .ok (.aload_n 0, 1) := by decide +kernel
theorem dX4_timeOfNick_1 : decode cX4_timeOfNick 1 = .ok (.iload_n 1, 1) := by decide +kernel
theorem dX4_timeOfNick_2 : decode cX4_timeOfNick 2 = .ok (.iload_n 2, 1) := by decide +kernel
theorem dX4_timeOfNick_3 : decode cX4_timeOfNick 3 = .ok (.invokevirtual 81, 3) := by decide +kernel
theorem dX4_timeOfNick_6 : decode cX4_timeOfNick 6 = .ok (.istore_n 3, 1) := by decide +kernel
theorem dX4_timeOfNick_7 : decode cX4_timeOfNick 7 = .ok (.iload_n 3, 1) := by decide +kernel
theorem dX4_timeOfNick_8 : decode cX4_timeOfNick 8 = .ok (.iconst (-1), 1) := by decide +kernel
theorem dX4_timeOfNick_9 : decode cX4_timeOfNick 9 = .ok (.if_icmp .ne 7, 3) := by decide +kernel
theorem dX4_timeOfNick_12 : decode cX4_timeOfNick 12 = .ok (.iconst (-1), 1) := by decide +kernel
theorem dX4_timeOfNick_13 : decode cX4_timeOfNick 13 = .ok (.goto 9, 3) := by decide +kernel
theorem dX4_timeOfNick_16 : decode cX4_timeOfNick 16 = .ok (.aload_n 0, 1) := by decide +kernel
theorem dX4_timeOfNick_17 : decode cX4_timeOfNick 17 = .ok (.iload_n 3, 1) := by decide +kernel
theorem dX4_timeOfNick_18 : decode cX4_timeOfNick 18 = .ok (.iload_n 2, 1) := by decide +kernel
theorem dX4_timeOfNick_19 : decode cX4_timeOfNick 19 = .ok (.invokevirtual 84, 3) := by decide +kernel
theorem dX4_timeOfNick_22 : decode cX4_timeOfNick 22 = .ok (.ireturn, 1) := by decide +kernel
theorem dX4_nicksIn_0 : decode cX4_nicksIn 0 = .ok (.iconst 0, 1) := by decide +kernel
theorem dX4_nicksIn_1 : decode cX4_nicksIn 1 = .ok (.istore_n 2, 1) := by decide +kernel
theorem dX4_nicksIn_2 : decode cX4_nicksIn 2 = .ok (.iconst 0, 1) := by decide +kernel
theorem dX4_nicksIn_3 : decode cX4_nicksIn 3 = .ok (.istore_n 3, 1) := by decide +kernel
theorem dX4_nicksIn_4 : decode cX4_nicksIn 4 = .ok (.iload_n 3, 1) := by decide +kernel
theorem dX4_nicksIn_5 : decode cX4_nicksIn 5 = .ok (.bipush 10, 2) := by decide +kernel
theorem dX4_nicksIn_7 : decode cX4_nicksIn 7 = .ok (.if_icmp .ge 30, 3) := by decide +kernel
theorem dX4_nicksIn_10 : decode cX4_nicksIn 10 = .ok (.iload_n 2, 1) := by decide +kernel
theorem dX4_nicksIn_11 : decode cX4_nicksIn 11 = .ok (.iload_n 3, 1) := by decide +kernel
theorem dX4_nicksIn_12 : decode cX4_nicksIn 12 = .ok (.aload_n 0, 1) := by decide +kernel
theorem dX4_nicksIn_13 : decode cX4_nicksIn 13 = .ok (.iload_n 1, 1) := by decide +kernel
theorem dX4_nicksIn_14 : decode cX4_nicksIn 14 = .ok (.iload_n 3, 1) := by decide +kernel
theorem dX4_nicksIn_15 : decode cX4_nicksIn 15 = .ok (.invokevirtual 81, 3) := by decide +kernel
theorem dX4_nicksIn_18 : decode cX4_nicksIn 18 = .ok (.iconst (-1), 1) := by decide +kernel
theorem dX4_nicksIn_19 : decode cX4_nicksIn 19 = .ok (.if_icmp .eq 7, 3) := by decide +kernel
theorem dX4_nicksIn_22 : decode cX4_nicksIn 22 = .ok (.iconst 1, 1) := by decide +kernel
theorem dX4_nicksIn_23 : decode cX4_nicksIn 23 = .ok (.goto 4, 3) := by decide +kernel
theorem dX4_nicksIn_26 : decode cX4_nicksIn 26 = .ok (.iconst 0, 1) := by decide +kernel
theorem dX4_nicksIn_27 : decode cX4_nicksIn 27 = .ok (.invokestatic 63, 3) := by decide +kernel
theorem dX4_nicksIn_30 : decode cX4_nicksIn 30 = .ok (.istore_n 2, 1) := by decide +kernel
theorem dX4_nicksIn_31 : decode cX4_nicksIn 31 = .ok (.iinc 3 1, 3) := by decide +kernel
theorem dX4_nicksIn_34 : decode cX4_nicksIn 34 = .ok (.goto (-30), 3) := by decide +kernel
theorem dX4_nicksIn_37 : decode cX4_nicksIn 37 = .ok (.iload_n 2, 1) := by decide +kernel
theorem dX4_nicksIn_38 : decode cX4_nicksIn 38 = .ok (.ireturn, 1) := by decide +kernel
theorem dX4_countUsers_0 : decode cX4_countUsers 0 = .ok (.iconst 0, 1) := by decide +kernel
theorem dX4_countUsers_1 : decode cX4_countUsers 1 = .ok (.istore_n 2, 1) := by decide +kernel
theorem dX4_countUsers_2 : decode cX4_countUsers 2 = .ok (.iconst 0, 1) := by decide +kernel
theorem dX4_countUsers_3 : decode cX4_countUsers 3 = .ok (.istore_n 3, 1) := by decide +kernel
theorem dX4_countUsers_4 : decode cX4_countUsers 4 = .ok (.iload_n 3, 1) := by decide +kernel
theorem dX4_countUsers_5 : decode cX4_countUsers 5 = .ok (.bipush 6, 2) := by decide +kernel
theorem dX4_countUsers_7 : decode cX4_countUsers 7 = .ok (.if_icmp .ge 46, 3) := by decide +kernel
theorem dX4_countUsers_10 : decode cX4_countUsers 10 = .ok (.iconst 0, 1) := by decide +kernel
theorem dX4_countUsers_11 : decode cX4_countUsers 11 = .ok (.istore 4, 2) := by decide +kernel
theorem dX4_countUsers_13 : decode cX4_countUsers 13 = .ok (.iload 4, 2) := by decide +kernel
theorem dX4_countUsers_15 : decode cX4_countUsers 15 = .ok (.bipush 10, 2) := by decide +kernel
theorem dX4_countUsers_17 : decode cX4_countUsers 17 = .ok (.if_icmp .ge 30, 3) := by decide +kernel
theorem dX4_countUsers_20 : decode cX4_countUsers 20 = .ok (.iload_n 1, 1) := by decide +kernel
theorem dX4_countUsers_21 : decode cX4_countUsers 21 = .ok (.iload_n 3, 1) := by decide +kernel
theorem dX4_countUsers_22 : decode cX4_countUsers 22 = .ok (.invokestatic 59, 3) := by decide +kernel
theorem dX4_countUsers_25 : decode cX4_countUsers 25 = .ok (.ifCond .eq 16, 3) := by decide +kernel
theorem dX4_countUsers_28 : decode cX4_countUsers 28 = .ok (.aload_n 0, 1) := by decide +kernel
theorem dX4_countUsers_29 : decode cX4_countUsers 29 = .ok (.iload_n 3, 1) := by decide +kernel
theorem dX4_countUsers_30 : decode cX4_countUsers 30 = .ok (.iload 4, 2) := by decide +kernel
theorem dX4_countUsers_32 : decode cX4_countUsers 32 = .ok (.invokevirtual 78, 3) := by decide +kernel
theorem dX4_countUsers_35 : decode cX4_countUsers 35 = .ok (.ifCond .eq 6, 3) := by decide +kernel
theorem dX4_countUsers_38 : decode cX4_countUsers 38 = .ok (.iinc 2 1, 3) := by decide +kernel
theorem dX4_countUsers_41 : decode cX4_countUsers 41 = .ok (.iinc 4 1, 3) := by decide +kernel
theorem dX4_countUsers_44 : decode cX4_countUsers 44 = .ok (.goto (-31), 3) := by decide +kernel
theorem dX4_countUsers_47 : decode cX4_countUsers 47 = .ok (.iinc 3 1, 3) := by decide +kernel
theorem dX4_countUsers_50 : decode cX4_countUsers 50 = .ok (.goto (-46), 3) := by decide +kernel
theorem dX4_countUsers_53 : decode cX4_countUsers 53 = .ok (.iload_n 2, 1) := by decide +kernel
theorem dX4_countUsers_54 : decode cX4_countUsers 54 = .ok (.ireturn, 1) := by decide +kernel
theorem dX4_countChannelsOf_0 : decode cX4_countChannelsOf 0 = .ok (.iconst 0, 1) := by decide +kernel
theorem dX4_countChannelsOf_1 : decode cX4_countChannelsOf 1 = .ok (.istore_n 3, 1) := by decide +kernel
theorem dX4_countChannelsOf_2 : decode cX4_countChannelsOf 2 = .ok (.iconst 0, 1) := by decide +kernel
theorem dX4_countChannelsOf_3 : decode cX4_countChannelsOf 3 = .ok (.istore 4, 2) := by decide +kernel
theorem dX4_countChannelsOf_5 : decode cX4_countChannelsOf 5 = .ok (.iload 4, 2) := by decide +kernel
theorem dX4_countChannelsOf_7 : decode cX4_countChannelsOf 7 = .ok (.iconst 4, 1) := by decide +kernel
theorem dX4_countChannelsOf_8 : decode cX4_countChannelsOf 8 = .ok (.if_icmp .ge 23, 3) := by decide +kernel
theorem dX4_countChannelsOf_11 : decode cX4_countChannelsOf 11 = .ok (.aload_n 0, 1) := by decide +kernel
theorem dX4_countChannelsOf_12 : decode cX4_countChannelsOf 12 = .ok (.iload_n 1, 1) := by decide +kernel
theorem dX4_countChannelsOf_13 : decode cX4_countChannelsOf 13 = .ok (.iload_n 2, 1) := by decide +kernel
theorem dX4_countChannelsOf_14 : decode cX4_countChannelsOf 14 = .ok (.iload 4, 2) := by decide +kernel
theorem dX4_countChannelsOf_16 : decode cX4_countChannelsOf 16 = .ok (.invokevirtual 87, 3) := by decide +kernel
theorem dX4_countChannelsOf_19 : decode cX4_countChannelsOf 19 = .ok (.ifCond .eq 6, 3) := by decide +kernel
theorem dX4_countChannelsOf_22 : decode cX4_countChannelsOf 22 = .ok (.iinc 3 1, 3) := by decide +kernel
theorem dX4_countChannelsOf_25 : decode cX4_countChannelsOf 25 = .ok (.iinc 4 1, 3) := by decide +kernel
theorem dX4_countChannelsOf_28 : decode cX4_countChannelsOf 28 = .ok (.goto (-23), 3) := by decide +kernel
theorem dX4_countChannelsOf_31 : decode cX4_countChannelsOf 31 = .ok (.iload_n 3, 1) := by decide +kernel
theorem dX4_countChannelsOf_32 : decode cX4_countChannelsOf 32 = .ok (.ireturn, 1) := by decide +kernel
theorem dX4_addUser_0 : decode cX4_addUser 0 = .ok (.aload_n 0, 1) := by decide +kernel
theorem dX4_addUser_1 : decode cX4_addUser 1 = .ok (.getfield 28, 3) := by decide +kernel
theorem dX4_addUser_4 : decode cX4_addUser 4 = .ok (.iload_n 1, 1) := by decide +kernel
theorem dX4_addUser_5 : decode cX4_addUser 5 = .ok (.iload_n 2, 1) := by decide +kernel
theorem dX4_addUser_6 : decode cX4_addUser 6 = .ok (.invokestatic 74, 3) := by decide +kernel
theorem dX4_addUser_9 : decode cX4_addUser 9 = .ok (.aload_n 0, 1) := by decide +kernel
theorem dX4_addUser_10 : decode cX4_addUser 10 = .ok (.getfield 15, 3) := by decide +kernel
theorem dX4_addUser_13 : decode cX4_addUser 13 = .ok (.iastore, 1) := by decide +kernel
theorem dX4_addUser_14 : decode cX4_addUser 14 = .ok (.return_, 1) := by decide +kernel
theorem dX4_removeUser_0 : decode cX4_removeUser 0 = .ok (.aload_n 0, 1) := by decide +kernel
theorem dX4_removeUser_1 : decode cX4_removeUser 1 = .ok (.getfield 28, 3) := by decide +kernel
theorem dX4_removeUser_4 : decode cX4_removeUser 4 = .ok (.iload_n 1, 1) := by decide +kernel
theorem dX4_removeUser_5 : decode cX4_removeUser 5 = .ok (.iload_n 2, 1) := by decide +kernel
theorem dX4_removeUser_6 : decode cX4_removeUser 6 = .ok (.invokestatic 74, 3) := by decide +kernel
theorem dX4_removeUser_9 : decode cX4_removeUser 9 = .ok (.iconst (-1), 1) := by decide +kernel
theorem dX4_removeUser_10 : decode cX4_removeUser 10 = .ok (.iastore, 1) := by decide +kernel
theorem dX4_removeUser_11 : decode cX4_removeUser 11 = .ok (.iconst 0, 1) := by decide +kernel
theorem dX4_removeUser_12 : decode cX4_removeUser 12 = .ok (.istore_n 3, 1) := by decide +kernel
theorem dX4_removeUser_13 : decode cX4_removeUser 13 = .ok (.iload_n 3, 1) := by decide +kernel
theorem dX4_removeUser_14 : decode cX4_removeUser 14 = .ok (.iconst 4, 1) := by decide +kernel
theorem dX4_removeUser_15 : decode cX4_removeUser 15 = .ok (.if_icmp .ge 16, 3) := by decide +kernel
theorem dX4_removeUser_18 : decode cX4_removeUser 18 = .ok (.aload_n 0, 1) := by decide +kernel
theorem dX4_removeUser_19 : decode cX4_removeUser 19 = .ok (.iload_n 1, 1) := by decide +kernel
theorem dX4_removeUser_20 : decode cX4_removeUser 20 = .ok (.iload_n 2, 1) := by decide +kernel
theorem dX4_removeUser_21 : decode cX4_removeUser 21 = .ok (.iload_n 3, 1) := by decide +kernel
theorem dX4_removeUser_22 : decode cX4_removeUser 22 = .ok (.invokevirtual 91, 3) := by decide +kernel
theorem dX4_removeUser_25 : decode cX4_removeUser 25 = .ok (.iinc 3 1, 3) := by decide +kernel
theorem dX4_removeUser_28 : decode cX4_removeUser 28 = .ok (.goto (-15), 3) := by decide +kernel
theorem dX4_removeUser_31 : decode cX4_removeUser 31 = .ok (.return_, 1) := by decide +kernel
theorem dX4_renameUser_0 : decode cX4_renameUser 0 = .ok (.aload_n 0, 1) := by decide +kernel
theorem dX4_renameUser_1 : decode cX4_renameUser 1 = .ok (.iload_n 1, 1) := by decide +kernel
theorem dX4_renameUser_2 : decode cX4_renameUser 2 = .ok (.iload_n 3, 1) := by decide +kernel
theorem dX4_renameUser_3 : decode cX4_renameUser 3 = .ok (.invokevirtual 95, 3) := by decide +kernel
theorem dX4_renameUser_6 : decode cX4_renameUser 6 = .ok (.iconst 0, 1) := by decide +kernel
theorem dX4_renameUser_7 : decode cX4_renameUser 7 = .ok (.istore 4, 2) := by decide +kernel
theorem dX4_renameUser_9 : decode cX4_renameUser 9 = .ok (.iload 4, 2) := by decide +kernel
theorem dX4_renameUser_11 : decode cX4_renameUser 11 = .ok (.iconst 4, 1) := by decide +kernel
theorem dX4_renameUser_12 : decode cX4_renameUser 12 = .ok (.if_icmp .ge 47, 3) := by decide +kernel
theorem dX4_renameUser_15 : decode cX4_renameUser 15 = .ok (.aload_n 0, 1) := by decide +kernel
theorem dX4_renameUser_16 : decode cX4_renameUser 16 = .ok (.iload_n 1, 1) := by decide +kernel
theorem dX4_renameUser_17 : decode cX4_renameUser 17 = .ok (.iload_n 2, 1) := by decide +kernel
theorem dX4_renameUser_18 : decode cX4_renameUser 18 = .ok (.iload 4, 2) := by decide +kernel
theorem dX4_renameUser_20 : decode cX4_renameUser 20 = .ok (.invokevirtual 87, 3) := by decide +kernel
theorem dX4_renameUser_23 : decode cX4_renameUser 23 = .ok (.ifCond .eq 11, 3) := by decide +kernel
theorem dX4_renameUser_26 : decode cX4_renameUser 26 = .ok (.aload_n 0, 1) := by decide +kernel
theorem dX4_renameUser_27 : decode cX4_renameUser 27 = .ok (.iload_n 1, 1) := by decide +kernel
theorem dX4_renameUser_28 : decode cX4_renameUser 28 = .ok (.iload_n 3, 1) := by decide +kernel
theorem dX4_renameUser_29 : decode cX4_renameUser 29 = .ok (.iload 4, 2) := by decide +kernel
theorem dX4_renameUser_31 : decode cX4_renameUser 31 = .ok (.invokevirtual 99, 3) := by decide +kernel
theorem dX4_renameUser_34 : decode cX4_renameUser 34 = .ok (.aload_n 0, 1) := by decide +kernel
theorem dX4_renameUser_35 : decode cX4_renameUser 35 = .ok (.iload_n 1, 1) := by decide +kernel
theorem dX4_renameUser_36 : decode cX4_renameUser 36 = .ok (.iload_n 2, 1) := by decide +kernel
theorem dX4_renameUser_37 : decode cX4_renameUser 37 = .ok (.iload 4, 2) := by decide +kernel
theorem dX4_renameUser_39 : decode cX4_renameUser 39 = .ok (.invokevirtual 102, 3) := by decide +kernel
theorem dX4_renameUser_42 : decode cX4_renameUser 42 = .ok (.ifCond .eq 11, 3) := by decide +kernel
theorem dX4_renameUser_45 : decode cX4_renameUser 45 = .ok (.aload_n 0, 1) := by decide +kernel
theorem dX4_renameUser_46 : decode cX4_renameUser 46 = .ok (.iload_n 1, 1) := by decide +kernel
theorem dX4_renameUser_47 : decode cX4_renameUser 47 = .ok (.iload_n 3, 1) := by decide +kernel
theorem dX4_renameUser_48 : decode cX4_renameUser 48 = .ok (.iload 4, 2) := by decide +kernel
theorem dX4_renameUser_50 : decode cX4_renameUser 50 = .ok (.invokevirtual 105, 3) := by decide +kernel
theorem dX4_renameUser_53 : decode cX4_renameUser 53 = .ok (.iinc 4 1, 3) := by decide +kernel
theorem dX4_renameUser_56 : decode cX4_renameUser 56 = .ok (.goto (-47), 3) := by decide +kernel
theorem dX4_renameUser_59 : decode cX4_renameUser 59 = .ok (.aload_n 0, 1) := by decide +kernel
theorem dX4_renameUser_60 : decode cX4_renameUser 60 = .ok (.iload_n 1, 1) := by decide +kernel
theorem dX4_renameUser_61 : decode cX4_renameUser 61 = .ok (.iload_n 2, 1) := by decide +kernel
theorem dX4_renameUser_62 : decode cX4_renameUser 62 = .ok (.invokevirtual 108, 3) := by decide +kernel
theorem dX4_renameUser_65 : decode cX4_renameUser 65 = .ok (.return_, 1) := by decide +kernel
theorem dX4_isMember_0 : decode cX4_isMember 0 = .ok (.aload_n 0, 1) := by decide +kernel
theorem dX4_isMember_1 : decode cX4_isMember 1 = .ok (.getfield 31, 3) := by decide +kernel
theorem dX4_isMember_4 : decode cX4_isMember 4 = .ok (.iload_n 1, 1) := by decide +kernel
theorem dX4_isMember_5 : decode cX4_isMember 5 = .ok (.iload_n 3, 1) := by decide +kernel
theorem dX4_isMember_6 : decode cX4_isMember 6 = .ok (.invokestatic 111, 3) := by decide +kernel
theorem dX4_isMember_9 : decode cX4_isMember 9 = .ok (.iaload, 1) := by decide +kernel
theorem dX4_isMember_10 : decode cX4_isMember 10 = .ok (.iload_n 2, 1) := by decide +kernel
theorem dX4_isMember_11 : decode cX4_isMember 11 = .ok (.invokestatic 59, 3) := by decide +kernel
theorem dX4_isMember_14 : decode cX4_isMember 14 = .ok (.ireturn, 1) := by decide +kernel
theorem dX4_isOperator_0 : decode cX4_isOperator 0 = .ok (.aload_n 0, 1) := by decide +kernel
theorem dX4_isOperator_1 : decode cX4_isOperator 1 = .ok (.getfield 34, 3) := by decide +kernel
theorem dX4_isOperator_4 : decode cX4_isOperator 4 = .ok (.iload_n 1, 1) := by decide +kernel
theorem dX4_isOperator_5 : decode cX4_isOperator 5 = .ok (.iload_n 3, 1) := by decide +kernel
theorem dX4_isOperator_6 : decode cX4_isOperator 6 = .ok (.invokestatic 111, 3) := by decide +kernel
theorem dX4_isOperator_9 : decode cX4_isOperator 9 = .ok (.iaload, 1) := by decide +kernel
theorem dX4_isOperator_10 : decode cX4_isOperator 10 = .ok (.iload_n 2, 1) := by decide +kernel
theorem dX4_isOperator_11 : decode cX4_isOperator 11 = .ok (.invokestatic 59, 3) := by decide +kernel
theorem dX4_isOperator_14 : decode cX4_isOperator 14 = .ok (.ireturn, 1) := by decide +kernel
theorem dX4_addMember_0 : decode cX4_addMember 0 = .ok (.iload_n 1, 1) := by decide +kernel
theorem dX4_addMember_1 : decode cX4_addMember 1 = .ok (.iload_n 3, 1) := by decide +kernel
theorem dX4_addMember_2 : decode cX4_addMember 2 = .ok (.invokestatic 111, 3) := by decide +kernel
theorem dX4_addMember_5 : decode cX4_addMember 5 = .ok (.istore 4, 2) := by decide +kernel
theorem dX4_addMember_7 : decode cX4_addMember 7 = .ok (.aload_n 0, 1) := by decide +kernel
theorem dX4_addMember_8 : decode cX4_addMember 8 = .ok (.getfield 31, 3) := by decide +kernel
theorem dX4_addMember_11 : decode cX4_addMember 11 = .ok (.iload 4, 2) := by decide +kernel
theorem dX4_addMember_13 : decode cX4_addMember 13 = .ok (.aload_n 0, 1) := by decide +kernel
theorem dX4_addMember_14 : decode cX4_addMember 14 = .ok (.getfield 31, 3) := by decide +kernel
theorem dX4_addMember_17 : decode cX4_addMember 17 = .ok (.iload 4, 2) := by decide +kernel
theorem dX4_addMember_19 : decode cX4_addMember 19 = .ok (.iaload, 1) := by decide +kernel
theorem dX4_addMember_20 : decode cX4_addMember 20 = .ok (.iload_n 2, 1) := by decide +kernel
theorem dX4_addMember_21 : decode cX4_addMember 21 = .ok (.iconst 1, 1) := by decide +kernel
theorem dX4_addMember_22 : decode cX4_addMember 22 = .ok (.invokestatic 63, 3) := by decide +kernel
theorem dX4_addMember_25 : decode cX4_addMember 25 = .ok (.iastore, 1) := by decide +kernel
theorem dX4_addMember_26 : decode cX4_addMember 26 = .ok (.return_, 1) := by decide +kernel
theorem dX4_addOperator_0 : decode cX4_addOperator 0 = .ok (.iload_n 1, 1) := by decide +kernel
theorem dX4_addOperator_1 : decode cX4_addOperator 1 = .ok (.iload_n 3, 1) := by decide +kernel
theorem dX4_addOperator_2 : decode cX4_addOperator 2 = .ok (.invokestatic 111, 3) := by decide +kernel
theorem dX4_addOperator_5 : decode cX4_addOperator 5 = .ok (.istore 4, 2) := by decide +kernel
theorem dX4_addOperator_7 : decode cX4_addOperator 7 = .ok (.aload_n 0, 1) := by decide +kernel
theorem dX4_addOperator_8 : decode cX4_addOperator 8 = .ok (.getfield 34, 3) := by decide +kernel
theorem dX4_addOperator_11 : decode cX4_addOperator 11 = .ok (.iload 4, 2) := by decide +kernel
theorem dX4_addOperator_13 : decode cX4_addOperator 13 = .ok (.aload_n 0, 1) := by decide +kernel
theorem dX4_addOperator_14 : decode cX4_addOperator 14 = .ok (.getfield 34, 3) := by decide +kernel
theorem dX4_addOperator_17 : decode cX4_addOperator 17 = .ok (.iload 4, 2) := by decide +kernel
theorem dX4_addOperator_19 : decode cX4_addOperator 19 = .ok (.iaload, 1) := by decide +kernel
theorem dX4_addOperator_20 : decode cX4_addOperator 20 = .ok (.iload_n 2, 1) := by decide +kernel
theorem dX4_addOperator_21 : decode cX4_addOperator 21 = .ok (.iconst 1, 1) := by decide +kernel
theorem dX4_addOperator_22 : decode cX4_addOperator 22 = .ok (.invokestatic 63, 3) := by decide +kernel
theorem dX4_addOperator_25 : decode cX4_addOperator 25 = .ok (.iastore, 1) := by decide +kernel
theorem dX4_addOperator_26 : decode cX4_addOperator 26 = .ok (.return_, 1) := by decide +kernel
theorem dX4_removeMember_0 : decode cX4_removeMember 0 = .ok (.iload_n 1, 1) := by decide +kernel
theorem dX4_removeMember_1 : decode cX4_removeMember 1 = .ok (.iload_n 3, 1) := by decide +kernel
theorem dX4_removeMember_2 : decode cX4_removeMember 2 = .ok (.invokestatic 111, 3) := by decide +kernel
theorem dX4_removeMember_5 : decode cX4_removeMember 5 = .ok (.istore 4, 2) := by decide +kernel
theorem dX4_removeMember_7 : decode cX4_removeMember 7 = .ok (.aload_n 0, 1) := by decide +kernel
theorem dX4_removeMember_8 : decode cX4_removeMember 8 = .ok (.getfield 31, 3) := by decide +kernel
theorem dX4_removeMember_11 : decode cX4_removeMember 11 = .ok (.iload 4, 2) := by decide +kernel
theorem dX4_removeMember_13 : decode cX4_removeMember 13 = .ok (.aload_n 0, 1) := by decide +kernel
theorem dX4_removeMember_14 : decode cX4_removeMember 14 = .ok (.getfield 31, 3) := by decide +kernel
theorem dX4_removeMember_17 : decode cX4_removeMember 17 = .ok (.iload 4, 2) := by decide +kernel
theorem dX4_removeMember_19 : decode cX4_removeMember 19 = .ok (.iaload, 1) := by decide +kernel
theorem dX4_removeMember_20 : decode cX4_removeMember 20 = .ok (.iload_n 2, 1) := by decide +kernel
theorem dX4_removeMember_21 : decode cX4_removeMember 21 = .ok (.iconst 0, 1) := by decide +kernel
theorem dX4_removeMember_22 : decode cX4_removeMember 22 = .ok (.invokestatic 63, 3) := by decide +kernel
theorem dX4_removeMember_25 : decode cX4_removeMember 25 = .ok (.iastore, 1) := by decide +kernel
theorem dX4_removeMember_26 : decode cX4_removeMember 26 = .ok (.aload_n 0, 1) := by decide +kernel
theorem dX4_removeMember_27 : decode cX4_removeMember 27 = .ok (.getfield 34, 3) := by decide +kernel
theorem dX4_removeMember_30 : decode cX4_removeMember 30 = .ok (.iload 4, 2) := by decide +kernel
theorem dX4_removeMember_32 : decode cX4_removeMember 32 = .ok (.aload_n 0, 1) := by decide +kernel
theorem dX4_removeMember_33 : decode cX4_removeMember 33 = .ok (.getfield 34, 3) := by decide +kernel
theorem dX4_removeMember_36 : decode cX4_removeMember 36 = .ok (.iload 4, 2) := by decide +kernel
theorem dX4_removeMember_38 : decode cX4_removeMember 38 = .ok (.iaload, 1) := by decide +kernel
theorem dX4_removeMember_39 : decode cX4_removeMember 39 = .ok (.iload_n 2, 1) := by decide +kernel
theorem dX4_removeMember_40 : decode cX4_removeMember 40 = .ok (.iconst 0, 1) := by decide +kernel
theorem dX4_removeMember_41 : decode cX4_removeMember 41 = .ok (.invokestatic 63, 3) := by decide +kernel
theorem dX4_removeMember_44 : decode cX4_removeMember 44 = .ok (.iastore, 1) := by decide +kernel
theorem dX4_removeMember_45 : decode cX4_removeMember 45 = .ok (.return_, 1) := by decide +kernel
theorem dX4_membersIn_0 : decode cX4_membersIn 0 = .ok (.aload_n 0, 1) := by decide +kernel
theorem dX4_membersIn_1 : decode cX4_membersIn 1 = .ok (.getfield 31, 3) := by decide +kernel
theorem dX4_membersIn_4 : decode cX4_membersIn 4 = .ok (.iload_n 1, 1) := by decide +kernel
theorem dX4_membersIn_5 : decode cX4_membersIn 5 = .ok (.iload_n 2, 1) := by decide +kernel
theorem dX4_membersIn_6 : decode cX4_membersIn 6 = .ok (.invokestatic 114, 3) := by decide +kernel
theorem dX4_membersIn_9 : decode cX4_membersIn 9 = .ok (.ireturn, 1) := by decide +kernel
theorem dX4_operatorsIn_0 : decode cX4_operatorsIn 0 = .ok (.aload_n 0, 1) := by decide +kernel
theorem dX4_operatorsIn_1 : decode cX4_operatorsIn 1 = .ok (.getfield 34, 3) := by decide +kernel
theorem dX4_operatorsIn_4 : decode cX4_operatorsIn 4 = .ok (.iload_n 1, 1) := by decide +kernel
theorem dX4_operatorsIn_5 : decode cX4_operatorsIn 5 = .ok (.iload_n 2, 1) := by decide +kernel
theorem dX4_operatorsIn_6 : decode cX4_operatorsIn 6 = .ok (.invokestatic 114, 3) := by decide +kernel
theorem dX4_operatorsIn_9 : decode cX4_operatorsIn 9 = .ok (.ireturn, 1) := by decide +kernel
theorem dX4_unionOf_0 : decode cX4_unionOf 0 = .ok (.iconst 0, 1) := by decide +kernel
theorem dX4_unionOf_1 : decode cX4_unionOf 1 = .ok (.istore_n 3, 1) := by decide +kernel
theorem dX4_unionOf_2 : decode cX4_unionOf 2 = .ok (.iconst 0, 1) := by decide +kernel
theorem dX4_unionOf_3 : decode cX4_unionOf 3 = .ok (.istore 4, 2) := by decide +kernel
theorem dX4_unionOf_5 : decode cX4_unionOf 5 = .ok (.iload 4, 2) := by decide +kernel
theorem dX4_unionOf_7 : decode cX4_unionOf 7 = .ok (.bipush 6, 2) := by decide +kernel
theorem dX4_unionOf_9 : decode cX4_unionOf 9 = .ok (.if_icmp .ge 29, 3) := by decide +kernel
theorem dX4_unionOf_12 : decode cX4_unionOf 12 = .ok (.iload_n 1, 1) := by decide +kernel
theorem dX4_unionOf_13 : decode cX4_unionOf 13 = .ok (.iload 4, 2) := by decide +kernel
theorem dX4_unionOf_15 : decode cX4_unionOf 15 = .ok (.invokestatic 59, 3) := by decide +kernel
theorem dX4_unionOf_18 : decode cX4_unionOf 18 = .ok (.ifCond .eq 14, 3) := by decide +kernel
theorem dX4_unionOf_21 : decode cX4_unionOf 21 = .ok (.iload_n 3, 1) := by decide +kernel
theorem dX4_unionOf_22 : decode cX4_unionOf 22 = .ok (.aload_n 0, 1) := by decide +kernel
theorem dX4_unionOf_23 : decode cX4_unionOf 23 = .ok (.iload 4, 2) := by decide +kernel
theorem dX4_unionOf_25 : decode cX4_unionOf 25 = .ok (.iload_n 2, 1) := by decide +kernel
theorem dX4_unionOf_26 : decode cX4_unionOf 26 = .ok (.invokestatic 111, 3) := by decide +kernel
theorem dX4_unionOf_29 : decode cX4_unionOf 29 = .ok (.iaload, 1) := by decide +kernel
theorem dX4_unionOf_30 : decode cX4_unionOf 30 = .ok (.ior, 1) := by decide +kernel
theorem dX4_unionOf_31 : decode cX4_unionOf 31 = .ok (.istore_n 3, 1) := by decide +kernel
theorem dX4_unionOf_32 : decode cX4_unionOf 32 = .ok (.iinc 4 1, 3) := by decide +kernel
theorem dX4_unionOf_35 : decode cX4_unionOf 35 = .ok (.goto (-30), 3) := by decide +kernel
theorem dX4_unionOf_38 : decode cX4_unionOf 38 = .ok (.iload_n 3, 1) := by decide +kernel
theorem dX4_unionOf_39 : decode cX4_unionOf 39 = .ok (.ireturn, 1) := by decide +kernel
theorem dX4_setOperators_0 : decode cX4_setOperators 0 = .ok (.iconst 0, 1) := by decide +kernel
theorem dX4_setOperators_1 : decode cX4_setOperators 1 = .ok (.istore 4, 2) := by decide +kernel
theorem dX4_setOperators_3 : decode cX4_setOperators 3 = .ok (.iload 4, 2) := by decide +kernel
theorem dX4_setOperators_5 : decode cX4_setOperators 5 = .ok (.bipush 6, 2) := by decide +kernel
theorem dX4_setOperators_7 : decode cX4_setOperators 7 = .ok (.if_icmp .ge 42, 3) := by decide +kernel
theorem dX4_setOperators_10 : decode cX4_setOperators 10 = .ok (.iload_n 1, 1) := by decide +kernel
theorem dX4_setOperators_11 : decode cX4_setOperators 11 = .ok (.iload 4, 2) := by decide +kernel
theorem dX4_setOperators_13 : decode cX4_setOperators 13 = .ok (.invokestatic 59, 3) := by decide +kernel
theorem dX4_setOperators_16 : decode cX4_setOperators 16 = .ok (.ifCond .eq 27, 3) := by decide +kernel
theorem dX4_setOperators_19 : decode cX4_setOperators 19 = .ok (.iload 4, 2) := by decide +kernel
theorem dX4_setOperators_21 : decode cX4_setOperators 21 = .ok (.iload_n 2, 1) := by decide +kernel
theorem dX4_setOperators_22 : decode cX4_setOperators 22 = .ok (.invokestatic 111, 3) := by decide +kernel
theorem dX4_setOperators_25 : decode cX4_setOperators 25 = .ok (.istore 5, 2) := by decide +kernel
theorem dX4_setOperators_27 : decode cX4_setOperators 27 = .ok (.aload_n 0, 1) := by decide +kernel
theorem dX4_setOperators_28 : decode cX4_setOperators 28 = .ok (.getfield 34, 3) := by decide +kernel
theorem dX4_setOperators_31 : decode cX4_setOperators 31 = .ok (.iload 5, 2) := by decide +kernel
theorem dX4_setOperators_33 : decode cX4_setOperators 33 = .ok (.aload_n 0, 1) := by decide +kernel
theorem dX4_setOperators_34 : decode cX4_setOperators 34 = .ok (.getfield 31, 3) := by decide +kernel
theorem dX4_setOperators_37 : decode cX4_setOperators 37 = .ok (.iload 5, 2) := by decide +kernel
theorem dX4_setOperators_39 : decode cX4_setOperators 39 = .ok (.iaload, 1) := by decide +kernel
theorem dX4_setOperators_40 : decode cX4_setOperators 40 = .ok (.iload_n 3, 1) := by decide +kernel
theorem dX4_setOperators_41 : decode cX4_setOperators 41 = .ok (.iand, 1) := by decide +kernel
theorem dX4_setOperators_42 : decode cX4_setOperators 42 = .ok (.iastore, 1) := by decide +kernel
theorem dX4_setOperators_43 : decode cX4_setOperators 43 = .ok (.iinc 4 1, 3) := by decide +kernel
theorem dX4_setOperators_46 : decode cX4_setOperators 46 = .ok (.goto (-43), 3) := by decide +kernel
theorem dX4_setOperators_49 : decode cX4_setOperators 49 = .ok (.return_, 1) := by decide +kernel
theorem dX4_hasChannel_0 : decode cX4_hasChannel 0 = .ok (.aload_n 0, 1) := by decide +kernel
theorem dX4_hasChannel_1 : decode cX4_hasChannel 1 = .ok (.aload_n 0, 1) := by decide +kernel
theorem dX4_hasChannel_2 : decode cX4_hasChannel 2 = .ok (.iload_n 1, 1) := by decide +kernel
theorem dX4_hasChannel_3 : decode cX4_hasChannel 3 = .ok (.invokevirtual 71, 3) := by decide +kernel
theorem dX4_hasChannel_6 : decode cX4_hasChannel 6 = .ok (.iload_n 2, 1) := by decide +kernel
theorem dX4_hasChannel_7 : decode cX4_hasChannel 7 = .ok (.invokevirtual 118, 3) := by decide +kernel
theorem dX4_hasChannel_10 : decode cX4_hasChannel 10 = .ok (.ifCond .eq 7, 3) := by decide +kernel
theorem dX4_hasChannel_13 : decode cX4_hasChannel 13 = .ok (.iconst 1, 1) := by decide +kernel
theorem dX4_hasChannel_14 : decode cX4_hasChannel 14 = .ok (.goto 4, 3) := by decide +kernel
theorem dX4_hasChannel_17 : decode cX4_hasChannel 17 = .ok (.iconst 0, 1) := by decide +kernel
theorem dX4_hasChannel_18 : decode cX4_hasChannel 18 = .ok (.ireturn, 1) := by decide +kernel
theorem dX4_timeOfChannel_0 : decode cX4_timeOfChannel 0 = .ok (.aload_n 0, 1) := by decide +kernel
theorem dX4_timeOfChannel_1 : decode cX4_timeOfChannel 1 = .ok (.getfield 37, 3) := by decide +kernel
theorem dX4_timeOfChannel_4 : decode cX4_timeOfChannel 4 = .ok (.iload_n 1, 1) := by decide +kernel
theorem dX4_timeOfChannel_5 : decode cX4_timeOfChannel 5 = .ok (.iload_n 2, 1) := by decide +kernel
theorem dX4_timeOfChannel_6 : decode cX4_timeOfChannel 6 = .ok (.invokestatic 111, 3) := by decide +kernel
theorem dX4_timeOfChannel_9 : decode cX4_timeOfChannel 9 = .ok (.iaload, 1) := by decide +kernel
theorem dX4_timeOfChannel_10 : decode cX4_timeOfChannel 10 = .ok (.ireturn, 1) := by decide +kernel
theorem dX4_modesOfChannel_0 : decode cX4_modesOfChannel 0 = .ok (.aload_n 0, 1) := by decide +kernel
theorem dX4_modesOfChannel_1 : decode cX4_modesOfChannel 1 = .ok (.getfield 40, 3) := by decide +kernel
theorem dX4_modesOfChannel_4 : decode cX4_modesOfChannel 4 = .ok (.iload_n 1, 1) := by decide +kernel
theorem dX4_modesOfChannel_5 : decode cX4_modesOfChannel 5 = .ok (.iload_n 2, 1) := by decide +kernel
theorem dX4_modesOfChannel_6 : decode cX4_modesOfChannel 6 = .ok (.invokestatic 111, 3) := by decide +kernel
theorem dX4_modesOfChannel_9 : decode cX4_modesOfChannel 9 = .ok (.iaload, 1) := by decide +kernel
theorem dX4_modesOfChannel_10 : decode cX4_modesOfChannel 10 = .ok (.ireturn, 1) := by decide +kernel
theorem dX4_describeChannel_0 : decode cX4_describeChannel 0 = .ok (.iconst 0, 1) := by decide +kernel
theorem dX4_describeChannel_1 : decode cX4_describeChannel 1 = .ok (.istore 5, 2) := by decide +kernel
theorem dX4_describeChannel_3 : decode cX4_describeChannel 3 = .ok (.iload 5, 2) := by decide +kernel
theorem dX4_describeChannel_5 : decode cX4_describeChannel 5 = .ok (.bipush 6, 2) := by decide +kernel
theorem dX4_describeChannel_7 : decode cX4_describeChannel 7 = .ok (.if_icmp .ge 43, 3) := by decide +kernel
theorem dX4_describeChannel_10 : decode cX4_describeChannel 10 = .ok (.iload_n 1, 1) := by decide +kernel
theorem dX4_describeChannel_11 : decode cX4_describeChannel 11 = .ok (.iload 5, 2) := by decide +kernel
theorem dX4_describeChannel_13 : decode cX4_describeChannel 13 = .ok (.invokestatic 59, 3) := by decide +kernel
theorem dX4_describeChannel_16 : decode cX4_describeChannel 16 = .ok (.ifCond .eq 28, 3) := by decide +kernel
theorem dX4_describeChannel_19 : decode cX4_describeChannel 19 = .ok (.aload_n 0, 1) := by decide +kernel
theorem dX4_describeChannel_20 : decode cX4_describeChannel 20 = .ok (.getfield 37, 3) := by decide +kernel
theorem dX4_describeChannel_23 : decode cX4_describeChannel 23 = .ok (.iload 5, 2) := by decide +kernel
theorem dX4_describeChannel_25 : decode cX4_describeChannel 25 = .ok (.iload_n 2, 1) := by decide +kernel
theorem dX4_describeChannel_26 : decode cX4_describeChannel 26 = .ok (.invokestatic 111, 3) := by decide +kernel
theorem dX4_describeChannel_29 : decode cX4_describeChannel 29 = .ok (.iload_n 3, 1) := by decide +kernel
theorem dX4_describeChannel_30 : decode cX4_describeChannel 30 = .ok (.iastore, 1) := by decide +kernel
theorem dX4_describeChannel_31 : decode cX4_describeChannel 31 = .ok (.aload_n 0, 1) := by decide +kernel
theorem dX4_describeChannel_32 : decode cX4_describeChannel 32 = .ok (.getfield 40, 3) := by decide +kernel
theorem dX4_describeChannel_35 : decode cX4_describeChannel 35 = .ok (.iload 5, 2) := by decide +kernel
theorem dX4_describeChannel_37 : decode cX4_describeChannel 37 = .ok (.iload_n 2, 1) := by decide +kernel
theorem dX4_describeChannel_38 : decode cX4_describeChannel 38 = .ok (.invokestatic 111, 3) := by decide +kernel
theorem dX4_describeChannel_41 : decode cX4_describeChannel 41 = .ok (.iload 4, 2) := by decide +kernel
theorem dX4_describeChannel_43 : decode cX4_describeChannel 43 = .ok (.iastore, 1) := by decide +kernel
theorem dX4_describeChannel_44 : decode cX4_describeChannel 44 = .ok (.iinc 5 1, 3) := by decide +kernel
theorem dX4_describeChannel_47 : decode cX4_describeChannel 47 = .ok (.goto (-44), 3) := by decide +kernel
theorem dX4_describeChannel_50 : decode cX4_describeChannel 50 = .ok (.return_, 1) := by decide +kernel
theorem dX4_countMessages_0 : decode cX4_countMessages 0 = .ok (.aload_n 0, 1) := by decide +kernel
theorem dX4_countMessages_1 : decode cX4_countMessages 1 = .ok (.iload_n 1, 1) := by decide +kernel
theorem dX4_countMessages_2 : decode cX4_countMessages 2 = .ok (.invokevirtual 71, 3) := by decide +kernel
theorem dX4_countMessages_5 : decode cX4_countMessages 5 = .ok (.istore_n 2, 1) := by decide +kernel
theorem dX4_countMessages_6 : decode cX4_countMessages 6 = .ok (.iload_n 2, 1) := by decide +kernel
theorem dX4_countMessages_7 : decode cX4_countMessages 7 = .ok (.invokestatic 121, 3) := by decide +kernel
theorem dX4_countMessages_10 : decode cX4_countMessages 10 = .ok (.aload_n 0, 1) := by decide +kernel
theorem dX4_countMessages_11 : decode cX4_countMessages 11 = .ok (.iload_n 2, 1) := by decide +kernel
theorem dX4_countMessages_12 : decode cX4_countMessages 12 = .ok (.invokevirtual 126, 3) := by decide +kernel
theorem dX4_countMessages_15 : decode cX4_countMessages 15 = .ok (.iadd, 1) := by decide +kernel
theorem dX4_countMessages_16 : decode cX4_countMessages 16 = .ok (.istore_n 3, 1) := by decide +kernel
theorem dX4_countMessages_17 : decode cX4_countMessages 17 = .ok (.iconst 0, 1) := by decide +kernel
theorem dX4_countMessages_18 : decode cX4_countMessages 18 = .ok (.istore 4, 2) := by decide +kernel
theorem dX4_countMessages_20 : decode cX4_countMessages 20 = .ok (.iload 4, 2) := by decide +kernel
theorem dX4_countMessages_22 : decode cX4_countMessages 22 = .ok (.iconst 4, 1) := by decide +kernel
theorem dX4_countMessages_23 : decode cX4_countMessages 23 = .ok (.if_icmp .ge 42, 3) := by decide +kernel
theorem dX4_countMessages_26 : decode cX4_countMessages 26 = .ok (.aload_n 0, 1) := by decide +kernel
theorem dX4_countMessages_27 : decode cX4_countMessages 27 = .ok (.iload_n 2, 1) := by decide +kernel
theorem dX4_countMessages_28 : decode cX4_countMessages 28 = .ok (.iload 4, 2) := by decide +kernel
theorem dX4_countMessages_30 : decode cX4_countMessages 30 = .ok (.invokevirtual 118, 3) := by decide +kernel
theorem dX4_countMessages_33 : decode cX4_countMessages 33 = .ok (.invokestatic 121, 3) := by decide +kernel
theorem dX4_countMessages_36 : decode cX4_countMessages 36 = .ok (.istore 5, 2) := by decide +kernel
theorem dX4_countMessages_38 : decode cX4_countMessages 38 = .ok (.iload 5, 2) := by decide +kernel
theorem dX4_countMessages_40 : decode cX4_countMessages 40 = .ok (.ifCond .le 19, 3) := by decide +kernel
theorem dX4_countMessages_43 : decode cX4_countMessages 43 = .ok (.iload_n 3, 1) := by decide +kernel
theorem dX4_countMessages_44 : decode cX4_countMessages 44 = .ok (.iload 5, 2) := by decide +kernel
theorem dX4_countMessages_46 : decode cX4_countMessages 46 = .ok (.aload_n 0, 1) := by decide +kernel
theorem dX4_countMessages_47 : decode cX4_countMessages 47 = .ok (.iload_n 1, 1) := by decide +kernel
theorem dX4_countMessages_48 : decode cX4_countMessages 48 = .ok (.iload 4, 2) := by decide +kernel
theorem dX4_countMessages_50 : decode cX4_countMessages 50 = .ok (.invokevirtual 129, 3) := by decide +kernel
theorem dX4_countMessages_53 : decode cX4_countMessages 53 = .ok (.invokestatic 121, 3) := by decide +kernel
theorem dX4_countMessages_56 : decode cX4_countMessages 56 = .ok (.iadd, 1) := by decide +kernel
theorem dX4_countMessages_57 : decode cX4_countMessages 57 = .ok (.iadd, 1) := by decide +kernel
theorem dX4_countMessages_58 : decode cX4_countMessages 58 = .ok (.istore_n 3, 1) := by decide +kernel
theorem dX4_countMessages_59 : decode cX4_countMessages 59 = .ok (.iinc 4 1, 3) := by decide +kernel
theorem dX4_countMessages_62 : decode cX4_countMessages 62 = .ok (.goto (-42), 3) := by decide +kernel
theorem dX4_countMessages_65 : decode cX4_countMessages 65 = .ok (.iload_n 3, 1) := by decide +kernel
theorem dX4_countMessages_66 : decode cX4_countMessages 66 = .ok (.ireturn, 1) := by decide +kernel
