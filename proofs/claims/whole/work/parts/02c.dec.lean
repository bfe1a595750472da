theorem dX5_init_0 : decode cX5_init 0 = .ok (.aload_n 0, 1) := by decide +kernel
theorem dX5_init_1 : decode cX5_init 1 = .ok (.invokespecial 3, 3) := by decide +kernel
theorem dX5_init_4 : decode cX5_init 4 = .ok (.aload_n 0, 1) := by decide +kernel
theorem dX5_init_5 : decode cX5_init 5 = .ok (.new 9, 3) := by decide +kernel
theorem dX5_init_8 : decode cX5_init 8 = .ok (.dup, 1) := by decide +kernel
theorem dX5_init_9 : decode cX5_init 9 = .ok (.invokespecial 11, 3) := by decide +kernel
theorem dX5_init_12 : decode cX5_init 12 = .ok (.putfield 12, 3) := by decide +kernel
theorem dX5_init_15 : decode cX5_init 15 = .ok (.aload_n 0, 1) := by decide +kernel
theorem dX5_init_16 : decode cX5_init 16 = .ok (.new 16, 3) := by decide +kernel
theorem dX5_init_19 : decode cX5_init 19 = .ok (.dup, 1) := by decide +kernel
theorem dX5_init_20 : decode cX5_init 20 = .ok (.invokespecial 18, 3) := by decide +kernel
theorem dX5_init_23 : decode cX5_init 23 = .ok (.putfield 19, 3) := by decide +kernel
theorem dX5_init_26 : decode cX5_init 26 = .ok (.aload_n 0, 1) := by decide +kernel
theorem dX5_init_27 : decode cX5_init 27 = .ok (.new 23, 3) := by decide +kernel
theorem dX5_init_30 : decode cX5_init 30 = .ok (.dup, 1) := by decide +kernel
theorem dX5_init_31 : decode cX5_init 31 = .ok (.invokespecial 25, 3) := by decide +kernel
theorem dX5_init_34 : decode cX5_init 34 = .ok (.putfield 26, 3) := by decide +kernel
theorem dX5_init_37 : decode cX5_init 37 = .ok (.aload_n 0, 1) := by decide +kernel
theorem dX5_init_38 : decode cX5_init 38 = .ok (.new 30, 3) := by decide +kernel
theorem dX5_init_41 : decode cX5_init 41 = .ok (.dup, 1) := by decide +kernel
theorem dX5_init_42 : decode cX5_init 42 = .ok (.invokespecial 32, 3) := by decide +kernel
theorem dX5_init_45 : decode cX5_init 45 = .ok (.putfield 33, 3) := by decide +kernel
theorem dX5_init_48 : decode cX5_init 48 = .ok (.return_, 1) := by decide +kernel
theorem dX5_createServers_0 : decode cX5_createServers 0 = .ok (.iload_n 1, 1) := by decide +kernel
theorem dX5_createServers_1 : decode cX5_createServers 1 = .ok (.iconst 1, 1) := by decide +kernel
theorem dX5_createServers_2 : decode cX5_createServers 2 = .ok (.if_icmp .lt 9, 3) := by decide +kernel
theorem dX5_createServers_5 : decode cX5_createServers 5 = .ok (.iload_n 1, 1) := by decide +kernel
theorem dX5_createServers_6 : decode cX5_createServers 6 = .ok (.bipush 6, 2) := by decide +kernel
theorem dX5_createServers_8 : decode cX5_createServers 8 = .ok (.if_icmp .le 5, 3) := by decide +kernel
theorem dX5_createServers_11 : decode cX5_createServers 11 = .ok (.iconst (-1), 1) := by decide +kernel
theorem dX5_createServers_12 : decode cX5_createServers 12 = .ok (.ireturn, 1) := by decide +kernel
theorem dX5_createServers_13 : decode cX5_createServers 13 = .ok (.aload_n 0, 1) := by decide +kernel
theorem dX5_createServers_14 : decode cX5_createServers 14 = .ok (.getfield 12, 3) := by decide +kernel
theorem dX5_createServers_17 : decode cX5_createServers 17 = .ok (.bipush 63, 2) := by decide +kernel
theorem dX5_createServers_19 : decode cX5_createServers 19 = .ok (.invokevirtual 37, 3) := by decide +kernel
theorem dX5_createServers_22 : decode cX5_createServers 22 = .ok (.istore_n 2, 1) := by decide +kernel
theorem dX5_createServers_23 : decode cX5_createServers 23 = .ok (.aload_n 0, 1) := by decide +kernel
theorem dX5_createServers_24 : decode cX5_createServers 24 = .ok (.getfield 19, 3) := by decide +kernel
theorem dX5_createServers_27 : decode cX5_createServers 27 = .ok (.aload_n 0, 1) := by decide +kernel
theorem dX5_createServers_28 : decode cX5_createServers 28 = .ok (.getfield 12, 3) := by decide +kernel
theorem dX5_createServers_31 : decode cX5_createServers 31 = .ok (.invokevirtual 41, 3) := by decide +kernel
theorem dX5_createServers_34 : decode cX5_createServers 34 = .ok (.aload_n 0, 1) := by decide +kernel
theorem dX5_createServers_35 : decode cX5_createServers 35 = .ok (.getfield 12, 3) := by decide +kernel
theorem dX5_createServers_38 : decode cX5_createServers 38 = .ok (.iload_n 1, 1) := by decide +kernel
theorem dX5_createServers_39 : decode cX5_createServers 39 = .ok (.invokevirtual 45, 3) := by decide +kernel
theorem dX5_createServers_42 : decode cX5_createServers 42 = .ok (.iload_n 2, 1) := by decide +kernel
theorem dX5_createServers_43 : decode cX5_createServers 43 = .ok (.ireturn, 1) := by decide +kernel
theorem dX5_connect_0 : decode cX5_connect 0 = .ok (.aload_n 0, 1) := by decide +kernel
theorem dX5_connect_1 : decode cX5_connect 1 = .ok (.getfield 12, 3) := by decide +kernel
theorem dX5_connect_4 : decode cX5_connect 4 = .ok (.iload_n 1, 1) := by decide +kernel
theorem dX5_connect_5 : decode cX5_connect 5 = .ok (.iload_n 2, 1) := by decide +kernel
theorem dX5_connect_6 : decode cX5_connect 6 = .ok (.invokevirtual 49, 3) := by decide +kernel
theorem dX5_connect_9 : decode cX5_connect 9 = .ok (.ifCond .eq 8, 3) := by decide +kernel
theorem dX5_connect_12 : decode cX5_connect 12 = .ok (.iload_n 1, 1) := by decide +kernel
theorem dX5_connect_13 : decode cX5_connect 13 = .ok (.iload_n 2, 1) := by decide +kernel
theorem dX5_connect_14 : decode cX5_connect 14 = .ok (.if_icmp .ne 5, 3) := by decide +kernel
theorem dX5_connect_17 : decode cX5_connect 17 = .ok (.iconst (-1), 1) := by decide +kernel
theorem dX5_connect_18 : decode cX5_connect 18 = .ok (.ireturn, 1) := by decide +kernel
theorem dX5_connect_19 : decode cX5_connect 19 = .ok (.aload_n 0, 1) := by decide +kernel
theorem dX5_connect_20 : decode cX5_connect 20 = .ok (.getfield 12, 3) := by decide +kernel
theorem dX5_connect_23 : decode cX5_connect 23 = .ok (.iload_n 1, 1) := by decide +kernel
theorem dX5_connect_24 : decode cX5_connect 24 = .ok (.iload_n 2, 1) := by decide +kernel
theorem dX5_connect_25 : decode cX5_connect 25 = .ok (.invokevirtual 53, 3) := by decide +kernel
theorem dX5_connect_28 : decode cX5_connect 28 = .ok (.ifCond .eq 6, 3) := by decide +kernel
theorem dX5_connect_31 : decode cX5_connect 31 = .ok (.bipush (-2), 2) := by decide +kernel
theorem dX5_connect_33 : decode cX5_connect 33 = .ok (.ireturn, 1) := by decide +kernel
theorem dX5_connect_34 : decode cX5_connect 34 = .ok (.aload_n 0, 1) := by decide +kernel
theorem dX5_connect_35 : decode cX5_connect 35 = .ok (.getfield 19, 3) := by decide +kernel
theorem dX5_connect_38 : decode cX5_connect 38 = .ok (.aload_n 0, 1) := by decide +kernel
theorem dX5_connect_39 : decode cX5_connect 39 = .ok (.getfield 12, 3) := by decide +kernel
theorem dX5_connect_42 : decode cX5_connect 42 = .ok (.invokevirtual 41, 3) := by decide +kernel
theorem dX5_connect_45 : decode cX5_connect 45 = .ok (.aload_n 0, 1) := by decide +kernel
theorem dX5_connect_46 : decode cX5_connect 46 = .ok (.getfield 12, 3) := by decide +kernel
theorem dX5_connect_49 : decode cX5_connect 49 = .ok (.iload_n 1, 1) := by decide +kernel
theorem dX5_connect_50 : decode cX5_connect 50 = .ok (.iload_n 2, 1) := by decide +kernel
theorem dX5_connect_51 : decode cX5_connect 51 = .ok (.invokestatic 56, 3) := by decide +kernel
theorem dX5_connect_54 : decode cX5_connect 54 = .ok (.istore_n 3, 1) := by decide +kernel
theorem dX5_connect_55 : decode cX5_connect 55 = .ok (.aload_n 0, 1) := by decide +kernel
theorem dX5_connect_56 : decode cX5_connect 56 = .ok (.getfield 12, 3) := by decide +kernel
theorem dX5_connect_59 : decode cX5_connect 59 = .ok (.iload_n 1, 1) := by decide +kernel
theorem dX5_connect_60 : decode cX5_connect 60 = .ok (.iload_n 2, 1) := by decide +kernel
theorem dX5_connect_61 : decode cX5_connect 61 = .ok (.invokestatic 62, 3) := by decide +kernel
theorem dX5_connect_64 : decode cX5_connect 64 = .ok (.aload_n 0, 1) := by decide +kernel
theorem dX5_connect_65 : decode cX5_connect 65 = .ok (.getfield 12, 3) := by decide +kernel
theorem dX5_connect_68 : decode cX5_connect 68 = .ok (.iload_n 1, 1) := by decide +kernel
theorem dX5_connect_69 : decode cX5_connect 69 = .ok (.iload_n 2, 1) := by decide +kernel
theorem dX5_connect_70 : decode cX5_connect 70 = .ok (.invokestatic 66, 3) := by decide +kernel
theorem dX5_connect_73 : decode cX5_connect 73 = .ok (.aload_n 0, 1) := by decide +kernel
theorem dX5_connect_74 : decode cX5_connect 74 = .ok (.getfield 12, 3) := by decide +kernel
theorem dX5_connect_77 : decode cX5_connect 77 = .ok (.iload_n 1, 1) := by decide +kernel
theorem dX5_connect_78 : decode cX5_connect 78 = .ok (.iload_n 2, 1) := by decide +kernel
theorem dX5_connect_79 : decode cX5_connect 79 = .ok (.invokevirtual 69, 3) := by decide +kernel
theorem dX5_connect_82 : decode cX5_connect 82 = .ok (.iload_n 3, 1) := by decide +kernel
theorem dX5_connect_83 : decode cX5_connect 83 = .ok (.ireturn, 1) := by decide +kernel
theorem dX5_disconnect_0 : decode cX5_disconnect 0 = .ok (.aload_n 0, 1) := by decide +kernel
theorem dX5_disconnect_1 : decode cX5_disconnect 1 = .ok (.getfield 12, 3) := by decide +kernel
theorem dX5_disconnect_4 : decode cX5_disconnect 4 = .ok (.iload_n 1, 1) := by decide +kernel
theorem dX5_disconnect_5 : decode cX5_disconnect 5 = .ok (.iload_n 2, 1) := by decide +kernel
theorem dX5_disconnect_6 : decode cX5_disconnect 6 = .ok (.invokevirtual 49, 3) := by decide +kernel
theorem dX5_disconnect_9 : decode cX5_disconnect 9 = .ok (.ifCond .eq 8, 3) := by decide +kernel
theorem dX5_disconnect_12 : decode cX5_disconnect 12 = .ok (.iload_n 1, 1) := by decide +kernel
theorem dX5_disconnect_13 : decode cX5_disconnect 13 = .ok (.iload_n 2, 1) := by decide +kernel
theorem dX5_disconnect_14 : decode cX5_disconnect 14 = .ok (.if_icmp .ne 5, 3) := by decide +kernel
theorem dX5_disconnect_17 : decode cX5_disconnect 17 = .ok (.iconst (-1), 1) := by decide +kernel
theorem dX5_disconnect_18 : decode cX5_disconnect 18 = .ok (.ireturn, 1) := by decide +kernel
theorem dX5_disconnect_19 : decode cX5_disconnect 19 = .ok (.aload_n 0, 1) := by decide +kernel
theorem dX5_disconnect_20 : decode cX5_disconnect 20 = .ok (.getfield 12, 3) := by decide +kernel
theorem dX5_disconnect_23 : decode cX5_disconnect 23 = .ok (.iload_n 1, 1) := by decide +kernel
theorem dX5_disconnect_24 : decode cX5_disconnect 24 = .ok (.iload_n 2, 1) := by decide +kernel
theorem dX5_disconnect_25 : decode cX5_disconnect 25 = .ok (.invokevirtual 73, 3) := by decide +kernel
theorem dX5_disconnect_28 : decode cX5_disconnect 28 = .ok (.ifCond .ne 6, 3) := by decide +kernel
theorem dX5_disconnect_31 : decode cX5_disconnect 31 = .ok (.bipush (-2), 2) := by decide +kernel
theorem dX5_disconnect_33 : decode cX5_disconnect 33 = .ok (.ireturn, 1) := by decide +kernel
theorem dX5_disconnect_34 : decode cX5_disconnect 34 = .ok (.aload_n 0, 1) := by decide +kernel
theorem dX5_disconnect_35 : decode cX5_disconnect 35 = .ok (.getfield 19, 3) := by decide +kernel
theorem dX5_disconnect_38 : decode cX5_disconnect 38 = .ok (.aload_n 0, 1) := by decide +kernel
theorem dX5_disconnect_39 : decode cX5_disconnect 39 = .ok (.getfield 12, 3) := by decide +kernel
theorem dX5_disconnect_42 : decode cX5_disconnect 42 = .ok (.invokevirtual 41, 3) := by decide +kernel
theorem dX5_disconnect_45 : decode cX5_disconnect 45 = .ok (.aload_n 0, 1) := by decide +kernel
theorem dX5_disconnect_46 : decode cX5_disconnect 46 = .ok (.getfield 12, 3) := by decide +kernel
theorem dX5_disconnect_49 : decode cX5_disconnect 49 = .ok (.iload_n 1, 1) := by decide +kernel
theorem dX5_disconnect_50 : decode cX5_disconnect 50 = .ok (.iload_n 2, 1) := by decide +kernel
theorem dX5_disconnect_51 : decode cX5_disconnect 51 = .ok (.invokevirtual 76, 3) := by decide +kernel
theorem dX5_disconnect_54 : decode cX5_disconnect 54 = .ok (.aload_n 0, 1) := by decide +kernel
theorem dX5_disconnect_55 : decode cX5_disconnect 55 = .ok (.getfield 12, 3) := by decide +kernel
theorem dX5_disconnect_58 : decode cX5_disconnect 58 = .ok (.iload_n 1, 1) := by decide +kernel
theorem dX5_disconnect_59 : decode cX5_disconnect 59 = .ok (.invokevirtual 79, 3) := by decide +kernel
theorem dX5_disconnect_62 : decode cX5_disconnect 62 = .ok (.invokestatic 82, 3) := by decide +kernel
theorem dX5_disconnect_65 : decode cX5_disconnect 65 = .ok (.ireturn, 1) := by decide +kernel
theorem dX5_advance_0 : decode cX5_advance 0 = .ok (.iload_n 1, 1) := by decide +kernel
theorem dX5_advance_1 : decode cX5_advance 1 = .ok (.iconst 1, 1) := by decide +kernel
theorem dX5_advance_2 : decode cX5_advance 2 = .ok (.if_icmp .lt 10, 3) := by decide +kernel
theorem dX5_advance_5 : decode cX5_advance 5 = .ok (.iload_n 1, 1) := by decide +kernel
theorem dX5_advance_6 : decode cX5_advance 6 = .ok (.sipush 999, 3) := by decide +kernel
theorem dX5_advance_9 : decode cX5_advance 9 = .ok (.if_icmp .le 5, 3) := by decide +kernel
theorem dX5_advance_12 : decode cX5_advance 12 = .ok (.iconst (-1), 1) := by decide +kernel
theorem dX5_advance_13 : decode cX5_advance 13 = .ok (.ireturn, 1) := by decide +kernel
theorem dX5_advance_14 : decode cX5_advance 14 = .ok (.aload_n 0, 1) := by decide +kernel
theorem dX5_advance_15 : decode cX5_advance 15 = .ok (.getfield 12, 3) := by decide +kernel
theorem dX5_advance_18 : decode cX5_advance 18 = .ok (.getfield 87, 3) := by decide +kernel
theorem dX5_advance_21 : decode cX5_advance 21 = .ok (.iload_n 1, 1) := by decide +kernel
theorem dX5_advance_22 : decode cX5_advance 22 = .ok (.iadd, 1) := by decide +kernel
theorem dX5_advance_23 : decode cX5_advance 23 = .ok (.sipush 9999, 3) := by decide +kernel
theorem dX5_advance_26 : decode cX5_advance 26 = .ok (.if_icmp .le 6, 3) := by decide +kernel
theorem dX5_advance_29 : decode cX5_advance 29 = .ok (.bipush (-3), 2) := by decide +kernel
theorem dX5_advance_31 : decode cX5_advance 31 = .ok (.ireturn, 1) := by decide +kernel
theorem dX5_advance_32 : decode cX5_advance 32 = .ok (.aload_n 0, 1) := by decide +kernel
theorem dX5_advance_33 : decode cX5_advance 33 = .ok (.getfield 19, 3) := by decide +kernel
theorem dX5_advance_36 : decode cX5_advance 36 = .ok (.aload_n 0, 1) := by decide +kernel
theorem dX5_advance_37 : decode cX5_advance 37 = .ok (.getfield 12, 3) := by decide +kernel
theorem dX5_advance_40 : decode cX5_advance 40 = .ok (.invokevirtual 41, 3) := by decide +kernel
theorem dX5_advance_43 : decode cX5_advance 43 = .ok (.aload_n 0, 1) := by decide +kernel
theorem dX5_advance_44 : decode cX5_advance 44 = .ok (.getfield 12, 3) := by decide +kernel
theorem dX5_advance_47 : decode cX5_advance 47 = .ok (.dup, 1) := by decide +kernel
theorem dX5_advance_48 : decode cX5_advance 48 = .ok (.getfield 87, 3) := by decide +kernel
theorem dX5_advance_51 : decode cX5_advance 51 = .ok (.iload_n 1, 1) := by decide +kernel
theorem dX5_advance_52 : decode cX5_advance 52 = .ok (.iadd, 1) := by decide +kernel
theorem dX5_advance_53 : decode cX5_advance 53 = .ok (.putfield 87, 3) := by decide +kernel
theorem dX5_advance_56 : decode cX5_advance 56 = .ok (.aload_n 0, 1) := by decide +kernel
theorem dX5_advance_57 : decode cX5_advance 57 = .ok (.getfield 12, 3) := by decide +kernel
theorem dX5_advance_60 : decode cX5_advance 60 = .ok (.getfield 87, 3) := by decide +kernel
theorem dX5_advance_63 : decode cX5_advance 63 = .ok (.ireturn, 1) := by decide +kernel
theorem dX5_time_0 : decode cX5_time 0 = .ok (.aload_n 0, 1) := by decide +kernel
theorem dX5_time_1 : decode cX5_time 1 = .ok (.getfield 12, 3) := by decide +kernel
theorem dX5_time_4 : decode cX5_time 4 = .ok (.getfield 87, 3) := by decide +kernel
theorem dX5_time_7 : decode cX5_time 7 = .ok (.ireturn, 1) := by decide +kernel
theorem dX5_hops_0 : decode cX5_hops 0 = .ok (.aload_n 0, 1) := by decide +kernel
theorem dX5_hops_1 : decode cX5_hops 1 = .ok (.getfield 12, 3) := by decide +kernel
theorem dX5_hops_4 : decode cX5_hops 4 = .ok (.iload_n 1, 1) := by decide +kernel
theorem dX5_hops_5 : decode cX5_hops 5 = .ok (.iload_n 2, 1) := by decide +kernel
theorem dX5_hops_6 : decode cX5_hops 6 = .ok (.invokevirtual 49, 3) := by decide +kernel
theorem dX5_hops_9 : decode cX5_hops 9 = .ok (.ifCond .ne 5, 3) := by decide +kernel
theorem dX5_hops_12 : decode cX5_hops 12 = .ok (.iconst (-1), 1) := by decide +kernel
theorem dX5_hops_13 : decode cX5_hops 13 = .ok (.ireturn, 1) := by decide +kernel
theorem dX5_hops_14 : decode cX5_hops 14 = .ok (.iconst 1, 1) := by decide +kernel
theorem dX5_hops_15 : decode cX5_hops 15 = .ok (.iload_n 1, 1) := by decide +kernel
theorem dX5_hops_16 : decode cX5_hops 16 = .ok (.ishl, 1) := by decide +kernel
theorem dX5_hops_17 : decode cX5_hops 17 = .ok (.istore_n 3, 1) := by decide +kernel
theorem dX5_hops_18 : decode cX5_hops 18 = .ok (.iconst 0, 1) := by decide +kernel
theorem dX5_hops_19 : decode cX5_hops 19 = .ok (.istore 4, 2) := by decide +kernel
theorem dX5_hops_21 : decode cX5_hops 21 = .ok (.iload 4, 2) := by decide +kernel
theorem dX5_hops_23 : decode cX5_hops 23 = .ok (.bipush 6, 2) := by decide +kernel
theorem dX5_hops_25 : decode cX5_hops 25 = .ok (.if_icmp .ge 29, 3) := by decide +kernel
theorem dX5_hops_28 : decode cX5_hops 28 = .ok (.iload_n 3, 1) := by decide +kernel
theorem dX5_hops_29 : decode cX5_hops 29 = .ok (.iload_n 2, 1) := by decide +kernel
theorem dX5_hops_30 : decode cX5_hops 30 = .ok (.invokestatic 91, 3) := by decide +kernel
theorem dX5_hops_33 : decode cX5_hops 33 = .ok (.ifCond .eq 6, 3) := by decide +kernel
theorem dX5_hops_36 : decode cX5_hops 36 = .ok (.iload 4, 2) := by decide +kernel
theorem dX5_hops_38 : decode cX5_hops 38 = .ok (.ireturn, 1) := by decide +kernel
theorem dX5_hops_39 : decode cX5_hops 39 = .ok (.aload_n 0, 1) := by decide +kernel
theorem dX5_hops_40 : decode cX5_hops 40 = .ok (.getfield 12, 3) := by decide +kernel
theorem dX5_hops_43 : decode cX5_hops 43 = .ok (.iload_n 3, 1) := by decide +kernel
theorem dX5_hops_44 : decode cX5_hops 44 = .ok (.invokevirtual 94, 3) := by decide +kernel
theorem dX5_hops_47 : decode cX5_hops 47 = .ok (.istore_n 3, 1) := by decide +kernel
theorem dX5_hops_48 : decode cX5_hops 48 = .ok (.iinc 4 1, 3) := by decide +kernel
theorem dX5_hops_51 : decode cX5_hops 51 = .ok (.goto (-30), 3) := by decide +kernel
theorem dX5_hops_54 : decode cX5_hops 54 = .ok (.bipush (-9), 2) := by decide +kernel
theorem dX5_hops_56 : decode cX5_hops 56 = .ok (.ireturn, 1) := by decide +kernel
theorem dX5_signOn_0 : decode cX5_signOn 0 = .ok (.aload_n 0, 1) := by decide +kernel
theorem dX5_signOn_1 : decode cX5_signOn 1 = .ok (.getfield 12, 3) := by decide +kernel
theorem dX5_signOn_4 : decode cX5_signOn 4 = .ok (.iload_n 1, 1) := by decide +kernel
theorem dX5_signOn_5 : decode cX5_signOn 5 = .ok (.invokevirtual 97, 3) := by decide +kernel
theorem dX5_signOn_8 : decode cX5_signOn 8 = .ok (.ifCond .eq 10, 3) := by decide +kernel
theorem dX5_signOn_11 : decode cX5_signOn 11 = .ok (.iload_n 2, 1) := by decide +kernel
theorem dX5_signOn_12 : decode cX5_signOn 12 = .ok (.invokestatic 101, 3) := by decide +kernel
theorem dX5_signOn_15 : decode cX5_signOn 15 = .ok (.ifCond .ne 5, 3) := by decide +kernel
theorem dX5_signOn_18 : decode cX5_signOn 18 = .ok (.iconst (-1), 1) := by decide +kernel
theorem dX5_signOn_19 : decode cX5_signOn 19 = .ok (.ireturn, 1) := by decide +kernel
theorem dX5_signOn_20 : decode cX5_signOn 20 = .ok (.aload_n 0, 1) := by decide +kernel
theorem dX5_signOn_21 : decode cX5_signOn 21 = .ok (.getfield 12, 3) := by decide +kernel
theorem dX5_signOn_24 : decode cX5_signOn 24 = .ok (.iload_n 1, 1) := by decide +kernel
theorem dX5_signOn_25 : decode cX5_signOn 25 = .ok (.invokevirtual 79, 3) := by decide +kernel
theorem dX5_signOn_28 : decode cX5_signOn 28 = .ok (.istore_n 3, 1) := by decide +kernel
theorem dX5_signOn_29 : decode cX5_signOn 29 = .ok (.aload_n 0, 1) := by decide +kernel
theorem dX5_signOn_30 : decode cX5_signOn 30 = .ok (.getfield 12, 3) := by decide +kernel
theorem dX5_signOn_33 : decode cX5_signOn 33 = .ok (.iload_n 3, 1) := by decide +kernel
theorem dX5_signOn_34 : decode cX5_signOn 34 = .ok (.iload_n 2, 1) := by decide +kernel
theorem dX5_signOn_35 : decode cX5_signOn 35 = .ok (.invokevirtual 104, 3) := by decide +kernel
theorem dX5_signOn_38 : decode cX5_signOn 38 = .ok (.iconst (-1), 1) := by decide +kernel
theorem dX5_signOn_39 : decode cX5_signOn 39 = .ok (.if_icmp .eq 6, 3) := by decide +kernel
theorem dX5_signOn_42 : decode cX5_signOn 42 = .ok (.bipush (-2), 2) := by decide +kernel
theorem dX5_signOn_44 : decode cX5_signOn 44 = .ok (.ireturn, 1) := by decide +kernel
theorem dX5_signOn_45 : decode cX5_signOn 45 = .ok (.aload_n 0, 1) := by decide +kernel
theorem dX5_signOn_46 : decode cX5_signOn 46 = .ok (.getfield 19, 3) := by decide +kernel
theorem dX5_signOn_49 : decode cX5_signOn 49 = .ok (.aload_n 0, 1) := by decide +kernel
theorem dX5_signOn_50 : decode cX5_signOn 50 = .ok (.getfield 12, 3) := by decide +kernel
theorem dX5_signOn_53 : decode cX5_signOn 53 = .ok (.invokevirtual 41, 3) := by decide +kernel
theorem dX5_signOn_56 : decode cX5_signOn 56 = .ok (.aload_n 0, 1) := by decide +kernel
theorem dX5_signOn_57 : decode cX5_signOn 57 = .ok (.getfield 12, 3) := by decide +kernel
theorem dX5_signOn_60 : decode cX5_signOn 60 = .ok (.iload_n 1, 1) := by decide +kernel
theorem dX5_signOn_61 : decode cX5_signOn 61 = .ok (.iload_n 2, 1) := by decide +kernel
theorem dX5_signOn_62 : decode cX5_signOn 62 = .ok (.invokevirtual 108, 3) := by decide +kernel
theorem dX5_signOn_65 : decode cX5_signOn 65 = .ok (.aload_n 0, 1) := by decide +kernel
theorem dX5_signOn_66 : decode cX5_signOn 66 = .ok (.getfield 12, 3) := by decide +kernel
theorem dX5_signOn_69 : decode cX5_signOn 69 = .ok (.iload_n 3, 1) := by decide +kernel
theorem dX5_signOn_70 : decode cX5_signOn 70 = .ok (.invokevirtual 37, 3) := by decide +kernel
theorem dX5_signOn_73 : decode cX5_signOn 73 = .ok (.ireturn, 1) := by decide +kernel
theorem dX5_signOff_0 : decode cX5_signOff 0 = .ok (.aload_n 0, 1) := by decide +kernel
theorem dX5_signOff_1 : decode cX5_signOff 1 = .ok (.getfield 12, 3) := by decide +kernel
theorem dX5_signOff_4 : decode cX5_signOff 4 = .ok (.iload_n 1, 1) := by decide +kernel
theorem dX5_signOff_5 : decode cX5_signOff 5 = .ok (.invokevirtual 97, 3) := by decide +kernel
theorem dX5_signOff_8 : decode cX5_signOff 8 = .ok (.ifCond .eq 10, 3) := by decide +kernel
theorem dX5_signOff_11 : decode cX5_signOff 11 = .ok (.iload_n 2, 1) := by decide +kernel
theorem dX5_signOff_12 : decode cX5_signOff 12 = .ok (.invokestatic 101, 3) := by decide +kernel
theorem dX5_signOff_15 : decode cX5_signOff 15 = .ok (.ifCond .ne 5, 3) := by decide +kernel
theorem dX5_signOff_18 : decode cX5_signOff 18 = .ok (.iconst (-1), 1) := by decide +kernel
theorem dX5_signOff_19 : decode cX5_signOff 19 = .ok (.ireturn, 1) := by decide +kernel
theorem dX5_signOff_20 : decode cX5_signOff 20 = .ok (.aload_n 0, 1) := by decide +kernel
theorem dX5_signOff_21 : decode cX5_signOff 21 = .ok (.getfield 12, 3) := by decide +kernel
theorem dX5_signOff_24 : decode cX5_signOff 24 = .ok (.iload_n 1, 1) := by decide +kernel
theorem dX5_signOff_25 : decode cX5_signOff 25 = .ok (.iload_n 2, 1) := by decide +kernel
theorem dX5_signOff_26 : decode cX5_signOff 26 = .ok (.invokevirtual 111, 3) := by decide +kernel
theorem dX5_signOff_29 : decode cX5_signOff 29 = .ok (.ifCond .ne 6, 3) := by decide +kernel
theorem dX5_signOff_32 : decode cX5_signOff 32 = .ok (.bipush (-2), 2) := by decide +kernel
theorem dX5_signOff_34 : decode cX5_signOff 34 = .ok (.ireturn, 1) := by decide +kernel
theorem dX5_signOff_35 : decode cX5_signOff 35 = .ok (.aload_n 0, 1) := by decide +kernel
theorem dX5_signOff_36 : decode cX5_signOff 36 = .ok (.getfield 12, 3) := by decide +kernel
theorem dX5_signOff_39 : decode cX5_signOff 39 = .ok (.iload_n 1, 1) := by decide +kernel
theorem dX5_signOff_40 : decode cX5_signOff 40 = .ok (.iload_n 2, 1) := by decide +kernel
theorem dX5_signOff_41 : decode cX5_signOff 41 = .ok (.invokevirtual 114, 3) := by decide +kernel
theorem dX5_signOff_44 : decode cX5_signOff 44 = .ok (.istore_n 3, 1) := by decide +kernel
theorem dX5_signOff_45 : decode cX5_signOff 45 = .ok (.aload_n 0, 1) := by decide +kernel
theorem dX5_signOff_46 : decode cX5_signOff 46 = .ok (.getfield 19, 3) := by decide +kernel
theorem dX5_signOff_49 : decode cX5_signOff 49 = .ok (.aload_n 0, 1) := by decide +kernel
theorem dX5_signOff_50 : decode cX5_signOff 50 = .ok (.getfield 12, 3) := by decide +kernel
theorem dX5_signOff_53 : decode cX5_signOff 53 = .ok (.invokevirtual 41, 3) := by decide +kernel
theorem dX5_signOff_56 : decode cX5_signOff 56 = .ok (.aload_n 0, 1) := by decide +kernel
theorem dX5_signOff_57 : decode cX5_signOff 57 = .ok (.getfield 12, 3) := by decide +kernel
theorem dX5_signOff_60 : decode cX5_signOff 60 = .ok (.iload_n 1, 1) := by decide +kernel
theorem dX5_signOff_61 : decode cX5_signOff 61 = .ok (.iload_n 2, 1) := by decide +kernel
theorem dX5_signOff_62 : decode cX5_signOff 62 = .ok (.invokevirtual 117, 3) := by decide +kernel
theorem dX5_signOff_65 : decode cX5_signOff 65 = .ok (.iload_n 3, 1) := by decide +kernel
theorem dX5_signOff_66 : decode cX5_signOff 66 = .ok (.ireturn, 1) := by decide +kernel
theorem dX5_changeNick_0 : decode cX5_changeNick 0 = .ok (.aload_n 0, 1) := by decide +kernel
theorem dX5_changeNick_1 : decode cX5_changeNick 1 = .ok (.getfield 12, 3) := by decide +kernel
theorem dX5_changeNick_4 : decode cX5_changeNick 4 = .ok (.iload_n 1, 1) := by decide +kernel
theorem dX5_changeNick_5 : decode cX5_changeNick 5 = .ok (.invokevirtual 97, 3) := by decide +kernel
theorem dX5_changeNick_8 : decode cX5_changeNick 8 = .ok (.ifCond .eq 17, 3) := by decide +kernel
theorem dX5_changeNick_11 : decode cX5_changeNick 11 = .ok (.iload_n 2, 1) := by decide +kernel
theorem dX5_changeNick_12 : decode cX5_changeNick 12 = .ok (.invokestatic 101, 3) := by decide +kernel
theorem dX5_changeNick_15 : decode cX5_changeNick 15 = .ok (.ifCond .eq 10, 3) := by decide +kernel
theorem dX5_changeNick_18 : decode cX5_changeNick 18 = .ok (.iload_n 3, 1) := by decide +kernel
theorem dX5_changeNick_19 : decode cX5_changeNick 19 = .ok (.invokestatic 101, 3) := by decide +kernel
theorem dX5_changeNick_22 : decode cX5_changeNick 22 = .ok (.ifCond .ne 5, 3) := by decide +kernel
theorem dX5_changeNick_25 : decode cX5_changeNick 25 = .ok (.iconst (-1), 1) := by decide +kernel
theorem dX5_changeNick_26 : decode cX5_changeNick 26 = .ok (.ireturn, 1) := by decide +kernel
theorem dX5_changeNick_27 : decode cX5_changeNick 27 = .ok (.aload_n 0, 1) := by decide +kernel
theorem dX5_changeNick_28 : decode cX5_changeNick 28 = .ok (.getfield 12, 3) := by decide +kernel
theorem dX5_changeNick_31 : decode cX5_changeNick 31 = .ok (.iload_n 1, 1) := by decide +kernel
theorem dX5_changeNick_32 : decode cX5_changeNick 32 = .ok (.iload_n 2, 1) := by decide +kernel
theorem dX5_changeNick_33 : decode cX5_changeNick 33 = .ok (.invokevirtual 111, 3) := by decide +kernel
theorem dX5_changeNick_36 : decode cX5_changeNick 36 = .ok (.ifCond .eq 23, 3) := by decide +kernel
theorem dX5_changeNick_39 : decode cX5_changeNick 39 = .ok (.aload_n 0, 1) := by decide +kernel
theorem dX5_changeNick_40 : decode cX5_changeNick 40 = .ok (.getfield 12, 3) := by decide +kernel
theorem dX5_changeNick_43 : decode cX5_changeNick 43 = .ok (.aload_n 0, 1) := by decide +kernel
theorem dX5_changeNick_44 : decode cX5_changeNick 44 = .ok (.getfield 12, 3) := by decide +kernel
theorem dX5_changeNick_47 : decode cX5_changeNick 47 = .ok (.iload_n 1, 1) := by decide +kernel
theorem dX5_changeNick_48 : decode cX5_changeNick 48 = .ok (.invokevirtual 79, 3) := by decide +kernel
theorem dX5_changeNick_51 : decode cX5_changeNick 51 = .ok (.iload_n 3, 1) := by decide +kernel
theorem dX5_changeNick_52 : decode cX5_changeNick 52 = .ok (.invokevirtual 104, 3) := by decide +kernel
theorem dX5_changeNick_55 : decode cX5_changeNick 55 = .ok (.iconst (-1), 1) := by decide +kernel
theorem dX5_changeNick_56 : decode cX5_changeNick 56 = .ok (.if_icmp .eq 6, 3) := by decide +kernel
theorem dX5_changeNick_59 : decode cX5_changeNick 59 = .ok (.bipush (-2), 2) := by decide +kernel
theorem dX5_changeNick_61 : decode cX5_changeNick 61 = .ok (.ireturn, 1) := by decide +kernel
theorem dX5_changeNick_62 : decode cX5_changeNick 62 = .ok (.aload_n 0, 1) := by decide +kernel
theorem dX5_changeNick_63 : decode cX5_changeNick 63 = .ok (.getfield 12, 3) := by decide +kernel
theorem dX5_changeNick_66 : decode cX5_changeNick 66 = .ok (.iload_n 1, 1) := by decide +kernel
theorem dX5_changeNick_67 : decode cX5_changeNick 67 = .ok (.iload_n 2, 1) := by decide +kernel
theorem dX5_changeNick_68 : decode cX5_changeNick 68 = .ok (.invokevirtual 120, 3) := by decide +kernel
theorem dX5_changeNick_71 : decode cX5_changeNick 71 = .ok (.istore 4, 2) := by decide +kernel
theorem dX5_changeNick_73 : decode cX5_changeNick 73 = .ok (.aload_n 0, 1) := by decide +kernel
theorem dX5_changeNick_74 : decode cX5_changeNick 74 = .ok (.getfield 19, 3) := by decide +kernel
theorem dX5_changeNick_77 : decode cX5_changeNick 77 = .ok (.aload_n 0, 1) := by decide +kernel
theorem dX5_changeNick_78 : decode cX5_changeNick 78 = .ok (.getfield 12, 3) := by decide +kernel
theorem dX5_changeNick_81 : decode cX5_changeNick 81 = .ok (.invokevirtual 41, 3) := by decide +kernel
theorem dX5_changeNick_84 : decode cX5_changeNick 84 = .ok (.aload_n 0, 1) := by decide +kernel
theorem dX5_changeNick_85 : decode cX5_changeNick 85 = .ok (.getfield 12, 3) := by decide +kernel
theorem dX5_changeNick_88 : decode cX5_changeNick 88 = .ok (.iload_n 1, 1) := by decide +kernel
theorem dX5_changeNick_89 : decode cX5_changeNick 89 = .ok (.iload_n 2, 1) := by decide +kernel
theorem dX5_changeNick_90 : decode cX5_changeNick 90 = .ok (.iload_n 3, 1) := by decide +kernel
theorem dX5_changeNick_91 : decode cX5_changeNick 91 = .ok (.invokevirtual 123, 3) := by decide +kernel
theorem dX5_changeNick_94 : decode cX5_changeNick 94 = .ok (.iload 4, 2) := by decide +kernel
theorem dX5_changeNick_96 : decode cX5_changeNick 96 = .ok (.ireturn, 1) := by decide +kernel
theorem dX5_homeServer_0 : decode cX5_homeServer 0 = .ok (.aload_n 0, 1) := by decide +kernel
theorem dX5_homeServer_1 : decode cX5_homeServer 1 = .ok (.getfield 12, 3) := by decide +kernel
theorem dX5_homeServer_4 : decode cX5_homeServer 4 = .ok (.iload_n 1, 1) := by decide +kernel
theorem dX5_homeServer_5 : decode cX5_homeServer 5 = .ok (.invokevirtual 97, 3) := by decide +kernel
theorem dX5_homeServer_8 : decode cX5_homeServer 8 = .ok (.ifCond .eq 10, 3) := by decide +kernel
theorem dX5_homeServer_11 : decode cX5_homeServer 11 = .ok (.iload_n 2, 1) := by decide +kernel
theorem dX5_homeServer_12 : decode cX5_homeServer 12 = .ok (.invokestatic 101, 3) := by decide +kernel
theorem dX5_homeServer_15 : decode cX5_homeServer 15 = .ok (.ifCond .ne 5, 3) := by decide +kernel
theorem dX5_homeServer_18 : decode cX5_homeServer 18 = .ok (.iconst (-1), 1) := by decide +kernel
theorem dX5_homeServer_19 : decode cX5_homeServer 19 = .ok (.ireturn, 1) := by decide +kernel
theorem dX5_homeServer_20 : decode cX5_homeServer 20 = .ok (.aload_n 0, 1) := by decide +kernel
theorem dX5_homeServer_21 : decode cX5_homeServer 21 = .ok (.getfield 12, 3) := by decide +kernel
theorem dX5_homeServer_24 : decode cX5_homeServer 24 = .ok (.aload_n 0, 1) := by decide +kernel
theorem dX5_homeServer_25 : decode cX5_homeServer 25 = .ok (.getfield 12, 3) := by decide +kernel
theorem dX5_homeServer_28 : decode cX5_homeServer 28 = .ok (.iload_n 1, 1) := by decide +kernel
theorem dX5_homeServer_29 : decode cX5_homeServer 29 = .ok (.invokevirtual 79, 3) := by decide +kernel
theorem dX5_homeServer_32 : decode cX5_homeServer 32 = .ok (.iload_n 2, 1) := by decide +kernel
theorem dX5_homeServer_33 : decode cX5_homeServer 33 = .ok (.invokevirtual 104, 3) := by decide +kernel
theorem dX5_homeServer_36 : decode cX5_homeServer 36 = .ok (.istore_n 3, 1) := by decide +kernel
theorem dX5_homeServer_37 : decode cX5_homeServer 37 = .ok (.iload_n 3, 1) := by decide +kernel
theorem dX5_homeServer_38 : decode cX5_homeServer 38 = .ok (.iconst (-1), 1) := by decide +kernel
theorem dX5_homeServer_39 : decode cX5_homeServer 39 = .ok (.if_icmp .ne 8, 3) := by decide +kernel
theorem dX5_homeServer_42 : decode cX5_homeServer 42 = .ok (.bipush (-9), 2) := by decide +kernel
theorem dX5_homeServer_44 : decode cX5_homeServer 44 = .ok (.goto 4, 3) := by decide +kernel
theorem dX5_homeServer_47 : decode cX5_homeServer 47 = .ok (.iload_n 3, 1) := by decide +kernel
theorem dX5_homeServer_48 : decode cX5_homeServer 48 = .ok (.ireturn, 1) := by decide +kernel
theorem dX5_userTimestamp_0 : decode cX5_userTimestamp 0 = .ok (.aload_n 0, 1) := by decide +kernel
theorem dX5_userTimestamp_1 : decode cX5_userTimestamp 1 = .ok (.getfield 12, 3) := by decide +kernel
theorem dX5_userTimestamp_4 : decode cX5_userTimestamp 4 = .ok (.iload_n 1, 1) := by decide +kernel
theorem dX5_userTimestamp_5 : decode cX5_userTimestamp 5 = .ok (.invokevirtual 97, 3) := by decide +kernel
theorem dX5_userTimestamp_8 : decode cX5_userTimestamp 8 = .ok (.ifCond .eq 10, 3) := by decide +kernel
theorem dX5_userTimestamp_11 : decode cX5_userTimestamp 11 = .ok (.iload_n 2, 1) := by decide +kernel
theorem dX5_userTimestamp_12 : decode cX5_userTimestamp 12 = .ok (.invokestatic 101, 3) := by decide +kernel
theorem dX5_userTimestamp_15 : decode cX5_userTimestamp 15 = .ok (.ifCond .ne 5, 3) := by decide +kernel
theorem dX5_userTimestamp_18 : decode cX5_userTimestamp 18 = .ok (.iconst (-1), 1) := by decide +kernel
theorem dX5_userTimestamp_19 : decode cX5_userTimestamp 19 = .ok (.ireturn, 1) := by decide +kernel
theorem dX5_userTimestamp_20 : decode cX5_userTimestamp 20 = .ok (.aload_n 0, 1) := by decide +kernel
theorem dX5_userTimestamp_21 : decode cX5_userTimestamp 21 = .ok (.getfield 12, 3) := by decide +kernel
theorem dX5_userTimestamp_24 : decode cX5_userTimestamp 24 = .ok (.aload_n 0, 1) := by decide +kernel
theorem dX5_userTimestamp_25 : decode cX5_userTimestamp 25 = .ok (.getfield 12, 3) := by decide +kernel
theorem dX5_userTimestamp_28 : decode cX5_userTimestamp 28 = .ok (.iload_n 1, 1) := by decide +kernel
theorem dX5_userTimestamp_29 : decode cX5_userTimestamp 29 = .ok (.invokevirtual 79, 3) := by decide +kernel
theorem dX5_userTimestamp_32 : decode cX5_userTimestamp 32 = .ok (.iload_n 2, 1) := by decide +kernel
theorem dX5_userTimestamp_33 : decode cX5_userTimestamp 33 = .ok (.invokevirtual 127, 3) := by decide +kernel
theorem dX5_userTimestamp_36 : decode cX5_userTimestamp 36 = .ok (.istore_n 3, 1) := by decide +kernel
theorem dX5_userTimestamp_37 : decode cX5_userTimestamp 37 = .ok (.iload_n 3, 1) := by decide +kernel
theorem dX5_userTimestamp_38 : decode cX5_userTimestamp 38 = .ok (.iconst (-1), 1) := by decide +kernel
theorem dX5_userTimestamp_39 : decode cX5_userTimestamp 39 = .ok (.if_icmp .ne 8, 3) := by decide +kernel
theorem dX5_userTimestamp_42 : decode cX5_userTimestamp 42 = .ok (.bipush (-9), 2) := by decide +kernel
theorem dX5_userTimestamp_44 : decode cX5_userTimestamp 44 = .ok (.goto 4, 3) := by decide +kernel
theorem dX5_userTimestamp_47 : decode cX5_userTimestamp 47 = .ok (.iload_n 3, 1) := by decide +kernel
theorem dX5_userTimestamp_48 : decode cX5_userTimestamp 48 = .ok (.ireturn, 1) := by decide +kernel
theorem dX5_visibleUsers_0 : decode cX5_visibleUsers 0 = .ok (.aload_n 0, 1) := by decide +kernel
theorem dX5_visibleUsers_1 : decode cX5_visibleUsers 1 = .ok (.getfield 12, 3) := by decide +kernel
theorem dX5_visibleUsers_4 : decode cX5_visibleUsers 4 = .ok (.iload_n 1, 1) := by decide +kernel
theorem dX5_visibleUsers_5 : decode cX5_visibleUsers 5 = .ok (.invokevirtual 97, 3) := by decide +kernel
theorem dX5_visibleUsers_8 : decode cX5_visibleUsers 8 = .ok (.ifCond .ne 5, 3) := by decide +kernel
theorem dX5_visibleUsers_11 : decode cX5_visibleUsers 11 = .ok (.iconst (-1), 1) := by decide +kernel
theorem dX5_visibleUsers_12 : decode cX5_visibleUsers 12 = .ok (.ireturn, 1) := by decide +kernel
theorem dX5_visibleUsers_13 : decode cX5_visibleUsers 13 = .ok (.aload_n 0, 1) := by decide +kernel
theorem dX5_visibleUsers_14 : decode cX5_visibleUsers 14 = .ok (.getfield 12, 3) := by decide +kernel
theorem dX5_visibleUsers_17 : decode cX5_visibleUsers 17 = .ok (.aload_n 0, 1) := by decide +kernel
theorem dX5_visibleUsers_18 : decode cX5_visibleUsers 18 = .ok (.getfield 12, 3) := by decide +kernel
theorem dX5_visibleUsers_21 : decode cX5_visibleUsers 21 = .ok (.iload_n 1, 1) := by decide +kernel
theorem dX5_visibleUsers_22 : decode cX5_visibleUsers 22 = .ok (.invokevirtual 79, 3) := by decide +kernel
theorem dX5_visibleUsers_25 : decode cX5_visibleUsers 25 = .ok (.invokevirtual 130, 3) := by decide +kernel
theorem dX5_visibleUsers_28 : decode cX5_visibleUsers 28 = .ok (.ireturn, 1) := by decide +kernel
theorem dX5_join_0 : decode cX5_join 0 = .ok (.aload_n 0, 1) := by decide +kernel
theorem dX5_join_1 : decode cX5_join 1 = .ok (.getfield 12, 3) := by decide +kernel
theorem dX5_join_4 : decode cX5_join 4 = .ok (.iload_n 1, 1) := by decide +kernel
theorem dX5_join_5 : decode cX5_join 5 = .ok (.invokevirtual 97, 3) := by decide +kernel
theorem dX5_join_8 : decode cX5_join 8 = .ok (.ifCond .eq 17, 3) := by decide +kernel
theorem dX5_join_11 : decode cX5_join 11 = .ok (.iload_n 2, 1) := by decide +kernel
theorem dX5_join_12 : decode cX5_join 12 = .ok (.invokestatic 101, 3) := by decide +kernel
theorem dX5_join_15 : decode cX5_join 15 = .ok (.ifCond .eq 10, 3) := by decide +kernel
theorem dX5_join_18 : decode cX5_join 18 = .ok (.iload_n 3, 1) := by decide +kernel
theorem dX5_join_19 : decode cX5_join 19 = .ok (.invokestatic 133, 3) := by decide +kernel
theorem dX5_join_22 : decode cX5_join 22 = .ok (.ifCond .ne 5, 3) := by decide +kernel
theorem dX5_join_25 : decode cX5_join 25 = .ok (.iconst (-1), 1) := by decide +kernel
theorem dX5_join_26 : decode cX5_join 26 = .ok (.ireturn, 1) := by decide +kernel
theorem dX5_join_27 : decode cX5_join 27 = .ok (.aload_n 0, 1) := by decide +kernel
theorem dX5_join_28 : decode cX5_join 28 = .ok (.getfield 12, 3) := by decide +kernel
theorem dX5_join_31 : decode cX5_join 31 = .ok (.iload_n 1, 1) := by decide +kernel
theorem dX5_join_32 : decode cX5_join 32 = .ok (.iload_n 2, 1) := by decide +kernel
theorem dX5_join_33 : decode cX5_join 33 = .ok (.invokevirtual 111, 3) := by decide +kernel
theorem dX5_join_36 : decode cX5_join 36 = .ok (.ifCond .eq 16, 3) := by decide +kernel
theorem dX5_join_39 : decode cX5_join 39 = .ok (.aload_n 0, 1) := by decide +kernel
theorem dX5_join_40 : decode cX5_join 40 = .ok (.getfield 12, 3) := by decide +kernel
theorem dX5_join_43 : decode cX5_join 43 = .ok (.iload_n 1, 1) := by decide +kernel
theorem dX5_join_44 : decode cX5_join 44 = .ok (.iload_n 2, 1) := by decide +kernel
theorem dX5_join_45 : decode cX5_join 45 = .ok (.iload_n 3, 1) := by decide +kernel
theorem dX5_join_46 : decode cX5_join 46 = .ok (.invokevirtual 136, 3) := by decide +kernel
theorem dX5_join_49 : decode cX5_join 49 = .ok (.ifCond .eq 6, 3) := by decide +kernel
theorem dX5_join_52 : decode cX5_join 52 = .ok (.bipush (-2), 2) := by decide +kernel
theorem dX5_join_54 : decode cX5_join 54 = .ok (.ireturn, 1) := by decide +kernel
theorem dX5_join_55 : decode cX5_join 55 = .ok (.aload_n 0, 1) := by decide +kernel
theorem dX5_join_56 : decode cX5_join 56 = .ok (.getfield 12, 3) := by decide +kernel
theorem dX5_join_59 : decode cX5_join 59 = .ok (.iload_n 1, 1) := by decide +kernel
theorem dX5_join_60 : decode cX5_join 60 = .ok (.invokevirtual 79, 3) := by decide +kernel
theorem dX5_join_63 : decode cX5_join 63 = .ok (.istore 4, 2) := by decide +kernel
theorem dX5_join_65 : decode cX5_join 65 = .ok (.aload_n 0, 1) := by decide +kernel
theorem dX5_join_66 : decode cX5_join 66 = .ok (.getfield 19, 3) := by decide +kernel
theorem dX5_join_69 : decode cX5_join 69 = .ok (.aload_n 0, 1) := by decide +kernel
theorem dX5_join_70 : decode cX5_join 70 = .ok (.getfield 12, 3) := by decide +kernel
theorem dX5_join_73 : decode cX5_join 73 = .ok (.invokevirtual 41, 3) := by decide +kernel
theorem dX5_join_76 : decode cX5_join 76 = .ok (.aload_n 0, 1) := by decide +kernel
theorem dX5_join_77 : decode cX5_join 77 = .ok (.getfield 12, 3) := by decide +kernel
theorem dX5_join_80 : decode cX5_join 80 = .ok (.iload_n 1, 1) := by decide +kernel
theorem dX5_join_81 : decode cX5_join 81 = .ok (.iload_n 3, 1) := by decide +kernel
theorem dX5_join_82 : decode cX5_join 82 = .ok (.invokevirtual 140, 3) := by decide +kernel
theorem dX5_join_85 : decode cX5_join 85 = .ok (.ifCond .ne 31, 3) := by decide +kernel
theorem dX5_join_88 : decode cX5_join 88 = .ok (.aload_n 0, 1) := by decide +kernel
theorem dX5_join_89 : decode cX5_join 89 = .ok (.getfield 12, 3) := by decide +kernel
theorem dX5_join_92 : decode cX5_join 92 = .ok (.iload 4, 2) := by decide +kernel
theorem dX5_join_94 : decode cX5_join 94 = .ok (.iload_n 3, 1) := by decide +kernel
theorem dX5_join_95 : decode cX5_join 95 = .ok (.aload_n 0, 1) := by decide +kernel
theorem dX5_join_96 : decode cX5_join 96 = .ok (.getfield 12, 3) := by decide +kernel
theorem dX5_join_99 : decode cX5_join 99 = .ok (.getfield 87, 3) := by decide +kernel
theorem dX5_join_102 : decode cX5_join 102 = .ok (.iconst 0, 1) := by decide +kernel
theorem dX5_join_103 : decode cX5_join 103 = .ok (.invokevirtual 143, 3) := by decide +kernel
theorem dX5_join_106 : decode cX5_join 106 = .ok (.aload_n 0, 1) := by decide +kernel
theorem dX5_join_107 : decode cX5_join 107 = .ok (.getfield 12, 3) := by decide +kernel
theorem dX5_join_110 : decode cX5_join 110 = .ok (.iload_n 1, 1) := by decide +kernel
theorem dX5_join_111 : decode cX5_join 111 = .ok (.iload_n 2, 1) := by decide +kernel
theorem dX5_join_112 : decode cX5_join 112 = .ok (.iload_n 3, 1) := by decide +kernel
theorem dX5_join_113 : decode cX5_join 113 = .ok (.invokevirtual 147, 3) := by decide +kernel
theorem dX5_join_116 : decode cX5_join 116 = .ok (.aload_n 0, 1) := by decide +kernel
theorem dX5_join_117 : decode cX5_join 117 = .ok (.getfield 12, 3) := by decide +kernel
theorem dX5_join_120 : decode cX5_join 120 = .ok (.iload_n 1, 1) := by decide +kernel
theorem dX5_join_121 : decode cX5_join 121 = .ok (.iload_n 2, 1) := by decide +kernel
theorem dX5_join_122 : decode cX5_join 122 = .ok (.iload_n 3, 1) := by decide +kernel
theorem dX5_join_123 : decode cX5_join 123 = .ok (.invokevirtual 150, 3) := by decide +kernel
theorem dX5_join_126 : decode cX5_join 126 = .ok (.aload_n 0, 1) := by decide +kernel
theorem dX5_join_127 : decode cX5_join 127 = .ok (.getfield 12, 3) := by decide +kernel
theorem dX5_join_130 : decode cX5_join 130 = .ok (.iload 4, 2) := by decide +kernel
theorem dX5_join_132 : decode cX5_join 132 = .ok (.iload_n 3, 1) := by decide +kernel
theorem dX5_join_133 : decode cX5_join 133 = .ok (.invokevirtual 153, 3) := by decide +kernel
theorem dX5_join_136 : decode cX5_join 136 = .ok (.invokestatic 82, 3) := by decide +kernel
theorem dX5_join_139 : decode cX5_join 139 = .ok (.ireturn, 1) := by decide +kernel
theorem dX5_part_0 : decode cX5_part 0 = .ok (.aload_n 0, 1) := by decide +kernel
theorem dX5_part_1 : decode cX5_part 1 = .ok (.getfield 12, 3) := by decide +kernel
theorem dX5_part_4 : decode cX5_part 4 = .ok (.iload_n 1, 1) := by decide +kernel
theorem dX5_part_5 : decode cX5_part 5 = .ok (.invokevirtual 97, 3) := by decide +kernel
theorem dX5_part_8 : decode cX5_part 8 = .ok (.ifCond .eq 17, 3) := by decide +kernel
theorem dX5_part_11 : decode cX5_part 11 = .ok (.iload_n 2, 1) := by decide +kernel
theorem dX5_part_12 : decode cX5_part 12 = .ok (.invokestatic 101, 3) := by decide +kernel
theorem dX5_part_15 : decode cX5_part 15 = .ok (.ifCond .eq 10, 3) := by decide +kernel
theorem dX5_part_18 : decode cX5_part 18 = .ok (.iload_n 3, 1) := by decide +kernel
theorem dX5_part_19 : decode cX5_part 19 = .ok (.invokestatic 133, 3) := by decide +kernel
theorem dX5_part_22 : decode cX5_part 22 = .ok (.ifCond .ne 5, 3) := by decide +kernel
theorem dX5_part_25 : decode cX5_part 25 = .ok (.iconst (-1), 1) := by decide +kernel
theorem dX5_part_26 : decode cX5_part 26 = .ok (.ireturn, 1) := by decide +kernel
theorem dX5_part_27 : decode cX5_part 27 = .ok (.aload_n 0, 1) := by decide +kernel
theorem dX5_part_28 : decode cX5_part 28 = .ok (.getfield 12, 3) := by decide +kernel
theorem dX5_part_31 : decode cX5_part 31 = .ok (.iload_n 1, 1) := by decide +kernel
theorem dX5_part_32 : decode cX5_part 32 = .ok (.iload_n 2, 1) := by decide +kernel
theorem dX5_part_33 : decode cX5_part 33 = .ok (.iload_n 3, 1) := by decide +kernel
theorem dX5_part_34 : decode cX5_part 34 = .ok (.invokevirtual 136, 3) := by decide +kernel
theorem dX5_part_37 : decode cX5_part 37 = .ok (.ifCond .ne 6, 3) := by decide +kernel
theorem dX5_part_40 : decode cX5_part 40 = .ok (.bipush (-2), 2) := by decide +kernel
theorem dX5_part_42 : decode cX5_part 42 = .ok (.ireturn, 1) := by decide +kernel
theorem dX5_part_43 : decode cX5_part 43 = .ok (.aload_n 0, 1) := by decide +kernel
theorem dX5_part_44 : decode cX5_part 44 = .ok (.iload_n 1, 1) := by decide +kernel
theorem dX5_part_45 : decode cX5_part 45 = .ok (.iload_n 2, 1) := by decide +kernel
theorem dX5_part_46 : decode cX5_part 46 = .ok (.iload_n 3, 1) := by decide +kernel
theorem dX5_part_47 : decode cX5_part 47 = .ok (.invokevirtual 156, 3) := by decide +kernel
theorem dX5_part_50 : decode cX5_part 50 = .ok (.ireturn, 1) := by decide +kernel
theorem dX5_kick_0 : decode cX5_kick 0 = .ok (.aload_n 0, 1) := by decide +kernel
theorem dX5_kick_1 : decode cX5_kick 1 = .ok (.getfield 12, 3) := by decide +kernel
theorem dX5_kick_4 : decode cX5_kick 4 = .ok (.iload_n 1, 1) := by decide +kernel
theorem dX5_kick_5 : decode cX5_kick 5 = .ok (.invokevirtual 97, 3) := by decide +kernel
theorem dX5_kick_8 : decode cX5_kick 8 = .ok (.ifCond .eq 25, 3) := by decide +kernel
theorem dX5_kick_11 : decode cX5_kick 11 = .ok (.iload_n 2, 1) := by decide +kernel
theorem dX5_kick_12 : decode cX5_kick 12 = .ok (.invokestatic 101, 3) := by decide +kernel
theorem dX5_kick_15 : decode cX5_kick 15 = .ok (.ifCond .eq 18, 3) := by decide +kernel
theorem dX5_kick_18 : decode cX5_kick 18 = .ok (.iload_n 3, 1) := by decide +kernel
theorem dX5_kick_19 : decode cX5_kick 19 = .ok (.invokestatic 133, 3) := by decide +kernel
theorem dX5_kick_22 : decode cX5_kick 22 = .ok (.ifCond .eq 11, 3) := by decide +kernel
theorem dX5_kick_25 : decode cX5_kick 25 = .ok (.iload 4, 2) := by decide +kernel
theorem dX5_kick_27 : decode cX5_kick 27 = .ok (.invokestatic 101, 3) := by decide +kernel
theorem dX5_kick_30 : decode cX5_kick 30 = .ok (.ifCond .ne 5, 3) := by decide +kernel
theorem dX5_kick_33 : decode cX5_kick 33 = .ok (.iconst (-1), 1) := by decide +kernel
theorem dX5_kick_34 : decode cX5_kick 34 = .ok (.ireturn, 1) := by decide +kernel
theorem dX5_kick_35 : decode cX5_kick 35 = .ok (.aload_n 0, 1) := by decide +kernel
theorem dX5_kick_36 : decode cX5_kick 36 = .ok (.getfield 12, 3) := by decide +kernel
theorem dX5_kick_39 : decode cX5_kick 39 = .ok (.iload_n 1, 1) := by decide +kernel
theorem dX5_kick_40 : decode cX5_kick 40 = .ok (.iload_n 2, 1) := by decide +kernel
theorem dX5_kick_41 : decode cX5_kick 41 = .ok (.iload_n 3, 1) := by decide +kernel
theorem dX5_kick_42 : decode cX5_kick 42 = .ok (.invokevirtual 160, 3) := by decide +kernel
theorem dX5_kick_45 : decode cX5_kick 45 = .ok (.ifCond .ne 6, 3) := by decide +kernel
theorem dX5_kick_48 : decode cX5_kick 48 = .ok (.bipush (-2), 2) := by decide +kernel
theorem dX5_kick_50 : decode cX5_kick 50 = .ok (.ireturn, 1) := by decide +kernel
theorem dX5_kick_51 : decode cX5_kick 51 = .ok (.aload_n 0, 1) := by decide +kernel
theorem dX5_kick_52 : decode cX5_kick 52 = .ok (.getfield 12, 3) := by decide +kernel
theorem dX5_kick_55 : decode cX5_kick 55 = .ok (.aload_n 0, 1) := by decide +kernel
theorem dX5_kick_56 : decode cX5_kick 56 = .ok (.getfield 12, 3) := by decide +kernel
theorem dX5_kick_59 : decode cX5_kick 59 = .ok (.iload_n 1, 1) := by decide +kernel
theorem dX5_kick_60 : decode cX5_kick 60 = .ok (.invokevirtual 79, 3) := by decide +kernel
theorem dX5_kick_63 : decode cX5_kick 63 = .ok (.iload 4, 2) := by decide +kernel
theorem dX5_kick_65 : decode cX5_kick 65 = .ok (.invokevirtual 104, 3) := by decide +kernel
theorem dX5_kick_68 : decode cX5_kick 68 = .ok (.istore 5, 2) := by decide +kernel
theorem dX5_kick_70 : decode cX5_kick 70 = .ok (.iload 5, 2) := by decide +kernel
theorem dX5_kick_72 : decode cX5_kick 72 = .ok (.iconst (-1), 1) := by decide +kernel
theorem dX5_kick_73 : decode cX5_kick 73 = .ok (.if_icmp .eq 18, 3) := by decide +kernel
theorem dX5_kick_76 : decode cX5_kick 76 = .ok (.aload_n 0, 1) := by decide +kernel
theorem dX5_kick_77 : decode cX5_kick 77 = .ok (.getfield 12, 3) := by decide +kernel
theorem dX5_kick_80 : decode cX5_kick 80 = .ok (.iload 5, 2) := by decide +kernel
theorem dX5_kick_82 : decode cX5_kick 82 = .ok (.iload 4, 2) := by decide +kernel
theorem dX5_kick_84 : decode cX5_kick 84 = .ok (.iload_n 3, 1) := by decide +kernel
theorem dX5_kick_85 : decode cX5_kick 85 = .ok (.invokevirtual 136, 3) := by decide +kernel
theorem dX5_kick_88 : decode cX5_kick 88 = .ok (.ifCond .ne 6, 3) := by decide +kernel
theorem dX5_kick_91 : decode cX5_kick 91 = .ok (.bipush (-2), 2) := by decide +kernel
theorem dX5_kick_93 : decode cX5_kick 93 = .ok (.ireturn, 1) := by decide +kernel
theorem dX5_kick_94 : decode cX5_kick 94 = .ok (.aload_n 0, 1) := by decide +kernel
theorem dX5_kick_95 : decode cX5_kick 95 = .ok (.iload 5, 2) := by decide +kernel
theorem dX5_kick_97 : decode cX5_kick 97 = .ok (.iload 4, 2) := by decide +kernel
theorem dX5_kick_99 : decode cX5_kick 99 = .ok (.iload_n 3, 1) := by decide +kernel
theorem dX5_kick_100 : decode cX5_kick 100 = .ok (.invokevirtual 156, 3) := by decide +kernel
theorem dX5_kick_103 : decode cX5_kick 103 = .ok (.ireturn, 1) := by decide +kernel
theorem dX5_leaveChannel_0 : decode cX5_leaveChannel 0 = .ok (.aload_n 0, 1) := by decide +kernel
theorem dX5_leaveChannel_1 : decode cX5_leaveChannel 1 = .ok (.getfield 19, 3) := by decide +kernel
theorem dX5_leaveChannel_4 : decode cX5_leaveChannel 4 = .ok (.aload_n 0, 1) := by decide +kernel
theorem dX5_leaveChannel_5 : decode cX5_leaveChannel 5 = .ok (.getfield 12, 3) := by decide +kernel
theorem dX5_leaveChannel_8 : decode cX5_leaveChannel 8 = .ok (.invokevirtual 41, 3) := by decide +kernel
theorem dX5_leaveChannel_11 : decode cX5_leaveChannel 11 = .ok (.aload_n 0, 1) := by decide +kernel
theorem dX5_leaveChannel_12 : decode cX5_leaveChannel 12 = .ok (.getfield 12, 3) := by decide +kernel
theorem dX5_leaveChannel_15 : decode cX5_leaveChannel 15 = .ok (.iload_n 1, 1) := by decide +kernel
theorem dX5_leaveChannel_16 : decode cX5_leaveChannel 16 = .ok (.iload_n 2, 1) := by decide +kernel
theorem dX5_leaveChannel_17 : decode cX5_leaveChannel 17 = .ok (.iload_n 3, 1) := by decide +kernel
theorem dX5_leaveChannel_18 : decode cX5_leaveChannel 18 = .ok (.invokevirtual 163, 3) := by decide +kernel
theorem dX5_leaveChannel_21 : decode cX5_leaveChannel 21 = .ok (.aload_n 0, 1) := by decide +kernel
theorem dX5_leaveChannel_22 : decode cX5_leaveChannel 22 = .ok (.getfield 12, 3) := by decide +kernel
theorem dX5_leaveChannel_25 : decode cX5_leaveChannel 25 = .ok (.aload_n 0, 1) := by decide +kernel
theorem dX5_leaveChannel_26 : decode cX5_leaveChannel 26 = .ok (.getfield 12, 3) := by decide +kernel
theorem dX5_leaveChannel_29 : decode cX5_leaveChannel 29 = .ok (.iload_n 1, 1) := by decide +kernel
theorem dX5_leaveChannel_30 : decode cX5_leaveChannel 30 = .ok (.invokevirtual 79, 3) := by decide +kernel
theorem dX5_leaveChannel_33 : decode cX5_leaveChannel 33 = .ok (.iload_n 3, 1) := by decide +kernel
theorem dX5_leaveChannel_34 : decode cX5_leaveChannel 34 = .ok (.invokevirtual 153, 3) := by decide +kernel
theorem dX5_leaveChannel_37 : decode cX5_leaveChannel 37 = .ok (.invokestatic 82, 3) := by decide +kernel
theorem dX5_leaveChannel_40 : decode cX5_leaveChannel 40 = .ok (.ireturn, 1) := by decide +kernel
theorem dX5_appendCharacter_0 : decode cX5_appendCharacter 0 = .ok (.iload_n 1, 1) := by decide +kernel
theorem dX5_appendCharacter_1 : decode cX5_appendCharacter 1 = .ok (.ifCond .lt 10, 3) := by decide +kernel
theorem dX5_appendCharacter_4 : decode cX5_appendCharacter 4 = .ok (.iload_n 1, 1) := by decide +kernel
theorem dX5_appendCharacter_5 : decode cX5_appendCharacter 5 = .ok (.sipush 255, 3) := by decide +kernel
theorem dX5_appendCharacter_8 : decode cX5_appendCharacter 8 = .ok (.if_icmp .le 5, 3) := by decide +kernel
theorem dX5_appendCharacter_11 : decode cX5_appendCharacter 11 = .ok (.iconst (-1), 1) := by decide +kernel
theorem dX5_appendCharacter_12 : decode cX5_appendCharacter 12 = .ok (.ireturn, 1) := by decide +kernel
theorem dX5_appendCharacter_13 : decode cX5_appendCharacter 13 = .ok (.aload_n 0, 1) := by decide +kernel
theorem dX5_appendCharacter_14 : decode cX5_appendCharacter 14 = .ok (.getfield 26, 3) := by decide +kernel
theorem dX5_appendCharacter_17 : decode cX5_appendCharacter 17 = .ok (.invokevirtual 166, 3) := by decide +kernel
theorem dX5_appendCharacter_20 : decode cX5_appendCharacter 20 = .ok (.ifCond .eq 6, 3) := by decide +kernel
theorem dX5_appendCharacter_23 : decode cX5_appendCharacter 23 = .ok (.bipush (-3), 2) := by decide +kernel
theorem dX5_appendCharacter_25 : decode cX5_appendCharacter 25 = .ok (.ireturn, 1) := by decide +kernel
theorem dX5_appendCharacter_26 : decode cX5_appendCharacter 26 = .ok (.aload_n 0, 1) := by decide +kernel
theorem dX5_appendCharacter_27 : decode cX5_appendCharacter 27 = .ok (.getfield 26, 3) := by decide +kernel
theorem dX5_appendCharacter_30 : decode cX5_appendCharacter 30 = .ok (.iload_n 1, 1) := by decide +kernel
theorem dX5_appendCharacter_31 : decode cX5_appendCharacter 31 = .ok (.i2c, 1) := by decide +kernel
theorem dX5_appendCharacter_32 : decode cX5_appendCharacter 32 = .ok (.invokevirtual 170, 3) := by decide +kernel
theorem dX5_appendCharacter_35 : decode cX5_appendCharacter 35 = .ok (.aload_n 0, 1) := by decide +kernel
theorem dX5_appendCharacter_36 : decode cX5_appendCharacter 36 = .ok (.getfield 26, 3) := by decide +kernel
theorem dX5_appendCharacter_39 : decode cX5_appendCharacter 39 = .ok (.getfield 174, 3) := by decide +kernel
theorem dX5_appendCharacter_42 : decode cX5_appendCharacter 42 = .ok (.ireturn, 1) := by decide +kernel
theorem dX5_clearText_0 : decode cX5_clearText 0 = .ok (.aload_n 0, 1) := by decide +kernel
theorem dX5_clearText_1 : decode cX5_clearText 1 = .ok (.getfield 26, 3) := by decide +kernel
theorem dX5_clearText_4 : decode cX5_clearText 4 = .ok (.getfield 174, 3) := by decide +kernel
theorem dX5_clearText_7 : decode cX5_clearText 7 = .ok (.istore_n 1, 1) := by decide +kernel
theorem dX5_clearText_8 : decode cX5_clearText 8 = .ok (.aload_n 0, 1) := by decide +kernel
theorem dX5_clearText_9 : decode cX5_clearText 9 = .ok (.getfield 26, 3) := by decide +kernel
theorem dX5_clearText_12 : decode cX5_clearText 12 = .ok (.invokevirtual 177, 3) := by decide +kernel
theorem dX5_clearText_15 : decode cX5_clearText 15 = .ok (.iload_n 1, 1) := by decide +kernel
theorem dX5_clearText_16 : decode cX5_clearText 16 = .ok (.ireturn, 1) := by decide +kernel
theorem dX5_applyModes_0 : decode cX5_applyModes 0 = .ok (.aload_n 0, 1) := by decide +kernel
theorem dX5_applyModes_1 : decode cX5_applyModes 1 = .ok (.getfield 12, 3) := by decide +kernel
theorem dX5_applyModes_4 : decode cX5_applyModes 4 = .ok (.iload_n 1, 1) := by decide +kernel
theorem dX5_applyModes_5 : decode cX5_applyModes 5 = .ok (.invokevirtual 97, 3) := by decide +kernel
theorem dX5_applyModes_8 : decode cX5_applyModes 8 = .ok (.ifCond .eq 17, 3) := by decide +kernel
theorem dX5_applyModes_11 : decode cX5_applyModes 11 = .ok (.iload_n 2, 1) := by decide +kernel
theorem dX5_applyModes_12 : decode cX5_applyModes 12 = .ok (.invokestatic 101, 3) := by decide +kernel
theorem dX5_applyModes_15 : decode cX5_applyModes 15 = .ok (.ifCond .eq 10, 3) := by decide +kernel
theorem dX5_applyModes_18 : decode cX5_applyModes 18 = .ok (.iload_n 3, 1) := by decide +kernel
theorem dX5_applyModes_19 : decode cX5_applyModes 19 = .ok (.invokestatic 133, 3) := by decide +kernel
theorem dX5_applyModes_22 : decode cX5_applyModes 22 = .ok (.ifCond .ne 5, 3) := by decide +kernel
theorem dX5_applyModes_25 : decode cX5_applyModes 25 = .ok (.iconst (-1), 1) := by decide +kernel
theorem dX5_applyModes_26 : decode cX5_applyModes 26 = .ok (.ireturn, 1) := by decide +kernel
theorem dX5_applyModes_27 : decode cX5_applyModes 27 = .ok (.aload_n 0, 1) := by decide +kernel
theorem dX5_applyModes_28 : decode cX5_applyModes 28 = .ok (.getfield 12, 3) := by decide +kernel
theorem dX5_applyModes_31 : decode cX5_applyModes 31 = .ok (.iload_n 1, 1) := by decide +kernel
theorem dX5_applyModes_32 : decode cX5_applyModes 32 = .ok (.iload_n 2, 1) := by decide +kernel
theorem dX5_applyModes_33 : decode cX5_applyModes 33 = .ok (.iload_n 3, 1) := by decide +kernel
theorem dX5_applyModes_34 : decode cX5_applyModes 34 = .ok (.invokevirtual 160, 3) := by decide +kernel
theorem dX5_applyModes_37 : decode cX5_applyModes 37 = .ok (.ifCond .ne 6, 3) := by decide +kernel
theorem dX5_applyModes_40 : decode cX5_applyModes 40 = .ok (.bipush (-2), 2) := by decide +kernel
theorem dX5_applyModes_42 : decode cX5_applyModes 42 = .ok (.ireturn, 1) := by decide +kernel
theorem dX5_applyModes_43 : decode cX5_applyModes 43 = .ok (.aload_n 0, 1) := by decide +kernel
theorem dX5_applyModes_44 : decode cX5_applyModes 44 = .ok (.getfield 12, 3) := by decide +kernel
theorem dX5_applyModes_47 : decode cX5_applyModes 47 = .ok (.iload_n 1, 1) := by decide +kernel
theorem dX5_applyModes_48 : decode cX5_applyModes 48 = .ok (.invokevirtual 79, 3) := by decide +kernel
theorem dX5_applyModes_51 : decode cX5_applyModes 51 = .ok (.istore 4, 2) := by decide +kernel
theorem dX5_applyModes_53 : decode cX5_applyModes 53 = .ok (.aload_n 0, 1) := by decide +kernel
theorem dX5_applyModes_54 : decode cX5_applyModes 54 = .ok (.getfield 26, 3) := by decide +kernel
theorem dX5_applyModes_57 : decode cX5_applyModes 57 = .ok (.aload_n 0, 1) := by decide +kernel
theorem dX5_applyModes_58 : decode cX5_applyModes 58 = .ok (.getfield 12, 3) := by decide +kernel
theorem dX5_applyModes_61 : decode cX5_applyModes 61 = .ok (.iload 4, 2) := by decide +kernel
theorem dX5_applyModes_63 : decode cX5_applyModes 63 = .ok (.iload_n 3, 1) := by decide +kernel
theorem dX5_applyModes_64 : decode cX5_applyModes 64 = .ok (.invokevirtual 153, 3) := by decide +kernel
theorem dX5_applyModes_67 : decode cX5_applyModes 67 = .ok (.invokevirtual 180, 3) := by decide +kernel
theorem dX5_applyModes_70 : decode cX5_applyModes 70 = .ok (.istore 5, 2) := by decide +kernel
theorem dX5_applyModes_72 : decode cX5_applyModes 72 = .ok (.iload 5, 2) := by decide +kernel
theorem dX5_applyModes_74 : decode cX5_applyModes 74 = .ok (.iconst (-1), 1) := by decide +kernel
theorem dX5_applyModes_75 : decode cX5_applyModes 75 = .ok (.if_icmp .eq 9, 3) := by decide +kernel
theorem dX5_applyModes_78 : decode cX5_applyModes 78 = .ok (.bipush (-10), 2) := by decide +kernel
theorem dX5_applyModes_80 : decode cX5_applyModes 80 = .ok (.iload 5, 2) := by decide +kernel
theorem dX5_applyModes_82 : decode cX5_applyModes 82 = .ok (.isub, 1) := by decide +kernel
theorem dX5_applyModes_83 : decode cX5_applyModes 83 = .ok (.ireturn, 1) := by decide +kernel
theorem dX5_applyModes_84 : decode cX5_applyModes 84 = .ok (.aload_n 0, 1) := by decide +kernel
theorem dX5_applyModes_85 : decode cX5_applyModes 85 = .ok (.getfield 19, 3) := by decide +kernel
theorem dX5_applyModes_88 : decode cX5_applyModes 88 = .ok (.aload_n 0, 1) := by decide +kernel
theorem dX5_applyModes_89 : decode cX5_applyModes 89 = .ok (.getfield 12, 3) := by decide +kernel
theorem dX5_applyModes_92 : decode cX5_applyModes 92 = .ok (.invokevirtual 41, 3) := by decide +kernel
theorem dX5_applyModes_95 : decode cX5_applyModes 95 = .ok (.aload_n 0, 1) := by decide +kernel
theorem dX5_applyModes_96 : decode cX5_applyModes 96 = .ok (.getfield 12, 3) := by decide +kernel
theorem dX5_applyModes_99 : decode cX5_applyModes 99 = .ok (.iload 4, 2) := by decide +kernel
theorem dX5_applyModes_101 : decode cX5_applyModes 101 = .ok (.iload_n 3, 1) := by decide +kernel
theorem dX5_applyModes_102 : decode cX5_applyModes 102 = .ok (.aload_n 0, 1) := by decide +kernel
theorem dX5_applyModes_103 : decode cX5_applyModes 103 = .ok (.getfield 12, 3) := by decide +kernel
theorem dX5_applyModes_106 : decode cX5_applyModes 106 = .ok (.iload_n 1, 1) := by decide +kernel
theorem dX5_applyModes_107 : decode cX5_applyModes 107 = .ok (.iload_n 3, 1) := by decide +kernel
theorem dX5_applyModes_108 : decode cX5_applyModes 108 = .ok (.invokevirtual 183, 3) := by decide +kernel
theorem dX5_applyModes_111 : decode cX5_applyModes 111 = .ok (.aload_n 0, 1) := by decide +kernel
theorem dX5_applyModes_112 : decode cX5_applyModes 112 = .ok (.getfield 26, 3) := by decide +kernel
theorem dX5_applyModes_115 : decode cX5_applyModes 115 = .ok (.aload_n 0, 1) := by decide +kernel
theorem dX5_applyModes_116 : decode cX5_applyModes 116 = .ok (.getfield 12, 3) := by decide +kernel
theorem dX5_applyModes_119 : decode cX5_applyModes 119 = .ok (.iload_n 1, 1) := by decide +kernel
theorem dX5_applyModes_120 : decode cX5_applyModes 120 = .ok (.iload_n 3, 1) := by decide +kernel
theorem dX5_applyModes_121 : decode cX5_applyModes 121 = .ok (.invokevirtual 186, 3) := by decide +kernel
theorem dX5_applyModes_124 : decode cX5_applyModes 124 = .ok (.invokevirtual 189, 3) := by decide +kernel
theorem dX5_applyModes_127 : decode cX5_applyModes 127 = .ok (.invokevirtual 143, 3) := by decide +kernel
theorem dX5_applyModes_130 : decode cX5_applyModes 130 = .ok (.aload_n 0, 1) := by decide +kernel
theorem dX5_applyModes_131 : decode cX5_applyModes 131 = .ok (.getfield 12, 3) := by decide +kernel
theorem dX5_applyModes_134 : decode cX5_applyModes 134 = .ok (.iload 4, 2) := by decide +kernel
theorem dX5_applyModes_136 : decode cX5_applyModes 136 = .ok (.iload_n 3, 1) := by decide +kernel
theorem dX5_applyModes_137 : decode cX5_applyModes 137 = .ok (.aload_n 0, 1) := by decide +kernel
theorem dX5_applyModes_138 : decode cX5_applyModes 138 = .ok (.getfield 26, 3) := by decide +kernel
theorem dX5_applyModes_141 : decode cX5_applyModes 141 = .ok (.aload_n 0, 1) := by decide +kernel
theorem dX5_applyModes_142 : decode cX5_applyModes 142 = .ok (.getfield 12, 3) := by decide +kernel
theorem dX5_applyModes_145 : decode cX5_applyModes 145 = .ok (.iload 4, 2) := by decide +kernel
theorem dX5_applyModes_147 : decode cX5_applyModes 147 = .ok (.iload_n 3, 1) := by decide +kernel
theorem dX5_applyModes_148 : decode cX5_applyModes 148 = .ok (.invokevirtual 192, 3) := by decide +kernel
theorem dX5_applyModes_151 : decode cX5_applyModes 151 = .ok (.invokevirtual 195, 3) := by decide +kernel
theorem dX5_applyModes_154 : decode cX5_applyModes 154 = .ok (.invokevirtual 198, 3) := by decide +kernel
theorem dX5_applyModes_157 : decode cX5_applyModes 157 = .ok (.aload_n 0, 1) := by decide +kernel
theorem dX5_applyModes_158 : decode cX5_applyModes 158 = .ok (.getfield 26, 3) := by decide +kernel
theorem dX5_applyModes_161 : decode cX5_applyModes 161 = .ok (.invokevirtual 201, 3) := by decide +kernel
theorem dX5_applyModes_164 : decode cX5_applyModes 164 = .ok (.istore 6, 2) := by decide +kernel
theorem dX5_applyModes_166 : decode cX5_applyModes 166 = .ok (.aload_n 0, 1) := by decide +kernel
theorem dX5_applyModes_167 : decode cX5_applyModes 167 = .ok (.getfield 26, 3) := by decide +kernel
theorem dX5_applyModes_170 : decode cX5_applyModes 170 = .ok (.invokevirtual 177, 3) := by decide +kernel
theorem dX5_applyModes_173 : decode cX5_applyModes 173 = .ok (.iload 6, 2) := by decide +kernel
theorem dX5_applyModes_175 : decode cX5_applyModes 175 = .ok (.ireturn, 1) := by decide +kernel
theorem dX5_members_0 : decode cX5_members 0 = .ok (.aload_n 0, 1) := by decide +kernel
theorem dX5_members_1 : decode cX5_members 1 = .ok (.getfield 12, 3) := by decide +kernel
theorem dX5_members_4 : decode cX5_members 4 = .ok (.iload_n 1, 1) := by decide +kernel
theorem dX5_members_5 : decode cX5_members 5 = .ok (.invokevirtual 97, 3) := by decide +kernel
theorem dX5_members_8 : decode cX5_members 8 = .ok (.ifCond .eq 10, 3) := by decide +kernel
theorem dX5_members_11 : decode cX5_members 11 = .ok (.iload_n 2, 1) := by decide +kernel
theorem dX5_members_12 : decode cX5_members 12 = .ok (.invokestatic 133, 3) := by decide +kernel
theorem dX5_members_15 : decode cX5_members 15 = .ok (.ifCond .ne 5, 3) := by decide +kernel
theorem dX5_members_18 : decode cX5_members 18 = .ok (.iconst (-1), 1) := by decide +kernel
theorem dX5_members_19 : decode cX5_members 19 = .ok (.ireturn, 1) := by decide +kernel
theorem dX5_members_20 : decode cX5_members 20 = .ok (.aload_n 0, 1) := by decide +kernel
theorem dX5_members_21 : decode cX5_members 21 = .ok (.getfield 12, 3) := by decide +kernel
theorem dX5_members_24 : decode cX5_members 24 = .ok (.aload_n 0, 1) := by decide +kernel
theorem dX5_members_25 : decode cX5_members 25 = .ok (.getfield 12, 3) := by decide +kernel
theorem dX5_members_28 : decode cX5_members 28 = .ok (.iload_n 1, 1) := by decide +kernel
theorem dX5_members_29 : decode cX5_members 29 = .ok (.invokevirtual 79, 3) := by decide +kernel
theorem dX5_members_32 : decode cX5_members 32 = .ok (.iload_n 2, 1) := by decide +kernel
theorem dX5_members_33 : decode cX5_members 33 = .ok (.invokevirtual 153, 3) := by decide +kernel
theorem dX5_members_36 : decode cX5_members 36 = .ok (.ireturn, 1) := by decide +kernel
theorem dX5_operators_0 : decode cX5_operators 0 = .ok (.aload_n 0, 1) := by decide +kernel
theorem dX5_operators_1 : decode cX5_operators 1 = .ok (.getfield 12, 3) := by decide +kernel
theorem dX5_operators_4 : decode cX5_operators 4 = .ok (.iload_n 1, 1) := by decide +kernel
theorem dX5_operators_5 : decode cX5_operators 5 = .ok (.invokevirtual 97, 3) := by decide +kernel
theorem dX5_operators_8 : decode cX5_operators 8 = .ok (.ifCond .eq 10, 3) := by decide +kernel
theorem dX5_operators_11 : decode cX5_operators 11 = .ok (.iload_n 2, 1) := by decide +kernel
theorem dX5_operators_12 : decode cX5_operators 12 = .ok (.invokestatic 133, 3) := by decide +kernel
theorem dX5_operators_15 : decode cX5_operators 15 = .ok (.ifCond .ne 5, 3) := by decide +kernel
theorem dX5_operators_18 : decode cX5_operators 18 = .ok (.iconst (-1), 1) := by decide +kernel
theorem dX5_operators_19 : decode cX5_operators 19 = .ok (.ireturn, 1) := by decide +kernel
theorem dX5_operators_20 : decode cX5_operators 20 = .ok (.aload_n 0, 1) := by decide +kernel
theorem dX5_operators_21 : decode cX5_operators 21 = .ok (.getfield 12, 3) := by decide +kernel
theorem dX5_operators_24 : decode cX5_operators 24 = .ok (.aload_n 0, 1) := by decide +kernel
theorem dX5_operators_25 : decode cX5_operators 25 = .ok (.getfield 12, 3) := by decide +kernel
theorem dX5_operators_28 : decode cX5_operators 28 = .ok (.iload_n 1, 1) := by decide +kernel
theorem dX5_operators_29 : decode cX5_operators 29 = .ok (.invokevirtual 79, 3) := by decide +kernel
theorem dX5_operators_32 : decode cX5_operators 32 = .ok (.iload_n 2, 1) := by decide +kernel
theorem dX5_operators_33 : decode cX5_operators 33 = .ok (.invokevirtual 192, 3) := by decide +kernel
theorem dX5_operators_36 : decode cX5_operators 36 = .ok (.ireturn, 1) := by decide +kernel
theorem dX5_modes_0 : decode cX5_modes 0 = .ok (.aload_n 0, 1) := by decide +kernel
theorem dX5_modes_1 : decode cX5_modes 1 = .ok (.getfield 12, 3) := by decide +kernel
theorem dX5_modes_4 : decode cX5_modes 4 = .ok (.iload_n 1, 1) := by decide +kernel
theorem dX5_modes_5 : decode cX5_modes 5 = .ok (.invokevirtual 97, 3) := by decide +kernel
theorem dX5_modes_8 : decode cX5_modes 8 = .ok (.ifCond .eq 10, 3) := by decide +kernel
theorem dX5_modes_11 : decode cX5_modes 11 = .ok (.iload_n 2, 1) := by decide +kernel
theorem dX5_modes_12 : decode cX5_modes 12 = .ok (.invokestatic 133, 3) := by decide +kernel
theorem dX5_modes_15 : decode cX5_modes 15 = .ok (.ifCond .ne 5, 3) := by decide +kernel
theorem dX5_modes_18 : decode cX5_modes 18 = .ok (.iconst (-1), 1) := by decide +kernel
theorem dX5_modes_19 : decode cX5_modes 19 = .ok (.ireturn, 1) := by decide +kernel
theorem dX5_modes_20 : decode cX5_modes 20 = .ok (.aload_n 0, 1) := by decide +kernel
theorem dX5_modes_21 : decode cX5_modes 21 = .ok (.getfield 12, 3) := by decide +kernel
theorem dX5_modes_24 : decode cX5_modes 24 = .ok (.iload_n 1, 1) := by decide +kernel
theorem dX5_modes_25 : decode cX5_modes 25 = .ok (.iload_n 2, 1) := by decide +kernel
theorem dX5_modes_26 : decode cX5_modes 26 = .ok (.invokevirtual 140, 3) := by decide +kernel
theorem dX5_modes_29 : decode cX5_modes 29 = .ok (.ifCond .ne 6, 3) := by decide +kernel
theorem dX5_modes_32 : decode cX5_modes 32 = .ok (.bipush (-9), 2) := by decide +kernel
theorem dX5_modes_34 : decode cX5_modes 34 = .ok (.ireturn, 1) := by decide +kernel
theorem dX5_modes_35 : decode cX5_modes 35 = .ok (.aload_n 0, 1) := by decide +kernel
theorem dX5_modes_36 : decode cX5_modes 36 = .ok (.getfield 12, 3) := by decide +kernel
theorem dX5_modes_39 : decode cX5_modes 39 = .ok (.iload_n 1, 1) := by decide +kernel
theorem dX5_modes_40 : decode cX5_modes 40 = .ok (.iload_n 2, 1) := by decide +kernel
theorem dX5_modes_41 : decode cX5_modes 41 = .ok (.invokevirtual 186, 3) := by decide +kernel
theorem dX5_modes_44 : decode cX5_modes 44 = .ok (.ireturn, 1) := by decide +kernel
theorem dX5_channelTimestamp_0 : decode cX5_channelTimestamp 0 = .ok (.aload_n 0, 1) := by decide +kernel
theorem dX5_channelTimestamp_1 : decode cX5_channelTimestamp 1 = .ok (.getfield 12, 3) := by decide +kernel
theorem dX5_channelTimestamp_4 : decode cX5_channelTimestamp 4 = .ok (.iload_n 1, 1) := by decide +kernel
theorem dX5_channelTimestamp_5 : decode cX5_channelTimestamp 5 = .ok (.invokevirtual 97, 3) := by decide +kernel
theorem dX5_channelTimestamp_8 : decode cX5_channelTimestamp 8 = .ok (.ifCond .eq 10, 3) := by decide +kernel
theorem dX5_channelTimestamp_11 : decode cX5_channelTimestamp 11 = .ok (.iload_n 2, 1) := by decide +kernel
theorem dX5_channelTimestamp_12 : decode cX5_channelTimestamp 12 = .ok (.invokestatic 133, 3) := by decide +kernel
theorem dX5_channelTimestamp_15 : decode cX5_channelTimestamp 15 = .ok (.ifCond .ne 5, 3) := by decide +kernel
theorem dX5_channelTimestamp_18 : decode cX5_channelTimestamp 18 = .ok (.iconst (-1), 1) := by decide +kernel
theorem dX5_channelTimestamp_19 : decode cX5_channelTimestamp 19 = .ok (.ireturn, 1) := by decide +kernel
theorem dX5_channelTimestamp_20 : decode cX5_channelTimestamp 20 = .ok (.aload_n 0, 1) := by decide +kernel
theorem dX5_channelTimestamp_21 : decode cX5_channelTimestamp 21 = .ok (.getfield 12, 3) := by decide +kernel
theorem dX5_channelTimestamp_24 : decode cX5_channelTimestamp 24 = .ok (.iload_n 1, 1) := by decide +kernel
theorem dX5_channelTimestamp_25 : decode cX5_channelTimestamp 25 = .ok (.iload_n 2, 1) := by decide +kernel
theorem dX5_channelTimestamp_26 : decode cX5_channelTimestamp 26 = .ok (.invokevirtual 140, 3) := by decide +kernel
theorem dX5_channelTimestamp_29 : decode cX5_channelTimestamp 29 = .ok (.ifCond .ne 6, 3) := by decide +kernel
theorem dX5_channelTimestamp_32 : decode cX5_channelTimestamp 32 = .ok (.bipush (-9), 2) := by decide +kernel
theorem dX5_channelTimestamp_34 : decode cX5_channelTimestamp 34 = .ok (.ireturn, 1) := by decide +kernel
theorem dX5_channelTimestamp_35 : decode cX5_channelTimestamp 35 = .ok (.aload_n 0, 1) := by decide +kernel
theorem dX5_channelTimestamp_36 : decode cX5_channelTimestamp 36 = .ok (.getfield 12, 3) := by decide +kernel
theorem dX5_channelTimestamp_39 : decode cX5_channelTimestamp 39 = .ok (.iload_n 1, 1) := by decide +kernel
theorem dX5_channelTimestamp_40 : decode cX5_channelTimestamp 40 = .ok (.iload_n 2, 1) := by decide +kernel
theorem dX5_channelTimestamp_41 : decode cX5_channelTimestamp 41 = .ok (.invokevirtual 183, 3) := by decide +kernel
theorem dX5_channelTimestamp_44 : decode cX5_channelTimestamp 44 = .ok (.ireturn, 1) := by decide +kernel
theorem dX5_lastDeprived_0 : decode cX5_lastDeprived 0 = .ok (.aload_n 0, 1) := by decide +kernel
theorem dX5_lastDeprived_1 : decode cX5_lastDeprived 1 = .ok (.getfield 12, 3) := by decide +kernel
theorem dX5_lastDeprived_4 : decode cX5_lastDeprived 4 = .ok (.getfield 205, 3) := by decide +kernel
theorem dX5_lastDeprived_7 : decode cX5_lastDeprived 7 = .ok (.ireturn, 1) := by decide +kernel
theorem dX5_lastDropped_0 : decode cX5_lastDropped 0 = .ok (.aload_n 0, 1) := by decide +kernel
theorem dX5_lastDropped_1 : decode cX5_lastDropped 1 = .ok (.getfield 12, 3) := by decide +kernel
theorem dX5_lastDropped_4 : decode cX5_lastDropped 4 = .ok (.getfield 208, 3) := by decide +kernel
theorem dX5_lastDropped_7 : decode cX5_lastDropped 7 = .ok (.ireturn, 1) := by decide +kernel
theorem dX5_burstSize_0 : decode cX5_burstSize 0 = .ok (.aload_n 0, 1) := by decide +kernel
theorem dX5_burstSize_1 : decode cX5_burstSize 1 = .ok (.getfield 12, 3) := by decide +kernel
theorem dX5_burstSize_4 : decode cX5_burstSize 4 = .ok (.iload_n 1, 1) := by decide +kernel
theorem dX5_burstSize_5 : decode cX5_burstSize 5 = .ok (.iload_n 2, 1) := by decide +kernel
theorem dX5_burstSize_6 : decode cX5_burstSize 6 = .ok (.invokevirtual 49, 3) := by decide +kernel
theorem dX5_burstSize_9 : decode cX5_burstSize 9 = .ok (.ifCond .ne 5, 3) := by decide +kernel
theorem dX5_burstSize_12 : decode cX5_burstSize 12 = .ok (.iconst (-1), 1) := by decide +kernel
theorem dX5_burstSize_13 : decode cX5_burstSize 13 = .ok (.ireturn, 1) := by decide +kernel
theorem dX5_burstSize_14 : decode cX5_burstSize 14 = .ok (.aload_n 0, 1) := by decide +kernel
theorem dX5_burstSize_15 : decode cX5_burstSize 15 = .ok (.getfield 12, 3) := by decide +kernel
theorem dX5_burstSize_18 : decode cX5_burstSize 18 = .ok (.iload_n 1, 1) := by decide +kernel
theorem dX5_burstSize_19 : decode cX5_burstSize 19 = .ok (.iload_n 2, 1) := by decide +kernel
theorem dX5_burstSize_20 : decode cX5_burstSize 20 = .ok (.invokevirtual 53, 3) := by decide +kernel
theorem dX5_burstSize_23 : decode cX5_burstSize 23 = .ok (.ifCond .eq 6, 3) := by decide +kernel
theorem dX5_burstSize_26 : decode cX5_burstSize 26 = .ok (.bipush (-2), 2) := by decide +kernel
theorem dX5_burstSize_28 : decode cX5_burstSize 28 = .ok (.ireturn, 1) := by decide +kernel
theorem dX5_burstSize_29 : decode cX5_burstSize 29 = .ok (.aload_n 0, 1) := by decide +kernel
theorem dX5_burstSize_30 : decode cX5_burstSize 30 = .ok (.getfield 12, 3) := by decide +kernel
theorem dX5_burstSize_33 : decode cX5_burstSize 33 = .ok (.iload_n 1, 1) := by decide +kernel
theorem dX5_burstSize_34 : decode cX5_burstSize 34 = .ok (.invokevirtual 211, 3) := by decide +kernel
theorem dX5_burstSize_37 : decode cX5_burstSize 37 = .ok (.aload_n 0, 1) := by decide +kernel
theorem dX5_burstSize_38 : decode cX5_burstSize 38 = .ok (.getfield 12, 3) := by decide +kernel
theorem dX5_burstSize_41 : decode cX5_burstSize 41 = .ok (.iload_n 2, 1) := by decide +kernel
theorem dX5_burstSize_42 : decode cX5_burstSize 42 = .ok (.invokevirtual 211, 3) := by decide +kernel
theorem dX5_burstSize_45 : decode cX5_burstSize 45 = .ok (.iadd, 1) := by decide +kernel
theorem dX5_burstSize_46 : decode cX5_burstSize 46 = .ok (.ireturn, 1) := by decide +kernel
theorem dX5_killsIfConnected_0 : decode cX5_killsIfConnected 0 = .ok (.aload_n 0, 1) := by decide +kernel
theorem dX5_killsIfConnected_1 : decode cX5_killsIfConnected 1 = .ok (.getfield 12, 3) := by decide +kernel
theorem dX5_killsIfConnected_4 : decode cX5_killsIfConnected 4 = .ok (.iload_n 1, 1) := by decide +kernel
theorem dX5_killsIfConnected_5 : decode cX5_killsIfConnected 5 = .ok (.iload_n 2, 1) := by decide +kernel
theorem dX5_killsIfConnected_6 : decode cX5_killsIfConnected 6 = .ok (.invokevirtual 49, 3) := by decide +kernel
theorem dX5_killsIfConnected_9 : decode cX5_killsIfConnected 9 = .ok (.ifCond .ne 5, 3) := by decide +kernel
theorem dX5_killsIfConnected_12 : decode cX5_killsIfConnected 12 = .ok (.iconst (-1), 1) := by decide +kernel
theorem dX5_killsIfConnected_13 : decode cX5_killsIfConnected 13 = .ok (.ireturn, 1) := by decide +kernel
theorem dX5_killsIfConnected_14 : decode cX5_killsIfConnected 14 = .ok (.aload_n 0, 1) := by decide +kernel
theorem dX5_killsIfConnected_15 : decode cX5_killsIfConnected 15 = .ok (.getfield 12, 3) := by decide +kernel
theorem dX5_killsIfConnected_18 : decode cX5_killsIfConnected 18 = .ok (.iload_n 1, 1) := by decide +kernel
theorem dX5_killsIfConnected_19 : decode cX5_killsIfConnected 19 = .ok (.iload_n 2, 1) := by decide +kernel
theorem dX5_killsIfConnected_20 : decode cX5_killsIfConnected 20 = .ok (.invokevirtual 53, 3) := by decide +kernel
theorem dX5_killsIfConnected_23 : decode cX5_killsIfConnected 23 = .ok (.ifCond .eq 6, 3) := by decide +kernel
theorem dX5_killsIfConnected_26 : decode cX5_killsIfConnected 26 = .ok (.bipush (-2), 2) := by decide +kernel
theorem dX5_killsIfConnected_28 : decode cX5_killsIfConnected 28 = .ok (.ireturn, 1) := by decide +kernel
theorem dX5_killsIfConnected_29 : decode cX5_killsIfConnected 29 = .ok (.aload_n 0, 1) := by decide +kernel
theorem dX5_killsIfConnected_30 : decode cX5_killsIfConnected 30 = .ok (.getfield 12, 3) := by decide +kernel
theorem dX5_killsIfConnected_33 : decode cX5_killsIfConnected 33 = .ok (.iload_n 1, 1) := by decide +kernel
theorem dX5_killsIfConnected_34 : decode cX5_killsIfConnected 34 = .ok (.iload_n 2, 1) := by decide +kernel
theorem dX5_killsIfConnected_35 : decode cX5_killsIfConnected 35 = .ok (.invokestatic 56, 3) := by decide +kernel
theorem dX5_killsIfConnected_38 : decode cX5_killsIfConnected 38 = .ok (.ireturn, 1) := by decide +kernel
theorem dX5_lostIfDisconnected_0 : decode cX5_lostIfDisconnected 0 = .ok (.aload_n 0, 1) := by decide +kernel
theorem dX5_lostIfDisconnected_1 : decode cX5_lostIfDisconnected 1 = .ok (.getfield 12, 3) := by decide +kernel
theorem dX5_lostIfDisconnected_4 : decode cX5_lostIfDisconnected 4 = .ok (.iload_n 1, 1) := by decide +kernel
theorem dX5_lostIfDisconnected_5 : decode cX5_lostIfDisconnected 5 = .ok (.iload_n 2, 1) := by decide +kernel
theorem dX5_lostIfDisconnected_6 : decode cX5_lostIfDisconnected 6 = .ok (.invokevirtual 49, 3) := by decide +kernel
theorem dX5_lostIfDisconnected_9 : decode cX5_lostIfDisconnected 9 = .ok (.ifCond .ne 5, 3) := by decide +kernel
theorem dX5_lostIfDisconnected_12 : decode cX5_lostIfDisconnected 12 = .ok (.iconst (-1), 1) := by decide +kernel
theorem dX5_lostIfDisconnected_13 : decode cX5_lostIfDisconnected 13 = .ok (.ireturn, 1) := by decide +kernel
theorem dX5_lostIfDisconnected_14 : decode cX5_lostIfDisconnected 14 = .ok (.aload_n 0, 1) := by decide +kernel
theorem dX5_lostIfDisconnected_15 : decode cX5_lostIfDisconnected 15 = .ok (.getfield 12, 3) := by decide +kernel
theorem dX5_lostIfDisconnected_18 : decode cX5_lostIfDisconnected 18 = .ok (.iload_n 1, 1) := by decide +kernel
theorem dX5_lostIfDisconnected_19 : decode cX5_lostIfDisconnected 19 = .ok (.iload_n 2, 1) := by decide +kernel
theorem dX5_lostIfDisconnected_20 : decode cX5_lostIfDisconnected 20 = .ok (.invokevirtual 73, 3) := by decide +kernel
theorem dX5_lostIfDisconnected_23 : decode cX5_lostIfDisconnected 23 = .ok (.ifCond .ne 6, 3) := by decide +kernel
theorem dX5_lostIfDisconnected_26 : decode cX5_lostIfDisconnected 26 = .ok (.bipush (-2), 2) := by decide +kernel
theorem dX5_lostIfDisconnected_28 : decode cX5_lostIfDisconnected 28 = .ok (.ireturn, 1) := by decide +kernel
theorem dX5_lostIfDisconnected_29 : decode cX5_lostIfDisconnected 29 = .ok (.aload_n 0, 1) := by decide +kernel
theorem dX5_lostIfDisconnected_30 : decode cX5_lostIfDisconnected 30 = .ok (.getfield 12, 3) := by decide +kernel
theorem dX5_lostIfDisconnected_33 : decode cX5_lostIfDisconnected 33 = .ok (.aload_n 0, 1) := by decide +kernel
theorem dX5_lostIfDisconnected_34 : decode cX5_lostIfDisconnected 34 = .ok (.getfield 12, 3) := by decide +kernel
theorem dX5_lostIfDisconnected_37 : decode cX5_lostIfDisconnected 37 = .ok (.iconst 0, 1) := by decide +kernel
theorem dX5_lostIfDisconnected_38 : decode cX5_lostIfDisconnected 38 = .ok (.invokevirtual 79, 3) := by decide +kernel
theorem dX5_lostIfDisconnected_41 : decode cX5_lostIfDisconnected 41 = .ok (.invokevirtual 37, 3) := by decide +kernel
theorem dX5_lostIfDisconnected_44 : decode cX5_lostIfDisconnected 44 = .ok (.istore_n 3, 1) := by decide +kernel
theorem dX5_lostIfDisconnected_45 : decode cX5_lostIfDisconnected 45 = .ok (.aload_n 0, 1) := by decide +kernel
theorem dX5_lostIfDisconnected_46 : decode cX5_lostIfDisconnected 46 = .ok (.getfield 12, 3) := by decide +kernel
theorem dX5_lostIfDisconnected_49 : decode cX5_lostIfDisconnected 49 = .ok (.iload_n 1, 1) := by decide +kernel
theorem dX5_lostIfDisconnected_50 : decode cX5_lostIfDisconnected 50 = .ok (.iload_n 2, 1) := by decide +kernel
theorem dX5_lostIfDisconnected_51 : decode cX5_lostIfDisconnected 51 = .ok (.invokevirtual 76, 3) := by decide +kernel
theorem dX5_lostIfDisconnected_54 : decode cX5_lostIfDisconnected 54 = .ok (.aload_n 0, 1) := by decide +kernel
theorem dX5_lostIfDisconnected_55 : decode cX5_lostIfDisconnected 55 = .ok (.getfield 12, 3) := by decide +kernel
theorem dX5_lostIfDisconnected_58 : decode cX5_lostIfDisconnected 58 = .ok (.aload_n 0, 1) := by decide +kernel
theorem dX5_lostIfDisconnected_59 : decode cX5_lostIfDisconnected 59 = .ok (.getfield 12, 3) := by decide +kernel
theorem dX5_lostIfDisconnected_62 : decode cX5_lostIfDisconnected 62 = .ok (.iconst 0, 1) := by decide +kernel
theorem dX5_lostIfDisconnected_63 : decode cX5_lostIfDisconnected 63 = .ok (.invokevirtual 79, 3) := by decide +kernel
theorem dX5_lostIfDisconnected_66 : decode cX5_lostIfDisconnected 66 = .ok (.invokevirtual 37, 3) := by decide +kernel
theorem dX5_lostIfDisconnected_69 : decode cX5_lostIfDisconnected 69 = .ok (.istore 4, 2) := by decide +kernel
theorem dX5_lostIfDisconnected_71 : decode cX5_lostIfDisconnected 71 = .ok (.aload_n 0, 1) := by decide +kernel
theorem dX5_lostIfDisconnected_72 : decode cX5_lostIfDisconnected 72 = .ok (.getfield 12, 3) := by decide +kernel
theorem dX5_lostIfDisconnected_75 : decode cX5_lostIfDisconnected 75 = .ok (.iload_n 1, 1) := by decide +kernel
theorem dX5_lostIfDisconnected_76 : decode cX5_lostIfDisconnected 76 = .ok (.iload_n 2, 1) := by decide +kernel
theorem dX5_lostIfDisconnected_77 : decode cX5_lostIfDisconnected 77 = .ok (.invokevirtual 69, 3) := by decide +kernel
theorem dX5_lostIfDisconnected_80 : decode cX5_lostIfDisconnected 80 = .ok (.iload_n 3, 1) := by decide +kernel
theorem dX5_lostIfDisconnected_81 : decode cX5_lostIfDisconnected 81 = .ok (.iload 4, 2) := by decide +kernel
theorem dX5_lostIfDisconnected_83 : decode cX5_lostIfDisconnected 83 = .ok (.isub, 1) := by decide +kernel
theorem dX5_lostIfDisconnected_84 : decode cX5_lostIfDisconnected 84 = .ok (.ireturn, 1) := by decide +kernel
theorem dX5_fewestKills_0 : decode cX5_fewestKills 0 = .ok (.aload_n 0, 1) := by decide +kernel
theorem dX5_fewestKills_1 : decode cX5_fewestKills 1 = .ok (.getfield 33, 3) := by decide +kernel
theorem dX5_fewestKills_4 : decode cX5_fewestKills 4 = .ok (.aload_n 0, 1) := by decide +kernel
theorem dX5_fewestKills_5 : decode cX5_fewestKills 5 = .ok (.getfield 12, 3) := by decide +kernel
theorem dX5_fewestKills_8 : decode cX5_fewestKills 8 = .ok (.invokevirtual 214, 3) := by decide +kernel
theorem dX5_fewestKills_11 : decode cX5_fewestKills 11 = .ok (.aload_n 0, 1) := by decide +kernel
theorem dX5_fewestKills_12 : decode cX5_fewestKills 12 = .ok (.getfield 12, 3) := by decide +kernel
theorem dX5_fewestKills_15 : decode cX5_fewestKills 15 = .ok (.bipush 63, 2) := by decide +kernel
theorem dX5_fewestKills_17 : decode cX5_fewestKills 17 = .ok (.invokevirtual 37, 3) := by decide +kernel
theorem dX5_fewestKills_20 : decode cX5_fewestKills 20 = .ok (.aload_n 0, 1) := by decide +kernel
theorem dX5_fewestKills_21 : decode cX5_fewestKills 21 = .ok (.getfield 33, 3) := by decide +kernel
theorem dX5_fewestKills_24 : decode cX5_fewestKills 24 = .ok (.getfield 217, 3) := by decide +kernel
theorem dX5_fewestKills_27 : decode cX5_fewestKills 27 = .ok (.isub, 1) := by decide +kernel
theorem dX5_fewestKills_28 : decode cX5_fewestKills 28 = .ok (.ireturn, 1) := by decide +kernel
theorem dX5_bestFirstLink_0 : decode cX5_bestFirstLink 0 = .ok (.aload_n 0, 1) := by decide +kernel
theorem dX5_bestFirstLink_1 : decode cX5_bestFirstLink 1 = .ok (.getfield 33, 3) := by decide +kernel
theorem dX5_bestFirstLink_4 : decode cX5_bestFirstLink 4 = .ok (.aload_n 0, 1) := by decide +kernel
theorem dX5_bestFirstLink_5 : decode cX5_bestFirstLink 5 = .ok (.getfield 12, 3) := by decide +kernel
theorem dX5_bestFirstLink_8 : decode cX5_bestFirstLink 8 = .ok (.invokevirtual 214, 3) := by decide +kernel
theorem dX5_bestFirstLink_11 : decode cX5_bestFirstLink 11 = .ok (.aload_n 0, 1) := by decide +kernel
theorem dX5_bestFirstLink_12 : decode cX5_bestFirstLink 12 = .ok (.getfield 33, 3) := by decide +kernel
theorem dX5_bestFirstLink_15 : decode cX5_bestFirstLink 15 = .ok (.getfield 220, 3) := by decide +kernel
theorem dX5_bestFirstLink_18 : decode cX5_bestFirstLink 18 = .ok (.ireturn, 1) := by decide +kernel
theorem dX5_undo_0 : decode cX5_undo 0 = .ok (.aload_n 0, 1) := by decide +kernel
theorem dX5_undo_1 : decode cX5_undo 1 = .ok (.getfield 19, 3) := by decide +kernel
theorem dX5_undo_4 : decode cX5_undo 4 = .ok (.getfield 223, 3) := by decide +kernel
theorem dX5_undo_7 : decode cX5_undo 7 = .ok (.ifCond .ne 6, 3) := by decide +kernel
theorem dX5_undo_10 : decode cX5_undo 10 = .ok (.bipush (-2), 2) := by decide +kernel
theorem dX5_undo_12 : decode cX5_undo 12 = .ok (.ireturn, 1) := by decide +kernel
theorem dX5_undo_13 : decode cX5_undo 13 = .ok (.aload_n 0, 1) := by decide +kernel
theorem dX5_undo_14 : decode cX5_undo 14 = .ok (.getfield 19, 3) := by decide +kernel
theorem dX5_undo_17 : decode cX5_undo 17 = .ok (.aload_n 0, 1) := by decide +kernel
theorem dX5_undo_18 : decode cX5_undo 18 = .ok (.getfield 12, 3) := by decide +kernel
theorem dX5_undo_21 : decode cX5_undo 21 = .ok (.invokevirtual 226, 3) := by decide +kernel
theorem dX5_undo_24 : decode cX5_undo 24 = .ok (.aload_n 0, 1) := by decide +kernel
theorem dX5_undo_25 : decode cX5_undo 25 = .ok (.getfield 19, 3) := by decide +kernel
theorem dX5_undo_28 : decode cX5_undo 28 = .ok (.getfield 223, 3) := by decide +kernel
theorem dX5_undo_31 : decode cX5_undo 31 = .ok (.ireturn, 1) := by decide +kernel
theorem dX5_isNick_0 : decode cX5_isNick 0 = .ok (.iload_n 0, 1) := by decide +kernel
theorem dX5_isNick_1 : decode cX5_isNick 1 = .ok (.ifCond .lt 13, 3) := by decide +kernel
theorem dX5_isNick_4 : decode cX5_isNick 4 = .ok (.iload_n 0, 1) := by decide +kernel
theorem dX5_isNick_5 : decode cX5_isNick 5 = .ok (.bipush 10, 2) := by decide +kernel
theorem dX5_isNick_7 : decode cX5_isNick 7 = .ok (.if_icmp .ge 7, 3) := by decide +kernel
theorem dX5_isNick_10 : decode cX5_isNick 10 = .ok (.iconst 1, 1) := by decide +kernel
theorem dX5_isNick_11 : decode cX5_isNick 11 = .ok (.goto 4, 3) := by decide +kernel
theorem dX5_isNick_14 : decode cX5_isNick 14 = .ok (.iconst 0, 1) := by decide +kernel
theorem dX5_isNick_15 : decode cX5_isNick 15 = .ok (.ireturn, 1) := by decide +kernel
theorem dX5_isChannel_0 : decode cX5_isChannel 0 = .ok (.iload_n 0, 1) := by decide +kernel
theorem dX5_isChannel_1 : decode cX5_isChannel 1 = .ok (.ifCond .lt 12, 3) := by decide +kernel
theorem dX5_isChannel_4 : decode cX5_isChannel 4 = .ok (.iload_n 0, 1) := by decide +kernel
theorem dX5_isChannel_5 : decode cX5_isChannel 5 = .ok (.iconst 4, 1) := by decide +kernel
theorem dX5_isChannel_6 : decode cX5_isChannel 6 = .ok (.if_icmp .ge 7, 3) := by decide +kernel
theorem dX5_isChannel_9 : decode cX5_isChannel 9 = .ok (.iconst 1, 1) := by decide +kernel
theorem dX5_isChannel_10 : decode cX5_isChannel 10 = .ok (.goto 4, 3) := by decide +kernel
theorem dX5_isChannel_13 : decode cX5_isChannel 13 = .ok (.iconst 0, 1) := by decide +kernel
theorem dX5_isChannel_14 : decode cX5_isChannel 14 = .ok (.ireturn, 1) := by decide +kernel
theorem dX5_hasBit_0 : decode cX5_hasBit 0 = .ok (.iload_n 0, 1) := by decide +kernel
theorem dX5_hasBit_1 : decode cX5_hasBit 1 = .ok (.iload_n 1, 1) := by decide +kernel
theorem dX5_hasBit_2 : decode cX5_hasBit 2 = .ok (.ishr, 1) := by decide +kernel
theorem dX5_hasBit_3 : decode cX5_hasBit 3 = .ok (.iconst 1, 1) := by decide +kernel
theorem dX5_hasBit_4 : decode cX5_hasBit 4 = .ok (.iand, 1) := by decide +kernel
theorem dX5_hasBit_5 : decode cX5_hasBit 5 = .ok (.ifCond .eq 7, 3) := by decide +kernel
theorem dX5_hasBit_8 : decode cX5_hasBit 8 = .ok (.iconst 1, 1) := by decide +kernel
theorem dX5_hasBit_9 : decode cX5_hasBit 9 = .ok (.goto 4, 3) := by decide +kernel
theorem dX5_hasBit_12 : decode cX5_hasBit 12 = .ok (.iconst 0, 1) := by decide +kernel
theorem dX5_hasBit_13 : decode cX5_hasBit 13 = .ok (.ireturn, 1) := by decide +kernel
theorem dX5_withBit_0 : decode cX5_withBit 0 = .ok (.iload_n 2, 1) := by decide +kernel
theorem dX5_withBit_1 : decode cX5_withBit 1 = .ok (.ifCond .eq 11, 3) := by decide +kernel
theorem dX5_withBit_4 : decode cX5_withBit 4 = .ok (.iload_n 0, 1) := by decide +kernel
theorem dX5_withBit_5 : decode cX5_withBit 5 = .ok (.iconst 1, 1) := by decide +kernel
theorem dX5_withBit_6 : decode cX5_withBit 6 = .ok (.iload_n 1, 1) := by decide +kernel
theorem dX5_withBit_7 : decode cX5_withBit 7 = .ok (.ishl, 1) := by decide +kernel
theorem dX5_withBit_8 : decode cX5_withBit 8 = .ok (.ior, 1) := by decide +kernel
theorem dX5_withBit_9 : decode cX5_withBit 9 = .ok (.goto 10, 3) := by decide +kernel
theorem dX5_withBit_12 : decode cX5_withBit 12 = .ok (.iload_n 0, 1) := by decide +kernel
theorem dX5_withBit_13 : decode cX5_withBit 13 = .ok (.iconst 1, 1) := by decide +kernel
theorem dX5_withBit_14 : decode cX5_withBit 14 = .ok (.iload_n 1, 1) := by decide +kernel
theorem dX5_withBit_15 : decode cX5_withBit 15 = .ok (.ishl, 1) := by decide +kernel
theorem dX5_withBit_16 : decode cX5_withBit 16 = .ok (.iconst (-1), 1) := by decide +kernel
theorem dX5_withBit_17 : decode cX5_withBit 17 = .ok (.ixor, 1) := by decide +kernel
theorem dX5_withBit_18 : decode cX5_withBit 18 = .ok (.iand, 1) := by decide +kernel
theorem dX5_withBit_19 : decode cX5_withBit 19 = .ok (.ireturn, 1) := by decide +kernel
